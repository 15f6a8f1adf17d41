theorem dX11_feed_0 : decode cX11_feed 0 = .ok (.aload_n 0, 1) := by decide +kernel
theorem dX11_feed_1 : decode cX11_feed 1 = .ok (.getfield 70, 3) := by decide +kernel
theorem dX11_feed_4 : decode cX11_feed 4 = .ok (.bipush 20, 2) := by decide +kernel
theorem dX11_feed_6 : decode cX11_feed 6 = .ok (.iadd, 1) := by decide +kernel
theorem dX11_feed_7 : decode cX11_feed 7 = .ok (.sipush 8000, 3) := by decide +kernel
theorem dX11_feed_10 : decode cX11_feed 10 = .ok (.if_icmp .le 6, 3) := by decide +kernel
theorem dX11_feed_13 : decode cX11_feed 13 = .ok (.bipush (-2), 2) := by decide +kernel
theorem dX11_feed_15 : decode cX11_feed 15 = .ok (.ireturn, 1) := by decide +kernel
theorem dX11_feed_16 : decode cX11_feed 16 = .ok (.iconst 0, 1) := by decide +kernel
theorem dX11_feed_17 : decode cX11_feed 17 = .ok (.istore 6, 2) := by decide +kernel
theorem dX11_feed_19 : decode cX11_feed 19 = .ok (.iload 6, 2) := by decide +kernel
theorem dX11_feed_21 : decode cX11_feed 21 = .ok (.bipush 20, 2) := by decide +kernel
theorem dX11_feed_23 : decode cX11_feed 23 = .ok (.if_icmp .ge 93, 3) := by decide +kernel
theorem dX11_feed_26 : decode cX11_feed 26 = .ok (.iload 6, 2) := by decide +kernel
theorem dX11_feed_28 : decode cX11_feed 28 = .ok (.iconst 4, 1) := by decide +kernel
theorem dX11_feed_29 : decode cX11_feed 29 = .ok (.if_icmp .ge 7, 3) := by decide +kernel
theorem dX11_feed_32 : decode cX11_feed 32 = .ok (.iload_n 1, 1) := by decide +kernel
theorem dX11_feed_33 : decode cX11_feed 33 = .ok (.goto 39, 3) := by decide +kernel
theorem dX11_feed_36 : decode cX11_feed 36 = .ok (.iload 6, 2) := by decide +kernel
theorem dX11_feed_38 : decode cX11_feed 38 = .ok (.bipush 8, 2) := by decide +kernel
theorem dX11_feed_40 : decode cX11_feed 40 = .ok (.if_icmp .ge 7, 3) := by decide +kernel
theorem dX11_feed_43 : decode cX11_feed 43 = .ok (.iload_n 2, 1) := by decide +kernel
theorem dX11_feed_44 : decode cX11_feed 44 = .ok (.goto 28, 3) := by decide +kernel
theorem dX11_feed_47 : decode cX11_feed 47 = .ok (.iload 6, 2) := by decide +kernel
theorem dX11_feed_49 : decode cX11_feed 49 = .ok (.bipush 12, 2) := by decide +kernel
theorem dX11_feed_51 : decode cX11_feed 51 = .ok (.if_icmp .ge 7, 3) := by decide +kernel
theorem dX11_feed_54 : decode cX11_feed 54 = .ok (.iload_n 3, 1) := by decide +kernel
theorem dX11_feed_55 : decode cX11_feed 55 = .ok (.goto 17, 3) := by decide +kernel
theorem dX11_feed_58 : decode cX11_feed 58 = .ok (.iload 6, 2) := by decide +kernel
theorem dX11_feed_60 : decode cX11_feed 60 = .ok (.bipush 16, 2) := by decide +kernel
theorem dX11_feed_62 : decode cX11_feed 62 = .ok (.if_icmp .ge 8, 3) := by decide +kernel
theorem dX11_feed_65 : decode cX11_feed 65 = .ok (.iload 4, 2) := by decide +kernel
theorem dX11_feed_67 : decode cX11_feed 67 = .ok (.goto 5, 3) := by decide +kernel
theorem dX11_feed_70 : decode cX11_feed 70 = .ok (.iload 5, 2) := by decide +kernel
theorem dX11_feed_72 : decode cX11_feed 72 = .ok (.istore 7, 2) := by decide +kernel
theorem dX11_feed_74 : decode cX11_feed 74 = .ok (.aload_n 0, 1) := by decide +kernel
theorem dX11_feed_75 : decode cX11_feed 75 = .ok (.getfield 11, 3) := by decide +kernel
theorem dX11_feed_78 : decode cX11_feed 78 = .ok (.aload_n 0, 1) := by decide +kernel
theorem dX11_feed_79 : decode cX11_feed 79 = .ok (.getfield 70, 3) := by decide +kernel
theorem dX11_feed_82 : decode cX11_feed 82 = .ok (.iload 7, 2) := by decide +kernel
theorem dX11_feed_84 : decode cX11_feed 84 = .ok (.bipush 24, 2) := by decide +kernel
theorem dX11_feed_86 : decode cX11_feed 86 = .ok (.bipush 8, 2) := by decide +kernel
theorem dX11_feed_88 : decode cX11_feed 88 = .ok (.iload 6, 2) := by decide +kernel
theorem dX11_feed_90 : decode cX11_feed 90 = .ok (.iconst 3, 1) := by decide +kernel
theorem dX11_feed_91 : decode cX11_feed 91 = .ok (.iand, 1) := by decide +kernel
theorem dX11_feed_92 : decode cX11_feed 92 = .ok (.imul, 1) := by decide +kernel
theorem dX11_feed_93 : decode cX11_feed 93 = .ok (.isub, 1) := by decide +kernel
theorem dX11_feed_94 : decode cX11_feed 94 = .ok (.iushr, 1) := by decide +kernel
theorem dX11_feed_95 : decode cX11_feed 95 = .ok (.sipush 255, 3) := by decide +kernel
theorem dX11_feed_98 : decode cX11_feed 98 = .ok (.iand, 1) := by decide +kernel
theorem dX11_feed_99 : decode cX11_feed 99 = .ok (.iastore, 1) := by decide +kernel
theorem dX11_feed_100 : decode cX11_feed 100 = .ok (.aload_n 0, 1) := by decide +kernel
theorem dX11_feed_101 : decode cX11_feed 101 = .ok (.dup, 1) := by decide +kernel
theorem dX11_feed_102 : decode cX11_feed 102 = .ok (.getfield 70, 3) := by decide +kernel
theorem dX11_feed_105 : decode cX11_feed 105 = .ok (.iconst 1, 1) := by decide +kernel
theorem dX11_feed_106 : decode cX11_feed 106 = .ok (.iadd, 1) := by decide +kernel
theorem dX11_feed_107 : decode cX11_feed 107 = .ok (.putfield 70, 3) := by decide +kernel
theorem dX11_feed_110 : decode cX11_feed 110 = .ok (.iinc 6 1, 3) := by decide +kernel
theorem dX11_feed_113 : decode cX11_feed 113 = .ok (.goto (-94), 3) := by decide +kernel
theorem dX11_feed_116 : decode cX11_feed 116 = .ok (.aload_n 0, 1) := by decide +kernel
theorem dX11_feed_117 : decode cX11_feed 117 = .ok (.getfield 70, 3) := by decide +kernel
theorem dX11_feed_120 : decode cX11_feed 120 = .ok (.ireturn, 1) := by decide +kernel
def mp_X11_feed_72 (L19 : sm_S → Int32 → Int32 → Int32 → Int32 → Int32 → Int32 → Prop) (K : Int32 → sm_S → Prop) (σ : sm_S) (x1 : Int32) (x2 : Int32) (x3 : Int32) (x4 : Int32) (x5 : Int32) (x6 : Int32) (y0 : Int32) : Prop := vp_in (σ.1 0) (σ.2.2.1 2) ∧ ∀ σ2 : sm_S, σ2 = sm_r σ 2 (upd (σ.2.2.2.1 2) (σ.1 0).toNatClampNeg (((y0.toUInt32 >>> ((24 - (8 * (x6 &&& 3))).toUInt32 &&& Int32.toUInt32 31)).toInt32) &&& 255)) → ∀ σ3 : sm_S, σ3 = sm_i σ2 0 ((σ2.1 0) + 1) → ∀ v4 : Int32, v4 = x6 + 1 → L19 σ3 x1 x2 x3 x4 x5 v4
def mp_X11_feed_19 (K : Int32 → sm_S → Prop) : Nat → sm_S → Int32 → Int32 → Int32 → Int32 → Int32 → Int32 → Prop
  | 0, _, _, _, _, _, _, _ => False
  | n19 + 1, σ, x1, x2, x3, x4, x5, x6 => (((20 : Int32) ≤ x6 → (K (σ.1 0) σ)) ∧ (¬ (20 : Int32) ≤ x6 → (((4 : Int32) ≤ x6 → (((8 : Int32) ≤ x6 → (((12 : Int32) ≤ x6 → (((16 : Int32) ≤ x6 → (mp_X11_feed_72 (mp_X11_feed_19 K n19) K σ x1 x2 x3 x4 x5 x6 x5)) ∧ (¬ (16 : Int32) ≤ x6 → (mp_X11_feed_72 (mp_X11_feed_19 K n19) K σ x1 x2 x3 x4 x5 x6 x4)))) ∧ (¬ (12 : Int32) ≤ x6 → (mp_X11_feed_72 (mp_X11_feed_19 K n19) K σ x1 x2 x3 x4 x5 x6 x3)))) ∧ (¬ (8 : Int32) ≤ x6 → (mp_X11_feed_72 (mp_X11_feed_19 K n19) K σ x1 x2 x3 x4 x5 x6 x2)))) ∧ (¬ (4 : Int32) ≤ x6 → (mp_X11_feed_72 (mp_X11_feed_19 K n19) K σ x1 x2 x3 x4 x5 x6 x1)))))
/-- SteadyMachineModel$Image.feed(IIIII)I -/
def mp_X11_feed (σ : sm_S) (p1 : Int32) (p2 : Int32) (p3 : Int32) (p4 : Int32) (p5 : Int32) (K : Int32 → sm_S → Prop) : Prop := ((((σ.1 0) + 20) ≤ 8000 → (∃ n19 : Nat, mp_X11_feed_19 K n19 σ p1 p2 p3 p4 p5 0)) ∧ (¬ ((σ.1 0) + 20) ≤ 8000 → (K (-2) σ)))
def wp_X11_feed : List Cond := .code yX11_feed cX11_feed 8 (some .int) :: ([.fieldLink RX11 11 "SteadyMachineModel$Image" "tape" "[I", .fieldLink RX11 70 "SteadyMachineModel$Image" "taped" "I"] ++ wsX110)
theorem wi_X11_feed_X11 : ∀ w ∈ wsX110, w ∈ wp_X11_feed := fun w h => List.mem_cons_of_mem _ (List.mem_append_right _ h)
set_option maxHeartbeats 4000000 in
set_option maxRecDepth 100000 in
theorem c_X11_feed (l : Launch) (D : va_G) (sz t0 : Nat) (σ : sm_S) (α : sm_A) (p1 : Int32) (p2 : Int32) (p3 : Int32) (p4 : Int32) (p5 : Int32) (K : Int32 → sm_S → Prop) (hF : mp_X11_feed σ p1 p2 p3 p4 p5 K) : Met l yX11_feed wp_X11_feed { frames := 0, cells := 0, slots := 0, locals := 0 } (sm_P sm_wM sm_tM 40 D sz t0 σ α [.ref (α.1 0), .int p1, .int p2, .int p3, .int p4, .int p5]) (va_Qi K (sm_B sm_wM D α) (sm_a α 40 sz)) 0 0 (sm_a α 40 sz) := by
  refine Met.ofW (cc := cX11_feed) (maxL := 8) (ret := (some .int)) (by decide) rfl ?_
  intro p e s m args below meth c s₁ B hml hv
  obtain ⟨rfl, hsz, hP, hK, hD0, hE⟩ := hv
  have hx := B.exec
  have hb := B.bytes
  have hr := B.returns
  have hts := atoms_spec (ws := wp_X11_feed) B.pre
  have hown : s.vm.findClass RX11 = some m.cls := findClass_of_methodNamed B.named
  have hlocks := B.notSynchronized
  subst hsz
  have hD : sm_D (sm_a α 40 s.heap.size) α 40 := hD0.own
  have hA : ∀ q : Nat, s.heap.size ≤ q → sm_a α 40 s.heap.size q := fun q h => Or.inr h
  generalize hAe : sm_a α 40 s.heap.size = A at hD hA hE ⊢
  have hS : va_S A s.heap s.heap [] := va_S.rf
  have in_X11 : ∀ w ∈ wsX110, w ∈ wp_X11_feed := wi_X11_feed_X11
  have k_0 := hts (.fieldLink RX11 11 "SteadyMachineModel$Image" "tape" "[I") (by decide +kernel)
  have k_1 := hts (.fieldLink RX11 70 "SteadyMachineModel$Image" "taped" "I") (by decide +kernel)
  have hl := lv_entry ([.ref (α.1 0), .int p1, .int p2, .int p3, .int p4, .int p5]) (n := 8) (Nat.le_of_ble_eq_true rfl)
  rw [lg_entry_eq]
  generalize (lg_sl ([.ref (α.1 0), .int p1, .int p2, .int p3, .int p4, .int p5]) ++ List.replicate (8 - (lg_sl ([.ref (α.1 0), .int p1, .int p2, .int p3, .int p4, .int p5])).length) Slot.unset).toArray = ls at hl ⊢
  have hl : lv_has ls 8 [(0, .ref (α.1 0)), (1, .int p1), (2, .int p2), (3, .int p3), (4, .int p4), (5, .int p5)] := hl
  have B72 : ∀ (L19 : sm_S → Int32 → Int32 → Int32 → Int32 → Int32 → Int32 → Prop) (hL19 : ∀ (σ : sm_S) (x1 : Int32) (x2 : Int32) (x3 : Int32) (x4 : Int32) (x5 : Int32) (x6 : Int32), L19 σ x1 x2 x3 x4 x5 x6 → sm_J p l e (headSpec wp_X11_feed { frames := 0, cells := 0, slots := 0, locals := 0 }).room s m ([.ref (α.1 0), .int p1, .int p2, .int p3, .int p4, .int p5] : List Value).toArray below meth c (MQ below (va_Qi K (sm_B sm_wM D α) A) ([.ref (α.1 0), .int p1, .int p2, .int p3, .int p4, .int p5] : List Value).toArray s 0 0 A) D A 8 (sm_wM σ α) 19 [(0, .ref (α.1 0)), (1, .int x1), (2, .int x2), (3, .int x3), (4, .int x4), (5, .int x5), (6, .int x6)] []) (σ : sm_S) (x1 : Int32) (x2 : Int32) (x3 : Int32) (x4 : Int32) (x5 : Int32) (x6 : Int32) (y0 : Int32), mp_X11_feed_72 L19 K σ x1 x2 x3 x4 x5 x6 y0 → sm_J p l e (headSpec wp_X11_feed { frames := 0, cells := 0, slots := 0, locals := 0 }).room s m ([.ref (α.1 0), .int p1, .int p2, .int p3, .int p4, .int p5] : List Value).toArray below meth c (MQ below (va_Qi K (sm_B sm_wM D α) A) ([.ref (α.1 0), .int p1, .int p2, .int p3, .int p4, .int p5] : List Value).toArray s 0 0 A) D A 8 (sm_wM σ α) 72 [(0, .ref (α.1 0)), (1, .int x1), (2, .int x2), (3, .int x3), (4, .int x4), (5, .int x5), (6, .int x6)] [.int y0] := by
    intro L19 hL19 σ x1 x2 x3 x4 x5 x6 y0 hF H locs ls hP hS hl
    unfold mp_X11_feed_72 at hF
    refine lv_istore (lv' := [(7, .int y0), (0, .ref (α.1 0)), (1, .int x1), (2, .int x2), (3, .int x3), (4, .int x4), (5, .int x5), (6, .int x6)]) hx hb dX11_feed_72 hl (by decide) rfl (fun ls hl => ?_)
    refine lv_aload_n hx hb dX11_feed_74 rfl (lv_at hl 1 rfl) ?_
    refine va_get (D := D) (ci := 11) (v := .ref (α.1 2)) (C := RX11) (T := TX11) (N := 28) hx hb hts in_X11 hown hK hP 0 (sm_gX11 σ α) rfl 0 (by decide) k_0 (fun _ h9 => h9) rfl dX11_feed_75 ?_
    refine lv_aload_n hx hb dX11_feed_78 rfl (lv_at hl 1 rfl) ?_
    refine va_get (D := D) (ci := 11) (v := .int (σ.1 0)) (C := RX11) (T := TX11) (N := 28) hx hb hts in_X11 hown hK hP 0 (sm_gX11 σ α) rfl 1 (by decide) k_1 (fun _ h9 => h9) rfl dX11_feed_79 ?_
    refine lv_iload hx hb dX11_feed_82 (lv_at hl 0 rfl) ?_
    refine lv_bipush (v := 24) hx hb dX11_feed_84 (by decide) ?_
    refine lv_bipush (v := 8) hx hb dX11_feed_86 (by decide) ?_
    refine lv_iload hx hb dX11_feed_88 (lv_at hl 7 rfl) ?_
    refine lv_iconst (v := 3) hx hb dX11_feed_90 (by decide) ?_
    refine lv_iand hx hb dX11_feed_91 ?_
    refine lv_imul hx hb dX11_feed_92 ?_
    refine lv_isub hx hb dX11_feed_93 ?_
    refine lv_iushr hx hb dX11_feed_94 rfl ?_
    refine lv_sipush (v := 255) hx hb dX11_feed_95 (by decide) ?_
    refine lv_iand hx hb dX11_feed_98 ?_
    obtain ⟨h1, hF⟩ := hF
    refine va_iast (n := (σ.2.2.1 2)) (f := (σ.2.2.2.1 2)) (x := (((y0.toUInt32 >>> ((24 - (8 * (x6 &&& 3))).toUInt32 &&& Int32.toUInt32 31)).toInt32) &&& 255)) hx hb hK hP (hD.to (sm_wM_m _ _)) hS 2 0 (sm_aM2 σ α) (sm_yM2 α) h1 dX11_feed_99 (fun H locs hP _ hS => ?_)
    rw [sm_rM2] at hP
    obtain ⟨σ2, eσ2⟩ : ∃ x : sm_S, x = sm_r σ 2 (upd (σ.2.2.2.1 2) (σ.1 0).toNatClampNeg (((y0.toUInt32 >>> ((24 - (8 * (x6 &&& 3))).toUInt32 &&& Int32.toUInt32 31)).toInt32) &&& 255)) := ⟨_, rfl⟩
    replace hF := hF σ2 eσ2
    rw [← eσ2] at hP
    refine lv_aload_n hx hb dX11_feed_100 rfl (lv_at hl 1 rfl) ?_
    refine lv_dup hx hb dX11_feed_101 rfl ?_
    refine va_get (D := D) (ci := 11) (v := .int (σ2.1 0)) (C := RX11) (T := TX11) (N := 28) hx hb hts in_X11 hown hK hP 0 (sm_gX11 σ2 α) rfl 1 (by decide) k_1 (fun _ h9 => h9) rfl dX11_feed_102 ?_
    refine lv_iconst (v := 1) hx hb dX11_feed_105 (by decide) ?_
    refine lv_iadd hx hb dX11_feed_106 ?_
    refine va_put (D := D) (ci := 11) (v := .int ((σ2.1 0) + 1)) (ty := .int) (C := RX11) (T := TX11) (N := 28) hx hb hts in_X11 tyX11 tyX11_ok nmX11 hown hK hP (hD.to (sm_wM_m _ _)) hS 0 (sm_gX11 σ2 α) rfl 1 (by decide) k_1 (fun _ h9 => h9) rfl (by decide +kernel) rfl rfl (Nat.le_of_ble_eq_true rfl) dX11_feed_107 (fun H locs hP _ hS => ?_)
    rw [sm_iM0] at hP
    obtain ⟨σ3, eσ3⟩ : ∃ x : sm_S, x = sm_i σ2 0 ((σ2.1 0) + 1) := ⟨_, rfl⟩
    replace hF := hF σ3 eσ3
    rw [← eσ3] at hP
    obtain ⟨v4, ev4⟩ : ∃ y : Int32, y = x6 + 1 := ⟨_, rfl⟩
    replace hF := hF v4 ev4
    refine lv_iinc (v := v4) (lv' := [(6, .int v4), (7, .int y0), (0, .ref (α.1 0)), (1, .int x1), (2, .int x2), (3, .int x3), (4, .int x4), (5, .int x5)]) hx hb dX11_feed_110 hl (k := 7) rfl (by rw [ev4]; rfl) (by decide) rfl (fun ls hl => ?_)
    refine lv_goto (tgt := 19) hx hb dX11_feed_113 (by decide) ?_
    exact hL19 σ3 x1 x2 x3 x4 x5 v4 hF H locs ls hP hS (lv_sub hl [2, 3, 4, 5, 6, 7, 0] rfl)
  have B19 : ∀ (n : Nat) (σ : sm_S) (x1 : Int32) (x2 : Int32) (x3 : Int32) (x4 : Int32) (x5 : Int32) (x6 : Int32), mp_X11_feed_19 K n σ x1 x2 x3 x4 x5 x6 → sm_J p l e (headSpec wp_X11_feed { frames := 0, cells := 0, slots := 0, locals := 0 }).room s m ([.ref (α.1 0), .int p1, .int p2, .int p3, .int p4, .int p5] : List Value).toArray below meth c (MQ below (va_Qi K (sm_B sm_wM D α) A) ([.ref (α.1 0), .int p1, .int p2, .int p3, .int p4, .int p5] : List Value).toArray s 0 0 A) D A 8 (sm_wM σ α) 19 [(0, .ref (α.1 0)), (1, .int x1), (2, .int x2), (3, .int x3), (4, .int x4), (5, .int x5), (6, .int x6)] [] := by
    intro n19
    induction n19 with
    | zero =>
      intro σ x1 x2 x3 x4 x5 x6 hF
      exact hF.elim
    | succ n19 ih19 =>
      intro σ x1 x2 x3 x4 x5 x6 hF H locs ls hP hS hl
      unfold mp_X11_feed_19 at hF
      refine lv_iload hx hb dX11_feed_19 (lv_at hl 6 rfl) ?_
      refine lv_bipush (v := 20) hx hb dX11_feed_21 (by decide) ?_
      refine lv_icmp_ge (tgt := 116) hx hb dX11_feed_23 (by decide) (fun h5 => ?_) (fun h5 => ?_)
      · replace hF := hF.1 h5
        refine lv_aload_n hx hb dX11_feed_116 rfl (lv_at hl 0 rfl) ?_
        refine va_get (D := D) (ci := 11) (v := .int (σ.1 0)) (C := RX11) (T := TX11) (N := 28) hx hb hts in_X11 hown hK hP 0 (sm_gX11 σ α) rfl 1 (by decide) k_1 (fun _ h9 => h9) rfl dX11_feed_117 ?_
        exact W.iret (v := (σ.1 0)) hx hb hr (fun t ht hW => ⟨⟨(σ.1 0), σ, rfl, hF, (by unfold sm_B; rw [ht]; exact hP)⟩, hS.F ht⟩) hS.2.2 dX11_feed_120
      · replace hF := hF.2 h5
        refine lv_iload hx hb dX11_feed_26 (lv_at hl 6 rfl) ?_
        refine lv_iconst (v := 4) hx hb dX11_feed_28 (by decide) ?_
        refine lv_icmp_ge (tgt := 36) hx hb dX11_feed_29 (by decide) (fun h6 => ?_) (fun h6 => ?_)
        · replace hF := hF.1 h6
          refine lv_iload hx hb dX11_feed_36 (lv_at hl 6 rfl) ?_
          refine lv_bipush (v := 8) hx hb dX11_feed_38 (by decide) ?_
          refine lv_icmp_ge (tgt := 47) hx hb dX11_feed_40 (by decide) (fun h7 => ?_) (fun h7 => ?_)
          · replace hF := hF.1 h7
            refine lv_iload hx hb dX11_feed_47 (lv_at hl 6 rfl) ?_
            refine lv_bipush (v := 12) hx hb dX11_feed_49 (by decide) ?_
            refine lv_icmp_ge (tgt := 58) hx hb dX11_feed_51 (by decide) (fun h8 => ?_) (fun h8 => ?_)
            · replace hF := hF.1 h8
              refine lv_iload hx hb dX11_feed_58 (lv_at hl 6 rfl) ?_
              refine lv_bipush (v := 16) hx hb dX11_feed_60 (by decide) ?_
              refine lv_icmp_ge (tgt := 70) hx hb dX11_feed_62 (by decide) (fun h9 => ?_) (fun h9 => ?_)
              · replace hF := hF.1 h9
                refine lv_iload hx hb dX11_feed_70 (lv_at hl 5 rfl) ?_
                exact B72 (mp_X11_feed_19 K n19) ih19 σ x1 x2 x3 x4 x5 x6 x5 hF H locs ls hP hS (lv_sub hl [0, 1, 2, 3, 4, 5, 6] rfl)
              · replace hF := hF.2 h9
                refine lv_iload hx hb dX11_feed_65 (lv_at hl 4 rfl) ?_
                refine lv_goto (tgt := 72) hx hb dX11_feed_67 (by decide) ?_
                exact B72 (mp_X11_feed_19 K n19) ih19 σ x1 x2 x3 x4 x5 x6 x4 hF H locs ls hP hS (lv_sub hl [0, 1, 2, 3, 4, 5, 6] rfl)
            · replace hF := hF.2 h8
              refine lv_iload_n hx hb dX11_feed_54 rfl (lv_at hl 3 rfl) ?_
              refine lv_goto (tgt := 72) hx hb dX11_feed_55 (by decide) ?_
              exact B72 (mp_X11_feed_19 K n19) ih19 σ x1 x2 x3 x4 x5 x6 x3 hF H locs ls hP hS (lv_sub hl [0, 1, 2, 3, 4, 5, 6] rfl)
          · replace hF := hF.2 h7
            refine lv_iload_n hx hb dX11_feed_43 rfl (lv_at hl 2 rfl) ?_
            refine lv_goto (tgt := 72) hx hb dX11_feed_44 (by decide) ?_
            exact B72 (mp_X11_feed_19 K n19) ih19 σ x1 x2 x3 x4 x5 x6 x2 hF H locs ls hP hS (lv_sub hl [0, 1, 2, 3, 4, 5, 6] rfl)
        · replace hF := hF.2 h6
          refine lv_iload_n hx hb dX11_feed_32 rfl (lv_at hl 1 rfl) ?_
          refine lv_goto (tgt := 72) hx hb dX11_feed_33 (by decide) ?_
          exact B72 (mp_X11_feed_19 K n19) ih19 σ x1 x2 x3 x4 x5 x6 x1 hF H locs ls hP hS (lv_sub hl [0, 1, 2, 3, 4, 5, 6] rfl)
  unfold mp_X11_feed at hF
  revert hP hS
  generalize hLo : ([] : List Loc) = locs
  suffices h9 : ∀ (H : Heap) (locs : List Loc), va_P D vwCl (sm_wM σ α) H → va_S A s.heap H locs → W p l e (headSpec wp_X11_feed { frames := 0, cells := 0, slots := 0, locals := 0 }).room s m ([.ref (α.1 0), .int p1, .int p2, .int p3, .int p4, .int p5] : List Value).toArray below meth c H locs 0 0 (MQ below (va_Qi K (sm_B sm_wM D α) A) ([.ref (α.1 0), .int p1, .int p2, .int p3, .int p4, .int p5] : List Value).toArray s 0 0 A) (F0 m 0 ls []) from fun hP hS => h9 s.heap locs hP hS
  intro H locs hP hS
  refine lv_aload_n hx hb dX11_feed_0 rfl (lv_at hl 0 rfl) ?_
  refine va_get (D := D) (ci := 11) (v := .int (σ.1 0)) (C := RX11) (T := TX11) (N := 28) hx hb hts in_X11 hown hK hP 0 (sm_gX11 σ α) rfl 1 (by decide) k_1 (fun _ h9 => h9) rfl dX11_feed_1 ?_
  refine lv_bipush (v := 20) hx hb dX11_feed_4 (by decide) ?_
  refine lv_iadd hx hb dX11_feed_6 ?_
  refine lv_sipush (v := 8000) hx hb dX11_feed_7 (by decide) ?_
  refine lv_icmp_le (tgt := 16) hx hb dX11_feed_10 (by decide) (fun h10 => ?_) (fun h10 => ?_)
  · replace hF := hF.1 h10
    refine lv_iconst (v := 0) hx hb dX11_feed_16 (by decide) ?_
    refine lv_istore (lv' := [(6, .int 0), (0, .ref (α.1 0)), (1, .int p1), (2, .int p2), (3, .int p3), (4, .int p4), (5, .int p5)]) hx hb dX11_feed_17 hl (by decide) rfl (fun ls hl => ?_)
    obtain ⟨n19, hF⟩ := hF
    exact B19 n19 σ p1 p2 p3 p4 p5 0 hF H locs ls hP hS (lv_sub hl [1, 2, 3, 4, 5, 6, 0] rfl)
  · replace hF := hF.2 h10
    refine lv_bipush (v := -2) hx hb dX11_feed_13 (by decide) ?_
    exact W.iret (v := (-2)) hx hb hr (fun t ht hW => ⟨⟨(-2), σ, rfl, hF, (by unfold sm_B; rw [ht]; exact hP)⟩, hS.F ht⟩) hS.2.2 dX11_feed_15
theorem dX11_bad_0 : decode cX11_bad 0 = .ok (.aload_n 0, 1) := by decide +kernel
theorem dX11_bad_1 : decode cX11_bad 1 = .ok (.aload_n 0, 1) := by decide +kernel
theorem dX11_bad_2 : decode cX11_bad 2 = .ok (.getfield 74, 3) := by decide +kernel
theorem dX11_bad_5 : decode cX11_bad 5 = .ok (.ifCond .ge 7, 3) := by decide +kernel
theorem dX11_bad_8 : decode cX11_bad 8 = .ok (.iload_n 1, 1) := by decide +kernel
theorem dX11_bad_9 : decode cX11_bad 9 = .ok (.goto 7, 3) := by decide +kernel
theorem dX11_bad_12 : decode cX11_bad 12 = .ok (.aload_n 0, 1) := by decide +kernel
theorem dX11_bad_13 : decode cX11_bad 13 = .ok (.getfield 74, 3) := by decide +kernel
theorem dX11_bad_16 : decode cX11_bad 16 = .ok (.putfield 74, 3) := by decide +kernel
theorem dX11_bad_19 : decode cX11_bad 19 = .ok (.iconst 0, 1) := by decide +kernel
theorem dX11_bad_20 : decode cX11_bad 20 = .ok (.ireturn, 1) := by decide +kernel
def mp_X11_bad_16 (K : Int32 → sm_S → Prop) (σ : sm_S) (y1 : Int32) : Prop := ∀ σ1 : sm_S, σ1 = sm_i σ 3 y1 → K 0 σ1
/-- SteadyMachineModel$Image.bad(I)Z -/
def mp_X11_bad (σ : sm_S) (p1 : Int32) (K : Int32 → sm_S → Prop) : Prop := (((0 : Int32) ≤ (σ.1 3) → (mp_X11_bad_16 K σ (σ.1 3))) ∧ (¬ (0 : Int32) ≤ (σ.1 3) → (mp_X11_bad_16 K σ p1)))
def wp_X11_bad : List Cond := .code yX11_bad cX11_bad 2 (some .boolean) :: ([.fieldLink RX11 74 "SteadyMachineModel$Image" "wrong" "I"] ++ wsX110)
theorem wi_X11_bad_X11 : ∀ w ∈ wsX110, w ∈ wp_X11_bad := fun w h => List.mem_cons_of_mem _ (List.mem_append_right _ h)
set_option maxHeartbeats 4000000 in
set_option maxRecDepth 100000 in
theorem c_X11_bad (l : Launch) (D : va_G) (sz t0 : Nat) (σ : sm_S) (α : sm_A) (p1 : Int32) (K : Int32 → sm_S → Prop) (hF : mp_X11_bad σ p1 K) : Met l yX11_bad wp_X11_bad { frames := 0, cells := 0, slots := 0, locals := 0 } (sm_P sm_wM sm_tM 40 D sz t0 σ α [.ref (α.1 0), .int p1]) (va_Qi K (sm_B sm_wM D α) (sm_a α 40 sz)) 0 0 (sm_a α 40 sz) := by
  refine Met.ofW (cc := cX11_bad) (maxL := 2) (ret := (some .boolean)) (by decide) rfl ?_
  intro p e s m args below meth c s₁ B hml hv
  obtain ⟨rfl, hsz, hP, hK, hD0, hE⟩ := hv
  have hx := B.exec
  have hb := B.bytes
  have hr := B.returns
  have hts := atoms_spec (ws := wp_X11_bad) B.pre
  have hown : s.vm.findClass RX11 = some m.cls := findClass_of_methodNamed B.named
  have hlocks := B.notSynchronized
  subst hsz
  have hD : sm_D (sm_a α 40 s.heap.size) α 40 := hD0.own
  have hA : ∀ q : Nat, s.heap.size ≤ q → sm_a α 40 s.heap.size q := fun q h => Or.inr h
  generalize hAe : sm_a α 40 s.heap.size = A at hD hA hE ⊢
  have hS : va_S A s.heap s.heap [] := va_S.rf
  have in_X11 : ∀ w ∈ wsX110, w ∈ wp_X11_bad := wi_X11_bad_X11
  have k_0 := hts (.fieldLink RX11 74 "SteadyMachineModel$Image" "wrong" "I") (by decide +kernel)
  have hl := lv_entry ([.ref (α.1 0), .int p1]) (n := 2) (Nat.le_of_ble_eq_true rfl)
  rw [lg_entry_eq]
  generalize (lg_sl ([.ref (α.1 0), .int p1]) ++ List.replicate (2 - (lg_sl ([.ref (α.1 0), .int p1])).length) Slot.unset).toArray = ls at hl ⊢
  have hl : lv_has ls 2 [(0, .ref (α.1 0)), (1, .int p1)] := hl
  have B16 : ∀ (σ : sm_S) (y1 : Int32), mp_X11_bad_16 K σ y1 → sm_J p l e (headSpec wp_X11_bad { frames := 0, cells := 0, slots := 0, locals := 0 }).room s m ([.ref (α.1 0), .int p1] : List Value).toArray below meth c (MQ below (va_Qi K (sm_B sm_wM D α) A) ([.ref (α.1 0), .int p1] : List Value).toArray s 0 0 A) D A 2 (sm_wM σ α) 16 [] [.int y1, .ref (α.1 0)] := by
    intro σ y1 hF H locs ls hP hS hl
    unfold mp_X11_bad_16 at hF
    refine va_put (D := D) (ci := 11) (v := .int y1) (ty := .int) (C := RX11) (T := TX11) (N := 28) hx hb hts in_X11 tyX11 tyX11_ok nmX11 hown hK hP (hD.to (sm_wM_m _ _)) hS 0 (sm_gX11 σ α) rfl 6 (by decide) k_0 (fun _ h9 => h9) rfl (by decide +kernel) rfl rfl (Nat.le_of_ble_eq_true rfl) dX11_bad_16 (fun H locs hP _ hS => ?_)
    rw [sm_iM3] at hP
    obtain ⟨σ1, eσ1⟩ : ∃ x : sm_S, x = sm_i σ 3 y1 := ⟨_, rfl⟩
    replace hF := hF σ1 eσ1
    rw [← eσ1] at hP
    refine lv_iconst (v := 0) hx hb dX11_bad_19 (by decide) ?_
    exact W.zret (v := 0) hx hb hr sm_z0.1 (fun t ht hW => ⟨⟨0, σ1, rfl, hF, (by unfold sm_B; rw [ht]; exact hP)⟩, hS.F ht⟩) hS.2.2 dX11_bad_20
  unfold mp_X11_bad at hF
  revert hP hS
  generalize hLo : ([] : List Loc) = locs
  suffices h9 : ∀ (H : Heap) (locs : List Loc), va_P D vwCl (sm_wM σ α) H → va_S A s.heap H locs → W p l e (headSpec wp_X11_bad { frames := 0, cells := 0, slots := 0, locals := 0 }).room s m ([.ref (α.1 0), .int p1] : List Value).toArray below meth c H locs 0 0 (MQ below (va_Qi K (sm_B sm_wM D α) A) ([.ref (α.1 0), .int p1] : List Value).toArray s 0 0 A) (F0 m 0 ls []) from fun hP hS => h9 s.heap locs hP hS
  intro H locs hP hS
  refine lv_aload_n hx hb dX11_bad_0 rfl (lv_at hl 0 rfl) ?_
  refine lv_aload_n hx hb dX11_bad_1 rfl (lv_at hl 0 rfl) ?_
  refine va_get (D := D) (ci := 11) (v := .int (σ.1 3)) (C := RX11) (T := TX11) (N := 28) hx hb hts in_X11 hown hK hP 0 (sm_gX11 σ α) rfl 6 (by decide) k_0 (fun _ h9 => h9) rfl dX11_bad_2 ?_
  refine lv_if_ge (tgt := 12) hx hb dX11_bad_5 (by decide) (fun h2 => ?_) (fun h2 => ?_)
  · replace hF := hF.1 h2
    refine lv_aload_n hx hb dX11_bad_12 rfl (lv_at hl 0 rfl) ?_
    refine va_get (D := D) (ci := 11) (v := .int (σ.1 3)) (C := RX11) (T := TX11) (N := 28) hx hb hts in_X11 hown hK hP 0 (sm_gX11 σ α) rfl 6 (by decide) k_0 (fun _ h9 => h9) rfl dX11_bad_13 ?_
    exact B16 σ (σ.1 3) hF H locs ls hP hS (lv_sub hl [] rfl)
  · replace hF := hF.2 h2
    refine lv_iload_n hx hb dX11_bad_8 rfl (lv_at hl 1 rfl) ?_
    refine lv_goto (tgt := 16) hx hb dX11_bad_9 (by decide) ?_
    exact B16 σ p1 hF H locs ls hP hS (lv_sub hl [] rfl)
theorem dX11_here_0 : decode cX11_here 0 = .ok (.aload_n 0, 1) := by decide +kernel
theorem dX11_here_1 : decode cX11_here 1 = .ok (.getfield 77, 3) := by decide +kernel
theorem dX11_here_4 : decode cX11_here 4 = .ok (.aload_n 0, 1) := by decide +kernel
theorem dX11_here_5 : decode cX11_here 5 = .ok (.getfield 80, 3) := by decide +kernel
theorem dX11_here_8 : decode cX11_here 8 = .ok (.if_icmp .ge 15, 3) := by decide +kernel
theorem dX11_here_11 : decode cX11_here 11 = .ok (.aload_n 0, 1) := by decide +kernel
theorem dX11_here_12 : decode cX11_here 12 = .ok (.getfield 15, 3) := by decide +kernel
theorem dX11_here_15 : decode cX11_here 15 = .ok (.aload_n 0, 1) := by decide +kernel
theorem dX11_here_16 : decode cX11_here 16 = .ok (.getfield 77, 3) := by decide +kernel
theorem dX11_here_19 : decode cX11_here 19 = .ok (.iaload, 1) := by decide +kernel
theorem dX11_here_20 : decode cX11_here 20 = .ok (.goto 6, 3) := by decide +kernel
theorem dX11_here_23 : decode cX11_here 23 = .ok (.sipush 256, 3) := by decide +kernel
theorem dX11_here_26 : decode cX11_here 26 = .ok (.ireturn, 1) := by decide +kernel
def mp_X11_here_26 (K : Int32 → sm_S → Prop) (σ : sm_S) (y0 : Int32) : Prop := K y0 σ
/-- SteadyMachineModel$Image.here()I -/
def mp_X11_here (σ : sm_S)  (K : Int32 → sm_S → Prop) : Prop := (((σ.1 1) ≤ (σ.1 2) → (mp_X11_here_26 K σ 256)) ∧ (¬ (σ.1 1) ≤ (σ.1 2) → (vp_in (σ.1 2) (σ.2.2.1 3) ∧ mp_X11_here_26 K σ ((σ.2.2.2.1 3) (σ.1 2).toNatClampNeg))))
def wp_X11_here : List Cond := .code yX11_here cX11_here 1 (some .int) :: ([.fieldLink RX11 77 "SteadyMachineModel$Image" "place" "I", .fieldLink RX11 80 "SteadyMachineModel$Image" "size" "I", .fieldLink RX11 15 "SteadyMachineModel$Image" "image" "[I"] ++ wsX110)
theorem wi_X11_here_X11 : ∀ w ∈ wsX110, w ∈ wp_X11_here := fun w h => List.mem_cons_of_mem _ (List.mem_append_right _ h)
set_option maxHeartbeats 4000000 in
set_option maxRecDepth 100000 in
theorem c_X11_here (l : Launch) (D : va_G) (sz t0 : Nat) (σ : sm_S) (α : sm_A) (K : Int32 → sm_S → Prop) (hF : mp_X11_here σ K) : Met l yX11_here wp_X11_here { frames := 0, cells := 0, slots := 0, locals := 0 } (sm_P sm_wM sm_tM 40 D sz t0 σ α [.ref (α.1 0)]) (va_Qi K (sm_B sm_wM D α) (sm_a α 40 sz)) 0 0 (sm_a α 40 sz) := by
  refine Met.ofW (cc := cX11_here) (maxL := 1) (ret := (some .int)) (by decide) rfl ?_
  intro p e s m args below meth c s₁ B hml hv
  obtain ⟨rfl, hsz, hP, hK, hD0, hE⟩ := hv
  have hx := B.exec
  have hb := B.bytes
  have hr := B.returns
  have hts := atoms_spec (ws := wp_X11_here) B.pre
  have hown : s.vm.findClass RX11 = some m.cls := findClass_of_methodNamed B.named
  have hlocks := B.notSynchronized
  subst hsz
  have hD : sm_D (sm_a α 40 s.heap.size) α 40 := hD0.own
  have hA : ∀ q : Nat, s.heap.size ≤ q → sm_a α 40 s.heap.size q := fun q h => Or.inr h
  generalize hAe : sm_a α 40 s.heap.size = A at hD hA hE ⊢
  have hS : va_S A s.heap s.heap [] := va_S.rf
  have in_X11 : ∀ w ∈ wsX110, w ∈ wp_X11_here := wi_X11_here_X11
  have k_0 := hts (.fieldLink RX11 77 "SteadyMachineModel$Image" "place" "I") (by decide +kernel)
  have k_1 := hts (.fieldLink RX11 80 "SteadyMachineModel$Image" "size" "I") (by decide +kernel)
  have k_2 := hts (.fieldLink RX11 15 "SteadyMachineModel$Image" "image" "[I") (by decide +kernel)
  have hl := lv_entry ([.ref (α.1 0)]) (n := 1) (Nat.le_of_ble_eq_true rfl)
  rw [lg_entry_eq]
  generalize (lg_sl ([.ref (α.1 0)]) ++ List.replicate (1 - (lg_sl ([.ref (α.1 0)])).length) Slot.unset).toArray = ls at hl ⊢
  have hl : lv_has ls 1 [(0, .ref (α.1 0))] := hl
  have B26 : ∀ (σ : sm_S) (y0 : Int32), mp_X11_here_26 K σ y0 → sm_J p l e (headSpec wp_X11_here { frames := 0, cells := 0, slots := 0, locals := 0 }).room s m ([.ref (α.1 0)] : List Value).toArray below meth c (MQ below (va_Qi K (sm_B sm_wM D α) A) ([.ref (α.1 0)] : List Value).toArray s 0 0 A) D A 1 (sm_wM σ α) 26 [] [.int y0] := by
    intro σ y0 hF H locs ls hP hS hl
    unfold mp_X11_here_26 at hF
    exact W.iret (v := y0) hx hb hr (fun t ht hW => ⟨⟨y0, σ, rfl, hF, (by unfold sm_B; rw [ht]; exact hP)⟩, hS.F ht⟩) hS.2.2 dX11_here_26
  unfold mp_X11_here at hF
  revert hP hS
  generalize hLo : ([] : List Loc) = locs
  suffices h9 : ∀ (H : Heap) (locs : List Loc), va_P D vwCl (sm_wM σ α) H → va_S A s.heap H locs → W p l e (headSpec wp_X11_here { frames := 0, cells := 0, slots := 0, locals := 0 }).room s m ([.ref (α.1 0)] : List Value).toArray below meth c H locs 0 0 (MQ below (va_Qi K (sm_B sm_wM D α) A) ([.ref (α.1 0)] : List Value).toArray s 0 0 A) (F0 m 0 ls []) from fun hP hS => h9 s.heap locs hP hS
  intro H locs hP hS
  refine lv_aload_n hx hb dX11_here_0 rfl (lv_at hl 0 rfl) ?_
  refine va_get (D := D) (ci := 11) (v := .int (σ.1 2)) (C := RX11) (T := TX11) (N := 28) hx hb hts in_X11 hown hK hP 0 (sm_gX11 σ α) rfl 5 (by decide) k_0 (fun _ h9 => h9) rfl dX11_here_1 ?_
  refine lv_aload_n hx hb dX11_here_4 rfl (lv_at hl 0 rfl) ?_
  refine va_get (D := D) (ci := 11) (v := .int (σ.1 1)) (C := RX11) (T := TX11) (N := 28) hx hb hts in_X11 hown hK hP 0 (sm_gX11 σ α) rfl 4 (by decide) k_1 (fun _ h9 => h9) rfl dX11_here_5 ?_
  refine lv_icmp_ge (tgt := 23) hx hb dX11_here_8 (by decide) (fun h1 => ?_) (fun h1 => ?_)
  · replace hF := hF.1 h1
    refine lv_sipush (v := 256) hx hb dX11_here_23 (by decide) ?_
    exact B26 σ 256 hF H locs ls hP hS (lv_sub hl [] rfl)
  · replace hF := hF.2 h1
    refine lv_aload_n hx hb dX11_here_11 rfl (lv_at hl 0 rfl) ?_
    refine va_get (D := D) (ci := 11) (v := .ref (α.1 3)) (C := RX11) (T := TX11) (N := 28) hx hb hts in_X11 hown hK hP 0 (sm_gX11 σ α) rfl 2 (by decide) k_2 (fun _ h9 => h9) rfl dX11_here_12 ?_
    refine lv_aload_n hx hb dX11_here_15 rfl (lv_at hl 0 rfl) ?_
    refine va_get (D := D) (ci := 11) (v := .int (σ.1 2)) (C := RX11) (T := TX11) (N := 28) hx hb hts in_X11 hown hK hP 0 (sm_gX11 σ α) rfl 5 (by decide) k_0 (fun _ h9 => h9) rfl dX11_here_16 ?_
    obtain ⟨h2, hF⟩ := hF
    refine va_iald (n := (σ.2.2.1 3)) (f := (σ.2.2.2.1 3)) hx hb hK hP 3 1 (sm_aM3 σ α) (sm_yM3 α) h2 dX11_here_19 ?_
    refine lv_goto (tgt := 26) hx hb dX11_here_20 (by decide) ?_
    exact B26 σ ((σ.2.2.2.1 3) (σ.1 2).toNatClampNeg) hF H locs ls hP hS (lv_sub hl [] rfl)
theorem dX11_over_0 : decode cX11_over 0 = .ok (.aload_n 0, 1) := by decide +kernel
theorem dX11_over_1 : decode cX11_over 1 = .ok (.invokevirtual 83, 3) := by decide +kernel
theorem dX11_over_4 : decode cX11_over 4 = .ok (.iload_n 1, 1) := by decide +kernel
theorem dX11_over_5 : decode cX11_over 5 = .ok (.if_icmp .lt 21, 3) := by decide +kernel
theorem dX11_over_8 : decode cX11_over 8 = .ok (.aload_n 0, 1) := by decide +kernel
theorem dX11_over_9 : decode cX11_over 9 = .ok (.invokevirtual 83, 3) := by decide +kernel
theorem dX11_over_12 : decode cX11_over 12 = .ok (.iload_n 2, 1) := by decide +kernel
theorem dX11_over_13 : decode cX11_over 13 = .ok (.if_icmp .gt 13, 3) := by decide +kernel
theorem dX11_over_16 : decode cX11_over 16 = .ok (.aload_n 0, 1) := by decide +kernel
theorem dX11_over_17 : decode cX11_over 17 = .ok (.invokevirtual 83, 3) := by decide +kernel
theorem dX11_over_20 : decode cX11_over 20 = .ok (.sipush 256, 3) := by decide +kernel
theorem dX11_over_23 : decode cX11_over 23 = .ok (.if_icmp .ne 12, 3) := by decide +kernel
theorem dX11_over_26 : decode cX11_over 26 = .ok (.aload_n 0, 1) := by decide +kernel
theorem dX11_over_27 : decode cX11_over 27 = .ok (.aload_n 0, 1) := by decide +kernel
theorem dX11_over_28 : decode cX11_over 28 = .ok (.getfield 77, 3) := by decide +kernel
theorem dX11_over_31 : decode cX11_over 31 = .ok (.invokevirtual 87, 3) := by decide +kernel
theorem dX11_over_34 : decode cX11_over 34 = .ok (.ireturn, 1) := by decide +kernel
theorem dX11_over_35 : decode cX11_over 35 = .ok (.aload_n 0, 1) := by decide +kernel
theorem dX11_over_36 : decode cX11_over 36 = .ok (.dup, 1) := by decide +kernel
theorem dX11_over_37 : decode cX11_over 37 = .ok (.getfield 77, 3) := by decide +kernel
theorem dX11_over_40 : decode cX11_over 40 = .ok (.iconst 1, 1) := by decide +kernel
theorem dX11_over_41 : decode cX11_over 41 = .ok (.iadd, 1) := by decide +kernel
theorem dX11_over_42 : decode cX11_over 42 = .ok (.putfield 77, 3) := by decide +kernel
theorem dX11_over_45 : decode cX11_over 45 = .ok (.iconst 1, 1) := by decide +kernel
theorem dX11_over_46 : decode cX11_over 46 = .ok (.ireturn, 1) := by decide +kernel
def mp_X11_over_26 (K : Int32 → sm_S → Prop) (σ : sm_S)  : Prop := mp_X11_bad σ (σ.1 2) (fun r2 σ1 => sm_z r2 ∧ K r2 σ1)
/-- SteadyMachineModel$Image.over(II)Z -/
def mp_X11_over (σ : sm_S) (p1 : Int32) (p2 : Int32) (K : Int32 → sm_S → Prop) : Prop := mp_X11_here σ (fun r5 σ4 => ((r5 < p1 → (mp_X11_over_26 K σ4)) ∧ (¬ r5 < p1 → (mp_X11_here σ4 (fun r8 σ7 => ((p2 < r8 → (mp_X11_over_26 K σ7)) ∧ (¬ p2 < r8 → (mp_X11_here σ7 (fun r11 σ10 => ((¬ r11 = 256 → (∀ σ13 : sm_S, σ13 = sm_i σ10 2 ((σ10.1 2) + 1) → K 1 σ13)) ∧ (r11 = 256 → (mp_X11_over_26 K σ10))))))))))))
def wp_X11_over : List Cond := .code yX11_over cX11_over 3 (some .boolean) :: ((([.fieldLink RX11 77 "SteadyMachineModel$Image" "place" "I"] ++ (wsV RX11 87 RX11 yX11_bad wp_X11_bad)) ++ (wsV RX11 83 RX11 yX11_here wp_X11_here)) ++ wsX110)
theorem wg_X11_over_X11_bad_87 : GoodIn wp_X11_over (wsV RX11 87 RX11 yX11_bad wp_X11_bad) := goodIn_sub (fun w h => List.mem_cons_of_mem _ (List.mem_append_left _ (List.mem_append_left _ (List.mem_append_right _ h)))) (by decide +kernel)
theorem wg_X11_over_X11_here_83 : GoodIn wp_X11_over (wsV RX11 83 RX11 yX11_here wp_X11_here) := goodIn_sub (fun w h => List.mem_cons_of_mem _ (List.mem_append_left _ (List.mem_append_right _ h))) (by decide +kernel)
theorem wi_X11_over_X11 : ∀ w ∈ wsX110, w ∈ wp_X11_over := fun w h => List.mem_cons_of_mem _ (List.mem_append_right _ h)
set_option maxHeartbeats 4000000 in
set_option maxRecDepth 100000 in
theorem c_X11_over (l : Launch) (D : va_G) (sz t0 : Nat) (σ : sm_S) (α : sm_A) (p1 : Int32) (p2 : Int32) (K : Int32 → sm_S → Prop) (hF : mp_X11_over σ p1 p2 K) : Met l yX11_over wp_X11_over { frames := 1, cells := 0, slots := 0, locals := 21 } (sm_P sm_wM sm_tM 40 D sz t0 σ α [.ref (α.1 0), .int p1, .int p2]) (va_Qi K (sm_B sm_wM D α) (sm_a α 40 sz)) 0 0 (sm_a α 40 sz) := by
  refine Met.ofW (cc := cX11_over) (maxL := 3) (ret := (some .boolean)) (by decide) rfl ?_
  intro p e s m args below meth c s₁ B hml hv
  obtain ⟨rfl, hsz, hP, hK, hD0, hE⟩ := hv
  have hx := B.exec
  have hb := B.bytes
  have hr := B.returns
  have hts := atoms_spec (ws := wp_X11_over) B.pre
  have hown : s.vm.findClass RX11 = some m.cls := findClass_of_methodNamed B.named
  have hlocks := B.notSynchronized
  subst hsz
  have hD : sm_D (sm_a α 40 s.heap.size) α 40 := hD0.own
  have hA : ∀ q : Nat, s.heap.size ≤ q → sm_a α 40 s.heap.size q := fun q h => Or.inr h
  generalize hAe : sm_a α 40 s.heap.size = A at hD hA hE ⊢
  have hS : va_S A s.heap s.heap [] := va_S.rf
  have in_X11 : ∀ w ∈ wsX110, w ∈ wp_X11_over := wi_X11_over_X11
  have k_0 := hts (.fieldLink RX11 77 "SteadyMachineModel$Image" "place" "I") (by decide +kernel)
  have hl := lv_entry ([.ref (α.1 0), .int p1, .int p2]) (n := 3) (Nat.le_of_ble_eq_true rfl)
  rw [lg_entry_eq]
  generalize (lg_sl ([.ref (α.1 0), .int p1, .int p2]) ++ List.replicate (3 - (lg_sl ([.ref (α.1 0), .int p1, .int p2])).length) Slot.unset).toArray = ls at hl ⊢
  have hl : lv_has ls 3 [(0, .ref (α.1 0)), (1, .int p1), (2, .int p2)] := hl
  have B26 : ∀ (σ : sm_S), mp_X11_over_26 K σ → sm_J p l e (headSpec wp_X11_over { frames := 1, cells := 0, slots := 0, locals := 21 }).room s m ([.ref (α.1 0), .int p1, .int p2] : List Value).toArray below meth c (MQ below (va_Qi K (sm_B sm_wM D α) A) ([.ref (α.1 0), .int p1, .int p2] : List Value).toArray s 0 0 A) D A 3 (sm_wM σ α) 26 [(0, .ref (α.1 0))] [] := by
    intro σ hF H locs ls hP hS hl
    unfold mp_X11_over_26 at hF
    refine lv_aload_n hx hb dX11_over_26 rfl (lv_at hl 0 rfl) ?_
    refine lv_aload_n hx hb dX11_over_27 rfl (lv_at hl 0 rfl) ?_
    refine va_get (D := D) (ci := 11) (v := .int (σ.1 2)) (C := RX11) (T := TX11) (N := 28) hx hb hts in_X11 hown hK hP 0 (sm_gX11 σ α) rfl 5 (by decide) k_0 (fun _ h9 => h9) rfl dX11_over_28 ?_
    refine sm_vi (As := [.int (σ.1 2)]) (rest := []) hP hK hD hE hS hA ⟨hx, hb, hml, hown, hts⟩ hl.1 (c_X11_bad l D H.size t0 σ α (σ.1 2) _ hF) (cwV 1 hts wg_X11_over_X11_bad_87 rfl rfl rfl (by decide +kernel) ⟨Nat.le_of_ble_eq_true rfl, Nat.le_of_ble_eq_true rfl⟩) (va_recv hK hP (ci := 11) (q0 := 0) rfl (sm_gX11 σ α)) rfl rfl (Nat.le_of_ble_eq_true rfl) dX11_over_31 ⟨Nat.zero_le _, Nat.zero_le _⟩ (fun r2 σ1 H locs hF hP hS => ?_)
    obtain ⟨h3, hF⟩ := hF
    exact W.zret (v := r2) hx hb hr h3.1 (fun t ht hW => ⟨⟨r2, σ1, rfl, hF, (by unfold sm_B; rw [ht]; exact hP)⟩, hS.F ht⟩) hS.2.2 dX11_over_34
  unfold mp_X11_over at hF
  revert hP hS
  generalize hLo : ([] : List Loc) = locs
  suffices h9 : ∀ (H : Heap) (locs : List Loc), va_P D vwCl (sm_wM σ α) H → va_S A s.heap H locs → W p l e (headSpec wp_X11_over { frames := 1, cells := 0, slots := 0, locals := 21 }).room s m ([.ref (α.1 0), .int p1, .int p2] : List Value).toArray below meth c H locs 0 0 (MQ below (va_Qi K (sm_B sm_wM D α) A) ([.ref (α.1 0), .int p1, .int p2] : List Value).toArray s 0 0 A) (F0 m 0 ls []) from fun hP hS => h9 s.heap locs hP hS
  intro H locs hP hS
  refine lv_aload_n hx hb dX11_over_0 rfl (lv_at hl 0 rfl) ?_
  refine sm_vi (As := []) (rest := []) hP hK hD hE hS hA ⟨hx, hb, hml, hown, hts⟩ hl.1 (c_X11_here l D H.size t0 σ α _ hF) (cwV 0 hts wg_X11_over_X11_here_83 rfl rfl rfl (by decide +kernel) ⟨Nat.le_of_ble_eq_true rfl, Nat.le_of_ble_eq_true rfl⟩) (va_recv hK hP (ci := 11) (q0 := 0) rfl (sm_gX11 σ α)) rfl rfl (Nat.le_of_ble_eq_true rfl) dX11_over_1 ⟨Nat.zero_le _, Nat.zero_le _⟩ (fun r5 σ4 H locs hF hP hS => ?_)
  refine lv_iload_n hx hb dX11_over_4 rfl (lv_at hl 1 rfl) ?_
  refine lv_icmp_lt (tgt := 26) hx hb dX11_over_5 (by decide) (fun h6 => ?_) (fun h6 => ?_)
  · replace hF := hF.1 h6
    exact B26 σ4 hF H locs ls hP hS (lv_sub hl [0] rfl)
  · replace hF := hF.2 h6
    refine lv_aload_n hx hb dX11_over_8 rfl (lv_at hl 0 rfl) ?_
    refine sm_vi (As := []) (rest := []) hP hK hD hE hS hA ⟨hx, hb, hml, hown, hts⟩ hl.1 (c_X11_here l D H.size t0 σ4 α _ hF) (cwV 0 hts wg_X11_over_X11_here_83 rfl rfl rfl (by decide +kernel) ⟨Nat.le_of_ble_eq_true rfl, Nat.le_of_ble_eq_true rfl⟩) (va_recv hK hP (ci := 11) (q0 := 0) rfl (sm_gX11 σ4 α)) rfl rfl (Nat.le_of_ble_eq_true rfl) dX11_over_9 ⟨Nat.zero_le _, Nat.zero_le _⟩ (fun r8 σ7 H locs hF hP hS => ?_)
    refine lv_iload_n hx hb dX11_over_12 rfl (lv_at hl 2 rfl) ?_
    refine lv_icmp_gt (tgt := 26) hx hb dX11_over_13 (by decide) (fun h9 => ?_) (fun h9 => ?_)
    · replace hF := hF.1 h9
      exact B26 σ7 hF H locs ls hP hS (lv_sub hl [0] rfl)
    · replace hF := hF.2 h9
      refine lv_aload_n hx hb dX11_over_16 rfl (lv_at hl 0 rfl) ?_
      refine sm_vi (As := []) (rest := []) hP hK hD hE hS hA ⟨hx, hb, hml, hown, hts⟩ hl.1 (c_X11_here l D H.size t0 σ7 α _ hF) (cwV 0 hts wg_X11_over_X11_here_83 rfl rfl rfl (by decide +kernel) ⟨Nat.le_of_ble_eq_true rfl, Nat.le_of_ble_eq_true rfl⟩) (va_recv hK hP (ci := 11) (q0 := 0) rfl (sm_gX11 σ7 α)) rfl rfl (Nat.le_of_ble_eq_true rfl) dX11_over_17 ⟨Nat.zero_le _, Nat.zero_le _⟩ (fun r11 σ10 H locs hF hP hS => ?_)
      refine lv_sipush (v := 256) hx hb dX11_over_20 (by decide) ?_
      refine lv_icmp_ne (tgt := 35) hx hb dX11_over_23 (by decide) (fun h12 => ?_) (fun h12 => ?_)
      · replace hF := hF.1 h12
        refine lv_aload_n hx hb dX11_over_35 rfl (lv_at hl 0 rfl) ?_
        refine lv_dup hx hb dX11_over_36 rfl ?_
        refine va_get (D := D) (ci := 11) (v := .int (σ10.1 2)) (C := RX11) (T := TX11) (N := 28) hx hb hts in_X11 hown hK hP 0 (sm_gX11 σ10 α) rfl 5 (by decide) k_0 (fun _ h9 => h9) rfl dX11_over_37 ?_
        refine lv_iconst (v := 1) hx hb dX11_over_40 (by decide) ?_
        refine lv_iadd hx hb dX11_over_41 ?_
        refine va_put (D := D) (ci := 11) (v := .int ((σ10.1 2) + 1)) (ty := .int) (C := RX11) (T := TX11) (N := 28) hx hb hts in_X11 tyX11 tyX11_ok nmX11 hown hK hP (hD.to (sm_wM_m _ _)) hS 0 (sm_gX11 σ10 α) rfl 5 (by decide) k_0 (fun _ h9 => h9) rfl (by decide +kernel) rfl rfl (Nat.le_of_ble_eq_true rfl) dX11_over_42 (fun H locs hP _ hS => ?_)
        rw [sm_iM2] at hP
        obtain ⟨σ13, eσ13⟩ : ∃ x : sm_S, x = sm_i σ10 2 ((σ10.1 2) + 1) := ⟨_, rfl⟩
        replace hF := hF σ13 eσ13
        rw [← eσ13] at hP
        refine lv_iconst (v := 1) hx hb dX11_over_45 (by decide) ?_
        exact W.zret (v := 1) hx hb hr sm_z1.1 (fun t ht hW => ⟨⟨1, σ13, rfl, hF, (by unfold sm_B; rw [ht]; exact hP)⟩, hS.F ht⟩) hS.2.2 dX11_over_46
      · replace hF := hF.2 h12
        exact B26 σ10 hF H locs ls hP hS (lv_sub hl [0] rfl)
theorem dX11_last_0 : decode cX11_last 0 = .ok (.aload_n 0, 1) := by decide +kernel
theorem dX11_last_1 : decode cX11_last 1 = .ok (.getfield 15, 3) := by decide +kernel
theorem dX11_last_4 : decode cX11_last 4 = .ok (.aload_n 0, 1) := by decide +kernel
theorem dX11_last_5 : decode cX11_last 5 = .ok (.getfield 77, 3) := by decide +kernel
theorem dX11_last_8 : decode cX11_last 8 = .ok (.iconst 1, 1) := by decide +kernel
theorem dX11_last_9 : decode cX11_last 9 = .ok (.isub, 1) := by decide +kernel
theorem dX11_last_10 : decode cX11_last 10 = .ok (.iaload, 1) := by decide +kernel
theorem dX11_last_11 : decode cX11_last 11 = .ok (.ireturn, 1) := by decide +kernel
/-- SteadyMachineModel$Image.last()I -/
def mp_X11_last (σ : sm_S)  (K : Int32 → sm_S → Prop) : Prop := vp_in ((σ.1 2) - 1) (σ.2.2.1 3) ∧ K ((σ.2.2.2.1 3) ((σ.1 2) - 1).toNatClampNeg) σ
def wp_X11_last : List Cond := .code yX11_last cX11_last 1 (some .int) :: ([.fieldLink RX11 15 "SteadyMachineModel$Image" "image" "[I", .fieldLink RX11 77 "SteadyMachineModel$Image" "place" "I"] ++ wsX110)
theorem wi_X11_last_X11 : ∀ w ∈ wsX110, w ∈ wp_X11_last := fun w h => List.mem_cons_of_mem _ (List.mem_append_right _ h)
set_option maxHeartbeats 4000000 in
set_option maxRecDepth 100000 in
theorem c_X11_last (l : Launch) (D : va_G) (sz t0 : Nat) (σ : sm_S) (α : sm_A) (K : Int32 → sm_S → Prop) (hF : mp_X11_last σ K) : Met l yX11_last wp_X11_last { frames := 0, cells := 0, slots := 0, locals := 0 } (sm_P sm_wM sm_tM 40 D sz t0 σ α [.ref (α.1 0)]) (va_Qi K (sm_B sm_wM D α) (sm_a α 40 sz)) 0 0 (sm_a α 40 sz) := by
  refine Met.ofW (cc := cX11_last) (maxL := 1) (ret := (some .int)) (by decide) rfl ?_
  intro p e s m args below meth c s₁ B hml hv
  obtain ⟨rfl, hsz, hP, hK, hD0, hE⟩ := hv
  have hx := B.exec
  have hb := B.bytes
  have hr := B.returns
  have hts := atoms_spec (ws := wp_X11_last) B.pre
  have hown : s.vm.findClass RX11 = some m.cls := findClass_of_methodNamed B.named
  have hlocks := B.notSynchronized
  subst hsz
  have hD : sm_D (sm_a α 40 s.heap.size) α 40 := hD0.own
  have hA : ∀ q : Nat, s.heap.size ≤ q → sm_a α 40 s.heap.size q := fun q h => Or.inr h
  generalize hAe : sm_a α 40 s.heap.size = A at hD hA hE ⊢
  have hS : va_S A s.heap s.heap [] := va_S.rf
  have in_X11 : ∀ w ∈ wsX110, w ∈ wp_X11_last := wi_X11_last_X11
  have k_0 := hts (.fieldLink RX11 15 "SteadyMachineModel$Image" "image" "[I") (by decide +kernel)
  have k_1 := hts (.fieldLink RX11 77 "SteadyMachineModel$Image" "place" "I") (by decide +kernel)
  have hl := lv_entry ([.ref (α.1 0)]) (n := 1) (Nat.le_of_ble_eq_true rfl)
  rw [lg_entry_eq]
  generalize (lg_sl ([.ref (α.1 0)]) ++ List.replicate (1 - (lg_sl ([.ref (α.1 0)])).length) Slot.unset).toArray = ls at hl ⊢
  have hl : lv_has ls 1 [(0, .ref (α.1 0))] := hl
  unfold mp_X11_last at hF
  revert hP hS
  generalize hLo : ([] : List Loc) = locs
  suffices h9 : ∀ (H : Heap) (locs : List Loc), va_P D vwCl (sm_wM σ α) H → va_S A s.heap H locs → W p l e (headSpec wp_X11_last { frames := 0, cells := 0, slots := 0, locals := 0 }).room s m ([.ref (α.1 0)] : List Value).toArray below meth c H locs 0 0 (MQ below (va_Qi K (sm_B sm_wM D α) A) ([.ref (α.1 0)] : List Value).toArray s 0 0 A) (F0 m 0 ls []) from fun hP hS => h9 s.heap locs hP hS
  intro H locs hP hS
  refine lv_aload_n hx hb dX11_last_0 rfl (lv_at hl 0 rfl) ?_
  refine va_get (D := D) (ci := 11) (v := .ref (α.1 3)) (C := RX11) (T := TX11) (N := 28) hx hb hts in_X11 hown hK hP 0 (sm_gX11 σ α) rfl 2 (by decide) k_0 (fun _ h9 => h9) rfl dX11_last_1 ?_
  refine lv_aload_n hx hb dX11_last_4 rfl (lv_at hl 0 rfl) ?_
  refine va_get (D := D) (ci := 11) (v := .int (σ.1 2)) (C := RX11) (T := TX11) (N := 28) hx hb hts in_X11 hown hK hP 0 (sm_gX11 σ α) rfl 5 (by decide) k_1 (fun _ h9 => h9) rfl dX11_last_5 ?_
  refine lv_iconst (v := 1) hx hb dX11_last_8 (by decide) ?_
  refine lv_isub hx hb dX11_last_9 ?_
  obtain ⟨h1, hF⟩ := hF
  refine va_iald (n := (σ.2.2.1 3)) (f := (σ.2.2.2.1 3)) hx hb hK hP 3 1 (sm_aM3 σ α) (sm_yM3 α) h1 dX11_last_10 ?_
  exact W.iret (v := ((σ.2.2.2.1 3) ((σ.1 2) - 1).toNatClampNeg)) hx hb hr (fun t ht hW => ⟨⟨((σ.2.2.2.1 3) ((σ.1 2) - 1).toNatClampNeg), σ, rfl, hF, (by unfold sm_B; rw [ht]; exact hP)⟩, hS.F ht⟩) hS.2.2 dX11_last_11
theorem dX11_overClass_0 : decode cX11_overClass 0 = .ok (.aload_n 0, 1) := by decide +kernel
theorem dX11_overClass_1 : decode cX11_overClass 1 = .ok (.iconst 0, 1) := by decide +kernel
theorem dX11_overClass_2 : decode cX11_overClass 2 = .ok (.aload_n 0, 1) := by decide +kernel
theorem dX11_overClass_3 : decode cX11_overClass 3 = .ok (.getfield 91, 3) := by decide +kernel
theorem dX11_overClass_6 : decode cX11_overClass 6 = .ok (.iconst 1, 1) := by decide +kernel
theorem dX11_overClass_7 : decode cX11_overClass 7 = .ok (.isub, 1) := by decide +kernel
theorem dX11_overClass_8 : decode cX11_overClass 8 = .ok (.invokevirtual 94, 3) := by decide +kernel
theorem dX11_overClass_11 : decode cX11_overClass 11 = .ok (.ireturn, 1) := by decide +kernel
/-- SteadyMachineModel$Image.overClass()Z -/
def mp_X11_overClass (σ : sm_S)  (K : Int32 → sm_S → Prop) : Prop := mp_X11_over σ 0 ((σ.1 5) - 1) (fun r2 σ1 => sm_z r2 ∧ K r2 σ1)
def wp_X11_overClass : List Cond := .code yX11_overClass cX11_overClass 1 (some .boolean) :: (([.fieldLink RX11 91 "SteadyMachineModel$Image" "classes" "I"] ++ (wsV RX11 94 RX11 yX11_over wp_X11_over)) ++ wsX110)
theorem wg_X11_overClass_X11_over_94 : GoodIn wp_X11_overClass (wsV RX11 94 RX11 yX11_over wp_X11_over) := goodIn_sub (fun w h => List.mem_cons_of_mem _ (List.mem_append_left _ (List.mem_append_right _ h))) (by decide +kernel)
theorem wi_X11_overClass_X11 : ∀ w ∈ wsX110, w ∈ wp_X11_overClass := fun w h => List.mem_cons_of_mem _ (List.mem_append_right _ h)
set_option maxHeartbeats 4000000 in
set_option maxRecDepth 100000 in
theorem c_X11_overClass (l : Launch) (D : va_G) (sz t0 : Nat) (σ : sm_S) (α : sm_A) (K : Int32 → sm_S → Prop) (hF : mp_X11_overClass σ K) : Met l yX11_overClass wp_X11_overClass { frames := 2, cells := 0, slots := 0, locals := 43 } (sm_P sm_wM sm_tM 40 D sz t0 σ α [.ref (α.1 0)]) (va_Qi K (sm_B sm_wM D α) (sm_a α 40 sz)) 0 0 (sm_a α 40 sz) := by
  refine Met.ofW (cc := cX11_overClass) (maxL := 1) (ret := (some .boolean)) (by decide) rfl ?_
  intro p e s m args below meth c s₁ B hml hv
  obtain ⟨rfl, hsz, hP, hK, hD0, hE⟩ := hv
  have hx := B.exec
  have hb := B.bytes
  have hr := B.returns
  have hts := atoms_spec (ws := wp_X11_overClass) B.pre
  have hown : s.vm.findClass RX11 = some m.cls := findClass_of_methodNamed B.named
  have hlocks := B.notSynchronized
  subst hsz
  have hD : sm_D (sm_a α 40 s.heap.size) α 40 := hD0.own
  have hA : ∀ q : Nat, s.heap.size ≤ q → sm_a α 40 s.heap.size q := fun q h => Or.inr h
  generalize hAe : sm_a α 40 s.heap.size = A at hD hA hE ⊢
  have hS : va_S A s.heap s.heap [] := va_S.rf
  have in_X11 : ∀ w ∈ wsX110, w ∈ wp_X11_overClass := wi_X11_overClass_X11
  have k_0 := hts (.fieldLink RX11 91 "SteadyMachineModel$Image" "classes" "I") (by decide +kernel)
  have hl := lv_entry ([.ref (α.1 0)]) (n := 1) (Nat.le_of_ble_eq_true rfl)
  rw [lg_entry_eq]
  generalize (lg_sl ([.ref (α.1 0)]) ++ List.replicate (1 - (lg_sl ([.ref (α.1 0)])).length) Slot.unset).toArray = ls at hl ⊢
  have hl : lv_has ls 1 [(0, .ref (α.1 0))] := hl
  unfold mp_X11_overClass at hF
  revert hP hS
  generalize hLo : ([] : List Loc) = locs
  suffices h9 : ∀ (H : Heap) (locs : List Loc), va_P D vwCl (sm_wM σ α) H → va_S A s.heap H locs → W p l e (headSpec wp_X11_overClass { frames := 2, cells := 0, slots := 0, locals := 43 }).room s m ([.ref (α.1 0)] : List Value).toArray below meth c H locs 0 0 (MQ below (va_Qi K (sm_B sm_wM D α) A) ([.ref (α.1 0)] : List Value).toArray s 0 0 A) (F0 m 0 ls []) from fun hP hS => h9 s.heap locs hP hS
  intro H locs hP hS
  refine lv_aload_n hx hb dX11_overClass_0 rfl (lv_at hl 0 rfl) ?_
  refine lv_iconst (v := 0) hx hb dX11_overClass_1 (by decide) ?_
  refine lv_aload_n hx hb dX11_overClass_2 rfl (lv_at hl 0 rfl) ?_
  refine va_get (D := D) (ci := 11) (v := .int (σ.1 5)) (C := RX11) (T := TX11) (N := 28) hx hb hts in_X11 hown hK hP 0 (sm_gX11 σ α) rfl 8 (by decide) k_0 (fun _ h9 => h9) rfl dX11_overClass_3 ?_
  refine lv_iconst (v := 1) hx hb dX11_overClass_6 (by decide) ?_
  refine lv_isub hx hb dX11_overClass_7 ?_
  refine sm_vi (As := [.int 0, .int ((σ.1 5) - 1)]) (rest := []) hP hK hD hE hS hA ⟨hx, hb, hml, hown, hts⟩ hl.1 (c_X11_over l D H.size t0 σ α 0 ((σ.1 5) - 1) _ hF) (cwV 2 hts wg_X11_overClass_X11_over_94 rfl rfl rfl (by decide +kernel) ⟨Nat.le_of_ble_eq_true rfl, Nat.le_of_ble_eq_true rfl⟩) (va_recv hK hP (ci := 11) (q0 := 0) rfl (sm_gX11 σ α)) rfl rfl (Nat.le_of_ble_eq_true rfl) dX11_overClass_8 ⟨Nat.zero_le _, Nat.zero_le _⟩ (fun r2 σ1 H locs hF hP hS => ?_)
  obtain ⟨h3, hF⟩ := hF
  exact W.zret (v := r2) hx hb hr h3.1 (fun t ht hW => ⟨⟨r2, σ1, rfl, hF, (by unfold sm_B; rw [ht]; exact hP)⟩, hS.F ht⟩) hS.2.2 dX11_overClass_11
theorem dX11_readAll_0 : decode cX11_readAll 0 = .ok (.aload_n 0, 1) := by decide +kernel
theorem dX11_readAll_1 : decode cX11_readAll 1 = .ok (.iconst 1, 1) := by decide +kernel
theorem dX11_readAll_2 : decode cX11_readAll 2 = .ok (.bipush 32, 2) := by decide +kernel
theorem dX11_readAll_4 : decode cX11_readAll 4 = .ok (.invokevirtual 94, 3) := by decide +kernel
theorem dX11_readAll_7 : decode cX11_readAll 7 = .ok (.ifCond .ne 5, 3) := by decide +kernel
theorem dX11_readAll_10 : decode cX11_readAll 10 = .ok (.iconst 0, 1) := by decide +kernel
theorem dX11_readAll_11 : decode cX11_readAll 11 = .ok (.ireturn, 1) := by decide +kernel
theorem dX11_readAll_12 : decode cX11_readAll 12 = .ok (.aload_n 0, 1) := by decide +kernel
theorem dX11_readAll_13 : decode cX11_readAll 13 = .ok (.aload_n 0, 1) := by decide +kernel
theorem dX11_readAll_14 : decode cX11_readAll 14 = .ok (.invokevirtual 98, 3) := by decide +kernel
theorem dX11_readAll_17 : decode cX11_readAll 17 = .ok (.putfield 91, 3) := by decide +kernel
theorem dX11_readAll_20 : decode cX11_readAll 20 = .ok (.iconst 0, 1) := by decide +kernel
theorem dX11_readAll_21 : decode cX11_readAll 21 = .ok (.istore_n 1, 1) := by decide +kernel
theorem dX11_readAll_22 : decode cX11_readAll 22 = .ok (.iload_n 1, 1) := by decide +kernel
theorem dX11_readAll_23 : decode cX11_readAll 23 = .ok (.aload_n 0, 1) := by decide +kernel
theorem dX11_readAll_24 : decode cX11_readAll 24 = .ok (.getfield 91, 3) := by decide +kernel
theorem dX11_readAll_27 : decode cX11_readAll 27 = .ok (.if_icmp .ge 19, 3) := by decide +kernel
theorem dX11_readAll_30 : decode cX11_readAll 30 = .ok (.aload_n 0, 1) := by decide +kernel
theorem dX11_readAll_31 : decode cX11_readAll 31 = .ok (.iload_n 1, 1) := by decide +kernel
theorem dX11_readAll_32 : decode cX11_readAll 32 = .ok (.invokevirtual 122, 3) := by decide +kernel
theorem dX11_readAll_35 : decode cX11_readAll 35 = .ok (.ifCond .ne 5, 3) := by decide +kernel
theorem dX11_readAll_38 : decode cX11_readAll 38 = .ok (.iconst 0, 1) := by decide +kernel
theorem dX11_readAll_39 : decode cX11_readAll 39 = .ok (.ireturn, 1) := by decide +kernel
theorem dX11_readAll_40 : decode cX11_readAll 40 = .ok (.iinc 1 1, 3) := by decide +kernel
theorem dX11_readAll_43 : decode cX11_readAll 43 = .ok (.goto (-21), 3) := by decide +kernel
theorem dX11_readAll_46 : decode cX11_readAll 46 = .ok (.iconst 0, 1) := by decide +kernel
theorem dX11_readAll_47 : decode cX11_readAll 47 = .ok (.istore_n 1, 1) := by decide +kernel
theorem dX11_readAll_48 : decode cX11_readAll 48 = .ok (.iload_n 1, 1) := by decide +kernel
theorem dX11_readAll_49 : decode cX11_readAll 49 = .ok (.iconst 5, 1) := by decide +kernel
theorem dX11_readAll_50 : decode cX11_readAll 50 = .ok (.if_icmp .ge 28, 3) := by decide +kernel
theorem dX11_readAll_53 : decode cX11_readAll 53 = .ok (.aload_n 0, 1) := by decide +kernel
theorem dX11_readAll_54 : decode cX11_readAll 54 = .ok (.invokevirtual 112, 3) := by decide +kernel
theorem dX11_readAll_57 : decode cX11_readAll 57 = .ok (.ifCond .ne 5, 3) := by decide +kernel
theorem dX11_readAll_60 : decode cX11_readAll 60 = .ok (.iconst 0, 1) := by decide +kernel
theorem dX11_readAll_61 : decode cX11_readAll 61 = .ok (.ireturn, 1) := by decide +kernel
theorem dX11_readAll_62 : decode cX11_readAll 62 = .ok (.aload_n 0, 1) := by decide +kernel
theorem dX11_readAll_63 : decode cX11_readAll 63 = .ok (.getfield 37, 3) := by decide +kernel
theorem dX11_readAll_66 : decode cX11_readAll 66 = .ok (.iload_n 1, 1) := by decide +kernel
theorem dX11_readAll_67 : decode cX11_readAll 67 = .ok (.aload_n 0, 1) := by decide +kernel
theorem dX11_readAll_68 : decode cX11_readAll 68 = .ok (.invokevirtual 98, 3) := by decide +kernel
theorem dX11_readAll_71 : decode cX11_readAll 71 = .ok (.iastore, 1) := by decide +kernel
theorem dX11_readAll_72 : decode cX11_readAll 72 = .ok (.iinc 1 1, 3) := by decide +kernel
theorem dX11_readAll_75 : decode cX11_readAll 75 = .ok (.goto (-27), 3) := by decide +kernel
theorem dX11_readAll_78 : decode cX11_readAll 78 = .ok (.aload_n 0, 1) := by decide +kernel
theorem dX11_readAll_79 : decode cX11_readAll 79 = .ok (.iconst 1, 1) := by decide +kernel
theorem dX11_readAll_80 : decode cX11_readAll 80 = .ok (.bipush 64, 2) := by decide +kernel
theorem dX11_readAll_82 : decode cX11_readAll 82 = .ok (.invokevirtual 94, 3) := by decide +kernel
theorem dX11_readAll_85 : decode cX11_readAll 85 = .ok (.ifCond .ne 5, 3) := by decide +kernel
theorem dX11_readAll_88 : decode cX11_readAll 88 = .ok (.iconst 0, 1) := by decide +kernel
theorem dX11_readAll_89 : decode cX11_readAll 89 = .ok (.ireturn, 1) := by decide +kernel
theorem dX11_readAll_90 : decode cX11_readAll 90 = .ok (.aload_n 0, 1) := by decide +kernel
theorem dX11_readAll_91 : decode cX11_readAll 91 = .ok (.aload_n 0, 1) := by decide +kernel
theorem dX11_readAll_92 : decode cX11_readAll 92 = .ok (.invokevirtual 98, 3) := by decide +kernel
theorem dX11_readAll_95 : decode cX11_readAll 95 = .ok (.putfield 125, 3) := by decide +kernel
theorem dX11_readAll_98 : decode cX11_readAll 98 = .ok (.iconst 0, 1) := by decide +kernel
theorem dX11_readAll_99 : decode cX11_readAll 99 = .ok (.istore_n 1, 1) := by decide +kernel
theorem dX11_readAll_100 : decode cX11_readAll 100 = .ok (.iload_n 1, 1) := by decide +kernel
theorem dX11_readAll_101 : decode cX11_readAll 101 = .ok (.aload_n 0, 1) := by decide +kernel
theorem dX11_readAll_102 : decode cX11_readAll 102 = .ok (.getfield 125, 3) := by decide +kernel
theorem dX11_readAll_105 : decode cX11_readAll 105 = .ok (.if_icmp .ge 19, 3) := by decide +kernel
theorem dX11_readAll_108 : decode cX11_readAll 108 = .ok (.aload_n 0, 1) := by decide +kernel
theorem dX11_readAll_109 : decode cX11_readAll 109 = .ok (.iload_n 1, 1) := by decide +kernel
theorem dX11_readAll_110 : decode cX11_readAll 110 = .ok (.invokevirtual 128, 3) := by decide +kernel
theorem dX11_readAll_113 : decode cX11_readAll 113 = .ok (.ifCond .ne 5, 3) := by decide +kernel
theorem dX11_readAll_116 : decode cX11_readAll 116 = .ok (.iconst 0, 1) := by decide +kernel
theorem dX11_readAll_117 : decode cX11_readAll 117 = .ok (.ireturn, 1) := by decide +kernel
theorem dX11_readAll_118 : decode cX11_readAll 118 = .ok (.iinc 1 1, 3) := by decide +kernel
theorem dX11_readAll_121 : decode cX11_readAll 121 = .ok (.goto (-21), 3) := by decide +kernel
theorem dX11_readAll_124 : decode cX11_readAll 124 = .ok (.aload_n 0, 1) := by decide +kernel
theorem dX11_readAll_125 : decode cX11_readAll 125 = .ok (.invokevirtual 83, 3) := by decide +kernel
theorem dX11_readAll_128 : decode cX11_readAll 128 = .ok (.istore_n 1, 1) := by decide +kernel
theorem dX11_readAll_129 : decode cX11_readAll 129 = .ok (.iload_n 1, 1) := by decide +kernel
theorem dX11_readAll_130 : decode cX11_readAll 130 = .ok (.aload_n 0, 1) := by decide +kernel
theorem dX11_readAll_131 : decode cX11_readAll 131 = .ok (.getfield 125, 3) := by decide +kernel
theorem dX11_readAll_134 : decode cX11_readAll 134 = .ok (.if_icmp .ge 32, 3) := by decide +kernel
theorem dX11_readAll_137 : decode cX11_readAll 137 = .ok (.aload_n 0, 1) := by decide +kernel
theorem dX11_readAll_138 : decode cX11_readAll 138 = .ok (.getfield 40, 3) := by decide +kernel
theorem dX11_readAll_141 : decode cX11_readAll 141 = .ok (.iload_n 1, 1) := by decide +kernel
theorem dX11_readAll_142 : decode cX11_readAll 142 = .ok (.iaload, 1) := by decide +kernel
theorem dX11_readAll_143 : decode cX11_readAll 143 = .ok (.iconst (-1), 1) := by decide +kernel
theorem dX11_readAll_144 : decode cX11_readAll 144 = .ok (.if_icmp .ne 22, 3) := by decide +kernel
theorem dX11_readAll_147 : decode cX11_readAll 147 = .ok (.aload_n 0, 1) := by decide +kernel
theorem dX11_readAll_148 : decode cX11_readAll 148 = .ok (.getfield 43, 3) := by decide +kernel
theorem dX11_readAll_151 : decode cX11_readAll 151 = .ok (.iload_n 1, 1) := by decide +kernel
theorem dX11_readAll_152 : decode cX11_readAll 152 = .ok (.iaload, 1) := by decide +kernel
theorem dX11_readAll_153 : decode cX11_readAll 153 = .ok (.ifCond .gt 13, 3) := by decide +kernel
theorem dX11_readAll_156 : decode cX11_readAll 156 = .ok (.aload_n 0, 1) := by decide +kernel
theorem dX11_readAll_157 : decode cX11_readAll 157 = .ok (.getfield 49, 3) := by decide +kernel
theorem dX11_readAll_160 : decode cX11_readAll 160 = .ok (.iload_n 1, 1) := by decide +kernel
theorem dX11_readAll_161 : decode cX11_readAll 161 = .ok (.iaload, 1) := by decide +kernel
theorem dX11_readAll_162 : decode cX11_readAll 162 = .ok (.iconst (-1), 1) := by decide +kernel
theorem dX11_readAll_163 : decode cX11_readAll 163 = .ok (.if_icmp .eq 12, 3) := by decide +kernel
theorem dX11_readAll_166 : decode cX11_readAll 166 = .ok (.aload_n 0, 1) := by decide +kernel
theorem dX11_readAll_167 : decode cX11_readAll 167 = .ok (.aload_n 0, 1) := by decide +kernel
theorem dX11_readAll_168 : decode cX11_readAll 168 = .ok (.getfield 77, 3) := by decide +kernel
theorem dX11_readAll_171 : decode cX11_readAll 171 = .ok (.invokevirtual 87, 3) := by decide +kernel
theorem dX11_readAll_174 : decode cX11_readAll 174 = .ok (.ireturn, 1) := by decide +kernel
theorem dX11_readAll_175 : decode cX11_readAll 175 = .ok (.aload_n 0, 1) := by decide +kernel
theorem dX11_readAll_176 : decode cX11_readAll 176 = .ok (.iload_n 1, 1) := by decide +kernel
theorem dX11_readAll_177 : decode cX11_readAll 177 = .ok (.putfield 131, 3) := by decide +kernel
theorem dX11_readAll_180 : decode cX11_readAll 180 = .ok (.aload_n 0, 1) := by decide +kernel
theorem dX11_readAll_181 : decode cX11_readAll 181 = .ok (.dup, 1) := by decide +kernel
theorem dX11_readAll_182 : decode cX11_readAll 182 = .ok (.getfield 77, 3) := by decide +kernel
theorem dX11_readAll_185 : decode cX11_readAll 185 = .ok (.iconst 1, 1) := by decide +kernel
theorem dX11_readAll_186 : decode cX11_readAll 186 = .ok (.iadd, 1) := by decide +kernel
theorem dX11_readAll_187 : decode cX11_readAll 187 = .ok (.putfield 77, 3) := by decide +kernel
theorem dX11_readAll_190 : decode cX11_readAll 190 = .ok (.aload_n 0, 1) := by decide +kernel
theorem dX11_readAll_191 : decode cX11_readAll 191 = .ok (.getfield 77, 3) := by decide +kernel
theorem dX11_readAll_194 : decode cX11_readAll 194 = .ok (.aload_n 0, 1) := by decide +kernel
theorem dX11_readAll_195 : decode cX11_readAll 195 = .ok (.getfield 80, 3) := by decide +kernel
theorem dX11_readAll_198 : decode cX11_readAll 198 = .ok (.if_icmp .eq 14, 3) := by decide +kernel
theorem dX11_readAll_201 : decode cX11_readAll 201 = .ok (.aload_n 0, 1) := by decide +kernel
theorem dX11_readAll_202 : decode cX11_readAll 202 = .ok (.aload_n 0, 1) := by decide +kernel
theorem dX11_readAll_203 : decode cX11_readAll 203 = .ok (.getfield 77, 3) := by decide +kernel
theorem dX11_readAll_206 : decode cX11_readAll 206 = .ok (.invokevirtual 87, 3) := by decide +kernel
theorem dX11_readAll_209 : decode cX11_readAll 209 = .ok (.ifCond .eq 7, 3) := by decide +kernel
theorem dX11_readAll_212 : decode cX11_readAll 212 = .ok (.iconst 1, 1) := by decide +kernel
theorem dX11_readAll_213 : decode cX11_readAll 213 = .ok (.goto 4, 3) := by decide +kernel
theorem dX11_readAll_216 : decode cX11_readAll 216 = .ok (.iconst 0, 1) := by decide +kernel
theorem dX11_readAll_217 : decode cX11_readAll 217 = .ok (.ireturn, 1) := by decide +kernel
def mp_X11_readAll_217 (K : Int32 → sm_S → Prop) (σ : sm_S) (y0 : Int32) : Prop := sm_z y0 ∧ K y0 σ
def mp_X11_readAll_212 (K : Int32 → sm_S → Prop) (σ : sm_S)  : Prop := mp_X11_readAll_217 K σ 1
def mp_X11_readAll_166 (K : Int32 → sm_S → Prop) (σ : sm_S)  : Prop := mp_X11_bad σ (σ.1 2) (fun r3 σ2 => sm_z r3 ∧ K r3 σ2)
def mp_X11_readAll_100 (K : Int32 → sm_S → Prop) : Nat → sm_S → Int32 → Prop
  | 0, _, _ => False
  | n100 + 1, σ, x1 => (((σ.1 6) ≤ x1 → (mp_X11_here σ (fun r7 σ6 => (((σ6.1 6) ≤ r7 → (mp_X11_readAll_166 K σ6)) ∧ (¬ (σ6.1 6) ≤ r7 → (vp_in r7 (σ6.2.2.1 11) ∧ ((¬ ((σ6.2.2.2.1 11) r7.toNatClampNeg) = (-1) → (mp_X11_readAll_166 K σ6)) ∧ (((σ6.2.2.2.1 11) r7.toNatClampNeg) = (-1) → (vp_in r7 (σ6.2.2.1 12) ∧ (((0 : Int32) < ((σ6.2.2.2.1 12) r7.toNatClampNeg) → (mp_X11_readAll_166 K σ6)) ∧ (¬ (0 : Int32) < ((σ6.2.2.2.1 12) r7.toNatClampNeg) → (vp_in r7 (σ6.2.2.1 14) ∧ ((((σ6.2.2.2.1 14) r7.toNatClampNeg) = (-1) → (∀ σ15 : sm_S, σ15 = sm_i σ6 8 r7 → ∀ σ16 : sm_S, σ16 = sm_i σ15 2 ((σ15.1 2) + 1) → (((σ16.1 2) = (σ16.1 1) → (mp_X11_readAll_212 K σ16)) ∧ (¬ (σ16.1 2) = (σ16.1 1) → (mp_X11_bad σ16 (σ16.1 2) (fun r19 σ18 => ((r19 = 0 → (mp_X11_readAll_217 K σ18 0)) ∧ (¬ r19 = 0 → (mp_X11_readAll_212 K σ18))))))))) ∧ (¬ ((σ6.2.2.2.1 14) r7.toNatClampNeg) = (-1) → (mp_X11_readAll_166 K σ6))))))))))))))) ∧ (¬ (σ.1 6) ≤ x1 → (False)))
def mp_X11_readAll_48 (K : Int32 → sm_S → Prop) : Nat → sm_S → Int32 → Prop
  | 0, _, _ => False
  | n48 + 1, σ, x1 => (((5 : Int32) ≤ x1 → (mp_X11_over σ 1 64 (fun r23 σ22 => ((¬ r23 = 0 → (mp_X11_last σ22 (fun r26 σ25 => ∀ σ27 : sm_S, σ27 = sm_i σ25 6 r26 → ∃ n100 : Nat, mp_X11_readAll_100 K n100 σ27 0))) ∧ (r23 = 0 → (K 0 σ22)))))) ∧ (¬ (5 : Int32) ≤ x1 → (mp_X11_overClass σ (fun r29 σ28 => ((¬ r29 = 0 → (mp_X11_last σ28 (fun r32 σ31 => vp_in x1 (σ31.2.2.1 10) ∧ ∀ σ34 : sm_S, σ34 = sm_r σ31 10 (upd (σ31.2.2.2.1 10) x1.toNatClampNeg r32) → ∀ v35 : Int32, v35 = x1 + 1 → (mp_X11_readAll_48 K n48) σ34 v35))) ∧ (r29 = 0 → (K 0 σ28)))))))
def mp_X11_readAll_22 (K : Int32 → sm_S → Prop) : Nat → sm_S → Int32 → Prop
  | 0, _, _ => False
  | n22 + 1, σ, x1 => (((σ.1 5) ≤ x1 → (∃ n48 : Nat, mp_X11_readAll_48 K n48 σ 0)) ∧ (¬ (σ.1 5) ≤ x1 → (False)))
/-- SteadyMachineModel$Image.readAll()Z -/
def mp_X11_readAll (σ : sm_S)  (K : Int32 → sm_S → Prop) : Prop := mp_X11_over σ 1 32 (fun r38 σ37 => ((¬ r38 = 0 → (mp_X11_last σ37 (fun r41 σ40 => ∀ σ42 : sm_S, σ42 = sm_i σ40 5 r41 → ∃ n22 : Nat, mp_X11_readAll_22 K n22 σ42 0))) ∧ (r38 = 0 → (K 0 σ37))))
def wp_X11_readAll : List Cond := .code yX11_readAll cX11_readAll 2 (some .boolean) :: (((((([.fieldLink RX11 77 "SteadyMachineModel$Image" "place" "I", .fieldLink RX11 125 "SteadyMachineModel$Image" "methods" "I", .fieldLink RX11 40 "SteadyMachineModel$Image" "owners" "[I", .fieldLink RX11 43 "SteadyMachineModel$Image" "parameterCounts" "[I", .fieldLink RX11 49 "SteadyMachineModel$Image" "gives" "[I", .fieldLink RX11 131 "SteadyMachineModel$Image" "first" "I", .fieldLink RX11 80 "SteadyMachineModel$Image" "size" "I", .fieldLink RX11 37 "SteadyMachineModel$Image" "throwns" "[I", .fieldLink RX11 91 "SteadyMachineModel$Image" "classes" "I"] ++ (wsV RX11 87 RX11 yX11_bad wp_X11_bad)) ++ (wsV RX11 83 RX11 yX11_here wp_X11_here)) ++ (wsV RX11 94 RX11 yX11_over wp_X11_over)) ++ (wsV RX11 98 RX11 yX11_last wp_X11_last)) ++ (wsV RX11 112 RX11 yX11_overClass wp_X11_overClass)) ++ wsX110)
theorem wg_X11_readAll_X11_bad_87 : GoodIn wp_X11_readAll (wsV RX11 87 RX11 yX11_bad wp_X11_bad) := goodIn_sub (fun w h => List.mem_cons_of_mem _ (List.mem_append_left _ (List.mem_append_left _ (List.mem_append_left _ (List.mem_append_left _ (List.mem_append_left _ (List.mem_append_right _ h))))))) (by decide +kernel)
theorem wg_X11_readAll_X11_here_83 : GoodIn wp_X11_readAll (wsV RX11 83 RX11 yX11_here wp_X11_here) := goodIn_sub (fun w h => List.mem_cons_of_mem _ (List.mem_append_left _ (List.mem_append_left _ (List.mem_append_left _ (List.mem_append_left _ (List.mem_append_right _ h)))))) (by decide +kernel)
theorem wg_X11_readAll_X11_over_94 : GoodIn wp_X11_readAll (wsV RX11 94 RX11 yX11_over wp_X11_over) := goodIn_sub (fun w h => List.mem_cons_of_mem _ (List.mem_append_left _ (List.mem_append_left _ (List.mem_append_left _ (List.mem_append_right _ h))))) (by decide +kernel)
theorem wg_X11_readAll_X11_last_98 : GoodIn wp_X11_readAll (wsV RX11 98 RX11 yX11_last wp_X11_last) := goodIn_sub (fun w h => List.mem_cons_of_mem _ (List.mem_append_left _ (List.mem_append_left _ (List.mem_append_right _ h)))) (by decide +kernel)
theorem wg_X11_readAll_X11_overClass_112 : GoodIn wp_X11_readAll (wsV RX11 112 RX11 yX11_overClass wp_X11_overClass) := goodIn_sub (fun w h => List.mem_cons_of_mem _ (List.mem_append_left _ (List.mem_append_right _ h))) (by decide +kernel)
theorem wi_X11_readAll_X11 : ∀ w ∈ wsX110, w ∈ wp_X11_readAll := fun w h => List.mem_cons_of_mem _ (List.mem_append_right _ h)
set_option maxHeartbeats 4000000 in
set_option maxRecDepth 100000 in
theorem c_X11_readAll (l : Launch) (D : va_G) (sz t0 : Nat) (σ : sm_S) (α : sm_A) (K : Int32 → sm_S → Prop) (hF : mp_X11_readAll σ K) : Met l yX11_readAll wp_X11_readAll { frames := 3, cells := 0, slots := 0, locals := 63 } (sm_P sm_wM sm_tM 40 D sz t0 σ α [.ref (α.1 0)]) (va_Qi K (sm_B sm_wM D α) (sm_a α 40 sz)) 0 0 (sm_a α 40 sz) := by
  refine Met.ofW (cc := cX11_readAll) (maxL := 2) (ret := (some .boolean)) (by decide) rfl ?_
  intro p e s m args below meth c s₁ B hml hv
  obtain ⟨rfl, hsz, hP, hK, hD0, hE⟩ := hv
  have hx := B.exec
  have hb := B.bytes
  have hr := B.returns
  have hts := atoms_spec (ws := wp_X11_readAll) B.pre
  have hown : s.vm.findClass RX11 = some m.cls := findClass_of_methodNamed B.named
  have hlocks := B.notSynchronized
  subst hsz
  have hD : sm_D (sm_a α 40 s.heap.size) α 40 := hD0.own
  have hA : ∀ q : Nat, s.heap.size ≤ q → sm_a α 40 s.heap.size q := fun q h => Or.inr h
  generalize hAe : sm_a α 40 s.heap.size = A at hD hA hE ⊢
  have hS : va_S A s.heap s.heap [] := va_S.rf
  have in_X11 : ∀ w ∈ wsX110, w ∈ wp_X11_readAll := wi_X11_readAll_X11
  have k_0 := hts (.fieldLink RX11 77 "SteadyMachineModel$Image" "place" "I") (by decide +kernel)
  have k_1 := hts (.fieldLink RX11 125 "SteadyMachineModel$Image" "methods" "I") (by decide +kernel)
  have k_2 := hts (.fieldLink RX11 40 "SteadyMachineModel$Image" "owners" "[I") (by decide +kernel)
  have k_3 := hts (.fieldLink RX11 43 "SteadyMachineModel$Image" "parameterCounts" "[I") (by decide +kernel)
  have k_4 := hts (.fieldLink RX11 49 "SteadyMachineModel$Image" "gives" "[I") (by decide +kernel)
  have k_5 := hts (.fieldLink RX11 131 "SteadyMachineModel$Image" "first" "I") (by decide +kernel)
  have k_6 := hts (.fieldLink RX11 80 "SteadyMachineModel$Image" "size" "I") (by decide +kernel)
  have k_7 := hts (.fieldLink RX11 37 "SteadyMachineModel$Image" "throwns" "[I") (by decide +kernel)
  have k_8 := hts (.fieldLink RX11 91 "SteadyMachineModel$Image" "classes" "I") (by decide +kernel)
  have hl := lv_entry ([.ref (α.1 0)]) (n := 2) (Nat.le_of_ble_eq_true rfl)
  rw [lg_entry_eq]
  generalize (lg_sl ([.ref (α.1 0)]) ++ List.replicate (2 - (lg_sl ([.ref (α.1 0)])).length) Slot.unset).toArray = ls at hl ⊢
  have hl : lv_has ls 2 [(0, .ref (α.1 0))] := hl
  have B217 : ∀ (σ : sm_S) (y0 : Int32), mp_X11_readAll_217 K σ y0 → sm_J p l e (headSpec wp_X11_readAll { frames := 3, cells := 0, slots := 0, locals := 63 }).room s m ([.ref (α.1 0)] : List Value).toArray below meth c (MQ below (va_Qi K (sm_B sm_wM D α) A) ([.ref (α.1 0)] : List Value).toArray s 0 0 A) D A 2 (sm_wM σ α) 217 [] [.int y0] := by
    intro σ y0 hF H locs ls hP hS hl
    unfold mp_X11_readAll_217 at hF
    obtain ⟨h1, hF⟩ := hF
    exact W.zret (v := y0) hx hb hr h1.1 (fun t ht hW => ⟨⟨y0, σ, rfl, hF, (by unfold sm_B; rw [ht]; exact hP)⟩, hS.F ht⟩) hS.2.2 dX11_readAll_217
  have B212 : ∀ (σ : sm_S), mp_X11_readAll_212 K σ → sm_J p l e (headSpec wp_X11_readAll { frames := 3, cells := 0, slots := 0, locals := 63 }).room s m ([.ref (α.1 0)] : List Value).toArray below meth c (MQ below (va_Qi K (sm_B sm_wM D α) A) ([.ref (α.1 0)] : List Value).toArray s 0 0 A) D A 2 (sm_wM σ α) 212 [] [] := by
    intro σ hF H locs ls hP hS hl
    unfold mp_X11_readAll_212 at hF
    refine lv_iconst (v := 1) hx hb dX11_readAll_212 (by decide) ?_
    refine lv_goto (tgt := 217) hx hb dX11_readAll_213 (by decide) ?_
    exact B217 σ 1 hF H locs ls hP hS (lv_sub hl [] rfl)
  have B166 : ∀ (σ : sm_S), mp_X11_readAll_166 K σ → sm_J p l e (headSpec wp_X11_readAll { frames := 3, cells := 0, slots := 0, locals := 63 }).room s m ([.ref (α.1 0)] : List Value).toArray below meth c (MQ below (va_Qi K (sm_B sm_wM D α) A) ([.ref (α.1 0)] : List Value).toArray s 0 0 A) D A 2 (sm_wM σ α) 166 [(0, .ref (α.1 0))] [] := by
    intro σ hF H locs ls hP hS hl
    unfold mp_X11_readAll_166 at hF
    refine lv_aload_n hx hb dX11_readAll_166 rfl (lv_at hl 0 rfl) ?_
    refine lv_aload_n hx hb dX11_readAll_167 rfl (lv_at hl 0 rfl) ?_
    refine va_get (D := D) (ci := 11) (v := .int (σ.1 2)) (C := RX11) (T := TX11) (N := 28) hx hb hts in_X11 hown hK hP 0 (sm_gX11 σ α) rfl 5 (by decide) k_0 (fun _ h9 => h9) rfl dX11_readAll_168 ?_
    refine sm_vi (As := [.int (σ.1 2)]) (rest := []) hP hK hD hE hS hA ⟨hx, hb, hml, hown, hts⟩ hl.1 (c_X11_bad l D H.size t0 σ α (σ.1 2) _ hF) (cwV 1 hts wg_X11_readAll_X11_bad_87 rfl rfl rfl (by decide +kernel) ⟨Nat.le_of_ble_eq_true rfl, Nat.le_of_ble_eq_true rfl⟩) (va_recv hK hP (ci := 11) (q0 := 0) rfl (sm_gX11 σ α)) rfl rfl (Nat.le_of_ble_eq_true rfl) dX11_readAll_171 ⟨Nat.zero_le _, Nat.zero_le _⟩ (fun r3 σ2 H locs hF hP hS => ?_)
    obtain ⟨h4, hF⟩ := hF
    exact W.zret (v := r3) hx hb hr h4.1 (fun t ht hW => ⟨⟨r3, σ2, rfl, hF, (by unfold sm_B; rw [ht]; exact hP)⟩, hS.F ht⟩) hS.2.2 dX11_readAll_174
  have B100 : ∀ (n : Nat) (σ : sm_S) (x1 : Int32), mp_X11_readAll_100 K n σ x1 → sm_J p l e (headSpec wp_X11_readAll { frames := 3, cells := 0, slots := 0, locals := 63 }).room s m ([.ref (α.1 0)] : List Value).toArray below meth c (MQ below (va_Qi K (sm_B sm_wM D α) A) ([.ref (α.1 0)] : List Value).toArray s 0 0 A) D A 2 (sm_wM σ α) 100 [(0, .ref (α.1 0)), (1, .int x1)] [] := by
    intro n100
    induction n100 with
    | zero =>
      intro σ x1 hF
      exact hF.elim
    | succ n100 ih100 =>
      intro σ x1 hF H locs ls hP hS hl
      unfold mp_X11_readAll_100 at hF
      refine lv_iload_n hx hb dX11_readAll_100 rfl (lv_at hl 1 rfl) ?_
      refine lv_aload_n hx hb dX11_readAll_101 rfl (lv_at hl 0 rfl) ?_
      refine va_get (D := D) (ci := 11) (v := .int (σ.1 6)) (C := RX11) (T := TX11) (N := 28) hx hb hts in_X11 hown hK hP 0 (sm_gX11 σ α) rfl 15 (by decide) k_1 (fun _ h9 => h9) rfl dX11_readAll_102 ?_
      refine lv_icmp_ge (tgt := 124) hx hb dX11_readAll_105 (by decide) (fun h5 => ?_) (fun h5 => ?_)
      · replace hF := hF.1 h5
        refine lv_aload_n hx hb dX11_readAll_124 rfl (lv_at hl 0 rfl) ?_
        refine sm_vi (As := []) (rest := []) hP hK hD hE hS hA ⟨hx, hb, hml, hown, hts⟩ hl.1 (c_X11_here l D H.size t0 σ α _ hF) (cwV 0 hts wg_X11_readAll_X11_here_83 rfl rfl rfl (by decide +kernel) ⟨Nat.le_of_ble_eq_true rfl, Nat.le_of_ble_eq_true rfl⟩) (va_recv hK hP (ci := 11) (q0 := 0) rfl (sm_gX11 σ α)) rfl rfl (Nat.le_of_ble_eq_true rfl) dX11_readAll_125 ⟨Nat.zero_le _, Nat.zero_le _⟩ (fun r7 σ6 H locs hF hP hS => ?_)
        refine lv_istore_n (lv' := [(1, .int r7), (0, .ref (α.1 0))]) hx hb dX11_readAll_128 rfl hl (by decide) rfl (fun ls hl => ?_)
        refine lv_iload_n hx hb dX11_readAll_129 rfl (lv_at hl 0 rfl) ?_
        refine lv_aload_n hx hb dX11_readAll_130 rfl (lv_at hl 1 rfl) ?_
        refine va_get (D := D) (ci := 11) (v := .int (σ6.1 6)) (C := RX11) (T := TX11) (N := 28) hx hb hts in_X11 hown hK hP 0 (sm_gX11 σ6 α) rfl 15 (by decide) k_1 (fun _ h9 => h9) rfl dX11_readAll_131 ?_
        refine lv_icmp_ge (tgt := 166) hx hb dX11_readAll_134 (by decide) (fun h8 => ?_) (fun h8 => ?_)
        · replace hF := hF.1 h8
          exact B166 σ6 hF H locs ls hP hS (lv_sub hl [1] rfl)
        · replace hF := hF.2 h8
          refine lv_aload_n hx hb dX11_readAll_137 rfl (lv_at hl 1 rfl) ?_
          refine va_get (D := D) (ci := 11) (v := .ref (α.1 11)) (C := RX11) (T := TX11) (N := 28) hx hb hts in_X11 hown hK hP 0 (sm_gX11 σ6 α) rfl 16 (by decide) k_2 (fun _ h9 => h9) rfl dX11_readAll_138 ?_
          refine lv_iload_n hx hb dX11_readAll_141 rfl (lv_at hl 0 rfl) ?_
          obtain ⟨h9, hF⟩ := hF
          refine va_iald (n := (σ6.2.2.1 11)) (f := (σ6.2.2.2.1 11)) hx hb hK hP 11 9 (sm_aM11 σ6 α) (sm_yM11 α) h9 dX11_readAll_142 ?_
          refine lv_iconst (v := -1) hx hb dX11_readAll_143 (by decide) ?_
          refine lv_icmp_ne (tgt := 166) hx hb dX11_readAll_144 (by decide) (fun h10 => ?_) (fun h10 => ?_)
          · replace hF := hF.1 h10
            exact B166 σ6 hF H locs ls hP hS (lv_sub hl [1] rfl)
          · replace hF := hF.2 h10
            refine lv_aload_n hx hb dX11_readAll_147 rfl (lv_at hl 1 rfl) ?_
            refine va_get (D := D) (ci := 11) (v := .ref (α.1 12)) (C := RX11) (T := TX11) (N := 28) hx hb hts in_X11 hown hK hP 0 (sm_gX11 σ6 α) rfl 17 (by decide) k_3 (fun _ h9 => h9) rfl dX11_readAll_148 ?_
            refine lv_iload_n hx hb dX11_readAll_151 rfl (lv_at hl 0 rfl) ?_
            obtain ⟨h11, hF⟩ := hF
            refine va_iald (n := (σ6.2.2.1 12)) (f := (σ6.2.2.2.1 12)) hx hb hK hP 12 10 (sm_aM12 σ6 α) (sm_yM12 α) h11 dX11_readAll_152 ?_
            refine lv_if_gt (tgt := 166) hx hb dX11_readAll_153 (by decide) (fun h12 => ?_) (fun h12 => ?_)
            · replace hF := hF.1 h12
              exact B166 σ6 hF H locs ls hP hS (lv_sub hl [1] rfl)
            · replace hF := hF.2 h12
              refine lv_aload_n hx hb dX11_readAll_156 rfl (lv_at hl 1 rfl) ?_
              refine va_get (D := D) (ci := 11) (v := .ref (α.1 14)) (C := RX11) (T := TX11) (N := 28) hx hb hts in_X11 hown hK hP 0 (sm_gX11 σ6 α) rfl 19 (by decide) k_4 (fun _ h9 => h9) rfl dX11_readAll_157 ?_
              refine lv_iload_n hx hb dX11_readAll_160 rfl (lv_at hl 0 rfl) ?_
              obtain ⟨h13, hF⟩ := hF
              refine va_iald (n := (σ6.2.2.1 14)) (f := (σ6.2.2.2.1 14)) hx hb hK hP 14 12 (sm_aM14 σ6 α) (sm_yM14 α) h13 dX11_readAll_161 ?_
              refine lv_iconst (v := -1) hx hb dX11_readAll_162 (by decide) ?_
              refine lv_icmp_eq (tgt := 175) hx hb dX11_readAll_163 (by decide) (fun h14 => ?_) (fun h14 => ?_)
              · replace hF := hF.1 h14
                refine lv_aload_n hx hb dX11_readAll_175 rfl (lv_at hl 1 rfl) ?_
                refine lv_iload_n hx hb dX11_readAll_176 rfl (lv_at hl 0 rfl) ?_
                refine va_put (D := D) (ci := 11) (v := .int r7) (ty := .int) (C := RX11) (T := TX11) (N := 28) hx hb hts in_X11 tyX11 tyX11_ok nmX11 hown hK hP (hD.to (sm_wM_m _ _)) hS 0 (sm_gX11 σ6 α) rfl 27 (by decide) k_5 (fun _ h9 => h9) rfl (by decide +kernel) rfl rfl (Nat.le_of_ble_eq_true rfl) dX11_readAll_177 (fun H locs hP _ hS => ?_)
                rw [sm_iM8] at hP
                obtain ⟨σ15, eσ15⟩ : ∃ x : sm_S, x = sm_i σ6 8 r7 := ⟨_, rfl⟩
                replace hF := hF σ15 eσ15
                rw [← eσ15] at hP
                refine lv_aload_n hx hb dX11_readAll_180 rfl (lv_at hl 1 rfl) ?_
                refine lv_dup hx hb dX11_readAll_181 rfl ?_
                refine va_get (D := D) (ci := 11) (v := .int (σ15.1 2)) (C := RX11) (T := TX11) (N := 28) hx hb hts in_X11 hown hK hP 0 (sm_gX11 σ15 α) rfl 5 (by decide) k_0 (fun _ h9 => h9) rfl dX11_readAll_182 ?_
                refine lv_iconst (v := 1) hx hb dX11_readAll_185 (by decide) ?_
                refine lv_iadd hx hb dX11_readAll_186 ?_
                refine va_put (D := D) (ci := 11) (v := .int ((σ15.1 2) + 1)) (ty := .int) (C := RX11) (T := TX11) (N := 28) hx hb hts in_X11 tyX11 tyX11_ok nmX11 hown hK hP (hD.to (sm_wM_m _ _)) hS 0 (sm_gX11 σ15 α) rfl 5 (by decide) k_0 (fun _ h9 => h9) rfl (by decide +kernel) rfl rfl (Nat.le_of_ble_eq_true rfl) dX11_readAll_187 (fun H locs hP _ hS => ?_)
                rw [sm_iM2] at hP
                obtain ⟨σ16, eσ16⟩ : ∃ x : sm_S, x = sm_i σ15 2 ((σ15.1 2) + 1) := ⟨_, rfl⟩
                replace hF := hF σ16 eσ16
                rw [← eσ16] at hP
                refine lv_aload_n hx hb dX11_readAll_190 rfl (lv_at hl 1 rfl) ?_
                refine va_get (D := D) (ci := 11) (v := .int (σ16.1 2)) (C := RX11) (T := TX11) (N := 28) hx hb hts in_X11 hown hK hP 0 (sm_gX11 σ16 α) rfl 5 (by decide) k_0 (fun _ h9 => h9) rfl dX11_readAll_191 ?_
                refine lv_aload_n hx hb dX11_readAll_194 rfl (lv_at hl 1 rfl) ?_
                refine va_get (D := D) (ci := 11) (v := .int (σ16.1 1)) (C := RX11) (T := TX11) (N := 28) hx hb hts in_X11 hown hK hP 0 (sm_gX11 σ16 α) rfl 4 (by decide) k_6 (fun _ h9 => h9) rfl dX11_readAll_195 ?_
                refine lv_icmp_eq (tgt := 212) hx hb dX11_readAll_198 (by decide) (fun h17 => ?_) (fun h17 => ?_)
                · replace hF := hF.1 h17
                  exact B212 σ16 hF H locs ls hP hS (lv_sub hl [] rfl)
                · replace hF := hF.2 h17
                  refine lv_aload_n hx hb dX11_readAll_201 rfl (lv_at hl 1 rfl) ?_
                  refine lv_aload_n hx hb dX11_readAll_202 rfl (lv_at hl 1 rfl) ?_
                  refine va_get (D := D) (ci := 11) (v := .int (σ16.1 2)) (C := RX11) (T := TX11) (N := 28) hx hb hts in_X11 hown hK hP 0 (sm_gX11 σ16 α) rfl 5 (by decide) k_0 (fun _ h9 => h9) rfl dX11_readAll_203 ?_
                  refine sm_vi (As := [.int (σ16.1 2)]) (rest := []) hP hK hD hE hS hA ⟨hx, hb, hml, hown, hts⟩ hl.1 (c_X11_bad l D H.size t0 σ16 α (σ16.1 2) _ hF) (cwV 1 hts wg_X11_readAll_X11_bad_87 rfl rfl rfl (by decide +kernel) ⟨Nat.le_of_ble_eq_true rfl, Nat.le_of_ble_eq_true rfl⟩) (va_recv hK hP (ci := 11) (q0 := 0) rfl (sm_gX11 σ16 α)) rfl rfl (Nat.le_of_ble_eq_true rfl) dX11_readAll_206 ⟨Nat.zero_le _, Nat.zero_le _⟩ (fun r19 σ18 H locs hF hP hS => ?_)
                  refine lv_if_eq (tgt := 216) hx hb dX11_readAll_209 (by decide) (fun h20 => ?_) (fun h20 => ?_)
                  · replace hF := hF.1 h20
                    refine lv_iconst (v := 0) hx hb dX11_readAll_216 (by decide) ?_
                    exact B217 σ18 0 hF H locs ls hP hS (lv_sub hl [] rfl)
                  · replace hF := hF.2 h20
                    exact B212 σ18 hF H locs ls hP hS (lv_sub hl [] rfl)
              · replace hF := hF.2 h14
                exact B166 σ6 hF H locs ls hP hS (lv_sub hl [1] rfl)
      · replace hF := hF.2 h5
        refine lv_aload_n hx hb dX11_readAll_108 rfl (lv_at hl 0 rfl) ?_
        refine lv_iload_n hx hb dX11_readAll_109 rfl (lv_at hl 1 rfl) ?_
        exact hF.elim
  have B48 : ∀ (n : Nat) (σ : sm_S) (x1 : Int32), mp_X11_readAll_48 K n σ x1 → sm_J p l e (headSpec wp_X11_readAll { frames := 3, cells := 0, slots := 0, locals := 63 }).room s m ([.ref (α.1 0)] : List Value).toArray below meth c (MQ below (va_Qi K (sm_B sm_wM D α) A) ([.ref (α.1 0)] : List Value).toArray s 0 0 A) D A 2 (sm_wM σ α) 48 [(0, .ref (α.1 0)), (1, .int x1)] [] := by
    intro n48
    induction n48 with
    | zero =>
      intro σ x1 hF
      exact hF.elim
    | succ n48 ih48 =>
      intro σ x1 hF H locs ls hP hS hl
      unfold mp_X11_readAll_48 at hF
      refine lv_iload_n hx hb dX11_readAll_48 rfl (lv_at hl 1 rfl) ?_
      refine lv_iconst (v := 5) hx hb dX11_readAll_49 (by decide) ?_
      refine lv_icmp_ge (tgt := 78) hx hb dX11_readAll_50 (by decide) (fun h21 => ?_) (fun h21 => ?_)
      · replace hF := hF.1 h21
        refine lv_aload_n hx hb dX11_readAll_78 rfl (lv_at hl 0 rfl) ?_
        refine lv_iconst (v := 1) hx hb dX11_readAll_79 (by decide) ?_
        refine lv_bipush (v := 64) hx hb dX11_readAll_80 (by decide) ?_
        refine sm_vi (As := [.int 1, .int 64]) (rest := []) hP hK hD hE hS hA ⟨hx, hb, hml, hown, hts⟩ hl.1 (c_X11_over l D H.size t0 σ α 1 64 _ hF) (cwV 2 hts wg_X11_readAll_X11_over_94 rfl rfl rfl (by decide +kernel) ⟨Nat.le_of_ble_eq_true rfl, Nat.le_of_ble_eq_true rfl⟩) (va_recv hK hP (ci := 11) (q0 := 0) rfl (sm_gX11 σ α)) rfl rfl (Nat.le_of_ble_eq_true rfl) dX11_readAll_82 ⟨Nat.zero_le _, Nat.zero_le _⟩ (fun r23 σ22 H locs hF hP hS => ?_)
        refine lv_if_ne (tgt := 90) hx hb dX11_readAll_85 (by decide) (fun h24 => ?_) (fun h24 => ?_)
        · replace hF := hF.1 h24
          refine lv_aload_n hx hb dX11_readAll_90 rfl (lv_at hl 0 rfl) ?_
          refine lv_aload_n hx hb dX11_readAll_91 rfl (lv_at hl 0 rfl) ?_
          refine sm_vi (As := []) (rest := [.ref (α.1 0)]) hP hK hD hE hS hA ⟨hx, hb, hml, hown, hts⟩ hl.1 (c_X11_last l D H.size t0 σ22 α _ hF) (cwV 0 hts wg_X11_readAll_X11_last_98 rfl rfl rfl (by decide +kernel) ⟨Nat.le_of_ble_eq_true rfl, Nat.le_of_ble_eq_true rfl⟩) (va_recv hK hP (ci := 11) (q0 := 0) rfl (sm_gX11 σ22 α)) rfl rfl (Nat.le_of_ble_eq_true rfl) dX11_readAll_92 ⟨Nat.zero_le _, Nat.zero_le _⟩ (fun r26 σ25 H locs hF hP hS => ?_)
          refine va_put (D := D) (ci := 11) (v := .int r26) (ty := .int) (C := RX11) (T := TX11) (N := 28) hx hb hts in_X11 tyX11 tyX11_ok nmX11 hown hK hP (hD.to (sm_wM_m _ _)) hS 0 (sm_gX11 σ25 α) rfl 15 (by decide) k_1 (fun _ h9 => h9) rfl (by decide +kernel) rfl rfl (Nat.le_of_ble_eq_true rfl) dX11_readAll_95 (fun H locs hP _ hS => ?_)
          rw [sm_iM6] at hP
          obtain ⟨σ27, eσ27⟩ : ∃ x : sm_S, x = sm_i σ25 6 r26 := ⟨_, rfl⟩
          replace hF := hF σ27 eσ27
          rw [← eσ27] at hP
          refine lv_iconst (v := 0) hx hb dX11_readAll_98 (by decide) ?_
          refine lv_istore_n (lv' := [(1, .int 0), (0, .ref (α.1 0))]) hx hb dX11_readAll_99 rfl hl (by decide) rfl (fun ls hl => ?_)
          obtain ⟨n100, hF⟩ := hF
          exact B100 n100 σ27 0 hF H locs ls hP hS (lv_sub hl [1, 0] rfl)
        · replace hF := hF.2 h24
          refine lv_iconst (v := 0) hx hb dX11_readAll_88 (by decide) ?_
          exact W.zret (v := 0) hx hb hr sm_z0.1 (fun t ht hW => ⟨⟨0, σ22, rfl, hF, (by unfold sm_B; rw [ht]; exact hP)⟩, hS.F ht⟩) hS.2.2 dX11_readAll_89
      · replace hF := hF.2 h21
        refine lv_aload_n hx hb dX11_readAll_53 rfl (lv_at hl 0 rfl) ?_
        refine sm_vi (As := []) (rest := []) hP hK hD hE hS hA ⟨hx, hb, hml, hown, hts⟩ hl.1 (c_X11_overClass l D H.size t0 σ α _ hF) (cwV 0 hts wg_X11_readAll_X11_overClass_112 rfl rfl rfl (by decide +kernel) ⟨Nat.le_of_ble_eq_true rfl, Nat.le_of_ble_eq_true rfl⟩) (va_recv hK hP (ci := 11) (q0 := 0) rfl (sm_gX11 σ α)) rfl rfl (Nat.le_of_ble_eq_true rfl) dX11_readAll_54 ⟨Nat.zero_le _, Nat.zero_le _⟩ (fun r29 σ28 H locs hF hP hS => ?_)
        refine lv_if_ne (tgt := 62) hx hb dX11_readAll_57 (by decide) (fun h30 => ?_) (fun h30 => ?_)
        · replace hF := hF.1 h30
          refine lv_aload_n hx hb dX11_readAll_62 rfl (lv_at hl 0 rfl) ?_
          refine va_get (D := D) (ci := 11) (v := .ref (α.1 10)) (C := RX11) (T := TX11) (N := 28) hx hb hts in_X11 hown hK hP 0 (sm_gX11 σ28 α) rfl 14 (by decide) k_7 (fun _ h9 => h9) rfl dX11_readAll_63 ?_
          refine lv_iload_n hx hb dX11_readAll_66 rfl (lv_at hl 1 rfl) ?_
          refine lv_aload_n hx hb dX11_readAll_67 rfl (lv_at hl 0 rfl) ?_
          refine sm_vi (As := []) (rest := [.int x1, .ref (α.1 10)]) hP hK hD hE hS hA ⟨hx, hb, hml, hown, hts⟩ hl.1 (c_X11_last l D H.size t0 σ28 α _ hF) (cwV 0 hts wg_X11_readAll_X11_last_98 rfl rfl rfl (by decide +kernel) ⟨Nat.le_of_ble_eq_true rfl, Nat.le_of_ble_eq_true rfl⟩) (va_recv hK hP (ci := 11) (q0 := 0) rfl (sm_gX11 σ28 α)) rfl rfl (Nat.le_of_ble_eq_true rfl) dX11_readAll_68 ⟨Nat.zero_le _, Nat.zero_le _⟩ (fun r32 σ31 H locs hF hP hS => ?_)
          obtain ⟨h33, hF⟩ := hF
          refine va_iast (n := (σ31.2.2.1 10)) (f := (σ31.2.2.2.1 10)) (x := r32) hx hb hK hP (hD.to (sm_wM_m _ _)) hS 10 8 (sm_aM10 σ31 α) (sm_yM10 α) h33 dX11_readAll_71 (fun H locs hP _ hS => ?_)
          rw [sm_rM10] at hP
          obtain ⟨σ34, eσ34⟩ : ∃ x : sm_S, x = sm_r σ31 10 (upd (σ31.2.2.2.1 10) x1.toNatClampNeg r32) := ⟨_, rfl⟩
          replace hF := hF σ34 eσ34
          rw [← eσ34] at hP
          obtain ⟨v35, ev35⟩ : ∃ y : Int32, y = x1 + 1 := ⟨_, rfl⟩
          replace hF := hF v35 ev35
          refine lv_iinc (v := v35) (lv' := [(1, .int v35), (0, .ref (α.1 0))]) hx hb dX11_readAll_72 hl (k := 1) rfl (by rw [ev35]; rfl) (by decide) rfl (fun ls hl => ?_)
          refine lv_goto (tgt := 48) hx hb dX11_readAll_75 (by decide) ?_
          exact ih48 σ34 v35 hF H locs ls hP hS (lv_sub hl [1, 0] rfl)
        · replace hF := hF.2 h30
          refine lv_iconst (v := 0) hx hb dX11_readAll_60 (by decide) ?_
          exact W.zret (v := 0) hx hb hr sm_z0.1 (fun t ht hW => ⟨⟨0, σ28, rfl, hF, (by unfold sm_B; rw [ht]; exact hP)⟩, hS.F ht⟩) hS.2.2 dX11_readAll_61
  have B22 : ∀ (n : Nat) (σ : sm_S) (x1 : Int32), mp_X11_readAll_22 K n σ x1 → sm_J p l e (headSpec wp_X11_readAll { frames := 3, cells := 0, slots := 0, locals := 63 }).room s m ([.ref (α.1 0)] : List Value).toArray below meth c (MQ below (va_Qi K (sm_B sm_wM D α) A) ([.ref (α.1 0)] : List Value).toArray s 0 0 A) D A 2 (sm_wM σ α) 22 [(0, .ref (α.1 0)), (1, .int x1)] [] := by
    intro n22
    induction n22 with
    | zero =>
      intro σ x1 hF
      exact hF.elim
    | succ n22 ih22 =>
      intro σ x1 hF H locs ls hP hS hl
      unfold mp_X11_readAll_22 at hF
      refine lv_iload_n hx hb dX11_readAll_22 rfl (lv_at hl 1 rfl) ?_
      refine lv_aload_n hx hb dX11_readAll_23 rfl (lv_at hl 0 rfl) ?_
      refine va_get (D := D) (ci := 11) (v := .int (σ.1 5)) (C := RX11) (T := TX11) (N := 28) hx hb hts in_X11 hown hK hP 0 (sm_gX11 σ α) rfl 8 (by decide) k_8 (fun _ h9 => h9) rfl dX11_readAll_24 ?_
      refine lv_icmp_ge (tgt := 46) hx hb dX11_readAll_27 (by decide) (fun h36 => ?_) (fun h36 => ?_)
      · replace hF := hF.1 h36
        refine lv_iconst (v := 0) hx hb dX11_readAll_46 (by decide) ?_
        refine lv_istore_n (lv' := [(1, .int 0), (0, .ref (α.1 0))]) hx hb dX11_readAll_47 rfl hl (by decide) rfl (fun ls hl => ?_)
        obtain ⟨n48, hF⟩ := hF
        exact B48 n48 σ 0 hF H locs ls hP hS (lv_sub hl [1, 0] rfl)
      · replace hF := hF.2 h36
        refine lv_aload_n hx hb dX11_readAll_30 rfl (lv_at hl 0 rfl) ?_
        refine lv_iload_n hx hb dX11_readAll_31 rfl (lv_at hl 1 rfl) ?_
        exact hF.elim
  unfold mp_X11_readAll at hF
  revert hP hS
  generalize hLo : ([] : List Loc) = locs
  suffices h9 : ∀ (H : Heap) (locs : List Loc), va_P D vwCl (sm_wM σ α) H → va_S A s.heap H locs → W p l e (headSpec wp_X11_readAll { frames := 3, cells := 0, slots := 0, locals := 63 }).room s m ([.ref (α.1 0)] : List Value).toArray below meth c H locs 0 0 (MQ below (va_Qi K (sm_B sm_wM D α) A) ([.ref (α.1 0)] : List Value).toArray s 0 0 A) (F0 m 0 ls []) from fun hP hS => h9 s.heap locs hP hS
  intro H locs hP hS
  refine lv_aload_n hx hb dX11_readAll_0 rfl (lv_at hl 0 rfl) ?_
  refine lv_iconst (v := 1) hx hb dX11_readAll_1 (by decide) ?_
  refine lv_bipush (v := 32) hx hb dX11_readAll_2 (by decide) ?_
  refine sm_vi (As := [.int 1, .int 32]) (rest := []) hP hK hD hE hS hA ⟨hx, hb, hml, hown, hts⟩ hl.1 (c_X11_over l D H.size t0 σ α 1 32 _ hF) (cwV 2 hts wg_X11_readAll_X11_over_94 rfl rfl rfl (by decide +kernel) ⟨Nat.le_of_ble_eq_true rfl, Nat.le_of_ble_eq_true rfl⟩) (va_recv hK hP (ci := 11) (q0 := 0) rfl (sm_gX11 σ α)) rfl rfl (Nat.le_of_ble_eq_true rfl) dX11_readAll_4 ⟨Nat.zero_le _, Nat.zero_le _⟩ (fun r38 σ37 H locs hF hP hS => ?_)
  refine lv_if_ne (tgt := 12) hx hb dX11_readAll_7 (by decide) (fun h39 => ?_) (fun h39 => ?_)
  · replace hF := hF.1 h39
    refine lv_aload_n hx hb dX11_readAll_12 rfl (lv_at hl 0 rfl) ?_
    refine lv_aload_n hx hb dX11_readAll_13 rfl (lv_at hl 0 rfl) ?_
    refine sm_vi (As := []) (rest := [.ref (α.1 0)]) hP hK hD hE hS hA ⟨hx, hb, hml, hown, hts⟩ hl.1 (c_X11_last l D H.size t0 σ37 α _ hF) (cwV 0 hts wg_X11_readAll_X11_last_98 rfl rfl rfl (by decide +kernel) ⟨Nat.le_of_ble_eq_true rfl, Nat.le_of_ble_eq_true rfl⟩) (va_recv hK hP (ci := 11) (q0 := 0) rfl (sm_gX11 σ37 α)) rfl rfl (Nat.le_of_ble_eq_true rfl) dX11_readAll_14 ⟨Nat.zero_le _, Nat.zero_le _⟩ (fun r41 σ40 H locs hF hP hS => ?_)
    refine va_put (D := D) (ci := 11) (v := .int r41) (ty := .int) (C := RX11) (T := TX11) (N := 28) hx hb hts in_X11 tyX11 tyX11_ok nmX11 hown hK hP (hD.to (sm_wM_m _ _)) hS 0 (sm_gX11 σ40 α) rfl 8 (by decide) k_8 (fun _ h9 => h9) rfl (by decide +kernel) rfl rfl (Nat.le_of_ble_eq_true rfl) dX11_readAll_17 (fun H locs hP _ hS => ?_)
    rw [sm_iM5] at hP
    obtain ⟨σ42, eσ42⟩ : ∃ x : sm_S, x = sm_i σ40 5 r41 := ⟨_, rfl⟩
    replace hF := hF σ42 eσ42
    rw [← eσ42] at hP
    refine lv_iconst (v := 0) hx hb dX11_readAll_20 (by decide) ?_
    refine lv_istore_n (lv' := [(1, .int 0), (0, .ref (α.1 0))]) hx hb dX11_readAll_21 rfl hl (by decide) rfl (fun ls hl => ?_)
    obtain ⟨n22, hF⟩ := hF
    exact B22 n22 σ42 0 hF H locs ls hP hS (lv_sub hl [1, 0] rfl)
  · replace hF := hF.2 h39
    refine lv_iconst (v := 0) hx hb dX11_readAll_10 (by decide) ?_
    exact W.zret (v := 0) hx hb hr sm_z0.1 (fun t ht hW => ⟨⟨0, σ37, rfl, hF, (by unfold sm_B; rw [ht]; exact hP)⟩, hS.F ht⟩) hS.2.2 dX11_readAll_11
theorem dX11_end_0 : decode cX11_end 0 = .ok (.iload_n 1, 1) := by decide +kernel
theorem dX11_end_1 : decode cX11_end 1 = .ok (.ifCond .lt 11, 3) := by decide +kernel
theorem dX11_end_4 : decode cX11_end 4 = .ok (.iload_n 1, 1) := by decide +kernel
theorem dX11_end_5 : decode cX11_end 5 = .ok (.aload_n 0, 1) := by decide +kernel
theorem dX11_end_6 : decode cX11_end 6 = .ok (.getfield 70, 3) := by decide +kernel
theorem dX11_end_9 : decode cX11_end 9 = .ok (.if_icmp .le 10, 3) := by decide +kernel
theorem dX11_end_12 : decode cX11_end 12 = .ok (.aload_n 0, 1) := by decide +kernel
theorem dX11_end_13 : decode cX11_end 13 = .ok (.iconst 0, 1) := by decide +kernel
theorem dX11_end_14 : decode cX11_end 14 = .ok (.putfield 70, 3) := by decide +kernel
theorem dX11_end_17 : decode cX11_end 17 = .ok (.iconst (-1), 1) := by decide +kernel
theorem dX11_end_18 : decode cX11_end 18 = .ok (.ireturn, 1) := by decide +kernel
theorem dX11_end_19 : decode cX11_end 19 = .ok (.aload_n 0, 1) := by decide +kernel
theorem dX11_end_20 : decode cX11_end 20 = .ok (.iload_n 1, 1) := by decide +kernel
theorem dX11_end_21 : decode cX11_end 21 = .ok (.putfield 80, 3) := by decide +kernel
theorem dX11_end_24 : decode cX11_end 24 = .ok (.iconst 0, 1) := by decide +kernel
theorem dX11_end_25 : decode cX11_end 25 = .ok (.istore_n 2, 1) := by decide +kernel
theorem dX11_end_26 : decode cX11_end 26 = .ok (.iload_n 2, 1) := by decide +kernel
theorem dX11_end_27 : decode cX11_end 27 = .ok (.iload_n 1, 1) := by decide +kernel
theorem dX11_end_28 : decode cX11_end 28 = .ok (.if_icmp .ge 28, 3) := by decide +kernel
theorem dX11_end_31 : decode cX11_end 31 = .ok (.aload_n 0, 1) := by decide +kernel
theorem dX11_end_32 : decode cX11_end 32 = .ok (.getfield 15, 3) := by decide +kernel
theorem dX11_end_35 : decode cX11_end 35 = .ok (.iload_n 2, 1) := by decide +kernel
theorem dX11_end_36 : decode cX11_end 36 = .ok (.aload_n 0, 1) := by decide +kernel
theorem dX11_end_37 : decode cX11_end 37 = .ok (.getfield 11, 3) := by decide +kernel
theorem dX11_end_40 : decode cX11_end 40 = .ok (.iload_n 2, 1) := by decide +kernel
theorem dX11_end_41 : decode cX11_end 41 = .ok (.iaload, 1) := by decide +kernel
theorem dX11_end_42 : decode cX11_end 42 = .ok (.iastore, 1) := by decide +kernel
theorem dX11_end_43 : decode cX11_end 43 = .ok (.aload_n 0, 1) := by decide +kernel
theorem dX11_end_44 : decode cX11_end 44 = .ok (.getfield 18, 3) := by decide +kernel
theorem dX11_end_47 : decode cX11_end 47 = .ok (.iload_n 2, 1) := by decide +kernel
theorem dX11_end_48 : decode cX11_end 48 = .ok (.iconst 0, 1) := by decide +kernel
theorem dX11_end_49 : decode cX11_end 49 = .ok (.bastore, 1) := by decide +kernel
theorem dX11_end_50 : decode cX11_end 50 = .ok (.iinc 2 1, 3) := by decide +kernel
theorem dX11_end_53 : decode cX11_end 53 = .ok (.goto (-27), 3) := by decide +kernel
theorem dX11_end_56 : decode cX11_end 56 = .ok (.aload_n 0, 1) := by decide +kernel
theorem dX11_end_57 : decode cX11_end 57 = .ok (.iconst 0, 1) := by decide +kernel
theorem dX11_end_58 : decode cX11_end 58 = .ok (.putfield 70, 3) := by decide +kernel
theorem dX11_end_61 : decode cX11_end 61 = .ok (.aload_n 0, 1) := by decide +kernel
theorem dX11_end_62 : decode cX11_end 62 = .ok (.iconst 0, 1) := by decide +kernel
theorem dX11_end_63 : decode cX11_end 63 = .ok (.putfield 77, 3) := by decide +kernel
theorem dX11_end_66 : decode cX11_end 66 = .ok (.aload_n 0, 1) := by decide +kernel
theorem dX11_end_67 : decode cX11_end 67 = .ok (.iconst (-1), 1) := by decide +kernel
theorem dX11_end_68 : decode cX11_end 68 = .ok (.putfield 74, 3) := by decide +kernel
theorem dX11_end_71 : decode cX11_end 71 = .ok (.aload_n 0, 1) := by decide +kernel
theorem dX11_end_72 : decode cX11_end 72 = .ok (.iconst 0, 1) := by decide +kernel
theorem dX11_end_73 : decode cX11_end 73 = .ok (.putfield 119, 3) := by decide +kernel
theorem dX11_end_76 : decode cX11_end 76 = .ok (.aload_n 0, 1) := by decide +kernel
theorem dX11_end_77 : decode cX11_end 77 = .ok (.iconst 0, 1) := by decide +kernel
theorem dX11_end_78 : decode cX11_end 78 = .ok (.putfield 144, 3) := by decide +kernel
theorem dX11_end_81 : decode cX11_end 81 = .ok (.aload_n 0, 1) := by decide +kernel
theorem dX11_end_82 : decode cX11_end 82 = .ok (.invokevirtual 148, 3) := by decide +kernel
theorem dX11_end_85 : decode cX11_end 85 = .ok (.ifCond .eq 28, 3) := by decide +kernel
theorem dX11_end_88 : decode cX11_end 88 = .ok (.aload_n 0, 1) := by decide +kernel
theorem dX11_end_89 : decode cX11_end 89 = .ok (.invokevirtual 151, 3) := by decide +kernel
theorem dX11_end_92 : decode cX11_end 92 = .ok (.iconst 0, 1) := by decide +kernel
theorem dX11_end_93 : decode cX11_end 93 = .ok (.istore_n 2, 1) := by decide +kernel
theorem dX11_end_94 : decode cX11_end 94 = .ok (.iload_n 2, 1) := by decide +kernel
theorem dX11_end_95 : decode cX11_end 95 = .ok (.aload_n 0, 1) := by decide +kernel
theorem dX11_end_96 : decode cX11_end 96 = .ok (.getfield 125, 3) := by decide +kernel
theorem dX11_end_99 : decode cX11_end 99 = .ok (.if_icmp .ge 14, 3) := by decide +kernel
theorem dX11_end_102 : decode cX11_end 102 = .ok (.aload_n 0, 1) := by decide +kernel
theorem dX11_end_103 : decode cX11_end 103 = .ok (.iload_n 2, 1) := by decide +kernel
theorem dX11_end_104 : decode cX11_end 104 = .ok (.invokevirtual 154, 3) := by decide +kernel
theorem dX11_end_107 : decode cX11_end 107 = .ok (.iinc 2 1, 3) := by decide +kernel
theorem dX11_end_110 : decode cX11_end 110 = .ok (.goto (-16), 3) := by decide +kernel
theorem dX11_end_113 : decode cX11_end 113 = .ok (.aload_n 0, 1) := by decide +kernel
theorem dX11_end_114 : decode cX11_end 114 = .ok (.aload_n 0, 1) := by decide +kernel
theorem dX11_end_115 : decode cX11_end 115 = .ok (.getfield 74, 3) := by decide +kernel
theorem dX11_end_118 : decode cX11_end 118 = .ok (.ifCond .ge 7, 3) := by decide +kernel
theorem dX11_end_121 : decode cX11_end 121 = .ok (.iconst 1, 1) := by decide +kernel
theorem dX11_end_122 : decode cX11_end 122 = .ok (.goto 4, 3) := by decide +kernel
theorem dX11_end_125 : decode cX11_end 125 = .ok (.iconst 0, 1) := by decide +kernel
theorem dX11_end_126 : decode cX11_end 126 = .ok (.putfield 144, 3) := by decide +kernel
theorem dX11_end_129 : decode cX11_end 129 = .ok (.aload_n 0, 1) := by decide +kernel
theorem dX11_end_130 : decode cX11_end 130 = .ok (.getfield 144, 3) := by decide +kernel
theorem dX11_end_133 : decode cX11_end 133 = .ok (.ifCond .eq 10, 3) := by decide +kernel
theorem dX11_end_136 : decode cX11_end 136 = .ok (.aload_n 0, 1) := by decide +kernel
theorem dX11_end_137 : decode cX11_end 137 = .ok (.getfield 119, 3) := by decide +kernel
theorem dX11_end_140 : decode cX11_end 140 = .ok (.goto 10, 3) := by decide +kernel
theorem dX11_end_143 : decode cX11_end 143 = .ok (.bipush (-3), 2) := by decide +kernel
theorem dX11_end_145 : decode cX11_end 145 = .ok (.aload_n 0, 1) := by decide +kernel
theorem dX11_end_146 : decode cX11_end 146 = .ok (.getfield 74, 3) := by decide +kernel
theorem dX11_end_149 : decode cX11_end 149 = .ok (.isub, 1) := by decide +kernel
theorem dX11_end_150 : decode cX11_end 150 = .ok (.ireturn, 1) := by decide +kernel
def mp_X11_end_150 (K : Int32 → sm_S → Prop) (σ : sm_S) (y0 : Int32) : Prop := K y0 σ
def mp_X11_end_126 (K : Int32 → sm_S → Prop) (σ : sm_S) (y1 : Int32) : Prop := sm_z y1 ∧ ∀ σ2 : sm_S, σ2 = sm_i σ 4 y1 → (((σ2.1 4) = 0 → (mp_X11_end_150 K σ2 ((-3) - (σ2.1 3)))) ∧ (¬ (σ2.1 4) = 0 → (mp_X11_end_150 K σ2 (σ2.1 7))))
def mp_X11_end_113 (K : Int32 → sm_S → Prop) (σ : sm_S)  : Prop := (((0 : Int32) ≤ (σ.1 3) → (mp_X11_end_126 K σ 0)) ∧ (¬ (0 : Int32) ≤ (σ.1 3) → (mp_X11_end_126 K σ 1)))
def mp_X11_end_94 (K : Int32 → sm_S → Prop) : Nat → sm_S → Int32 → Prop
  | 0, _, _ => False
  | n94 + 1, σ, x2 => (((σ.1 6) ≤ x2 → (mp_X11_end_113 K σ)) ∧ (¬ (σ.1 6) ≤ x2 → (False)))
def mp_X11_end_26 (K : Int32 → sm_S → Prop) : Nat → sm_S → Int32 → Int32 → Prop
  | 0, _, _, _ => False
  | n26 + 1, σ, x1, x2 => ((x1 ≤ x2 → (∀ σ7 : sm_S, σ7 = sm_i σ 0 0 → ∀ σ8 : sm_S, σ8 = sm_i σ7 2 0 → ∀ σ9 : sm_S, σ9 = sm_i σ8 3 (-1) → ∀ σ10 : sm_S, σ10 = sm_i σ9 7 0 → ∀ σ11 : sm_S, σ11 = sm_i σ10 4 0 → mp_X11_readAll σ11 (fun r13 σ12 => ((r13 = 0 → (mp_X11_end_113 K σ12)) ∧ (¬ r13 = 0 → (False)))))) ∧ (¬ x1 ≤ x2 → (vp_in x2 (σ.2.2.1 2) ∧ vp_in x2 (σ.2.2.1 3) ∧ ∀ σ17 : sm_S, σ17 = sm_r σ 3 (upd (σ.2.2.2.1 3) x2.toNatClampNeg ((σ.2.2.2.1 2) x2.toNatClampNeg)) → vp_in x2 (σ17.2.2.1 4) ∧ ∀ σ19 : sm_S, σ19 = sm_r σ17 4 (upd (σ17.2.2.2.1 4) x2.toNatClampNeg (vp_nar .boolean 0)) → ∀ v20 : Int32, v20 = x2 + 1 → (mp_X11_end_26 K n26) σ19 x1 v20)))
def mp_X11_end_12 (K : Int32 → sm_S → Prop) (σ : sm_S)  : Prop := ∀ σ21 : sm_S, σ21 = sm_i σ 0 0 → K (-1) σ21
/-- SteadyMachineModel$Image.end(I)I -/
def mp_X11_end (σ : sm_S) (p1 : Int32) (K : Int32 → sm_S → Prop) : Prop := ((p1 < 0 → (mp_X11_end_12 K σ)) ∧ (¬ p1 < 0 → ((p1 ≤ (σ.1 0) → (∀ σ24 : sm_S, σ24 = sm_i σ 1 p1 → ∃ n26 : Nat, mp_X11_end_26 K n26 σ24 p1 0)) ∧ (¬ p1 ≤ (σ.1 0) → (mp_X11_end_12 K σ)))))
def wp_X11_end : List Cond := .code yX11_end cX11_end 3 (some .int) :: (([.fieldLink RX11 144 "SteadyMachineModel$Image" "there" "Z", .fieldLink RX11 74 "SteadyMachineModel$Image" "wrong" "I", .fieldLink RX11 119 "SteadyMachineModel$Image" "instructions" "I", .fieldLink RX11 125 "SteadyMachineModel$Image" "methods" "I", .fieldLink RX11 70 "SteadyMachineModel$Image" "taped" "I", .fieldLink RX11 77 "SteadyMachineModel$Image" "place" "I", .fieldLink RX11 15 "SteadyMachineModel$Image" "image" "[I", .fieldLink RX11 11 "SteadyMachineModel$Image" "tape" "[I", .fieldLink RX11 18 "SteadyMachineModel$Image" "begins" "[Z", .fieldLink RX11 80 "SteadyMachineModel$Image" "size" "I"] ++ (wsV RX11 148 RX11 yX11_readAll wp_X11_readAll)) ++ wsX110)
theorem wg_X11_end_X11_readAll_148 : GoodIn wp_X11_end (wsV RX11 148 RX11 yX11_readAll wp_X11_readAll) := goodIn_sub (fun w h => List.mem_cons_of_mem _ (List.mem_append_left _ (List.mem_append_right _ h))) (by decide +kernel)
theorem wi_X11_end_X11 : ∀ w ∈ wsX110, w ∈ wp_X11_end := fun w h => List.mem_cons_of_mem _ (List.mem_append_right _ h)
set_option maxHeartbeats 4000000 in
set_option maxRecDepth 100000 in
theorem c_X11_end (l : Launch) (D : va_G) (sz t0 : Nat) (σ : sm_S) (α : sm_A) (p1 : Int32) (K : Int32 → sm_S → Prop) (hF : mp_X11_end σ p1 K) : Met l yX11_end wp_X11_end { frames := 4, cells := 0, slots := 0, locals := 84 } (sm_P sm_wM sm_tM 40 D sz t0 σ α [.ref (α.1 0), .int p1]) (va_Qi K (sm_B sm_wM D α) (sm_a α 40 sz)) 0 0 (sm_a α 40 sz) := by
  refine Met.ofW (cc := cX11_end) (maxL := 3) (ret := (some .int)) (by decide) rfl ?_
  intro p e s m args below meth c s₁ B hml hv
  obtain ⟨rfl, hsz, hP, hK, hD0, hE⟩ := hv
  have hx := B.exec
  have hb := B.bytes
  have hr := B.returns
  have hts := atoms_spec (ws := wp_X11_end) B.pre
  have hown : s.vm.findClass RX11 = some m.cls := findClass_of_methodNamed B.named
  have hlocks := B.notSynchronized
  subst hsz
  have hD : sm_D (sm_a α 40 s.heap.size) α 40 := hD0.own
  have hA : ∀ q : Nat, s.heap.size ≤ q → sm_a α 40 s.heap.size q := fun q h => Or.inr h
  generalize hAe : sm_a α 40 s.heap.size = A at hD hA hE ⊢
  have hS : va_S A s.heap s.heap [] := va_S.rf
  have in_X11 : ∀ w ∈ wsX110, w ∈ wp_X11_end := wi_X11_end_X11
  have k_0 := hts (.fieldLink RX11 144 "SteadyMachineModel$Image" "there" "Z") (by decide +kernel)
  have k_1 := hts (.fieldLink RX11 74 "SteadyMachineModel$Image" "wrong" "I") (by decide +kernel)
  have k_2 := hts (.fieldLink RX11 119 "SteadyMachineModel$Image" "instructions" "I") (by decide +kernel)
  have k_3 := hts (.fieldLink RX11 125 "SteadyMachineModel$Image" "methods" "I") (by decide +kernel)
  have k_4 := hts (.fieldLink RX11 70 "SteadyMachineModel$Image" "taped" "I") (by decide +kernel)
  have k_5 := hts (.fieldLink RX11 77 "SteadyMachineModel$Image" "place" "I") (by decide +kernel)
  have k_6 := hts (.fieldLink RX11 15 "SteadyMachineModel$Image" "image" "[I") (by decide +kernel)
  have k_7 := hts (.fieldLink RX11 11 "SteadyMachineModel$Image" "tape" "[I") (by decide +kernel)
  have k_8 := hts (.fieldLink RX11 18 "SteadyMachineModel$Image" "begins" "[Z") (by decide +kernel)
  have k_9 := hts (.fieldLink RX11 80 "SteadyMachineModel$Image" "size" "I") (by decide +kernel)
  have hl := lv_entry ([.ref (α.1 0), .int p1]) (n := 3) (Nat.le_of_ble_eq_true rfl)
  rw [lg_entry_eq]
  generalize (lg_sl ([.ref (α.1 0), .int p1]) ++ List.replicate (3 - (lg_sl ([.ref (α.1 0), .int p1])).length) Slot.unset).toArray = ls at hl ⊢
  have hl : lv_has ls 3 [(0, .ref (α.1 0)), (1, .int p1)] := hl
  have B150 : ∀ (σ : sm_S) (y0 : Int32), mp_X11_end_150 K σ y0 → sm_J p l e (headSpec wp_X11_end { frames := 4, cells := 0, slots := 0, locals := 84 }).room s m ([.ref (α.1 0), .int p1] : List Value).toArray below meth c (MQ below (va_Qi K (sm_B sm_wM D α) A) ([.ref (α.1 0), .int p1] : List Value).toArray s 0 0 A) D A 3 (sm_wM σ α) 150 [] [.int y0] := by
    intro σ y0 hF H locs ls hP hS hl
    unfold mp_X11_end_150 at hF
    exact W.iret (v := y0) hx hb hr (fun t ht hW => ⟨⟨y0, σ, rfl, hF, (by unfold sm_B; rw [ht]; exact hP)⟩, hS.F ht⟩) hS.2.2 dX11_end_150
  have B126 : ∀ (σ : sm_S) (y1 : Int32), mp_X11_end_126 K σ y1 → sm_J p l e (headSpec wp_X11_end { frames := 4, cells := 0, slots := 0, locals := 84 }).room s m ([.ref (α.1 0), .int p1] : List Value).toArray below meth c (MQ below (va_Qi K (sm_B sm_wM D α) A) ([.ref (α.1 0), .int p1] : List Value).toArray s 0 0 A) D A 3 (sm_wM σ α) 126 [(0, .ref (α.1 0))] [.int y1, .ref (α.1 0)] := by
    intro σ y1 hF H locs ls hP hS hl
    unfold mp_X11_end_126 at hF
    obtain ⟨h1, hF⟩ := hF
    refine va_put (D := D) (ci := 11) (v := .int y1) (ty := .boolean) (C := RX11) (T := TX11) (N := 28) hx hb hts in_X11 tyX11 tyX11_ok nmX11 hown hK hP (hD.to (sm_wM_m _ _)) hS 0 (sm_gX11 σ α) rfl 7 (by decide) k_0 (fun _ h9 => h9) rfl (by decide +kernel) h1.1 h1.2 (Nat.le_of_ble_eq_true rfl) dX11_end_126 (fun H locs hP _ hS => ?_)
    rw [sm_iM4] at hP
    obtain ⟨σ2, eσ2⟩ : ∃ x : sm_S, x = sm_i σ 4 y1 := ⟨_, rfl⟩
    replace hF := hF σ2 eσ2
    rw [← eσ2] at hP
    refine lv_aload_n hx hb dX11_end_129 rfl (lv_at hl 0 rfl) ?_
    refine va_get (D := D) (ci := 11) (v := .int (σ2.1 4)) (C := RX11) (T := TX11) (N := 28) hx hb hts in_X11 hown hK hP 0 (sm_gX11 σ2 α) rfl 7 (by decide) k_0 (fun _ h9 => h9) rfl dX11_end_130 ?_
    refine lv_if_eq (tgt := 143) hx hb dX11_end_133 (by decide) (fun h3 => ?_) (fun h3 => ?_)
    · replace hF := hF.1 h3
      refine lv_bipush (v := -3) hx hb dX11_end_143 (by decide) ?_
      refine lv_aload_n hx hb dX11_end_145 rfl (lv_at hl 0 rfl) ?_
      refine va_get (D := D) (ci := 11) (v := .int (σ2.1 3)) (C := RX11) (T := TX11) (N := 28) hx hb hts in_X11 hown hK hP 0 (sm_gX11 σ2 α) rfl 6 (by decide) k_1 (fun _ h9 => h9) rfl dX11_end_146 ?_
      refine lv_isub hx hb dX11_end_149 ?_
      exact B150 σ2 ((-3) - (σ2.1 3)) hF H locs ls hP hS (lv_sub hl [] rfl)
    · replace hF := hF.2 h3
      refine lv_aload_n hx hb dX11_end_136 rfl (lv_at hl 0 rfl) ?_
      refine va_get (D := D) (ci := 11) (v := .int (σ2.1 7)) (C := RX11) (T := TX11) (N := 28) hx hb hts in_X11 hown hK hP 0 (sm_gX11 σ2 α) rfl 26 (by decide) k_2 (fun _ h9 => h9) rfl dX11_end_137 ?_
      refine lv_goto (tgt := 150) hx hb dX11_end_140 (by decide) ?_
      exact B150 σ2 (σ2.1 7) hF H locs ls hP hS (lv_sub hl [] rfl)
  have B113 : ∀ (σ : sm_S), mp_X11_end_113 K σ → sm_J p l e (headSpec wp_X11_end { frames := 4, cells := 0, slots := 0, locals := 84 }).room s m ([.ref (α.1 0), .int p1] : List Value).toArray below meth c (MQ below (va_Qi K (sm_B sm_wM D α) A) ([.ref (α.1 0), .int p1] : List Value).toArray s 0 0 A) D A 3 (sm_wM σ α) 113 [(0, .ref (α.1 0))] [] := by
    intro σ hF H locs ls hP hS hl
    unfold mp_X11_end_113 at hF
    refine lv_aload_n hx hb dX11_end_113 rfl (lv_at hl 0 rfl) ?_
    refine lv_aload_n hx hb dX11_end_114 rfl (lv_at hl 0 rfl) ?_
    refine va_get (D := D) (ci := 11) (v := .int (σ.1 3)) (C := RX11) (T := TX11) (N := 28) hx hb hts in_X11 hown hK hP 0 (sm_gX11 σ α) rfl 6 (by decide) k_1 (fun _ h9 => h9) rfl dX11_end_115 ?_
    refine lv_if_ge (tgt := 125) hx hb dX11_end_118 (by decide) (fun h4 => ?_) (fun h4 => ?_)
    · replace hF := hF.1 h4
      refine lv_iconst (v := 0) hx hb dX11_end_125 (by decide) ?_
      exact B126 σ 0 hF H locs ls hP hS (lv_sub hl [0] rfl)
    · replace hF := hF.2 h4
      refine lv_iconst (v := 1) hx hb dX11_end_121 (by decide) ?_
      refine lv_goto (tgt := 126) hx hb dX11_end_122 (by decide) ?_
      exact B126 σ 1 hF H locs ls hP hS (lv_sub hl [0] rfl)
  have B94 : ∀ (n : Nat) (σ : sm_S) (x2 : Int32), mp_X11_end_94 K n σ x2 → sm_J p l e (headSpec wp_X11_end { frames := 4, cells := 0, slots := 0, locals := 84 }).room s m ([.ref (α.1 0), .int p1] : List Value).toArray below meth c (MQ below (va_Qi K (sm_B sm_wM D α) A) ([.ref (α.1 0), .int p1] : List Value).toArray s 0 0 A) D A 3 (sm_wM σ α) 94 [(0, .ref (α.1 0)), (2, .int x2)] [] := by
    intro n94
    induction n94 with
    | zero =>
      intro σ x2 hF
      exact hF.elim
    | succ n94 ih94 =>
      intro σ x2 hF H locs ls hP hS hl
      unfold mp_X11_end_94 at hF
      refine lv_iload_n hx hb dX11_end_94 rfl (lv_at hl 1 rfl) ?_
      refine lv_aload_n hx hb dX11_end_95 rfl (lv_at hl 0 rfl) ?_
      refine va_get (D := D) (ci := 11) (v := .int (σ.1 6)) (C := RX11) (T := TX11) (N := 28) hx hb hts in_X11 hown hK hP 0 (sm_gX11 σ α) rfl 15 (by decide) k_3 (fun _ h9 => h9) rfl dX11_end_96 ?_
      refine lv_icmp_ge (tgt := 113) hx hb dX11_end_99 (by decide) (fun h5 => ?_) (fun h5 => ?_)
      · replace hF := hF.1 h5
        exact B113 σ hF H locs ls hP hS (lv_sub hl [0] rfl)
      · replace hF := hF.2 h5
        refine lv_aload_n hx hb dX11_end_102 rfl (lv_at hl 0 rfl) ?_
        refine lv_iload_n hx hb dX11_end_103 rfl (lv_at hl 1 rfl) ?_
        exact hF.elim
  have B26 : ∀ (n : Nat) (σ : sm_S) (x1 : Int32) (x2 : Int32), mp_X11_end_26 K n σ x1 x2 → sm_J p l e (headSpec wp_X11_end { frames := 4, cells := 0, slots := 0, locals := 84 }).room s m ([.ref (α.1 0), .int p1] : List Value).toArray below meth c (MQ below (va_Qi K (sm_B sm_wM D α) A) ([.ref (α.1 0), .int p1] : List Value).toArray s 0 0 A) D A 3 (sm_wM σ α) 26 [(0, .ref (α.1 0)), (1, .int x1), (2, .int x2)] [] := by
    intro n26
    induction n26 with
    | zero =>
      intro σ x1 x2 hF
      exact hF.elim
    | succ n26 ih26 =>
      intro σ x1 x2 hF H locs ls hP hS hl
      unfold mp_X11_end_26 at hF
      refine lv_iload_n hx hb dX11_end_26 rfl (lv_at hl 2 rfl) ?_
      refine lv_iload_n hx hb dX11_end_27 rfl (lv_at hl 1 rfl) ?_
      refine lv_icmp_ge (tgt := 56) hx hb dX11_end_28 (by decide) (fun h6 => ?_) (fun h6 => ?_)
      · replace hF := hF.1 h6
        refine lv_aload_n hx hb dX11_end_56 rfl (lv_at hl 0 rfl) ?_
        refine lv_iconst (v := 0) hx hb dX11_end_57 (by decide) ?_
        refine va_put (D := D) (ci := 11) (v := .int 0) (ty := .int) (C := RX11) (T := TX11) (N := 28) hx hb hts in_X11 tyX11 tyX11_ok nmX11 hown hK hP (hD.to (sm_wM_m _ _)) hS 0 (sm_gX11 σ α) rfl 1 (by decide) k_4 (fun _ h9 => h9) rfl (by decide +kernel) rfl rfl (Nat.le_of_ble_eq_true rfl) dX11_end_58 (fun H locs hP _ hS => ?_)
        rw [sm_iM0] at hP
        obtain ⟨σ7, eσ7⟩ : ∃ x : sm_S, x = sm_i σ 0 0 := ⟨_, rfl⟩
        replace hF := hF σ7 eσ7
        rw [← eσ7] at hP
        refine lv_aload_n hx hb dX11_end_61 rfl (lv_at hl 0 rfl) ?_
        refine lv_iconst (v := 0) hx hb dX11_end_62 (by decide) ?_
        refine va_put (D := D) (ci := 11) (v := .int 0) (ty := .int) (C := RX11) (T := TX11) (N := 28) hx hb hts in_X11 tyX11 tyX11_ok nmX11 hown hK hP (hD.to (sm_wM_m _ _)) hS 0 (sm_gX11 σ7 α) rfl 5 (by decide) k_5 (fun _ h9 => h9) rfl (by decide +kernel) rfl rfl (Nat.le_of_ble_eq_true rfl) dX11_end_63 (fun H locs hP _ hS => ?_)
        rw [sm_iM2] at hP
        obtain ⟨σ8, eσ8⟩ : ∃ x : sm_S, x = sm_i σ7 2 0 := ⟨_, rfl⟩
        replace hF := hF σ8 eσ8
        rw [← eσ8] at hP
        refine lv_aload_n hx hb dX11_end_66 rfl (lv_at hl 0 rfl) ?_
        refine lv_iconst (v := -1) hx hb dX11_end_67 (by decide) ?_
        refine va_put (D := D) (ci := 11) (v := .int (-1)) (ty := .int) (C := RX11) (T := TX11) (N := 28) hx hb hts in_X11 tyX11 tyX11_ok nmX11 hown hK hP (hD.to (sm_wM_m _ _)) hS 0 (sm_gX11 σ8 α) rfl 6 (by decide) k_1 (fun _ h9 => h9) rfl (by decide +kernel) rfl rfl (Nat.le_of_ble_eq_true rfl) dX11_end_68 (fun H locs hP _ hS => ?_)
        rw [sm_iM3] at hP
        obtain ⟨σ9, eσ9⟩ : ∃ x : sm_S, x = sm_i σ8 3 (-1) := ⟨_, rfl⟩
        replace hF := hF σ9 eσ9
        rw [← eσ9] at hP
        refine lv_aload_n hx hb dX11_end_71 rfl (lv_at hl 0 rfl) ?_
        refine lv_iconst (v := 0) hx hb dX11_end_72 (by decide) ?_
        refine va_put (D := D) (ci := 11) (v := .int 0) (ty := .int) (C := RX11) (T := TX11) (N := 28) hx hb hts in_X11 tyX11 tyX11_ok nmX11 hown hK hP (hD.to (sm_wM_m _ _)) hS 0 (sm_gX11 σ9 α) rfl 26 (by decide) k_2 (fun _ h9 => h9) rfl (by decide +kernel) rfl rfl (Nat.le_of_ble_eq_true rfl) dX11_end_73 (fun H locs hP _ hS => ?_)
        rw [sm_iM7] at hP
        obtain ⟨σ10, eσ10⟩ : ∃ x : sm_S, x = sm_i σ9 7 0 := ⟨_, rfl⟩
        replace hF := hF σ10 eσ10
        rw [← eσ10] at hP
        refine lv_aload_n hx hb dX11_end_76 rfl (lv_at hl 0 rfl) ?_
        refine lv_iconst (v := 0) hx hb dX11_end_77 (by decide) ?_
        refine va_put (D := D) (ci := 11) (v := .int 0) (ty := .boolean) (C := RX11) (T := TX11) (N := 28) hx hb hts in_X11 tyX11 tyX11_ok nmX11 hown hK hP (hD.to (sm_wM_m _ _)) hS 0 (sm_gX11 σ10 α) rfl 7 (by decide) k_0 (fun _ h9 => h9) rfl (by decide +kernel) sm_z0.1 sm_z0.2 (Nat.le_of_ble_eq_true rfl) dX11_end_78 (fun H locs hP _ hS => ?_)
        rw [sm_iM4] at hP
        obtain ⟨σ11, eσ11⟩ : ∃ x : sm_S, x = sm_i σ10 4 0 := ⟨_, rfl⟩
        replace hF := hF σ11 eσ11
        rw [← eσ11] at hP
        refine lv_aload_n hx hb dX11_end_81 rfl (lv_at hl 0 rfl) ?_
        refine sm_vi (As := []) (rest := []) hP hK hD hE hS hA ⟨hx, hb, hml, hown, hts⟩ hl.1 (c_X11_readAll l D H.size t0 σ11 α _ hF) (cwV 0 hts wg_X11_end_X11_readAll_148 rfl rfl rfl (by decide +kernel) ⟨Nat.le_of_ble_eq_true rfl, Nat.le_of_ble_eq_true rfl⟩) (va_recv hK hP (ci := 11) (q0 := 0) rfl (sm_gX11 σ11 α)) rfl rfl (Nat.le_of_ble_eq_true rfl) dX11_end_82 ⟨Nat.zero_le _, Nat.zero_le _⟩ (fun r13 σ12 H locs hF hP hS => ?_)
        refine lv_if_eq (tgt := 113) hx hb dX11_end_85 (by decide) (fun h14 => ?_) (fun h14 => ?_)
        · replace hF := hF.1 h14
          exact B113 σ12 hF H locs ls hP hS (lv_sub hl [0] rfl)
        · replace hF := hF.2 h14
          refine lv_aload_n hx hb dX11_end_88 rfl (lv_at hl 0 rfl) ?_
          exact hF.elim
      · replace hF := hF.2 h6
        refine lv_aload_n hx hb dX11_end_31 rfl (lv_at hl 0 rfl) ?_
        refine va_get (D := D) (ci := 11) (v := .ref (α.1 3)) (C := RX11) (T := TX11) (N := 28) hx hb hts in_X11 hown hK hP 0 (sm_gX11 σ α) rfl 2 (by decide) k_6 (fun _ h9 => h9) rfl dX11_end_32 ?_
        refine lv_iload_n hx hb dX11_end_35 rfl (lv_at hl 2 rfl) ?_
        refine lv_aload_n hx hb dX11_end_36 rfl (lv_at hl 0 rfl) ?_
        refine va_get (D := D) (ci := 11) (v := .ref (α.1 2)) (C := RX11) (T := TX11) (N := 28) hx hb hts in_X11 hown hK hP 0 (sm_gX11 σ α) rfl 0 (by decide) k_7 (fun _ h9 => h9) rfl dX11_end_37 ?_
        refine lv_iload_n hx hb dX11_end_40 rfl (lv_at hl 2 rfl) ?_
        obtain ⟨h15, hF⟩ := hF
        refine va_iald (n := (σ.2.2.1 2)) (f := (σ.2.2.2.1 2)) hx hb hK hP 2 0 (sm_aM2 σ α) (sm_yM2 α) h15 dX11_end_41 ?_
        obtain ⟨h16, hF⟩ := hF
        refine va_iast (n := (σ.2.2.1 3)) (f := (σ.2.2.2.1 3)) (x := ((σ.2.2.2.1 2) x2.toNatClampNeg)) hx hb hK hP (hD.to (sm_wM_m _ _)) hS 3 1 (sm_aM3 σ α) (sm_yM3 α) h16 dX11_end_42 (fun H locs hP _ hS => ?_)
        rw [sm_rM3] at hP
        obtain ⟨σ17, eσ17⟩ : ∃ x : sm_S, x = sm_r σ 3 (upd (σ.2.2.2.1 3) x2.toNatClampNeg ((σ.2.2.2.1 2) x2.toNatClampNeg)) := ⟨_, rfl⟩
        replace hF := hF σ17 eσ17
        rw [← eσ17] at hP
        refine lv_aload_n hx hb dX11_end_43 rfl (lv_at hl 0 rfl) ?_
        refine va_get (D := D) (ci := 11) (v := .ref (α.1 4)) (C := RX11) (T := TX11) (N := 28) hx hb hts in_X11 hown hK hP 0 (sm_gX11 σ17 α) rfl 3 (by decide) k_8 (fun _ h9 => h9) rfl dX11_end_44 ?_
        refine lv_iload_n hx hb dX11_end_47 rfl (lv_at hl 2 rfl) ?_
        refine lv_iconst (v := 0) hx hb dX11_end_48 (by decide) ?_
        obtain ⟨h18, hF⟩ := hF
        refine va_zast (n := (σ17.2.2.1 4)) (f := (σ17.2.2.2.1 4)) (x := 0) hx hb hK hP (hD.to (sm_wM_m _ _)) hS 4 2 (sm_aM4 σ17 α) (sm_yM4 α) h18 dX11_end_49 (fun H locs hP _ hS => ?_)
        rw [sm_rM4] at hP
        obtain ⟨σ19, eσ19⟩ : ∃ x : sm_S, x = sm_r σ17 4 (upd (σ17.2.2.2.1 4) x2.toNatClampNeg (vp_nar .boolean 0)) := ⟨_, rfl⟩
        replace hF := hF σ19 eσ19
        rw [← eσ19] at hP
        obtain ⟨v20, ev20⟩ : ∃ y : Int32, y = x2 + 1 := ⟨_, rfl⟩
        replace hF := hF v20 ev20
        refine lv_iinc (v := v20) (lv' := [(2, .int v20), (0, .ref (α.1 0)), (1, .int x1)]) hx hb dX11_end_50 hl (k := 2) rfl (by rw [ev20]; rfl) (by decide) rfl (fun ls hl => ?_)
        refine lv_goto (tgt := 26) hx hb dX11_end_53 (by decide) ?_
        exact ih26 σ19 x1 v20 hF H locs ls hP hS (lv_sub hl [1, 2, 0] rfl)
  have B12 : ∀ (σ : sm_S), mp_X11_end_12 K σ → sm_J p l e (headSpec wp_X11_end { frames := 4, cells := 0, slots := 0, locals := 84 }).room s m ([.ref (α.1 0), .int p1] : List Value).toArray below meth c (MQ below (va_Qi K (sm_B sm_wM D α) A) ([.ref (α.1 0), .int p1] : List Value).toArray s 0 0 A) D A 3 (sm_wM σ α) 12 [(0, .ref (α.1 0))] [] := by
    intro σ hF H locs ls hP hS hl
    unfold mp_X11_end_12 at hF
    refine lv_aload_n hx hb dX11_end_12 rfl (lv_at hl 0 rfl) ?_
    refine lv_iconst (v := 0) hx hb dX11_end_13 (by decide) ?_
    refine va_put (D := D) (ci := 11) (v := .int 0) (ty := .int) (C := RX11) (T := TX11) (N := 28) hx hb hts in_X11 tyX11 tyX11_ok nmX11 hown hK hP (hD.to (sm_wM_m _ _)) hS 0 (sm_gX11 σ α) rfl 1 (by decide) k_4 (fun _ h9 => h9) rfl (by decide +kernel) rfl rfl (Nat.le_of_ble_eq_true rfl) dX11_end_14 (fun H locs hP _ hS => ?_)
    rw [sm_iM0] at hP
    obtain ⟨σ21, eσ21⟩ : ∃ x : sm_S, x = sm_i σ 0 0 := ⟨_, rfl⟩
    replace hF := hF σ21 eσ21
    rw [← eσ21] at hP
    refine lv_iconst (v := -1) hx hb dX11_end_17 (by decide) ?_
    exact W.iret (v := (-1)) hx hb hr (fun t ht hW => ⟨⟨(-1), σ21, rfl, hF, (by unfold sm_B; rw [ht]; exact hP)⟩, hS.F ht⟩) hS.2.2 dX11_end_18
  unfold mp_X11_end at hF
  revert hP hS
  generalize hLo : ([] : List Loc) = locs
  suffices h9 : ∀ (H : Heap) (locs : List Loc), va_P D vwCl (sm_wM σ α) H → va_S A s.heap H locs → W p l e (headSpec wp_X11_end { frames := 4, cells := 0, slots := 0, locals := 84 }).room s m ([.ref (α.1 0), .int p1] : List Value).toArray below meth c H locs 0 0 (MQ below (va_Qi K (sm_B sm_wM D α) A) ([.ref (α.1 0), .int p1] : List Value).toArray s 0 0 A) (F0 m 0 ls []) from fun hP hS => h9 s.heap locs hP hS
  intro H locs hP hS
  refine lv_iload_n hx hb dX11_end_0 rfl (lv_at hl 1 rfl) ?_
  refine lv_if_lt (tgt := 12) hx hb dX11_end_1 (by decide) (fun h22 => ?_) (fun h22 => ?_)
  · replace hF := hF.1 h22
    exact B12 σ hF H locs ls hP hS (lv_sub hl [0] rfl)
  · replace hF := hF.2 h22
    refine lv_iload_n hx hb dX11_end_4 rfl (lv_at hl 1 rfl) ?_
    refine lv_aload_n hx hb dX11_end_5 rfl (lv_at hl 0 rfl) ?_
    refine va_get (D := D) (ci := 11) (v := .int (σ.1 0)) (C := RX11) (T := TX11) (N := 28) hx hb hts in_X11 hown hK hP 0 (sm_gX11 σ α) rfl 1 (by decide) k_4 (fun _ h9 => h9) rfl dX11_end_6 ?_
    refine lv_icmp_le (tgt := 19) hx hb dX11_end_9 (by decide) (fun h23 => ?_) (fun h23 => ?_)
    · replace hF := hF.1 h23
      refine lv_aload_n hx hb dX11_end_19 rfl (lv_at hl 0 rfl) ?_
      refine lv_iload_n hx hb dX11_end_20 rfl (lv_at hl 1 rfl) ?_
      refine va_put (D := D) (ci := 11) (v := .int p1) (ty := .int) (C := RX11) (T := TX11) (N := 28) hx hb hts in_X11 tyX11 tyX11_ok nmX11 hown hK hP (hD.to (sm_wM_m _ _)) hS 0 (sm_gX11 σ α) rfl 4 (by decide) k_9 (fun _ h9 => h9) rfl (by decide +kernel) rfl rfl (Nat.le_of_ble_eq_true rfl) dX11_end_21 (fun H locs hP _ hS => ?_)
      rw [sm_iM1] at hP
      obtain ⟨σ24, eσ24⟩ : ∃ x : sm_S, x = sm_i σ 1 p1 := ⟨_, rfl⟩
      replace hF := hF σ24 eσ24
      rw [← eσ24] at hP
      refine lv_iconst (v := 0) hx hb dX11_end_24 (by decide) ?_
      refine lv_istore_n (lv' := [(2, .int 0), (0, .ref (α.1 0)), (1, .int p1)]) hx hb dX11_end_25 rfl hl (by decide) rfl (fun ls hl => ?_)
      obtain ⟨n26, hF⟩ := hF
      exact B26 n26 σ24 p1 0 hF H locs ls hP hS (lv_sub hl [1, 2, 0] rfl)
    · replace hF := hF.2 h23
      exact B12 σ hF H locs ls hP hS (lv_sub hl [0] rfl)
theorem dX12_feed_0 : decode cX12_feed 0 = .ok (.aload_n 0, 1) := by decide +kernel
theorem dX12_feed_1 : decode cX12_feed 1 = .ok (.getfield 10, 3) := by decide +kernel
theorem dX12_feed_4 : decode cX12_feed 4 = .ok (.iload_n 1, 1) := by decide +kernel
theorem dX12_feed_5 : decode cX12_feed 5 = .ok (.iload_n 2, 1) := by decide +kernel
theorem dX12_feed_6 : decode cX12_feed 6 = .ok (.iload_n 3, 1) := by decide +kernel
theorem dX12_feed_7 : decode cX12_feed 7 = .ok (.iload 4, 2) := by decide +kernel
theorem dX12_feed_9 : decode cX12_feed 9 = .ok (.iload 5, 2) := by decide +kernel
theorem dX12_feed_11 : decode cX12_feed 11 = .ok (.invokevirtual 145, 3) := by decide +kernel
theorem dX12_feed_14 : decode cX12_feed 14 = .ok (.ireturn, 1) := by decide +kernel
/-- SteadyMachineModel.feed(IIIII)I -/
def mp_X12_feed (σ : sm_S) (p1 : Int32) (p2 : Int32) (p3 : Int32) (p4 : Int32) (p5 : Int32) (K : Int32 → sm_S → Prop) : Prop := mp_X11_feed σ p1 p2 p3 p4 p5 (fun r2 σ1 => K r2 σ1)
def wp_X12_feed : List Cond := .code yX12_feed cX12_feed 6 (some .int) :: (([.fieldLink RX12 10 "SteadyMachineModel" "image" "LSteadyMachineModel$Image;"] ++ (wsV RX12 145 RX11 yX11_feed wp_X11_feed)) ++ wsX120)
theorem wg_X12_feed_X11_feed_145 : GoodIn wp_X12_feed (wsV RX12 145 RX11 yX11_feed wp_X11_feed) := goodIn_sub (fun w h => List.mem_cons_of_mem _ (List.mem_append_left _ (List.mem_append_right _ h))) (by decide +kernel)
theorem wi_X12_feed_X12 : ∀ w ∈ wsX120, w ∈ wp_X12_feed := fun w h => List.mem_cons_of_mem _ (List.mem_append_right _ h)
set_option maxHeartbeats 4000000 in
set_option maxRecDepth 100000 in
theorem c_X12_feed (l : Launch) (D : va_G) (sz t0 : Nat) (σ : sm_S) (α : sm_A) (p1 : Int32) (p2 : Int32) (p3 : Int32) (p4 : Int32) (p5 : Int32) (K : Int32 → sm_S → Prop) (hF : mp_X12_feed σ p1 p2 p3 p4 p5 K) : Met l yX12_feed wp_X12_feed { frames := 1, cells := 0, slots := 0, locals := 27 } (sm_P sm_wM sm_tM 40 D sz t0 σ α [.ref (α.1 1), .int p1, .int p2, .int p3, .int p4, .int p5]) (va_Qi K (sm_B sm_wM D α) (sm_a α 40 sz)) 0 0 (sm_a α 40 sz) := by
  refine Met.ofW (cc := cX12_feed) (maxL := 6) (ret := (some .int)) (by decide) rfl ?_
  intro p e s m args below meth c s₁ B hml hv
  obtain ⟨rfl, hsz, hP, hK, hD0, hE⟩ := hv
  have hx := B.exec
  have hb := B.bytes
  have hr := B.returns
  have hts := atoms_spec (ws := wp_X12_feed) B.pre
  have hown : s.vm.findClass RX12 = some m.cls := findClass_of_methodNamed B.named
  have hlocks := B.notSynchronized
  subst hsz
  have hD : sm_D (sm_a α 40 s.heap.size) α 40 := hD0.own
  have hA : ∀ q : Nat, s.heap.size ≤ q → sm_a α 40 s.heap.size q := fun q h => Or.inr h
  generalize hAe : sm_a α 40 s.heap.size = A at hD hA hE ⊢
  have hS : va_S A s.heap s.heap [] := va_S.rf
  have in_X12 : ∀ w ∈ wsX120, w ∈ wp_X12_feed := wi_X12_feed_X12
  have k_0 := hts (.fieldLink RX12 10 "SteadyMachineModel" "image" "LSteadyMachineModel$Image;") (by decide +kernel)
  have hl := lv_entry ([.ref (α.1 1), .int p1, .int p2, .int p3, .int p4, .int p5]) (n := 6) (Nat.le_of_ble_eq_true rfl)
  rw [lg_entry_eq]
  generalize (lg_sl ([.ref (α.1 1), .int p1, .int p2, .int p3, .int p4, .int p5]) ++ List.replicate (6 - (lg_sl ([.ref (α.1 1), .int p1, .int p2, .int p3, .int p4, .int p5])).length) Slot.unset).toArray = ls at hl ⊢
  have hl : lv_has ls 6 [(0, .ref (α.1 1)), (1, .int p1), (2, .int p2), (3, .int p3), (4, .int p4), (5, .int p5)] := hl
  unfold mp_X12_feed at hF
  revert hP hS
  generalize hLo : ([] : List Loc) = locs
  suffices h9 : ∀ (H : Heap) (locs : List Loc), va_P D vwCl (sm_wM σ α) H → va_S A s.heap H locs → W p l e (headSpec wp_X12_feed { frames := 1, cells := 0, slots := 0, locals := 27 }).room s m ([.ref (α.1 1), .int p1, .int p2, .int p3, .int p4, .int p5] : List Value).toArray below meth c H locs 0 0 (MQ below (va_Qi K (sm_B sm_wM D α) A) ([.ref (α.1 1), .int p1, .int p2, .int p3, .int p4, .int p5] : List Value).toArray s 0 0 A) (F0 m 0 ls []) from fun hP hS => h9 s.heap locs hP hS
  intro H locs hP hS
  refine lv_aload_n hx hb dX12_feed_0 rfl (lv_at hl 0 rfl) ?_
  refine va_get (D := D) (ci := 12) (v := .ref (α.1 0)) (C := RX12) (T := TX12) (N := 42) hx hb hts in_X12 hown hK hP 1 (sm_gX12 σ α) rfl 0 (by decide) k_0 (fun _ h9 => h9) rfl dX12_feed_1 ?_
  refine lv_iload_n hx hb dX12_feed_4 rfl (lv_at hl 1 rfl) ?_
  refine lv_iload_n hx hb dX12_feed_5 rfl (lv_at hl 2 rfl) ?_
  refine lv_iload_n hx hb dX12_feed_6 rfl (lv_at hl 3 rfl) ?_
  refine lv_iload hx hb dX12_feed_7 (lv_at hl 4 rfl) ?_
  refine lv_iload hx hb dX12_feed_9 (lv_at hl 5 rfl) ?_
  refine sm_vi (As := [.int p1, .int p2, .int p3, .int p4, .int p5]) (rest := []) hP hK hD hE hS hA ⟨hx, hb, hml, hown, hts⟩ hl.1 (c_X11_feed l D H.size t0 σ α p1 p2 p3 p4 p5 _ hF) (cwV 5 hts wg_X12_feed_X11_feed_145 rfl rfl rfl (by decide +kernel) ⟨Nat.le_of_ble_eq_true rfl, Nat.le_of_ble_eq_true rfl⟩) (va_recv hK hP (ci := 11) (q0 := 0) rfl (sm_gX11 σ α)) rfl rfl (Nat.le_of_ble_eq_true rfl) dX12_feed_11 ⟨Nat.zero_le _, Nat.zero_le _⟩ (fun r2 σ1 H locs hF hP hS => ?_)
  exact W.iret (v := r2) hx hb hr (fun t ht hW => ⟨⟨r2, σ1, rfl, hF, (by unfold sm_B; rw [ht]; exact hP)⟩, hS.F ht⟩) hS.2.2 dX12_feed_14
theorem dX12_end_0 : decode cX12_end 0 = .ok (.iload_n 1, 1) := by decide +kernel
theorem dX12_end_1 : decode cX12_end 1 = .ok (.ifCond .lt 14, 3) := by decide +kernel
theorem dX12_end_4 : decode cX12_end 4 = .ok (.iload_n 1, 1) := by decide +kernel
theorem dX12_end_5 : decode cX12_end 5 = .ok (.aload_n 0, 1) := by decide +kernel
theorem dX12_end_6 : decode cX12_end 6 = .ok (.getfield 10, 3) := by decide +kernel
theorem dX12_end_9 : decode cX12_end 9 = .ok (.getfield 149, 3) := by decide +kernel
theorem dX12_end_12 : decode cX12_end 12 = .ok (.if_icmp .le 13, 3) := by decide +kernel
theorem dX12_end_15 : decode cX12_end 15 = .ok (.aload_n 0, 1) := by decide +kernel
theorem dX12_end_16 : decode cX12_end 16 = .ok (.getfield 10, 3) := by decide +kernel
theorem dX12_end_19 : decode cX12_end 19 = .ok (.iconst 0, 1) := by decide +kernel
theorem dX12_end_20 : decode cX12_end 20 = .ok (.putfield 149, 3) := by decide +kernel
theorem dX12_end_23 : decode cX12_end 23 = .ok (.iconst (-1), 1) := by decide +kernel
theorem dX12_end_24 : decode cX12_end 24 = .ok (.ireturn, 1) := by decide +kernel
theorem dX12_end_25 : decode cX12_end 25 = .ok (.aload_n 0, 1) := by decide +kernel
theorem dX12_end_26 : decode cX12_end 26 = .ok (.iconst 0, 1) := by decide +kernel
theorem dX12_end_27 : decode cX12_end 27 = .ok (.putfield 152, 3) := by decide +kernel
theorem dX12_end_30 : decode cX12_end 30 = .ok (.aload_n 0, 1) := by decide +kernel
theorem dX12_end_31 : decode cX12_end 31 = .ok (.getfield 10, 3) := by decide +kernel
theorem dX12_end_34 : decode cX12_end 34 = .ok (.iload_n 1, 1) := by decide +kernel
theorem dX12_end_35 : decode cX12_end 35 = .ok (.invokevirtual 155, 3) := by decide +kernel
theorem dX12_end_38 : decode cX12_end 38 = .ok (.istore_n 2, 1) := by decide +kernel
theorem dX12_end_39 : decode cX12_end 39 = .ok (.iload_n 2, 1) := by decide +kernel
theorem dX12_end_40 : decode cX12_end 40 = .ok (.ifCond .ge 5, 3) := by decide +kernel
theorem dX12_end_43 : decode cX12_end 43 = .ok (.iload_n 2, 1) := by decide +kernel
theorem dX12_end_44 : decode cX12_end 44 = .ok (.ireturn, 1) := by decide +kernel
theorem dX12_end_45 : decode cX12_end 45 = .ok (.iconst 0, 1) := by decide +kernel
theorem dX12_end_46 : decode cX12_end 46 = .ok (.istore_n 3, 1) := by decide +kernel
theorem dX12_end_47 : decode cX12_end 47 = .ok (.iload_n 3, 1) := by decide +kernel
theorem dX12_end_48 : decode cX12_end 48 = .ok (.sipush 8000, 3) := by decide +kernel
theorem dX12_end_51 : decode cX12_end 51 = .ok (.if_icmp .ge 23, 3) := by decide +kernel
theorem dX12_end_54 : decode cX12_end 54 = .ok (.aload_n 0, 1) := by decide +kernel
theorem dX12_end_55 : decode cX12_end 55 = .ok (.getfield 33, 3) := by decide +kernel
theorem dX12_end_58 : decode cX12_end 58 = .ok (.iload_n 3, 1) := by decide +kernel
theorem dX12_end_59 : decode cX12_end 59 = .ok (.iconst (-1), 1) := by decide +kernel
theorem dX12_end_60 : decode cX12_end 60 = .ok (.iastore, 1) := by decide +kernel
theorem dX12_end_61 : decode cX12_end 61 = .ok (.aload_n 0, 1) := by decide +kernel
theorem dX12_end_62 : decode cX12_end 62 = .ok (.getfield 47, 3) := by decide +kernel
theorem dX12_end_65 : decode cX12_end 65 = .ok (.iload_n 3, 1) := by decide +kernel
theorem dX12_end_66 : decode cX12_end 66 = .ok (.iconst 0, 1) := by decide +kernel
theorem dX12_end_67 : decode cX12_end 67 = .ok (.bastore, 1) := by decide +kernel
theorem dX12_end_68 : decode cX12_end 68 = .ok (.iinc 3 1, 3) := by decide +kernel
theorem dX12_end_71 : decode cX12_end 71 = .ok (.goto (-24), 3) := by decide +kernel
theorem dX12_end_74 : decode cX12_end 74 = .ok (.iconst 0, 1) := by decide +kernel
theorem dX12_end_75 : decode cX12_end 75 = .ok (.istore_n 3, 1) := by decide +kernel
theorem dX12_end_76 : decode cX12_end 76 = .ok (.iload_n 3, 1) := by decide +kernel
theorem dX12_end_77 : decode cX12_end 77 = .ok (.aload_n 0, 1) := by decide +kernel
theorem dX12_end_78 : decode cX12_end 78 = .ok (.getfield 10, 3) := by decide +kernel
theorem dX12_end_81 : decode cX12_end 81 = .ok (.getfield 158, 3) := by decide +kernel
theorem dX12_end_84 : decode cX12_end 84 = .ok (.if_icmp .ge 37, 3) := by decide +kernel
theorem dX12_end_87 : decode cX12_end 87 = .ok (.aload_n 0, 1) := by decide +kernel
theorem dX12_end_88 : decode cX12_end 88 = .ok (.iload_n 3, 1) := by decide +kernel
theorem dX12_end_89 : decode cX12_end 89 = .ok (.invokevirtual 161, 3) := by decide +kernel
theorem dX12_end_92 : decode cX12_end 92 = .ok (.istore 4, 2) := by decide +kernel
theorem dX12_end_94 : decode cX12_end 94 = .ok (.iload 4, 2) := by decide +kernel
theorem dX12_end_96 : decode cX12_end 96 = .ok (.iconst (-1), 1) := by decide +kernel
theorem dX12_end_97 : decode cX12_end 97 = .ok (.if_icmp .eq 18, 3) := by decide +kernel
theorem dX12_end_100 : decode cX12_end 100 = .ok (.aload_n 0, 1) := by decide +kernel
theorem dX12_end_101 : decode cX12_end 101 = .ok (.getfield 10, 3) := by decide +kernel
theorem dX12_end_104 : decode cX12_end 104 = .ok (.iconst 0, 1) := by decide +kernel
theorem dX12_end_105 : decode cX12_end 105 = .ok (.putfield 164, 3) := by decide +kernel
theorem dX12_end_108 : decode cX12_end 108 = .ok (.sipush (-10003), 3) := by decide +kernel
theorem dX12_end_111 : decode cX12_end 111 = .ok (.iload 4, 2) := by decide +kernel
theorem dX12_end_113 : decode cX12_end 113 = .ok (.isub, 1) := by decide +kernel
theorem dX12_end_114 : decode cX12_end 114 = .ok (.ireturn, 1) := by decide +kernel
theorem dX12_end_115 : decode cX12_end 115 = .ok (.iinc 3 1, 3) := by decide +kernel
theorem dX12_end_118 : decode cX12_end 118 = .ok (.goto (-42), 3) := by decide +kernel
theorem dX12_end_121 : decode cX12_end 121 = .ok (.iload_n 2, 1) := by decide +kernel
theorem dX12_end_122 : decode cX12_end 122 = .ok (.ireturn, 1) := by decide +kernel
def mp_X12_end_76 (K : Int32 → sm_S → Prop) : Nat → sm_S → Int32 → Int32 → Prop
  | 0, _, _, _ => False
  | n76 + 1, σ, x2, x3 => (((σ.1 6) ≤ x3 → (K x2 σ)) ∧ (¬ (σ.1 6) ≤ x3 → (False)))
def mp_X12_end_47 (K : Int32 → sm_S → Prop) : Nat → sm_S → Int32 → Int32 → Prop
  | 0, _, _, _ => False
  | n47 + 1, σ, x2, x3 => (((8000 : Int32) ≤ x3 → (∃ n76 : Nat, mp_X12_end_76 K n76 σ x2 0)) ∧ (¬ (8000 : Int32) ≤ x3 → (vp_in x3 (σ.2.2.1 21) ∧ ∀ σ4 : sm_S, σ4 = sm_r σ 21 (upd (σ.2.2.2.1 21) x3.toNatClampNeg (-1)) → vp_in x3 (σ4.2.2.1 23) ∧ ∀ σ6 : sm_S, σ6 = sm_r σ4 23 (upd (σ4.2.2.2.1 23) x3.toNatClampNeg (vp_nar .boolean 0)) → ∀ v7 : Int32, v7 = x3 + 1 → (mp_X12_end_47 K n47) σ6 x2 v7)))
def mp_X12_end_15 (K : Int32 → sm_S → Prop) (σ : sm_S)  : Prop := ∀ σ8 : sm_S, σ8 = sm_i σ 0 0 → K (-1) σ8
/-- SteadyMachineModel.end(I)I -/
def mp_X12_end (σ : sm_S) (p1 : Int32) (K : Int32 → sm_S → Prop) : Prop := ((p1 < 0 → (mp_X12_end_15 K σ)) ∧ (¬ p1 < 0 → ((p1 ≤ (σ.1 0) → (∀ σ11 : sm_S, σ11 = sm_i σ 17 0 → mp_X11_end σ11 p1 (fun r13 σ12 => (((0 : Int32) ≤ r13 → (∃ n47 : Nat, mp_X12_end_47 K n47 σ12 r13 0)) ∧ (¬ (0 : Int32) ≤ r13 → (K r13 σ12)))))) ∧ (¬ p1 ≤ (σ.1 0) → (mp_X12_end_15 K σ)))))
def wp_X12_end : List Cond := .code yX12_end cX12_end 5 (some .int) :: ((([.fieldLink RX12 10 "SteadyMachineModel" "image" "LSteadyMachineModel$Image;", .fieldLink RX12 33 "SteadyMachineModel" "high" "[I", .fieldLink RX12 47 "SteadyMachineModel" "marks" "[Z", .fieldLink RX12 152 "SteadyMachineModel" "state" "I"] ++ (wsV RX12 155 RX11 yX11_end wp_X11_end)) ++ wsX110) ++ wsX120)
theorem wg_X12_end_X11_end_155 : GoodIn wp_X12_end (wsV RX12 155 RX11 yX11_end wp_X11_end) := goodIn_sub (fun w h => List.mem_cons_of_mem _ (List.mem_append_left _ (List.mem_append_left _ (List.mem_append_right _ h)))) (by decide +kernel)
theorem wi_X12_end_X11 : ∀ w ∈ wsX110, w ∈ wp_X12_end := fun w h => List.mem_cons_of_mem _ (List.mem_append_left _ (List.mem_append_right _ h))
theorem wi_X12_end_X12 : ∀ w ∈ wsX120, w ∈ wp_X12_end := fun w h => List.mem_cons_of_mem _ (List.mem_append_right _ h)
set_option maxHeartbeats 4000000 in
set_option maxRecDepth 100000 in
theorem c_X12_end (l : Launch) (D : va_G) (sz t0 : Nat) (σ : sm_S) (α : sm_A) (p1 : Int32) (K : Int32 → sm_S → Prop) (hF : mp_X12_end σ p1 K) : Met l yX12_end wp_X12_end { frames := 5, cells := 0, slots := 0, locals := 106 } (sm_P sm_wM sm_tM 40 D sz t0 σ α [.ref (α.1 1), .int p1]) (va_Qi K (sm_B sm_wM D α) (sm_a α 40 sz)) 0 0 (sm_a α 40 sz) := by
  refine Met.ofW (cc := cX12_end) (maxL := 5) (ret := (some .int)) (by decide) rfl ?_
  intro p e s m args below meth c s₁ B hml hv
  obtain ⟨rfl, hsz, hP, hK, hD0, hE⟩ := hv
  have hx := B.exec
  have hb := B.bytes
  have hr := B.returns
  have hts := atoms_spec (ws := wp_X12_end) B.pre
  have hown : s.vm.findClass RX12 = some m.cls := findClass_of_methodNamed B.named
  have hlocks := B.notSynchronized
  subst hsz
  have hD : sm_D (sm_a α 40 s.heap.size) α 40 := hD0.own
  have hA : ∀ q : Nat, s.heap.size ≤ q → sm_a α 40 s.heap.size q := fun q h => Or.inr h
  generalize hAe : sm_a α 40 s.heap.size = A at hD hA hE ⊢
  have hS : va_S A s.heap s.heap [] := va_S.rf
  have in_X11 : ∀ w ∈ wsX110, w ∈ wp_X12_end := wi_X12_end_X11
  have in_X12 : ∀ w ∈ wsX120, w ∈ wp_X12_end := wi_X12_end_X12
  have k_0 := hts (.fieldLink RX12 10 "SteadyMachineModel" "image" "LSteadyMachineModel$Image;") (by decide +kernel)
  have k_1 := hts (.fieldLink RX12 33 "SteadyMachineModel" "high" "[I") (by decide +kernel)
  have k_2 := hts (.fieldLink RX12 47 "SteadyMachineModel" "marks" "[Z") (by decide +kernel)
  have k_3 := hts (.fieldLink RX12 152 "SteadyMachineModel" "state" "I") (by decide +kernel)
  have hl := lv_entry ([.ref (α.1 1), .int p1]) (n := 5) (Nat.le_of_ble_eq_true rfl)
  rw [lg_entry_eq]
  generalize (lg_sl ([.ref (α.1 1), .int p1]) ++ List.replicate (5 - (lg_sl ([.ref (α.1 1), .int p1])).length) Slot.unset).toArray = ls at hl ⊢
  have hl : lv_has ls 5 [(0, .ref (α.1 1)), (1, .int p1)] := hl
  have B76 : ∀ (n : Nat) (σ : sm_S) (x2 : Int32) (x3 : Int32), mp_X12_end_76 K n σ x2 x3 → sm_J p l e (headSpec wp_X12_end { frames := 5, cells := 0, slots := 0, locals := 106 }).room s m ([.ref (α.1 1), .int p1] : List Value).toArray below meth c (MQ below (va_Qi K (sm_B sm_wM D α) A) ([.ref (α.1 1), .int p1] : List Value).toArray s 0 0 A) D A 5 (sm_wM σ α) 76 [(0, .ref (α.1 1)), (2, .int x2), (3, .int x3)] [] := by
    intro n76
    induction n76 with
    | zero =>
      intro σ x2 x3 hF
      exact hF.elim
    | succ n76 ih76 =>
      intro σ x2 x3 hF H locs ls hP hS hl
      unfold mp_X12_end_76 at hF
      refine lv_iload_n hx hb dX12_end_76 rfl (lv_at hl 2 rfl) ?_
      refine lv_aload_n hx hb dX12_end_77 rfl (lv_at hl 0 rfl) ?_
      refine va_get (D := D) (ci := 12) (v := .ref (α.1 0)) (C := RX12) (T := TX12) (N := 42) hx hb hts in_X12 hown hK hP 1 (sm_gX12 σ α) rfl 0 (by decide) k_0 (fun _ h9 => h9) rfl dX12_end_78 ?_
      refine va_getN (D := D) (ci := 11) (v := .int (σ.1 6)) (C := RX11) (T := TX11) (N := 28) hx hb hts in_X11 hown hK hP 0 (sm_gX11 σ α) rfl 15 (by decide) (va_Nw.use rfl (hE.1 (.fieldLinkNest "SteadyMachineModel" 158 "SteadyMachineModel$Image" "methods" "I" "SteadyMachineModel") (by decide +kernel))) (fun _ h9 => h9) rfl dX12_end_81 ?_
      refine lv_icmp_ge (tgt := 121) hx hb dX12_end_84 (by decide) (fun h1 => ?_) (fun h1 => ?_)
      · replace hF := hF.1 h1
        refine lv_iload_n hx hb dX12_end_121 rfl (lv_at hl 1 rfl) ?_
        exact W.iret (v := x2) hx hb hr (fun t ht hW => ⟨⟨x2, σ, rfl, hF, (by unfold sm_B; rw [ht]; exact hP)⟩, hS.F ht⟩) hS.2.2 dX12_end_122
      · replace hF := hF.2 h1
        refine lv_aload_n hx hb dX12_end_87 rfl (lv_at hl 0 rfl) ?_
        refine lv_iload_n hx hb dX12_end_88 rfl (lv_at hl 2 rfl) ?_
        exact hF.elim
  have B47 : ∀ (n : Nat) (σ : sm_S) (x2 : Int32) (x3 : Int32), mp_X12_end_47 K n σ x2 x3 → sm_J p l e (headSpec wp_X12_end { frames := 5, cells := 0, slots := 0, locals := 106 }).room s m ([.ref (α.1 1), .int p1] : List Value).toArray below meth c (MQ below (va_Qi K (sm_B sm_wM D α) A) ([.ref (α.1 1), .int p1] : List Value).toArray s 0 0 A) D A 5 (sm_wM σ α) 47 [(0, .ref (α.1 1)), (2, .int x2), (3, .int x3)] [] := by
    intro n47
    induction n47 with
    | zero =>
      intro σ x2 x3 hF
      exact hF.elim
    | succ n47 ih47 =>
      intro σ x2 x3 hF H locs ls hP hS hl
      unfold mp_X12_end_47 at hF
      refine lv_iload_n hx hb dX12_end_47 rfl (lv_at hl 2 rfl) ?_
      refine lv_sipush (v := 8000) hx hb dX12_end_48 (by decide) ?_
      refine lv_icmp_ge (tgt := 74) hx hb dX12_end_51 (by decide) (fun h2 => ?_) (fun h2 => ?_)
      · replace hF := hF.1 h2
        refine lv_iconst (v := 0) hx hb dX12_end_74 (by decide) ?_
        refine lv_istore_n (lv' := [(3, .int 0), (0, .ref (α.1 1)), (2, .int x2)]) hx hb dX12_end_75 rfl hl (by decide) rfl (fun ls hl => ?_)
        obtain ⟨n76, hF⟩ := hF
        exact B76 n76 σ x2 0 hF H locs ls hP hS (lv_sub hl [1, 2, 0] rfl)
      · replace hF := hF.2 h2
        refine lv_aload_n hx hb dX12_end_54 rfl (lv_at hl 0 rfl) ?_
        refine va_get (D := D) (ci := 12) (v := .ref (α.1 21)) (C := RX12) (T := TX12) (N := 42) hx hb hts in_X12 hown hK hP 1 (sm_gX12 σ α) rfl 1 (by decide) k_1 (fun _ h9 => h9) rfl dX12_end_55 ?_
        refine lv_iload_n hx hb dX12_end_58 rfl (lv_at hl 2 rfl) ?_
        refine lv_iconst (v := -1) hx hb dX12_end_59 (by decide) ?_
        obtain ⟨h3, hF⟩ := hF
        refine va_iast (n := (σ.2.2.1 21)) (f := (σ.2.2.2.1 21)) (x := (-1)) hx hb hK hP (hD.to (sm_wM_m _ _)) hS 21 19 (sm_aM21 σ α) (sm_yM21 α) h3 dX12_end_60 (fun H locs hP _ hS => ?_)
        rw [sm_rM21] at hP
        obtain ⟨σ4, eσ4⟩ : ∃ x : sm_S, x = sm_r σ 21 (upd (σ.2.2.2.1 21) x3.toNatClampNeg (-1)) := ⟨_, rfl⟩
        replace hF := hF σ4 eσ4
        rw [← eσ4] at hP
        refine lv_aload_n hx hb dX12_end_61 rfl (lv_at hl 0 rfl) ?_
        refine va_get (D := D) (ci := 12) (v := .ref (α.1 23)) (C := RX12) (T := TX12) (N := 42) hx hb hts in_X12 hown hK hP 1 (sm_gX12 σ4 α) rfl 3 (by decide) k_2 (fun _ h9 => h9) rfl dX12_end_62 ?_
        refine lv_iload_n hx hb dX12_end_65 rfl (lv_at hl 2 rfl) ?_
        refine lv_iconst (v := 0) hx hb dX12_end_66 (by decide) ?_
        obtain ⟨h5, hF⟩ := hF
        refine va_zast (n := (σ4.2.2.1 23)) (f := (σ4.2.2.2.1 23)) (x := 0) hx hb hK hP (hD.to (sm_wM_m _ _)) hS 23 21 (sm_aM23 σ4 α) (sm_yM23 α) h5 dX12_end_67 (fun H locs hP _ hS => ?_)
        rw [sm_rM23] at hP
        obtain ⟨σ6, eσ6⟩ : ∃ x : sm_S, x = sm_r σ4 23 (upd (σ4.2.2.2.1 23) x3.toNatClampNeg (vp_nar .boolean 0)) := ⟨_, rfl⟩
        replace hF := hF σ6 eσ6
        rw [← eσ6] at hP
        obtain ⟨v7, ev7⟩ : ∃ y : Int32, y = x3 + 1 := ⟨_, rfl⟩
        replace hF := hF v7 ev7
        refine lv_iinc (v := v7) (lv' := [(3, .int v7), (0, .ref (α.1 1)), (2, .int x2)]) hx hb dX12_end_68 hl (k := 2) rfl (by rw [ev7]; rfl) (by decide) rfl (fun ls hl => ?_)
        refine lv_goto (tgt := 47) hx hb dX12_end_71 (by decide) ?_
        exact ih47 σ6 x2 v7 hF H locs ls hP hS (lv_sub hl [1, 2, 0] rfl)
  have B15 : ∀ (σ : sm_S), mp_X12_end_15 K σ → sm_J p l e (headSpec wp_X12_end { frames := 5, cells := 0, slots := 0, locals := 106 }).room s m ([.ref (α.1 1), .int p1] : List Value).toArray below meth c (MQ below (va_Qi K (sm_B sm_wM D α) A) ([.ref (α.1 1), .int p1] : List Value).toArray s 0 0 A) D A 5 (sm_wM σ α) 15 [(0, .ref (α.1 1))] [] := by
    intro σ hF H locs ls hP hS hl
    unfold mp_X12_end_15 at hF
    refine lv_aload_n hx hb dX12_end_15 rfl (lv_at hl 0 rfl) ?_
    refine va_get (D := D) (ci := 12) (v := .ref (α.1 0)) (C := RX12) (T := TX12) (N := 42) hx hb hts in_X12 hown hK hP 1 (sm_gX12 σ α) rfl 0 (by decide) k_0 (fun _ h9 => h9) rfl dX12_end_16 ?_
    refine lv_iconst (v := 0) hx hb dX12_end_19 (by decide) ?_
    refine va_putN (D := D) (ci := 11) (v := .int 0) (ty := .int) (C := RX11) (T := TX11) (N := 28) hx hb hts in_X11 tyX11 tyX11_ok nmX11 hown hK hP (hD.to (sm_wM_m _ _)) hS 0 (sm_gX11 σ α) rfl 1 (by decide) (va_Nw.use rfl (hE.1 (.fieldLinkNest "SteadyMachineModel" 149 "SteadyMachineModel$Image" "taped" "I" "SteadyMachineModel") (by decide +kernel))) (fun _ h9 => h9) rfl (by decide +kernel) rfl rfl (Nat.le_of_ble_eq_true rfl) dX12_end_20 (fun H locs hP _ hS => ?_)
    rw [sm_iM0] at hP
    obtain ⟨σ8, eσ8⟩ : ∃ x : sm_S, x = sm_i σ 0 0 := ⟨_, rfl⟩
    replace hF := hF σ8 eσ8
    rw [← eσ8] at hP
    refine lv_iconst (v := -1) hx hb dX12_end_23 (by decide) ?_
    exact W.iret (v := (-1)) hx hb hr (fun t ht hW => ⟨⟨(-1), σ8, rfl, hF, (by unfold sm_B; rw [ht]; exact hP)⟩, hS.F ht⟩) hS.2.2 dX12_end_24
  unfold mp_X12_end at hF
  revert hP hS
  generalize hLo : ([] : List Loc) = locs
  suffices h9 : ∀ (H : Heap) (locs : List Loc), va_P D vwCl (sm_wM σ α) H → va_S A s.heap H locs → W p l e (headSpec wp_X12_end { frames := 5, cells := 0, slots := 0, locals := 106 }).room s m ([.ref (α.1 1), .int p1] : List Value).toArray below meth c H locs 0 0 (MQ below (va_Qi K (sm_B sm_wM D α) A) ([.ref (α.1 1), .int p1] : List Value).toArray s 0 0 A) (F0 m 0 ls []) from fun hP hS => h9 s.heap locs hP hS
  intro H locs hP hS
  refine lv_iload_n hx hb dX12_end_0 rfl (lv_at hl 1 rfl) ?_
  refine lv_if_lt (tgt := 15) hx hb dX12_end_1 (by decide) (fun h9 => ?_) (fun h9 => ?_)
  · replace hF := hF.1 h9
    exact B15 σ hF H locs ls hP hS (lv_sub hl [0] rfl)
  · replace hF := hF.2 h9
    refine lv_iload_n hx hb dX12_end_4 rfl (lv_at hl 1 rfl) ?_
    refine lv_aload_n hx hb dX12_end_5 rfl (lv_at hl 0 rfl) ?_
    refine va_get (D := D) (ci := 12) (v := .ref (α.1 0)) (C := RX12) (T := TX12) (N := 42) hx hb hts in_X12 hown hK hP 1 (sm_gX12 σ α) rfl 0 (by decide) k_0 (fun _ h9 => h9) rfl dX12_end_6 ?_
    refine va_getN (D := D) (ci := 11) (v := .int (σ.1 0)) (C := RX11) (T := TX11) (N := 28) hx hb hts in_X11 hown hK hP 0 (sm_gX11 σ α) rfl 1 (by decide) (va_Nw.use rfl (hE.1 (.fieldLinkNest "SteadyMachineModel" 149 "SteadyMachineModel$Image" "taped" "I" "SteadyMachineModel") (by decide +kernel))) (fun _ h9 => h9) rfl dX12_end_9 ?_
    refine lv_icmp_le (tgt := 25) hx hb dX12_end_12 (by decide) (fun h10 => ?_) (fun h10 => ?_)
    · replace hF := hF.1 h10
      refine lv_aload_n hx hb dX12_end_25 rfl (lv_at hl 0 rfl) ?_
      refine lv_iconst (v := 0) hx hb dX12_end_26 (by decide) ?_
      refine va_put (D := D) (ci := 12) (v := .int 0) (ty := .int) (C := RX12) (T := TX12) (N := 42) hx hb hts in_X12 tyX12 tyX12_ok nmX12 hown hK hP (hD.to (sm_wM_m _ _)) hS 1 (sm_gX12 σ α) rfl 26 (by decide) k_3 (fun _ h9 => h9) rfl (by decide +kernel) rfl rfl (Nat.le_of_ble_eq_true rfl) dX12_end_27 (fun H locs hP _ hS => ?_)
      rw [sm_iM17] at hP
      obtain ⟨σ11, eσ11⟩ : ∃ x : sm_S, x = sm_i σ 17 0 := ⟨_, rfl⟩
      replace hF := hF σ11 eσ11
      rw [← eσ11] at hP
      refine lv_aload_n hx hb dX12_end_30 rfl (lv_at hl 0 rfl) ?_
      refine va_get (D := D) (ci := 12) (v := .ref (α.1 0)) (C := RX12) (T := TX12) (N := 42) hx hb hts in_X12 hown hK hP 1 (sm_gX12 σ11 α) rfl 0 (by decide) k_0 (fun _ h9 => h9) rfl dX12_end_31 ?_
      refine lv_iload_n hx hb dX12_end_34 rfl (lv_at hl 1 rfl) ?_
      refine sm_vi (As := [.int p1]) (rest := []) hP hK hD hE hS hA ⟨hx, hb, hml, hown, hts⟩ hl.1 (c_X11_end l D H.size t0 σ11 α p1 _ hF) (cwV 1 hts wg_X12_end_X11_end_155 rfl rfl rfl (by decide +kernel) ⟨Nat.le_of_ble_eq_true rfl, Nat.le_of_ble_eq_true rfl⟩) (va_recv hK hP (ci := 11) (q0 := 0) rfl (sm_gX11 σ11 α)) rfl rfl (Nat.le_of_ble_eq_true rfl) dX12_end_35 ⟨Nat.zero_le _, Nat.zero_le _⟩ (fun r13 σ12 H locs hF hP hS => ?_)
      refine lv_istore_n (lv' := [(2, .int r13), (0, .ref (α.1 1)), (1, .int p1)]) hx hb dX12_end_38 rfl hl (by decide) rfl (fun ls hl => ?_)
      refine lv_iload_n hx hb dX12_end_39 rfl (lv_at hl 0 rfl) ?_
      refine lv_if_ge (tgt := 45) hx hb dX12_end_40 (by decide) (fun h14 => ?_) (fun h14 => ?_)
      · replace hF := hF.1 h14
        refine lv_iconst (v := 0) hx hb dX12_end_45 (by decide) ?_
        refine lv_istore_n (lv' := [(3, .int 0), (2, .int r13), (0, .ref (α.1 1)), (1, .int p1)]) hx hb dX12_end_46 rfl hl (by decide) rfl (fun ls hl => ?_)
        obtain ⟨n47, hF⟩ := hF
        exact B47 n47 σ12 r13 0 hF H locs ls hP hS (lv_sub hl [2, 1, 0] rfl)
      · replace hF := hF.2 h14
        refine lv_iload_n hx hb dX12_end_43 rfl (lv_at hl 0 rfl) ?_
        exact W.iret (v := r13) hx hb hr (fun t ht hW => ⟨⟨r13, σ12, rfl, hF, (by unfold sm_B; rw [ht]; exact hP)⟩, hS.F ht⟩) hS.2.2 dX12_end_44
    · replace hF := hF.2 h10
      exact B15 σ hF H locs ls hP hS (lv_sub hl [0] rfl)
theorem dX12_stands_0 : decode cX12_stands 0 = .ok (.aload_n 0, 1) := by decide +kernel
theorem dX12_stands_1 : decode cX12_stands 1 = .ok (.getfield 10, 3) := by decide +kernel
theorem dX12_stands_4 : decode cX12_stands 4 = .ok (.getfield 164, 3) := by decide +kernel
theorem dX12_stands_7 : decode cX12_stands 7 = .ok (.ifCond .eq 34, 3) := by decide +kernel
theorem dX12_stands_10 : decode cX12_stands 10 = .ok (.iload_n 1, 1) := by decide +kernel
theorem dX12_stands_11 : decode cX12_stands 11 = .ok (.ifCond .lt 30, 3) := by decide +kernel
theorem dX12_stands_14 : decode cX12_stands 14 = .ok (.iload_n 1, 1) := by decide +kernel
theorem dX12_stands_15 : decode cX12_stands 15 = .ok (.aload_n 0, 1) := by decide +kernel
theorem dX12_stands_16 : decode cX12_stands 16 = .ok (.getfield 10, 3) := by decide +kernel
theorem dX12_stands_19 : decode cX12_stands 19 = .ok (.getfield 158, 3) := by decide +kernel
theorem dX12_stands_22 : decode cX12_stands 22 = .ok (.if_icmp .ge 19, 3) := by decide +kernel
theorem dX12_stands_25 : decode cX12_stands 25 = .ok (.iload_n 2, 1) := by decide +kernel
theorem dX12_stands_26 : decode cX12_stands 26 = .ok (.ifCond .lt 15, 3) := by decide +kernel
theorem dX12_stands_29 : decode cX12_stands 29 = .ok (.aload_n 0, 1) := by decide +kernel
theorem dX12_stands_30 : decode cX12_stands 30 = .ok (.getfield 10, 3) := by decide +kernel
theorem dX12_stands_33 : decode cX12_stands 33 = .ok (.iload_n 1, 1) := by decide +kernel
theorem dX12_stands_34 : decode cX12_stands 34 = .ok (.iload_n 2, 1) := by decide +kernel
theorem dX12_stands_35 : decode cX12_stands 35 = .ok (.invokevirtual 168, 3) := by decide +kernel
theorem dX12_stands_38 : decode cX12_stands 38 = .ok (.ifCond .ne 5, 3) := by decide +kernel
theorem dX12_stands_41 : decode cX12_stands 41 = .ok (.iconst (-1), 1) := by decide +kernel
theorem dX12_stands_42 : decode cX12_stands 42 = .ok (.ireturn, 1) := by decide +kernel
theorem dX12_stands_43 : decode cX12_stands 43 = .ok (.aload_n 0, 1) := by decide +kernel
theorem dX12_stands_44 : decode cX12_stands 44 = .ok (.getfield 10, 3) := by decide +kernel
theorem dX12_stands_47 : decode cX12_stands 47 = .ok (.getfield 30, 3) := by decide +kernel
theorem dX12_stands_50 : decode cX12_stands 50 = .ok (.iload_n 1, 1) := by decide +kernel
theorem dX12_stands_51 : decode cX12_stands 51 = .ok (.iaload, 1) := by decide +kernel
theorem dX12_stands_52 : decode cX12_stands 52 = .ok (.iload_n 2, 1) := by decide +kernel
theorem dX12_stands_53 : decode cX12_stands 53 = .ok (.iadd, 1) := by decide +kernel
theorem dX12_stands_54 : decode cX12_stands 54 = .ok (.istore 5, 2) := by decide +kernel
theorem dX12_stands_56 : decode cX12_stands 56 = .ok (.aload_n 0, 1) := by decide +kernel
theorem dX12_stands_57 : decode cX12_stands 57 = .ok (.getfield 33, 3) := by decide +kernel
theorem dX12_stands_60 : decode cX12_stands 60 = .ok (.iload 5, 2) := by decide +kernel
theorem dX12_stands_62 : decode cX12_stands 62 = .ok (.iaload, 1) := by decide +kernel
theorem dX12_stands_63 : decode cX12_stands 63 = .ok (.ifCond .ge 5, 3) := by decide +kernel
theorem dX12_stands_66 : decode cX12_stands 66 = .ok (.iconst (-1), 1) := by decide +kernel
theorem dX12_stands_67 : decode cX12_stands 67 = .ok (.ireturn, 1) := by decide +kernel
theorem dX12_stands_68 : decode cX12_stands 68 = .ok (.iload_n 3, 1) := by decide +kernel
theorem dX12_stands_69 : decode cX12_stands 69 = .ok (.ifCond .ne 11, 3) := by decide +kernel
theorem dX12_stands_72 : decode cX12_stands 72 = .ok (.aload_n 0, 1) := by decide +kernel
theorem dX12_stands_73 : decode cX12_stands 73 = .ok (.getfield 33, 3) := by decide +kernel
theorem dX12_stands_76 : decode cX12_stands 76 = .ok (.iload 5, 2) := by decide +kernel
theorem dX12_stands_78 : decode cX12_stands 78 = .ok (.iaload, 1) := by decide +kernel
theorem dX12_stands_79 : decode cX12_stands 79 = .ok (.ireturn, 1) := by decide +kernel
theorem dX12_stands_80 : decode cX12_stands 80 = .ok (.aload_n 0, 1) := by decide +kernel
theorem dX12_stands_81 : decode cX12_stands 81 = .ok (.getfield 10, 3) := by decide +kernel
theorem dX12_stands_84 : decode cX12_stands 84 = .ok (.getfield 27, 3) := by decide +kernel
theorem dX12_stands_87 : decode cX12_stands 87 = .ok (.iload_n 1, 1) := by decide +kernel
theorem dX12_stands_88 : decode cX12_stands 88 = .ok (.iaload, 1) := by decide +kernel
theorem dX12_stands_89 : decode cX12_stands 89 = .ok (.istore 6, 2) := by decide +kernel
theorem dX12_stands_91 : decode cX12_stands 91 = .ok (.iload_n 3, 1) := by decide +kernel
theorem dX12_stands_92 : decode cX12_stands 92 = .ok (.iconst 1, 1) := by decide +kernel
theorem dX12_stands_93 : decode cX12_stands 93 = .ok (.if_icmp .ne 31, 3) := by decide +kernel
theorem dX12_stands_96 : decode cX12_stands 96 = .ok (.iload 4, 2) := by decide +kernel
theorem dX12_stands_98 : decode cX12_stands 98 = .ok (.ifCond .lt 26, 3) := by decide +kernel
theorem dX12_stands_101 : decode cX12_stands 101 = .ok (.iload 4, 2) := by decide +kernel
theorem dX12_stands_103 : decode cX12_stands 103 = .ok (.iload 6, 2) := by decide +kernel
theorem dX12_stands_105 : decode cX12_stands 105 = .ok (.if_icmp .ge 19, 3) := by decide +kernel
theorem dX12_stands_108 : decode cX12_stands 108 = .ok (.aload_n 0, 1) := by decide +kernel
theorem dX12_stands_109 : decode cX12_stands 109 = .ok (.getfield 40, 3) := by decide +kernel
theorem dX12_stands_112 : decode cX12_stands 112 = .ok (.bipush 12, 2) := by decide +kernel
theorem dX12_stands_114 : decode cX12_stands 114 = .ok (.iload 5, 2) := by decide +kernel
theorem dX12_stands_116 : decode cX12_stands 116 = .ok (.imul, 1) := by decide +kernel
theorem dX12_stands_117 : decode cX12_stands 117 = .ok (.iload 4, 2) := by decide +kernel
theorem dX12_stands_119 : decode cX12_stands 119 = .ok (.iadd, 1) := by decide +kernel
theorem dX12_stands_120 : decode cX12_stands 120 = .ok (.baload, 1) := by decide +kernel
theorem dX12_stands_121 : decode cX12_stands 121 = .ok (.goto 45, 3) := by decide +kernel
theorem dX12_stands_124 : decode cX12_stands 124 = .ok (.iload_n 3, 1) := by decide +kernel
theorem dX12_stands_125 : decode cX12_stands 125 = .ok (.iconst 2, 1) := by decide +kernel
theorem dX12_stands_126 : decode cX12_stands 126 = .ok (.if_icmp .ne 39, 3) := by decide +kernel
theorem dX12_stands_129 : decode cX12_stands 129 = .ok (.iload 4, 2) := by decide +kernel
theorem dX12_stands_131 : decode cX12_stands 131 = .ok (.ifCond .lt 34, 3) := by decide +kernel
theorem dX12_stands_134 : decode cX12_stands 134 = .ok (.iload 4, 2) := by decide +kernel
theorem dX12_stands_136 : decode cX12_stands 136 = .ok (.aload_n 0, 1) := by decide +kernel
theorem dX12_stands_137 : decode cX12_stands 137 = .ok (.getfield 33, 3) := by decide +kernel
theorem dX12_stands_140 : decode cX12_stands 140 = .ok (.iload 5, 2) := by decide +kernel
theorem dX12_stands_142 : decode cX12_stands 142 = .ok (.iaload, 1) := by decide +kernel
theorem dX12_stands_143 : decode cX12_stands 143 = .ok (.if_icmp .ge 22, 3) := by decide +kernel
theorem dX12_stands_146 : decode cX12_stands 146 = .ok (.aload_n 0, 1) := by decide +kernel
theorem dX12_stands_147 : decode cX12_stands 147 = .ok (.getfield 40, 3) := by decide +kernel
theorem dX12_stands_150 : decode cX12_stands 150 = .ok (.bipush 12, 2) := by decide +kernel
theorem dX12_stands_152 : decode cX12_stands 152 = .ok (.iload 5, 2) := by decide +kernel
theorem dX12_stands_154 : decode cX12_stands 154 = .ok (.imul, 1) := by decide +kernel
theorem dX12_stands_155 : decode cX12_stands 155 = .ok (.iload 6, 2) := by decide +kernel
theorem dX12_stands_157 : decode cX12_stands 157 = .ok (.iadd, 1) := by decide +kernel
theorem dX12_stands_158 : decode cX12_stands 158 = .ok (.iload 4, 2) := by decide +kernel
theorem dX12_stands_160 : decode cX12_stands 160 = .ok (.iadd, 1) := by decide +kernel
theorem dX12_stands_161 : decode cX12_stands 161 = .ok (.baload, 1) := by decide +kernel
theorem dX12_stands_162 : decode cX12_stands 162 = .ok (.goto 4, 3) := by decide +kernel
theorem dX12_stands_165 : decode cX12_stands 165 = .ok (.iconst (-1), 1) := by decide +kernel
theorem dX12_stands_166 : decode cX12_stands 166 = .ok (.ireturn, 1) := by decide +kernel
def mp_X12_stands_166 (K : Int32 → sm_S → Prop) (σ : sm_S) (y0 : Int32) : Prop := K y0 σ
def mp_X12_stands_165 (K : Int32 → sm_S → Prop) (σ : sm_S)  : Prop := mp_X12_stands_166 K σ (-1)
def mp_X12_stands_124 (K : Int32 → sm_S → Prop) (σ : sm_S) (x3 : Int32) (x4 : Int32) (x5 : Int32) (x6 : Int32) : Prop := ((¬ x3 = 2 → (mp_X12_stands_165 K σ)) ∧ (x3 = 2 → ((x4 < 0 → (mp_X12_stands_165 K σ)) ∧ (¬ x4 < 0 → (vp_in x5 (σ.2.2.1 21) ∧ ((((σ.2.2.2.1 21) x5.toNatClampNeg) ≤ x4 → (mp_X12_stands_165 K σ)) ∧ (¬ ((σ.2.2.2.1 21) x5.toNatClampNeg) ≤ x4 → (vp_in (((12 * x5) + x6) + x4) (σ.2.2.1 22) ∧ mp_X12_stands_166 K σ ((σ.2.2.2.1 22) (((12 * x5) + x6) + x4).toNatClampNeg)))))))))
def mp_X12_stands_41 (K : Int32 → sm_S → Prop) (σ : sm_S)  : Prop := K (-1) σ
/-- SteadyMachineModel.stands(IIII)I -/
def mp_X12_stands (σ : sm_S) (p1 : Int32) (p2 : Int32) (p3 : Int32) (p4 : Int32) (K : Int32 → sm_S → Prop) : Prop := (((σ.1 4) = 0 → (mp_X12_stands_41 K σ)) ∧ (¬ (σ.1 4) = 0 → ((p1 < 0 → (mp_X12_stands_41 K σ)) ∧ (¬ p1 < 0 → (((σ.1 6) ≤ p1 → (mp_X12_stands_41 K σ)) ∧ (¬ (σ.1 6) ≤ p1 → ((p2 < 0 → (mp_X12_stands_41 K σ)) ∧ (¬ p2 < 0 → (False)))))))))
def wp_X12_stands : List Cond := .code yX12_stands cX12_stands 7 (some .int) :: (([.fieldLink RX12 33 "SteadyMachineModel" "high" "[I", .fieldLink RX12 40 "SteadyMachineModel" "types" "[B", .fieldLink RX12 10 "SteadyMachineModel" "image" "LSteadyMachineModel$Image;"] ++ wsX110) ++ wsX120)
theorem wi_X12_stands_X11 : ∀ w ∈ wsX110, w ∈ wp_X12_stands := fun w h => List.mem_cons_of_mem _ (List.mem_append_left _ (List.mem_append_right _ h))
theorem wi_X12_stands_X12 : ∀ w ∈ wsX120, w ∈ wp_X12_stands := fun w h => List.mem_cons_of_mem _ (List.mem_append_right _ h)
set_option maxHeartbeats 4000000 in
set_option maxRecDepth 100000 in
theorem c_X12_stands (l : Launch) (D : va_G) (sz t0 : Nat) (σ : sm_S) (α : sm_A) (p1 : Int32) (p2 : Int32) (p3 : Int32) (p4 : Int32) (K : Int32 → sm_S → Prop) (hF : mp_X12_stands σ p1 p2 p3 p4 K) : Met l yX12_stands wp_X12_stands { frames := 0, cells := 0, slots := 0, locals := 0 } (sm_P sm_wM sm_tM 40 D sz t0 σ α [.ref (α.1 1), .int p1, .int p2, .int p3, .int p4]) (va_Qi K (sm_B sm_wM D α) (sm_a α 40 sz)) 0 0 (sm_a α 40 sz) := by
  refine Met.ofW (cc := cX12_stands) (maxL := 7) (ret := (some .int)) (by decide) rfl ?_
  intro p e s m args below meth c s₁ B hml hv
  obtain ⟨rfl, hsz, hP, hK, hD0, hE⟩ := hv
  have hx := B.exec
  have hb := B.bytes
  have hr := B.returns
  have hts := atoms_spec (ws := wp_X12_stands) B.pre
  have hown : s.vm.findClass RX12 = some m.cls := findClass_of_methodNamed B.named
  have hlocks := B.notSynchronized
  subst hsz
  have hD : sm_D (sm_a α 40 s.heap.size) α 40 := hD0.own
  have hA : ∀ q : Nat, s.heap.size ≤ q → sm_a α 40 s.heap.size q := fun q h => Or.inr h
  generalize hAe : sm_a α 40 s.heap.size = A at hD hA hE ⊢
  have hS : va_S A s.heap s.heap [] := va_S.rf
  have in_X11 : ∀ w ∈ wsX110, w ∈ wp_X12_stands := wi_X12_stands_X11
  have in_X12 : ∀ w ∈ wsX120, w ∈ wp_X12_stands := wi_X12_stands_X12
  have k_0 := hts (.fieldLink RX12 33 "SteadyMachineModel" "high" "[I") (by decide +kernel)
  have k_1 := hts (.fieldLink RX12 40 "SteadyMachineModel" "types" "[B") (by decide +kernel)
  have k_2 := hts (.fieldLink RX12 10 "SteadyMachineModel" "image" "LSteadyMachineModel$Image;") (by decide +kernel)
  have hl := lv_entry ([.ref (α.1 1), .int p1, .int p2, .int p3, .int p4]) (n := 7) (Nat.le_of_ble_eq_true rfl)
  rw [lg_entry_eq]
  generalize (lg_sl ([.ref (α.1 1), .int p1, .int p2, .int p3, .int p4]) ++ List.replicate (7 - (lg_sl ([.ref (α.1 1), .int p1, .int p2, .int p3, .int p4])).length) Slot.unset).toArray = ls at hl ⊢
  have hl : lv_has ls 7 [(0, .ref (α.1 1)), (1, .int p1), (2, .int p2), (3, .int p3), (4, .int p4)] := hl
  have B166 : ∀ (σ : sm_S) (y0 : Int32), mp_X12_stands_166 K σ y0 → sm_J p l e (headSpec wp_X12_stands { frames := 0, cells := 0, slots := 0, locals := 0 }).room s m ([.ref (α.1 1), .int p1, .int p2, .int p3, .int p4] : List Value).toArray below meth c (MQ below (va_Qi K (sm_B sm_wM D α) A) ([.ref (α.1 1), .int p1, .int p2, .int p3, .int p4] : List Value).toArray s 0 0 A) D A 7 (sm_wM σ α) 166 [] [.int y0] := by
    intro σ y0 hF H locs ls hP hS hl
    unfold mp_X12_stands_166 at hF
    exact W.iret (v := y0) hx hb hr (fun t ht hW => ⟨⟨y0, σ, rfl, hF, (by unfold sm_B; rw [ht]; exact hP)⟩, hS.F ht⟩) hS.2.2 dX12_stands_166
  have B165 : ∀ (σ : sm_S), mp_X12_stands_165 K σ → sm_J p l e (headSpec wp_X12_stands { frames := 0, cells := 0, slots := 0, locals := 0 }).room s m ([.ref (α.1 1), .int p1, .int p2, .int p3, .int p4] : List Value).toArray below meth c (MQ below (va_Qi K (sm_B sm_wM D α) A) ([.ref (α.1 1), .int p1, .int p2, .int p3, .int p4] : List Value).toArray s 0 0 A) D A 7 (sm_wM σ α) 165 [] [] := by
    intro σ hF H locs ls hP hS hl
    unfold mp_X12_stands_165 at hF
    refine lv_iconst (v := -1) hx hb dX12_stands_165 (by decide) ?_
    exact B166 σ (-1) hF H locs ls hP hS (lv_sub hl [] rfl)
  have B124 : ∀ (σ : sm_S) (x3 : Int32) (x4 : Int32) (x5 : Int32) (x6 : Int32), mp_X12_stands_124 K σ x3 x4 x5 x6 → sm_J p l e (headSpec wp_X12_stands { frames := 0, cells := 0, slots := 0, locals := 0 }).room s m ([.ref (α.1 1), .int p1, .int p2, .int p3, .int p4] : List Value).toArray below meth c (MQ below (va_Qi K (sm_B sm_wM D α) A) ([.ref (α.1 1), .int p1, .int p2, .int p3, .int p4] : List Value).toArray s 0 0 A) D A 7 (sm_wM σ α) 124 [(0, .ref (α.1 1)), (3, .int x3), (4, .int x4), (5, .int x5), (6, .int x6)] [] := by
    intro σ x3 x4 x5 x6 hF H locs ls hP hS hl
    unfold mp_X12_stands_124 at hF
    refine lv_iload_n hx hb dX12_stands_124 rfl (lv_at hl 1 rfl) ?_
    refine lv_iconst (v := 2) hx hb dX12_stands_125 (by decide) ?_
    refine lv_icmp_ne (tgt := 165) hx hb dX12_stands_126 (by decide) (fun h1 => ?_) (fun h1 => ?_)
    · replace hF := hF.1 h1
      exact B165 σ hF H locs ls hP hS (lv_sub hl [] rfl)
    · replace hF := hF.2 h1
      refine lv_iload hx hb dX12_stands_129 (lv_at hl 2 rfl) ?_
      refine lv_if_lt (tgt := 165) hx hb dX12_stands_131 (by decide) (fun h2 => ?_) (fun h2 => ?_)
      · replace hF := hF.1 h2
        exact B165 σ hF H locs ls hP hS (lv_sub hl [] rfl)
      · replace hF := hF.2 h2
        refine lv_iload hx hb dX12_stands_134 (lv_at hl 2 rfl) ?_
        refine lv_aload_n hx hb dX12_stands_136 rfl (lv_at hl 0 rfl) ?_
        refine va_get (D := D) (ci := 12) (v := .ref (α.1 21)) (C := RX12) (T := TX12) (N := 42) hx hb hts in_X12 hown hK hP 1 (sm_gX12 σ α) rfl 1 (by decide) k_0 (fun _ h9 => h9) rfl dX12_stands_137 ?_
        refine lv_iload hx hb dX12_stands_140 (lv_at hl 3 rfl) ?_
        obtain ⟨h3, hF⟩ := hF
        refine va_iald (n := (σ.2.2.1 21)) (f := (σ.2.2.2.1 21)) hx hb hK hP 21 19 (sm_aM21 σ α) (sm_yM21 α) h3 dX12_stands_142 ?_
        refine lv_icmp_ge (tgt := 165) hx hb dX12_stands_143 (by decide) (fun h4 => ?_) (fun h4 => ?_)
        · replace hF := hF.1 h4
          exact B165 σ hF H locs ls hP hS (lv_sub hl [] rfl)
        · replace hF := hF.2 h4
          refine lv_aload_n hx hb dX12_stands_146 rfl (lv_at hl 0 rfl) ?_
          refine va_get (D := D) (ci := 12) (v := .ref (α.1 22)) (C := RX12) (T := TX12) (N := 42) hx hb hts in_X12 hown hK hP 1 (sm_gX12 σ α) rfl 2 (by decide) k_1 (fun _ h9 => h9) rfl dX12_stands_147 ?_
          refine lv_bipush (v := 12) hx hb dX12_stands_150 (by decide) ?_
          refine lv_iload hx hb dX12_stands_152 (lv_at hl 3 rfl) ?_
          refine lv_imul hx hb dX12_stands_154 ?_
          refine lv_iload hx hb dX12_stands_155 (lv_at hl 4 rfl) ?_
          refine lv_iadd hx hb dX12_stands_157 ?_
          refine lv_iload hx hb dX12_stands_158 (lv_at hl 2 rfl) ?_
          refine lv_iadd hx hb dX12_stands_160 ?_
          obtain ⟨h5, hF⟩ := hF
          refine va_bald (n := (σ.2.2.1 22)) (f := (σ.2.2.2.1 22)) hx hb hK hP 22 20 (sm_aM22 σ α) (sm_yM22 α) h5 dX12_stands_161 ?_
          refine lv_goto (tgt := 166) hx hb dX12_stands_162 (by decide) ?_
          exact B166 σ ((σ.2.2.2.1 22) (((12 * x5) + x6) + x4).toNatClampNeg) hF H locs ls hP hS (lv_sub hl [] rfl)
  have B41 : ∀ (σ : sm_S), mp_X12_stands_41 K σ → sm_J p l e (headSpec wp_X12_stands { frames := 0, cells := 0, slots := 0, locals := 0 }).room s m ([.ref (α.1 1), .int p1, .int p2, .int p3, .int p4] : List Value).toArray below meth c (MQ below (va_Qi K (sm_B sm_wM D α) A) ([.ref (α.1 1), .int p1, .int p2, .int p3, .int p4] : List Value).toArray s 0 0 A) D A 7 (sm_wM σ α) 41 [] [] := by
    intro σ hF H locs ls hP hS hl
    unfold mp_X12_stands_41 at hF
    refine lv_iconst (v := -1) hx hb dX12_stands_41 (by decide) ?_
    exact W.iret (v := (-1)) hx hb hr (fun t ht hW => ⟨⟨(-1), σ, rfl, hF, (by unfold sm_B; rw [ht]; exact hP)⟩, hS.F ht⟩) hS.2.2 dX12_stands_42
  unfold mp_X12_stands at hF
  revert hP hS
  generalize hLo : ([] : List Loc) = locs
  suffices h9 : ∀ (H : Heap) (locs : List Loc), va_P D vwCl (sm_wM σ α) H → va_S A s.heap H locs → W p l e (headSpec wp_X12_stands { frames := 0, cells := 0, slots := 0, locals := 0 }).room s m ([.ref (α.1 1), .int p1, .int p2, .int p3, .int p4] : List Value).toArray below meth c H locs 0 0 (MQ below (va_Qi K (sm_B sm_wM D α) A) ([.ref (α.1 1), .int p1, .int p2, .int p3, .int p4] : List Value).toArray s 0 0 A) (F0 m 0 ls []) from fun hP hS => h9 s.heap locs hP hS
  intro H locs hP hS
  refine lv_aload_n hx hb dX12_stands_0 rfl (lv_at hl 0 rfl) ?_
  refine va_get (D := D) (ci := 12) (v := .ref (α.1 0)) (C := RX12) (T := TX12) (N := 42) hx hb hts in_X12 hown hK hP 1 (sm_gX12 σ α) rfl 0 (by decide) k_2 (fun _ h9 => h9) rfl dX12_stands_1 ?_
  refine va_getN (D := D) (ci := 11) (v := .int (σ.1 4)) (C := RX11) (T := TX11) (N := 28) hx hb hts in_X11 hown hK hP 0 (sm_gX11 σ α) rfl 7 (by decide) (va_Nw.use rfl (hE.1 (.fieldLinkNest "SteadyMachineModel" 164 "SteadyMachineModel$Image" "there" "Z" "SteadyMachineModel") (by decide +kernel))) (fun _ h9 => h9) rfl dX12_stands_4 ?_
  refine lv_if_eq (tgt := 41) hx hb dX12_stands_7 (by decide) (fun h6 => ?_) (fun h6 => ?_)
  · replace hF := hF.1 h6
    exact B41 σ hF H locs ls hP hS (lv_sub hl [] rfl)
  · replace hF := hF.2 h6
    refine lv_iload_n hx hb dX12_stands_10 rfl (lv_at hl 1 rfl) ?_
    refine lv_if_lt (tgt := 41) hx hb dX12_stands_11 (by decide) (fun h7 => ?_) (fun h7 => ?_)
    · replace hF := hF.1 h7
      exact B41 σ hF H locs ls hP hS (lv_sub hl [] rfl)
    · replace hF := hF.2 h7
      refine lv_iload_n hx hb dX12_stands_14 rfl (lv_at hl 1 rfl) ?_
      refine lv_aload_n hx hb dX12_stands_15 rfl (lv_at hl 0 rfl) ?_
      refine va_get (D := D) (ci := 12) (v := .ref (α.1 0)) (C := RX12) (T := TX12) (N := 42) hx hb hts in_X12 hown hK hP 1 (sm_gX12 σ α) rfl 0 (by decide) k_2 (fun _ h9 => h9) rfl dX12_stands_16 ?_
      refine va_getN (D := D) (ci := 11) (v := .int (σ.1 6)) (C := RX11) (T := TX11) (N := 28) hx hb hts in_X11 hown hK hP 0 (sm_gX11 σ α) rfl 15 (by decide) (va_Nw.use rfl (hE.1 (.fieldLinkNest "SteadyMachineModel" 158 "SteadyMachineModel$Image" "methods" "I" "SteadyMachineModel") (by decide +kernel))) (fun _ h9 => h9) rfl dX12_stands_19 ?_
      refine lv_icmp_ge (tgt := 41) hx hb dX12_stands_22 (by decide) (fun h8 => ?_) (fun h8 => ?_)
      · replace hF := hF.1 h8
        exact B41 σ hF H locs ls hP hS (lv_sub hl [] rfl)
      · replace hF := hF.2 h8
        refine lv_iload_n hx hb dX12_stands_25 rfl (lv_at hl 2 rfl) ?_
        refine lv_if_lt (tgt := 41) hx hb dX12_stands_26 (by decide) (fun h9 => ?_) (fun h9 => ?_)
        · replace hF := hF.1 h9
          exact B41 σ hF H locs ls hP hS (lv_sub hl [] rfl)
        · replace hF := hF.2 h9
          refine lv_aload_n hx hb dX12_stands_29 rfl (lv_at hl 0 rfl) ?_
          refine va_get (D := D) (ci := 12) (v := .ref (α.1 0)) (C := RX12) (T := TX12) (N := 42) hx hb hts in_X12 hown hK hP 1 (sm_gX12 σ α) rfl 0 (by decide) k_2 (fun _ h9 => h9) rfl dX12_stands_30 ?_
          refine lv_iload_n hx hb dX12_stands_33 rfl (lv_at hl 1 rfl) ?_
          refine lv_iload_n hx hb dX12_stands_34 rfl (lv_at hl 2 rfl) ?_
          exact hF.elim
theorem dX12_input_0 : decode cX12_input 0 = .ok (.aload_n 0, 1) := by decide +kernel
theorem dX12_input_1 : decode cX12_input 1 = .ok (.getfield 227, 3) := by decide +kernel
theorem dX12_input_4 : decode cX12_input 4 = .ok (.sipush 1000, 3) := by decide +kernel
theorem dX12_input_7 : decode cX12_input 7 = .ok (.if_icmp .ne 6, 3) := by decide +kernel
theorem dX12_input_10 : decode cX12_input 10 = .ok (.bipush (-2), 2) := by decide +kernel
theorem dX12_input_12 : decode cX12_input 12 = .ok (.ireturn, 1) := by decide +kernel
theorem dX12_input_13 : decode cX12_input 13 = .ok (.aload_n 0, 1) := by decide +kernel
theorem dX12_input_14 : decode cX12_input 14 = .ok (.getfield 221, 3) := by decide +kernel
theorem dX12_input_17 : decode cX12_input 17 = .ok (.aload_n 0, 1) := by decide +kernel
theorem dX12_input_18 : decode cX12_input 18 = .ok (.getfield 227, 3) := by decide +kernel
theorem dX12_input_21 : decode cX12_input 21 = .ok (.iload_n 1, 1) := by decide +kernel
theorem dX12_input_22 : decode cX12_input 22 = .ok (.iastore, 1) := by decide +kernel
theorem dX12_input_23 : decode cX12_input 23 = .ok (.aload_n 0, 1) := by decide +kernel
theorem dX12_input_24 : decode cX12_input 24 = .ok (.dup, 1) := by decide +kernel
theorem dX12_input_25 : decode cX12_input 25 = .ok (.getfield 227, 3) := by decide +kernel
theorem dX12_input_28 : decode cX12_input 28 = .ok (.iconst 1, 1) := by decide +kernel
theorem dX12_input_29 : decode cX12_input 29 = .ok (.iadd, 1) := by decide +kernel
theorem dX12_input_30 : decode cX12_input 30 = .ok (.putfield 227, 3) := by decide +kernel
theorem dX12_input_33 : decode cX12_input 33 = .ok (.aload_n 0, 1) := by decide +kernel
theorem dX12_input_34 : decode cX12_input 34 = .ok (.getfield 227, 3) := by decide +kernel
theorem dX12_input_37 : decode cX12_input 37 = .ok (.ireturn, 1) := by decide +kernel
/-- SteadyMachineModel.input(I)I -/
def mp_X12_input (σ : sm_S) (p1 : Int32) (K : Int32 → sm_S → Prop) : Prop := ((¬ (σ.1 19) = 1000 → (vp_in (σ.1 19) (σ.2.2.1 38) ∧ ∀ σ3 : sm_S, σ3 = sm_r σ 38 (upd (σ.2.2.2.1 38) (σ.1 19).toNatClampNeg p1) → ∀ σ4 : sm_S, σ4 = sm_i σ3 19 ((σ3.1 19) + 1) → K (σ4.1 19) σ4)) ∧ ((σ.1 19) = 1000 → (K (-2) σ)))
def wp_X12_input : List Cond := .code yX12_input cX12_input 2 (some .int) :: ([.fieldLink RX12 227 "SteadyMachineModel" "inputs" "I", .fieldLink RX12 221 "SteadyMachineModel" "input" "[I"] ++ wsX120)
theorem wi_X12_input_X12 : ∀ w ∈ wsX120, w ∈ wp_X12_input := fun w h => List.mem_cons_of_mem _ (List.mem_append_right _ h)
set_option maxHeartbeats 4000000 in
set_option maxRecDepth 100000 in
theorem c_X12_input (l : Launch) (D : va_G) (sz t0 : Nat) (σ : sm_S) (α : sm_A) (p1 : Int32) (K : Int32 → sm_S → Prop) (hF : mp_X12_input σ p1 K) : Met l yX12_input wp_X12_input { frames := 0, cells := 0, slots := 0, locals := 0 } (sm_P sm_wM sm_tM 40 D sz t0 σ α [.ref (α.1 1), .int p1]) (va_Qi K (sm_B sm_wM D α) (sm_a α 40 sz)) 0 0 (sm_a α 40 sz) := by
  refine Met.ofW (cc := cX12_input) (maxL := 2) (ret := (some .int)) (by decide) rfl ?_
  intro p e s m args below meth c s₁ B hml hv
  obtain ⟨rfl, hsz, hP, hK, hD0, hE⟩ := hv
  have hx := B.exec
  have hb := B.bytes
  have hr := B.returns
  have hts := atoms_spec (ws := wp_X12_input) B.pre
  have hown : s.vm.findClass RX12 = some m.cls := findClass_of_methodNamed B.named
  have hlocks := B.notSynchronized
  subst hsz
  have hD : sm_D (sm_a α 40 s.heap.size) α 40 := hD0.own
  have hA : ∀ q : Nat, s.heap.size ≤ q → sm_a α 40 s.heap.size q := fun q h => Or.inr h
  generalize hAe : sm_a α 40 s.heap.size = A at hD hA hE ⊢
  have hS : va_S A s.heap s.heap [] := va_S.rf
  have in_X12 : ∀ w ∈ wsX120, w ∈ wp_X12_input := wi_X12_input_X12
  have k_0 := hts (.fieldLink RX12 227 "SteadyMachineModel" "inputs" "I") (by decide +kernel)
  have k_1 := hts (.fieldLink RX12 221 "SteadyMachineModel" "input" "[I") (by decide +kernel)
  have hl := lv_entry ([.ref (α.1 1), .int p1]) (n := 2) (Nat.le_of_ble_eq_true rfl)
  rw [lg_entry_eq]
  generalize (lg_sl ([.ref (α.1 1), .int p1]) ++ List.replicate (2 - (lg_sl ([.ref (α.1 1), .int p1])).length) Slot.unset).toArray = ls at hl ⊢
  have hl : lv_has ls 2 [(0, .ref (α.1 1)), (1, .int p1)] := hl
  unfold mp_X12_input at hF
  revert hP hS
  generalize hLo : ([] : List Loc) = locs
  suffices h9 : ∀ (H : Heap) (locs : List Loc), va_P D vwCl (sm_wM σ α) H → va_S A s.heap H locs → W p l e (headSpec wp_X12_input { frames := 0, cells := 0, slots := 0, locals := 0 }).room s m ([.ref (α.1 1), .int p1] : List Value).toArray below meth c H locs 0 0 (MQ below (va_Qi K (sm_B sm_wM D α) A) ([.ref (α.1 1), .int p1] : List Value).toArray s 0 0 A) (F0 m 0 ls []) from fun hP hS => h9 s.heap locs hP hS
  intro H locs hP hS
  refine lv_aload_n hx hb dX12_input_0 rfl (lv_at hl 0 rfl) ?_
  refine va_get (D := D) (ci := 12) (v := .int (σ.1 19)) (C := RX12) (T := TX12) (N := 42) hx hb hts in_X12 hown hK hP 1 (sm_gX12 σ α) rfl 29 (by decide) k_0 (fun _ h9 => h9) rfl dX12_input_1 ?_
  refine lv_sipush (v := 1000) hx hb dX12_input_4 (by decide) ?_
  refine lv_icmp_ne (tgt := 13) hx hb dX12_input_7 (by decide) (fun h1 => ?_) (fun h1 => ?_)
  · replace hF := hF.1 h1
    refine lv_aload_n hx hb dX12_input_13 rfl (lv_at hl 0 rfl) ?_
    refine va_get (D := D) (ci := 12) (v := .ref (α.1 38)) (C := RX12) (T := TX12) (N := 42) hx hb hts in_X12 hown hK hP 1 (sm_gX12 σ α) rfl 30 (by decide) k_1 (fun _ h9 => h9) rfl dX12_input_14 ?_
    refine lv_aload_n hx hb dX12_input_17 rfl (lv_at hl 0 rfl) ?_
    refine va_get (D := D) (ci := 12) (v := .int (σ.1 19)) (C := RX12) (T := TX12) (N := 42) hx hb hts in_X12 hown hK hP 1 (sm_gX12 σ α) rfl 29 (by decide) k_0 (fun _ h9 => h9) rfl dX12_input_18 ?_
    refine lv_iload_n hx hb dX12_input_21 rfl (lv_at hl 1 rfl) ?_
    obtain ⟨h2, hF⟩ := hF
    refine va_iast (n := (σ.2.2.1 38)) (f := (σ.2.2.2.1 38)) (x := p1) hx hb hK hP (hD.to (sm_wM_m _ _)) hS 38 36 (sm_aM38 σ α) (sm_yM38 α) h2 dX12_input_22 (fun H locs hP _ hS => ?_)
    rw [sm_rM38] at hP
    obtain ⟨σ3, eσ3⟩ : ∃ x : sm_S, x = sm_r σ 38 (upd (σ.2.2.2.1 38) (σ.1 19).toNatClampNeg p1) := ⟨_, rfl⟩
    replace hF := hF σ3 eσ3
    rw [← eσ3] at hP
    refine lv_aload_n hx hb dX12_input_23 rfl (lv_at hl 0 rfl) ?_
    refine lv_dup hx hb dX12_input_24 rfl ?_
    refine va_get (D := D) (ci := 12) (v := .int (σ3.1 19)) (C := RX12) (T := TX12) (N := 42) hx hb hts in_X12 hown hK hP 1 (sm_gX12 σ3 α) rfl 29 (by decide) k_0 (fun _ h9 => h9) rfl dX12_input_25 ?_
    refine lv_iconst (v := 1) hx hb dX12_input_28 (by decide) ?_
    refine lv_iadd hx hb dX12_input_29 ?_
    refine va_put (D := D) (ci := 12) (v := .int ((σ3.1 19) + 1)) (ty := .int) (C := RX12) (T := TX12) (N := 42) hx hb hts in_X12 tyX12 tyX12_ok nmX12 hown hK hP (hD.to (sm_wM_m _ _)) hS 1 (sm_gX12 σ3 α) rfl 29 (by decide) k_0 (fun _ h9 => h9) rfl (by decide +kernel) rfl rfl (Nat.le_of_ble_eq_true rfl) dX12_input_30 (fun H locs hP _ hS => ?_)
    rw [sm_iM19] at hP
    obtain ⟨σ4, eσ4⟩ : ∃ x : sm_S, x = sm_i σ3 19 ((σ3.1 19) + 1) := ⟨_, rfl⟩
    replace hF := hF σ4 eσ4
    rw [← eσ4] at hP
    refine lv_aload_n hx hb dX12_input_33 rfl (lv_at hl 0 rfl) ?_
    refine va_get (D := D) (ci := 12) (v := .int (σ4.1 19)) (C := RX12) (T := TX12) (N := 42) hx hb hts in_X12 hown hK hP 1 (sm_gX12 σ4 α) rfl 29 (by decide) k_0 (fun _ h9 => h9) rfl dX12_input_34 ?_
    exact W.iret (v := (σ4.1 19)) hx hb hr (fun t ht hW => ⟨⟨(σ4.1 19), σ4, rfl, hF, (by unfold sm_B; rw [ht]; exact hP)⟩, hS.F ht⟩) hS.2.2 dX12_input_37
  · replace hF := hF.2 h1
    refine lv_bipush (v := -2) hx hb dX12_input_10 (by decide) ?_
    exact W.iret (v := (-2)) hx hb hr (fun t ht hW => ⟨⟨(-2), σ, rfl, hF, (by unfold sm_B; rw [ht]; exact hP)⟩, hS.F ht⟩) hS.2.2 dX12_input_12
theorem dX12_clear_0 : decode cX12_clear 0 = .ok (.aload_n 0, 1) := by decide +kernel
theorem dX12_clear_1 : decode cX12_clear 1 = .ok (.iconst 0, 1) := by decide +kernel
theorem dX12_clear_2 : decode cX12_clear 2 = .ok (.putfield 227, 3) := by decide +kernel
theorem dX12_clear_5 : decode cX12_clear 5 = .ok (.return_, 1) := by decide +kernel
/-- SteadyMachineModel.clear()V -/
def mp_X12_clear (σ : sm_S)  (K : sm_S → Prop) : Prop := ∀ σ1 : sm_S, σ1 = sm_i σ 19 0 → K σ1
def wp_X12_clear : List Cond := .code yX12_clear cX12_clear 1 none :: ([.fieldLink RX12 227 "SteadyMachineModel" "inputs" "I"] ++ wsX120)
theorem wi_X12_clear_X12 : ∀ w ∈ wsX120, w ∈ wp_X12_clear := fun w h => List.mem_cons_of_mem _ (List.mem_append_right _ h)
set_option maxHeartbeats 4000000 in
set_option maxRecDepth 100000 in
theorem c_X12_clear (l : Launch) (D : va_G) (sz t0 : Nat) (σ : sm_S) (α : sm_A) (K : sm_S → Prop) (hF : mp_X12_clear σ K) : Met l yX12_clear wp_X12_clear { frames := 0, cells := 0, slots := 0, locals := 0 } (sm_P sm_wM sm_tM 40 D sz t0 σ α [.ref (α.1 1)]) (va_Qv K (sm_B sm_wM D α) (sm_a α 40 sz)) 0 0 (sm_a α 40 sz) := by
  refine Met.ofW (cc := cX12_clear) (maxL := 1) (ret := none) (by decide) rfl ?_
  intro p e s m args below meth c s₁ B hml hv
  obtain ⟨rfl, hsz, hP, hK, hD0, hE⟩ := hv
  have hx := B.exec
  have hb := B.bytes
  have hr := B.returns
  have hts := atoms_spec (ws := wp_X12_clear) B.pre
  have hown : s.vm.findClass RX12 = some m.cls := findClass_of_methodNamed B.named
  have hlocks := B.notSynchronized
  subst hsz
  have hD : sm_D (sm_a α 40 s.heap.size) α 40 := hD0.own
  have hA : ∀ q : Nat, s.heap.size ≤ q → sm_a α 40 s.heap.size q := fun q h => Or.inr h
  generalize hAe : sm_a α 40 s.heap.size = A at hD hA hE ⊢
  have hS : va_S A s.heap s.heap [] := va_S.rf
  have in_X12 : ∀ w ∈ wsX120, w ∈ wp_X12_clear := wi_X12_clear_X12
  have k_0 := hts (.fieldLink RX12 227 "SteadyMachineModel" "inputs" "I") (by decide +kernel)
  have hl := lv_entry ([.ref (α.1 1)]) (n := 1) (Nat.le_of_ble_eq_true rfl)
  rw [lg_entry_eq]
  generalize (lg_sl ([.ref (α.1 1)]) ++ List.replicate (1 - (lg_sl ([.ref (α.1 1)])).length) Slot.unset).toArray = ls at hl ⊢
  have hl : lv_has ls 1 [(0, .ref (α.1 1))] := hl
  unfold mp_X12_clear at hF
  revert hP hS
  generalize hLo : ([] : List Loc) = locs
  suffices h9 : ∀ (H : Heap) (locs : List Loc), va_P D vwCl (sm_wM σ α) H → va_S A s.heap H locs → W p l e (headSpec wp_X12_clear { frames := 0, cells := 0, slots := 0, locals := 0 }).room s m ([.ref (α.1 1)] : List Value).toArray below meth c H locs 0 0 (MQ below (va_Qv K (sm_B sm_wM D α) A) ([.ref (α.1 1)] : List Value).toArray s 0 0 A) (F0 m 0 ls []) from fun hP hS => h9 s.heap locs hP hS
  intro H locs hP hS
  refine lv_aload_n hx hb dX12_clear_0 rfl (lv_at hl 0 rfl) ?_
  refine lv_iconst (v := 0) hx hb dX12_clear_1 (by decide) ?_
  refine va_put (D := D) (ci := 12) (v := .int 0) (ty := .int) (C := RX12) (T := TX12) (N := 42) hx hb hts in_X12 tyX12 tyX12_ok nmX12 hown hK hP (hD.to (sm_wM_m _ _)) hS 1 (sm_gX12 σ α) rfl 29 (by decide) k_0 (fun _ h9 => h9) rfl (by decide +kernel) rfl rfl (Nat.le_of_ble_eq_true rfl) dX12_clear_2 (fun H locs hP _ hS => ?_)
  rw [sm_iM19] at hP
  obtain ⟨σ1, eσ1⟩ : ∃ x : sm_S, x = sm_i σ 19 0 := ⟨_, rfl⟩
  replace hF := hF σ1 eσ1
  rw [← eσ1] at hP
  exact W.vret hx hb hr (fun t ht hW => ⟨⟨σ1, rfl, hF, (by unfold sm_B; rw [ht]; exact hP)⟩, hS.F ht⟩) hS.2.2 dX12_clear_5
theorem dX12_start_0 : decode cX12_start 0 = .ok (.aload_n 0, 1) := by decide +kernel
theorem dX12_start_1 : decode cX12_start 1 = .ok (.getfield 10, 3) := by decide +kernel
theorem dX12_start_4 : decode cX12_start 4 = .ok (.getfield 164, 3) := by decide +kernel
theorem dX12_start_7 : decode cX12_start 7 = .ok (.ifCond .ne 5, 3) := by decide +kernel
theorem dX12_start_10 : decode cX12_start 10 = .ok (.iconst 0, 1) := by decide +kernel
theorem dX12_start_11 : decode cX12_start 11 = .ok (.ireturn, 1) := by decide +kernel
theorem dX12_start_12 : decode cX12_start 12 = .ok (.iload_n 1, 1) := by decide +kernel
theorem dX12_start_13 : decode cX12_start 13 = .ok (.sipush 1024, 3) := by decide +kernel
theorem dX12_start_16 : decode cX12_start 16 = .ok (.if_icmp .ge 9, 3) := by decide +kernel
theorem dX12_start_19 : decode cX12_start 19 = .ok (.sipush 1024, 3) := by decide +kernel
theorem dX12_start_22 : decode cX12_start 22 = .ok (.goto 15, 3) := by decide +kernel
theorem dX12_start_25 : decode cX12_start 25 = .ok (.iload_n 1, 1) := by decide +kernel
theorem dX12_start_26 : decode cX12_start 26 = .ok (.ldc 230, 2) := by decide +kernel
theorem dX12_start_28 : decode cX12_start 28 = .ok (.if_icmp .le 8, 3) := by decide +kernel
theorem dX12_start_31 : decode cX12_start 31 = .ok (.ldc 230, 2) := by decide +kernel
theorem dX12_start_33 : decode cX12_start 33 = .ok (.goto 4, 3) := by decide +kernel
theorem dX12_start_36 : decode cX12_start 36 = .ok (.iload_n 1, 1) := by decide +kernel
theorem dX12_start_37 : decode cX12_start 37 = .ok (.istore_n 3, 1) := by decide +kernel
theorem dX12_start_38 : decode cX12_start 38 = .ok (.aload_n 0, 1) := by decide +kernel
theorem dX12_start_39 : decode cX12_start 39 = .ok (.iload_n 2, 1) := by decide +kernel
theorem dX12_start_40 : decode cX12_start 40 = .ok (.iconst 1, 1) := by decide +kernel
theorem dX12_start_41 : decode cX12_start 41 = .ok (.if_icmp .ge 7, 3) := by decide +kernel
theorem dX12_start_44 : decode cX12_start 44 = .ok (.iconst 1, 1) := by decide +kernel
theorem dX12_start_45 : decode cX12_start 45 = .ok (.goto 15, 3) := by decide +kernel
theorem dX12_start_48 : decode cX12_start 48 = .ok (.iload_n 2, 1) := by decide +kernel
theorem dX12_start_49 : decode cX12_start 49 = .ok (.bipush 64, 2) := by decide +kernel
theorem dX12_start_51 : decode cX12_start 51 = .ok (.if_icmp .le 8, 3) := by decide +kernel
theorem dX12_start_54 : decode cX12_start 54 = .ok (.bipush 64, 2) := by decide +kernel
theorem dX12_start_56 : decode cX12_start 56 = .ok (.goto 4, 3) := by decide +kernel
theorem dX12_start_59 : decode cX12_start 59 = .ok (.iload_n 2, 1) := by decide +kernel
theorem dX12_start_60 : decode cX12_start 60 = .ok (.putfield 231, 3) := by decide +kernel
theorem dX12_start_63 : decode cX12_start 63 = .ok (.aload_n 0, 1) := by decide +kernel
theorem dX12_start_64 : decode cX12_start 64 = .ok (.iload_n 3, 1) := by decide +kernel
theorem dX12_start_65 : decode cX12_start 65 = .ok (.aload_n 0, 1) := by decide +kernel
theorem dX12_start_66 : decode cX12_start 66 = .ok (.getfield 231, 3) := by decide +kernel
theorem dX12_start_69 : decode cX12_start 69 = .ok (.imul, 1) := by decide +kernel
theorem dX12_start_70 : decode cX12_start 70 = .ok (.aload_n 0, 1) := by decide +kernel
theorem dX12_start_71 : decode cX12_start 71 = .ok (.getfield 231, 3) := by decide +kernel
theorem dX12_start_74 : decode cX12_start 74 = .ok (.iconst 1, 1) := by decide +kernel
theorem dX12_start_75 : decode cX12_start 75 = .ok (.iadd, 1) := by decide +kernel
theorem dX12_start_76 : decode cX12_start 76 = .ok (.idiv, 1) := by decide +kernel
theorem dX12_start_77 : decode cX12_start 77 = .ok (.putfield 234, 3) := by decide +kernel
theorem dX12_start_80 : decode cX12_start 80 = .ok (.aload_n 0, 1) := by decide +kernel
theorem dX12_start_81 : decode cX12_start 81 = .ok (.iconst 0, 1) := by decide +kernel
theorem dX12_start_82 : decode cX12_start 82 = .ok (.putfield 237, 3) := by decide +kernel
theorem dX12_start_85 : decode cX12_start 85 = .ok (.aload_n 0, 1) := by decide +kernel
theorem dX12_start_86 : decode cX12_start 86 = .ok (.lconst 0, 1) := by decide +kernel
theorem dX12_start_87 : decode cX12_start 87 = .ok (.putfield 240, 3) := by decide +kernel
theorem dX12_start_90 : decode cX12_start 90 = .ok (.aload_n 0, 1) := by decide +kernel
theorem dX12_start_91 : decode cX12_start 91 = .ok (.iconst 0, 1) := by decide +kernel
theorem dX12_start_92 : decode cX12_start 92 = .ok (.putfield 244, 3) := by decide +kernel
theorem dX12_start_95 : decode cX12_start 95 = .ok (.aload_n 0, 1) := by decide +kernel
theorem dX12_start_96 : decode cX12_start 96 = .ok (.iconst 0, 1) := by decide +kernel
theorem dX12_start_97 : decode cX12_start 97 = .ok (.putfield 247, 3) := by decide +kernel
theorem dX12_start_100 : decode cX12_start 100 = .ok (.aload_n 0, 1) := by decide +kernel
theorem dX12_start_101 : decode cX12_start 101 = .ok (.iconst 0, 1) := by decide +kernel
theorem dX12_start_102 : decode cX12_start 102 = .ok (.putfield 250, 3) := by decide +kernel
theorem dX12_start_105 : decode cX12_start 105 = .ok (.aload_n 0, 1) := by decide +kernel
theorem dX12_start_106 : decode cX12_start 106 = .ok (.iconst 0, 1) := by decide +kernel
theorem dX12_start_107 : decode cX12_start 107 = .ok (.putfield 253, 3) := by decide +kernel
theorem dX12_start_110 : decode cX12_start 110 = .ok (.iconst 0, 1) := by decide +kernel
theorem dX12_start_111 : decode cX12_start 111 = .ok (.istore 4, 2) := by decide +kernel
theorem dX12_start_113 : decode cX12_start 113 = .ok (.iload 4, 2) := by decide +kernel
theorem dX12_start_115 : decode cX12_start 115 = .ok (.ldc 179, 2) := by decide +kernel
theorem dX12_start_117 : decode cX12_start 117 = .ok (.if_icmp .ge 17, 3) := by decide +kernel
theorem dX12_start_120 : decode cX12_start 120 = .ok (.aload_n 0, 1) := by decide +kernel
theorem dX12_start_121 : decode cX12_start 121 = .ok (.getfield 195, 3) := by decide +kernel
theorem dX12_start_124 : decode cX12_start 124 = .ok (.iload 4, 2) := by decide +kernel
theorem dX12_start_126 : decode cX12_start 126 = .ok (.iconst 0, 1) := by decide +kernel
theorem dX12_start_127 : decode cX12_start 127 = .ok (.iastore, 1) := by decide +kernel
theorem dX12_start_128 : decode cX12_start 128 = .ok (.iinc 4 1, 3) := by decide +kernel
theorem dX12_start_131 : decode cX12_start 131 = .ok (.goto (-18), 3) := by decide +kernel
theorem dX12_start_134 : decode cX12_start 134 = .ok (.aload_n 0, 1) := by decide +kernel
theorem dX12_start_135 : decode cX12_start 135 = .ok (.iconst 0, 1) := by decide +kernel
theorem dX12_start_136 : decode cX12_start 136 = .ok (.putfield 256, 3) := by decide +kernel
theorem dX12_start_139 : decode cX12_start 139 = .ok (.aload_n 0, 1) := by decide +kernel
theorem dX12_start_140 : decode cX12_start 140 = .ok (.iconst 0, 1) := by decide +kernel
theorem dX12_start_141 : decode cX12_start 141 = .ok (.putfield 259, 3) := by decide +kernel
theorem dX12_start_144 : decode cX12_start 144 = .ok (.aload_n 0, 1) := by decide +kernel
theorem dX12_start_145 : decode cX12_start 145 = .ok (.lconst 0, 1) := by decide +kernel
theorem dX12_start_146 : decode cX12_start 146 = .ok (.putfield 262, 3) := by decide +kernel
theorem dX12_start_149 : decode cX12_start 149 = .ok (.aload_n 0, 1) := by decide +kernel
theorem dX12_start_150 : decode cX12_start 150 = .ok (.iconst 0, 1) := by decide +kernel
theorem dX12_start_151 : decode cX12_start 151 = .ok (.putfield 265, 3) := by decide +kernel
theorem dX12_start_154 : decode cX12_start 154 = .ok (.aload_n 0, 1) := by decide +kernel
theorem dX12_start_155 : decode cX12_start 155 = .ok (.iconst 0, 1) := by decide +kernel
theorem dX12_start_156 : decode cX12_start 156 = .ok (.putfield 268, 3) := by decide +kernel
theorem dX12_start_159 : decode cX12_start 159 = .ok (.aload_n 0, 1) := by decide +kernel
theorem dX12_start_160 : decode cX12_start 160 = .ok (.lconst 0, 1) := by decide +kernel
theorem dX12_start_161 : decode cX12_start 161 = .ok (.putfield 271, 3) := by decide +kernel
theorem dX12_start_164 : decode cX12_start 164 = .ok (.aload_n 0, 1) := by decide +kernel
theorem dX12_start_165 : decode cX12_start 165 = .ok (.iconst 1, 1) := by decide +kernel
theorem dX12_start_166 : decode cX12_start 166 = .ok (.putfield 152, 3) := by decide +kernel
theorem dX12_start_169 : decode cX12_start 169 = .ok (.aload_n 0, 1) := by decide +kernel
theorem dX12_start_170 : decode cX12_start 170 = .ok (.bipush 16, 2) := by decide +kernel
theorem dX12_start_172 : decode cX12_start 172 = .ok (.invokevirtual 274, 3) := by decide +kernel
theorem dX12_start_175 : decode cX12_start 175 = .ok (.istore 4, 2) := by decide +kernel
theorem dX12_start_177 : decode cX12_start 177 = .ok (.aload_n 0, 1) := by decide +kernel
theorem dX12_start_178 : decode cX12_start 178 = .ok (.aload_n 0, 1) := by decide +kernel
theorem dX12_start_179 : decode cX12_start 179 = .ok (.getfield 10, 3) := by decide +kernel
theorem dX12_start_182 : decode cX12_start 182 = .ok (.getfield 277, 3) := by decide +kernel
theorem dX12_start_185 : decode cX12_start 185 = .ok (.invokevirtual 280, 3) := by decide +kernel
theorem dX12_start_188 : decode cX12_start 188 = .ok (.iconst 1, 1) := by decide +kernel
theorem dX12_start_189 : decode cX12_start 189 = .ok (.ireturn, 1) := by decide +kernel
def mp_X12_start_113 (K : Int32 → sm_S → Prop) : Nat → sm_S → Int32 → Prop
  | 0, _, _ => False
  | n113 + 1, σ, x4 => (((140000 : Int32) ≤ x4 → (∀ σ2 : sm_S, σ2 = sm_i σ 14 0 → ∀ σ3 : sm_S, σ3 = sm_i σ2 15 0 → ∀ σ4 : sm_S, σ4 = sm_j σ3 0 0 → ∀ σ5 : sm_S, σ5 = sm_i σ4 18 0 → ∀ σ6 : sm_S, σ6 = sm_i σ5 20 0 → ∀ σ7 : sm_S, σ7 = sm_j σ6 1 0 → ∀ σ8 : sm_S, σ8 = sm_i σ7 17 1 → False)) ∧ (¬ (140000 : Int32) ≤ x4 → (vp_in x4 (σ.2.2.1 30) ∧ ∀ σ10 : sm_S, σ10 = sm_r σ 30 (upd (σ.2.2.2.1 30) x4.toNatClampNeg 0) → ∀ v11 : Int32, v11 = x4 + 1 → (mp_X12_start_113 K n113) σ10 v11)))
def mp_X12_start_60 (K : Int32 → sm_S → Prop) (σ : sm_S) (x3 : Int32) (y1 : Int32) : Prop := ∀ σ12 : sm_S, σ12 = sm_i σ 21 y1 → ¬ ((σ12.1 21) + 1) = 0 ∧ ∀ σ13 : sm_S, σ13 = sm_i σ12 22 ((x3 * (σ12.1 21)) / ((σ12.1 21) + 1)) → ∀ σ14 : sm_S, σ14 = sm_i σ13 23 0 → ∀ σ15 : sm_S, σ15 = sm_j σ14 2 0 → ∀ σ16 : sm_S, σ16 = sm_i σ15 24 0 → ∀ σ17 : sm_S, σ17 = sm_i σ16 11 0 → ∀ σ18 : sm_S, σ18 = sm_i σ17 13 0 → ∀ σ19 : sm_S, σ19 = sm_i σ18 12 0 → ∃ n113 : Nat, mp_X12_start_113 K n113 σ19 0
def mp_X12_start_37 (K : Int32 → sm_S → Prop) (σ : sm_S) (x2 : Int32) (y0 : Int32) : Prop := (((1 : Int32) ≤ x2 → ((x2 ≤ 64 → (mp_X12_start_60 K σ y0 x2)) ∧ (¬ x2 ≤ 64 → (mp_X12_start_60 K σ y0 64)))) ∧ (¬ (1 : Int32) ≤ x2 → (mp_X12_start_60 K σ y0 1)))
/-- SteadyMachineModel.start(II)Z -/
def mp_X12_start (σ : sm_S) (p1 : Int32) (p2 : Int32) (K : Int32 → sm_S → Prop) : Prop := ((¬ (σ.1 4) = 0 → (((1024 : Int32) ≤ p1 → ((p1 ≤ 60000 → (mp_X12_start_37 K σ p2 p1)) ∧ (¬ p1 ≤ 60000 → (mp_X12_start_37 K σ p2 60000)))) ∧ (¬ (1024 : Int32) ≤ p1 → (mp_X12_start_37 K σ p2 1024)))) ∧ ((σ.1 4) = 0 → (K 0 σ)))
def wp_X12_start : List Cond := .code yX12_start cX12_start 5 (some .boolean) :: (([.constant RX12 179 (140000), .fieldLink RX12 256 "SteadyMachineModel" "frames" "I", .fieldLink RX12 259 "SteadyMachineModel" "flies" "Z", .fieldLink RX12 262 "SteadyMachineModel" "steps" "J", .fieldLink RX12 265 "SteadyMachineModel" "taken" "I", .fieldLink RX12 268 "SteadyMachineModel" "outputs" "I", .fieldLink RX12 271 "SteadyMachineModel" "allOutputs" "J", .fieldLink RX12 152 "SteadyMachineModel" "state" "I", .fieldLink RX12 195 "SteadyMachineModel" "marked" "[I", .fieldLink RX12 231 "SteadyMachineModel" "k" "I", .fieldLink RX12 234 "SteadyMachineModel" "limit" "I", .fieldLink RX12 237 "SteadyMachineModel" "reached" "I", .fieldLink RX12 240 "SteadyMachineModel" "made" "J", .fieldLink RX12 244 "SteadyMachineModel" "flips" "I", .fieldLink RX12 247 "SteadyMachineModel" "things" "I", .fieldLink RX12 250 "SteadyMachineModel" "used" "I", .fieldLink RX12 253 "SteadyMachineModel" "stamp" "I", .fieldLink RX12 10 "SteadyMachineModel" "image" "LSteadyMachineModel$Image;", .constant RX12 230 (60000)] ++ wsX110) ++ wsX120)
theorem wi_X12_start_X11 : ∀ w ∈ wsX110, w ∈ wp_X12_start := fun w h => List.mem_cons_of_mem _ (List.mem_append_left _ (List.mem_append_right _ h))
theorem wi_X12_start_X12 : ∀ w ∈ wsX120, w ∈ wp_X12_start := fun w h => List.mem_cons_of_mem _ (List.mem_append_right _ h)
set_option maxHeartbeats 4000000 in
set_option maxRecDepth 100000 in
theorem c_X12_start (l : Launch) (D : va_G) (sz t0 : Nat) (σ : sm_S) (α : sm_A) (p1 : Int32) (p2 : Int32) (K : Int32 → sm_S → Prop) (hF : mp_X12_start σ p1 p2 K) : Met l yX12_start wp_X12_start { frames := 0, cells := 0, slots := 0, locals := 0 } (sm_P sm_wM sm_tM 40 D sz t0 σ α [.ref (α.1 1), .int p1, .int p2]) (va_Qi K (sm_B sm_wM D α) (sm_a α 40 sz)) 0 0 (sm_a α 40 sz) := by
  refine Met.ofW (cc := cX12_start) (maxL := 5) (ret := (some .boolean)) (by decide) rfl ?_
  intro p e s m args below meth c s₁ B hml hv
  obtain ⟨rfl, hsz, hP, hK, hD0, hE⟩ := hv
  have hx := B.exec
  have hb := B.bytes
  have hr := B.returns
  have hts := atoms_spec (ws := wp_X12_start) B.pre
  have hown : s.vm.findClass RX12 = some m.cls := findClass_of_methodNamed B.named
  have hlocks := B.notSynchronized
  subst hsz
  have hD : sm_D (sm_a α 40 s.heap.size) α 40 := hD0.own
  have hA : ∀ q : Nat, s.heap.size ≤ q → sm_a α 40 s.heap.size q := fun q h => Or.inr h
  generalize hAe : sm_a α 40 s.heap.size = A at hD hA hE ⊢
  have hS : va_S A s.heap s.heap [] := va_S.rf
  have in_X11 : ∀ w ∈ wsX110, w ∈ wp_X12_start := wi_X12_start_X11
  have in_X12 : ∀ w ∈ wsX120, w ∈ wp_X12_start := wi_X12_start_X12
  have k_0 := hts (.constant RX12 179 (140000)) (by decide +kernel)
  have k_1 := hts (.fieldLink RX12 256 "SteadyMachineModel" "frames" "I") (by decide +kernel)
  have k_2 := hts (.fieldLink RX12 259 "SteadyMachineModel" "flies" "Z") (by decide +kernel)
  have k_3 := hts (.fieldLink RX12 262 "SteadyMachineModel" "steps" "J") (by decide +kernel)
  have k_4 := hts (.fieldLink RX12 265 "SteadyMachineModel" "taken" "I") (by decide +kernel)
  have k_5 := hts (.fieldLink RX12 268 "SteadyMachineModel" "outputs" "I") (by decide +kernel)
  have k_6 := hts (.fieldLink RX12 271 "SteadyMachineModel" "allOutputs" "J") (by decide +kernel)
  have k_7 := hts (.fieldLink RX12 152 "SteadyMachineModel" "state" "I") (by decide +kernel)
  have k_8 := hts (.fieldLink RX12 195 "SteadyMachineModel" "marked" "[I") (by decide +kernel)
  have k_9 := hts (.fieldLink RX12 231 "SteadyMachineModel" "k" "I") (by decide +kernel)
  have k_10 := hts (.fieldLink RX12 234 "SteadyMachineModel" "limit" "I") (by decide +kernel)
  have k_11 := hts (.fieldLink RX12 237 "SteadyMachineModel" "reached" "I") (by decide +kernel)
  have k_12 := hts (.fieldLink RX12 240 "SteadyMachineModel" "made" "J") (by decide +kernel)
  have k_13 := hts (.fieldLink RX12 244 "SteadyMachineModel" "flips" "I") (by decide +kernel)
  have k_14 := hts (.fieldLink RX12 247 "SteadyMachineModel" "things" "I") (by decide +kernel)
  have k_15 := hts (.fieldLink RX12 250 "SteadyMachineModel" "used" "I") (by decide +kernel)
  have k_16 := hts (.fieldLink RX12 253 "SteadyMachineModel" "stamp" "I") (by decide +kernel)
  have k_17 := hts (.fieldLink RX12 10 "SteadyMachineModel" "image" "LSteadyMachineModel$Image;") (by decide +kernel)
  have k_18 := hts (.constant RX12 230 (60000)) (by decide +kernel)
  have hl := lv_entry ([.ref (α.1 1), .int p1, .int p2]) (n := 5) (Nat.le_of_ble_eq_true rfl)
  rw [lg_entry_eq]
  generalize (lg_sl ([.ref (α.1 1), .int p1, .int p2]) ++ List.replicate (5 - (lg_sl ([.ref (α.1 1), .int p1, .int p2])).length) Slot.unset).toArray = ls at hl ⊢
  have hl : lv_has ls 5 [(0, .ref (α.1 1)), (1, .int p1), (2, .int p2)] := hl
  have B113 : ∀ (n : Nat) (σ : sm_S) (x4 : Int32), mp_X12_start_113 K n σ x4 → sm_J p l e (headSpec wp_X12_start { frames := 0, cells := 0, slots := 0, locals := 0 }).room s m ([.ref (α.1 1), .int p1, .int p2] : List Value).toArray below meth c (MQ below (va_Qi K (sm_B sm_wM D α) A) ([.ref (α.1 1), .int p1, .int p2] : List Value).toArray s 0 0 A) D A 5 (sm_wM σ α) 113 [(0, .ref (α.1 1)), (4, .int x4)] [] := by
    intro n113
    induction n113 with
    | zero =>
      intro σ x4 hF
      exact hF.elim
    | succ n113 ih113 =>
      intro σ x4 hF H locs ls hP hS hl
      unfold mp_X12_start_113 at hF
      refine lv_iload hx hb dX12_start_113 (lv_at hl 1 rfl) ?_
      refine lv_ldc (v := 140000) hx hb hown k_0 dX12_start_115 ?_
      refine lv_icmp_ge (tgt := 134) hx hb dX12_start_117 (by decide) (fun h1 => ?_) (fun h1 => ?_)
      · replace hF := hF.1 h1
        refine lv_aload_n hx hb dX12_start_134 rfl (lv_at hl 0 rfl) ?_
        refine lv_iconst (v := 0) hx hb dX12_start_135 (by decide) ?_
        refine va_put (D := D) (ci := 12) (v := .int 0) (ty := .int) (C := RX12) (T := TX12) (N := 42) hx hb hts in_X12 tyX12 tyX12_ok nmX12 hown hK hP (hD.to (sm_wM_m _ _)) hS 1 (sm_gX12 σ α) rfl 18 (by decide) k_1 (fun _ h9 => h9) rfl (by decide +kernel) rfl rfl (Nat.le_of_ble_eq_true rfl) dX12_start_136 (fun H locs hP _ hS => ?_)
        rw [sm_iM14] at hP
        obtain ⟨σ2, eσ2⟩ : ∃ x : sm_S, x = sm_i σ 14 0 := ⟨_, rfl⟩
        replace hF := hF σ2 eσ2
        rw [← eσ2] at hP
        refine lv_aload_n hx hb dX12_start_139 rfl (lv_at hl 0 rfl) ?_
        refine lv_iconst (v := 0) hx hb dX12_start_140 (by decide) ?_
        refine va_put (D := D) (ci := 12) (v := .int 0) (ty := .boolean) (C := RX12) (T := TX12) (N := 42) hx hb hts in_X12 tyX12 tyX12_ok nmX12 hown hK hP (hD.to (sm_wM_m _ _)) hS 1 (sm_gX12 σ2 α) rfl 24 (by decide) k_2 (fun _ h9 => h9) rfl (by decide +kernel) sm_z0.1 sm_z0.2 (Nat.le_of_ble_eq_true rfl) dX12_start_141 (fun H locs hP _ hS => ?_)
        rw [sm_iM15] at hP
        obtain ⟨σ3, eσ3⟩ : ∃ x : sm_S, x = sm_i σ2 15 0 := ⟨_, rfl⟩
        replace hF := hF σ3 eσ3
        rw [← eσ3] at hP
        refine lv_aload_n hx hb dX12_start_144 rfl (lv_at hl 0 rfl) ?_
        refine lv_lconst (v := 0) hx hb dX12_start_145 (by decide) ?_
        refine va_put (D := D) (ci := 12) (v := .long 0) (ty := .long) (C := RX12) (T := TX12) (N := 42) hx hb hts in_X12 tyX12 tyX12_ok nmX12 hown hK hP (hD.to (sm_wM_m _ _)) hS 1 (sm_gX12 σ3 α) rfl 27 (by decide) k_3 (fun _ h9 => h9) rfl (by decide +kernel) rfl rfl (Nat.le_of_ble_eq_true rfl) dX12_start_146 (fun H locs hP _ hS => ?_)
        rw [sm_jM0] at hP
        obtain ⟨σ4, eσ4⟩ : ∃ x : sm_S, x = sm_j σ3 0 0 := ⟨_, rfl⟩
        replace hF := hF σ4 eσ4
        rw [← eσ4] at hP
        refine lv_aload_n hx hb dX12_start_149 rfl (lv_at hl 0 rfl) ?_
        refine lv_iconst (v := 0) hx hb dX12_start_150 (by decide) ?_
        refine va_put (D := D) (ci := 12) (v := .int 0) (ty := .int) (C := RX12) (T := TX12) (N := 42) hx hb hts in_X12 tyX12 tyX12_ok nmX12 hown hK hP (hD.to (sm_wM_m _ _)) hS 1 (sm_gX12 σ4 α) rfl 28 (by decide) k_4 (fun _ h9 => h9) rfl (by decide +kernel) rfl rfl (Nat.le_of_ble_eq_true rfl) dX12_start_151 (fun H locs hP _ hS => ?_)
        rw [sm_iM18] at hP
        obtain ⟨σ5, eσ5⟩ : ∃ x : sm_S, x = sm_i σ4 18 0 := ⟨_, rfl⟩
        replace hF := hF σ5 eσ5
        rw [← eσ5] at hP
        refine lv_aload_n hx hb dX12_start_154 rfl (lv_at hl 0 rfl) ?_
        refine lv_iconst (v := 0) hx hb dX12_start_155 (by decide) ?_
        refine va_put (D := D) (ci := 12) (v := .int 0) (ty := .int) (C := RX12) (T := TX12) (N := 42) hx hb hts in_X12 tyX12 tyX12_ok nmX12 hown hK hP (hD.to (sm_wM_m _ _)) hS 1 (sm_gX12 σ5 α) rfl 31 (by decide) k_5 (fun _ h9 => h9) rfl (by decide +kernel) rfl rfl (Nat.le_of_ble_eq_true rfl) dX12_start_156 (fun H locs hP _ hS => ?_)
        rw [sm_iM20] at hP
        obtain ⟨σ6, eσ6⟩ : ∃ x : sm_S, x = sm_i σ5 20 0 := ⟨_, rfl⟩
        replace hF := hF σ6 eσ6
        rw [← eσ6] at hP
        refine lv_aload_n hx hb dX12_start_159 rfl (lv_at hl 0 rfl) ?_
        refine lv_lconst (v := 0) hx hb dX12_start_160 (by decide) ?_
        refine va_put (D := D) (ci := 12) (v := .long 0) (ty := .long) (C := RX12) (T := TX12) (N := 42) hx hb hts in_X12 tyX12 tyX12_ok nmX12 hown hK hP (hD.to (sm_wM_m _ _)) hS 1 (sm_gX12 σ6 α) rfl 32 (by decide) k_6 (fun _ h9 => h9) rfl (by decide +kernel) rfl rfl (Nat.le_of_ble_eq_true rfl) dX12_start_161 (fun H locs hP _ hS => ?_)
        rw [sm_jM1] at hP
        obtain ⟨σ7, eσ7⟩ : ∃ x : sm_S, x = sm_j σ6 1 0 := ⟨_, rfl⟩
        replace hF := hF σ7 eσ7
        rw [← eσ7] at hP
        refine lv_aload_n hx hb dX12_start_164 rfl (lv_at hl 0 rfl) ?_
        refine lv_iconst (v := 1) hx hb dX12_start_165 (by decide) ?_
        refine va_put (D := D) (ci := 12) (v := .int 1) (ty := .int) (C := RX12) (T := TX12) (N := 42) hx hb hts in_X12 tyX12 tyX12_ok nmX12 hown hK hP (hD.to (sm_wM_m _ _)) hS 1 (sm_gX12 σ7 α) rfl 26 (by decide) k_7 (fun _ h9 => h9) rfl (by decide +kernel) rfl rfl (Nat.le_of_ble_eq_true rfl) dX12_start_166 (fun H locs hP _ hS => ?_)
        rw [sm_iM17] at hP
        obtain ⟨σ8, eσ8⟩ : ∃ x : sm_S, x = sm_i σ7 17 1 := ⟨_, rfl⟩
        replace hF := hF σ8 eσ8
        rw [← eσ8] at hP
        refine lv_aload_n hx hb dX12_start_169 rfl (lv_at hl 0 rfl) ?_
        refine lv_bipush (v := 16) hx hb dX12_start_170 (by decide) ?_
        exact hF.elim
      · replace hF := hF.2 h1
        refine lv_aload_n hx hb dX12_start_120 rfl (lv_at hl 0 rfl) ?_
        refine va_get (D := D) (ci := 12) (v := .ref (α.1 30)) (C := RX12) (T := TX12) (N := 42) hx hb hts in_X12 hown hK hP 1 (sm_gX12 σ α) rfl 13 (by decide) k_8 (fun _ h9 => h9) rfl dX12_start_121 ?_
        refine lv_iload hx hb dX12_start_124 (lv_at hl 1 rfl) ?_
        refine lv_iconst (v := 0) hx hb dX12_start_126 (by decide) ?_
        obtain ⟨h9, hF⟩ := hF
        refine va_iast (n := (σ.2.2.1 30)) (f := (σ.2.2.2.1 30)) (x := 0) hx hb hK hP (hD.to (sm_wM_m _ _)) hS 30 28 (sm_aM30 σ α) (sm_yM30 α) h9 dX12_start_127 (fun H locs hP _ hS => ?_)
        rw [sm_rM30] at hP
        obtain ⟨σ10, eσ10⟩ : ∃ x : sm_S, x = sm_r σ 30 (upd (σ.2.2.2.1 30) x4.toNatClampNeg 0) := ⟨_, rfl⟩
        replace hF := hF σ10 eσ10
        rw [← eσ10] at hP
        obtain ⟨v11, ev11⟩ : ∃ y : Int32, y = x4 + 1 := ⟨_, rfl⟩
        replace hF := hF v11 ev11
        refine lv_iinc (v := v11) (lv' := [(4, .int v11), (0, .ref (α.1 1))]) hx hb dX12_start_128 hl (k := 1) rfl (by rw [ev11]; rfl) (by decide) rfl (fun ls hl => ?_)
        refine lv_goto (tgt := 113) hx hb dX12_start_131 (by decide) ?_
        exact ih113 σ10 v11 hF H locs ls hP hS (lv_sub hl [1, 0] rfl)
  have B60 : ∀ (σ : sm_S) (x3 : Int32) (y1 : Int32), mp_X12_start_60 K σ x3 y1 → sm_J p l e (headSpec wp_X12_start { frames := 0, cells := 0, slots := 0, locals := 0 }).room s m ([.ref (α.1 1), .int p1, .int p2] : List Value).toArray below meth c (MQ below (va_Qi K (sm_B sm_wM D α) A) ([.ref (α.1 1), .int p1, .int p2] : List Value).toArray s 0 0 A) D A 5 (sm_wM σ α) 60 [(0, .ref (α.1 1)), (3, .int x3)] [.int y1, .ref (α.1 1)] := by
    intro σ x3 y1 hF H locs ls hP hS hl
    unfold mp_X12_start_60 at hF
    refine va_put (D := D) (ci := 12) (v := .int y1) (ty := .int) (C := RX12) (T := TX12) (N := 42) hx hb hts in_X12 tyX12 tyX12_ok nmX12 hown hK hP (hD.to (sm_wM_m _ _)) hS 1 (sm_gX12 σ α) rfl 34 (by decide) k_9 (fun _ h9 => h9) rfl (by decide +kernel) rfl rfl (Nat.le_of_ble_eq_true rfl) dX12_start_60 (fun H locs hP _ hS => ?_)
    rw [sm_iM21] at hP
    obtain ⟨σ12, eσ12⟩ : ∃ x : sm_S, x = sm_i σ 21 y1 := ⟨_, rfl⟩
    replace hF := hF σ12 eσ12
    rw [← eσ12] at hP
    refine lv_aload_n hx hb dX12_start_63 rfl (lv_at hl 0 rfl) ?_
    refine lv_iload_n hx hb dX12_start_64 rfl (lv_at hl 1 rfl) ?_
    refine lv_aload_n hx hb dX12_start_65 rfl (lv_at hl 0 rfl) ?_
    refine va_get (D := D) (ci := 12) (v := .int (σ12.1 21)) (C := RX12) (T := TX12) (N := 42) hx hb hts in_X12 hown hK hP 1 (sm_gX12 σ12 α) rfl 34 (by decide) k_9 (fun _ h9 => h9) rfl dX12_start_66 ?_
    refine lv_imul hx hb dX12_start_69 ?_
    refine lv_aload_n hx hb dX12_start_70 rfl (lv_at hl 0 rfl) ?_
    refine va_get (D := D) (ci := 12) (v := .int (σ12.1 21)) (C := RX12) (T := TX12) (N := 42) hx hb hts in_X12 hown hK hP 1 (sm_gX12 σ12 α) rfl 34 (by decide) k_9 (fun _ h9 => h9) rfl dX12_start_71 ?_
    refine lv_iconst (v := 1) hx hb dX12_start_74 (by decide) ?_
    refine lv_iadd hx hb dX12_start_75 ?_
    obtain ⟨h20, hF⟩ := hF
    refine lv_idiv hx hb dX12_start_76 h20 ?_
    refine va_put (D := D) (ci := 12) (v := .int ((x3 * (σ12.1 21)) / ((σ12.1 21) + 1))) (ty := .int) (C := RX12) (T := TX12) (N := 42) hx hb hts in_X12 tyX12 tyX12_ok nmX12 hown hK hP (hD.to (sm_wM_m _ _)) hS 1 (sm_gX12 σ12 α) rfl 35 (by decide) k_10 (fun _ h9 => h9) rfl (by decide +kernel) rfl rfl (Nat.le_of_ble_eq_true rfl) dX12_start_77 (fun H locs hP _ hS => ?_)
    rw [sm_iM22] at hP
    obtain ⟨σ13, eσ13⟩ : ∃ x : sm_S, x = sm_i σ12 22 ((x3 * (σ12.1 21)) / ((σ12.1 21) + 1)) := ⟨_, rfl⟩
    replace hF := hF σ13 eσ13
    rw [← eσ13] at hP
    refine lv_aload_n hx hb dX12_start_80 rfl (lv_at hl 0 rfl) ?_
    refine lv_iconst (v := 0) hx hb dX12_start_81 (by decide) ?_
    refine va_put (D := D) (ci := 12) (v := .int 0) (ty := .int) (C := RX12) (T := TX12) (N := 42) hx hb hts in_X12 tyX12 tyX12_ok nmX12 hown hK hP (hD.to (sm_wM_m _ _)) hS 1 (sm_gX12 σ13 α) rfl 36 (by decide) k_11 (fun _ h9 => h9) rfl (by decide +kernel) rfl rfl (Nat.le_of_ble_eq_true rfl) dX12_start_82 (fun H locs hP _ hS => ?_)
    rw [sm_iM23] at hP
    obtain ⟨σ14, eσ14⟩ : ∃ x : sm_S, x = sm_i σ13 23 0 := ⟨_, rfl⟩
    replace hF := hF σ14 eσ14
    rw [← eσ14] at hP
    refine lv_aload_n hx hb dX12_start_85 rfl (lv_at hl 0 rfl) ?_
    refine lv_lconst (v := 0) hx hb dX12_start_86 (by decide) ?_
    refine va_put (D := D) (ci := 12) (v := .long 0) (ty := .long) (C := RX12) (T := TX12) (N := 42) hx hb hts in_X12 tyX12 tyX12_ok nmX12 hown hK hP (hD.to (sm_wM_m _ _)) hS 1 (sm_gX12 σ14 α) rfl 37 (by decide) k_12 (fun _ h9 => h9) rfl (by decide +kernel) rfl rfl (Nat.le_of_ble_eq_true rfl) dX12_start_87 (fun H locs hP _ hS => ?_)
    rw [sm_jM2] at hP
    obtain ⟨σ15, eσ15⟩ : ∃ x : sm_S, x = sm_j σ14 2 0 := ⟨_, rfl⟩
    replace hF := hF σ15 eσ15
    rw [← eσ15] at hP
    refine lv_aload_n hx hb dX12_start_90 rfl (lv_at hl 0 rfl) ?_
    refine lv_iconst (v := 0) hx hb dX12_start_91 (by decide) ?_
    refine va_put (D := D) (ci := 12) (v := .int 0) (ty := .int) (C := RX12) (T := TX12) (N := 42) hx hb hts in_X12 tyX12 tyX12_ok nmX12 hown hK hP (hD.to (sm_wM_m _ _)) hS 1 (sm_gX12 σ15 α) rfl 38 (by decide) k_13 (fun _ h9 => h9) rfl (by decide +kernel) rfl rfl (Nat.le_of_ble_eq_true rfl) dX12_start_92 (fun H locs hP _ hS => ?_)
    rw [sm_iM24] at hP
    obtain ⟨σ16, eσ16⟩ : ∃ x : sm_S, x = sm_i σ15 24 0 := ⟨_, rfl⟩
    replace hF := hF σ16 eσ16
    rw [← eσ16] at hP
    refine lv_aload_n hx hb dX12_start_95 rfl (lv_at hl 0 rfl) ?_
    refine lv_iconst (v := 0) hx hb dX12_start_96 (by decide) ?_
    refine va_put (D := D) (ci := 12) (v := .int 0) (ty := .int) (C := RX12) (T := TX12) (N := 42) hx hb hts in_X12 tyX12 tyX12_ok nmX12 hown hK hP (hD.to (sm_wM_m _ _)) hS 1 (sm_gX12 σ16 α) rfl 7 (by decide) k_14 (fun _ h9 => h9) rfl (by decide +kernel) rfl rfl (Nat.le_of_ble_eq_true rfl) dX12_start_97 (fun H locs hP _ hS => ?_)
    rw [sm_iM11] at hP
    obtain ⟨σ17, eσ17⟩ : ∃ x : sm_S, x = sm_i σ16 11 0 := ⟨_, rfl⟩
    replace hF := hF σ17 eσ17
    rw [← eσ17] at hP
    refine lv_aload_n hx hb dX12_start_100 rfl (lv_at hl 0 rfl) ?_
    refine lv_iconst (v := 0) hx hb dX12_start_101 (by decide) ?_
    refine va_put (D := D) (ci := 12) (v := .int 0) (ty := .int) (C := RX12) (T := TX12) (N := 42) hx hb hts in_X12 tyX12 tyX12_ok nmX12 hown hK hP (hD.to (sm_wM_m _ _)) hS 1 (sm_gX12 σ17 α) rfl 15 (by decide) k_15 (fun _ h9 => h9) rfl (by decide +kernel) rfl rfl (Nat.le_of_ble_eq_true rfl) dX12_start_102 (fun H locs hP _ hS => ?_)
    rw [sm_iM13] at hP
    obtain ⟨σ18, eσ18⟩ : ∃ x : sm_S, x = sm_i σ17 13 0 := ⟨_, rfl⟩
    replace hF := hF σ18 eσ18
    rw [← eσ18] at hP
    refine lv_aload_n hx hb dX12_start_105 rfl (lv_at hl 0 rfl) ?_
    refine lv_iconst (v := 0) hx hb dX12_start_106 (by decide) ?_
    refine va_put (D := D) (ci := 12) (v := .int 0) (ty := .int) (C := RX12) (T := TX12) (N := 42) hx hb hts in_X12 tyX12 tyX12_ok nmX12 hown hK hP (hD.to (sm_wM_m _ _)) hS 1 (sm_gX12 σ18 α) rfl 14 (by decide) k_16 (fun _ h9 => h9) rfl (by decide +kernel) rfl rfl (Nat.le_of_ble_eq_true rfl) dX12_start_107 (fun H locs hP _ hS => ?_)
    rw [sm_iM12] at hP
    obtain ⟨σ19, eσ19⟩ : ∃ x : sm_S, x = sm_i σ18 12 0 := ⟨_, rfl⟩
    replace hF := hF σ19 eσ19
    rw [← eσ19] at hP
    refine lv_iconst (v := 0) hx hb dX12_start_110 (by decide) ?_
    refine lv_istore (lv' := [(4, .int 0), (0, .ref (α.1 1)), (3, .int x3)]) hx hb dX12_start_111 hl (by decide) rfl (fun ls hl => ?_)
    obtain ⟨n113, hF⟩ := hF
    exact B113 n113 σ19 0 hF H locs ls hP hS (lv_sub hl [1, 0] rfl)
  have B37 : ∀ (σ : sm_S) (x2 : Int32) (y0 : Int32), mp_X12_start_37 K σ x2 y0 → sm_J p l e (headSpec wp_X12_start { frames := 0, cells := 0, slots := 0, locals := 0 }).room s m ([.ref (α.1 1), .int p1, .int p2] : List Value).toArray below meth c (MQ below (va_Qi K (sm_B sm_wM D α) A) ([.ref (α.1 1), .int p1, .int p2] : List Value).toArray s 0 0 A) D A 5 (sm_wM σ α) 37 [(0, .ref (α.1 1)), (2, .int x2)] [.int y0] := by
    intro σ x2 y0 hF H locs ls hP hS hl
    unfold mp_X12_start_37 at hF
    refine lv_istore_n (lv' := [(3, .int y0), (0, .ref (α.1 1)), (2, .int x2)]) hx hb dX12_start_37 rfl hl (by decide) rfl (fun ls hl => ?_)
    refine lv_aload_n hx hb dX12_start_38 rfl (lv_at hl 1 rfl) ?_
    refine lv_iload_n hx hb dX12_start_39 rfl (lv_at hl 2 rfl) ?_
    refine lv_iconst (v := 1) hx hb dX12_start_40 (by decide) ?_
    refine lv_icmp_ge (tgt := 48) hx hb dX12_start_41 (by decide) (fun h21 => ?_) (fun h21 => ?_)
    · replace hF := hF.1 h21
      refine lv_iload_n hx hb dX12_start_48 rfl (lv_at hl 2 rfl) ?_
      refine lv_bipush (v := 64) hx hb dX12_start_49 (by decide) ?_
      refine lv_icmp_le (tgt := 59) hx hb dX12_start_51 (by decide) (fun h22 => ?_) (fun h22 => ?_)
      · replace hF := hF.1 h22
        refine lv_iload_n hx hb dX12_start_59 rfl (lv_at hl 2 rfl) ?_
        exact B60 σ y0 x2 hF H locs ls hP hS (lv_sub hl [1, 0] rfl)
      · replace hF := hF.2 h22
        refine lv_bipush (v := 64) hx hb dX12_start_54 (by decide) ?_
        refine lv_goto (tgt := 60) hx hb dX12_start_56 (by decide) ?_
        exact B60 σ y0 64 hF H locs ls hP hS (lv_sub hl [1, 0] rfl)
    · replace hF := hF.2 h21
      refine lv_iconst (v := 1) hx hb dX12_start_44 (by decide) ?_
      refine lv_goto (tgt := 60) hx hb dX12_start_45 (by decide) ?_
      exact B60 σ y0 1 hF H locs ls hP hS (lv_sub hl [1, 0] rfl)
  unfold mp_X12_start at hF
  revert hP hS
  generalize hLo : ([] : List Loc) = locs
  suffices h9 : ∀ (H : Heap) (locs : List Loc), va_P D vwCl (sm_wM σ α) H → va_S A s.heap H locs → W p l e (headSpec wp_X12_start { frames := 0, cells := 0, slots := 0, locals := 0 }).room s m ([.ref (α.1 1), .int p1, .int p2] : List Value).toArray below meth c H locs 0 0 (MQ below (va_Qi K (sm_B sm_wM D α) A) ([.ref (α.1 1), .int p1, .int p2] : List Value).toArray s 0 0 A) (F0 m 0 ls []) from fun hP hS => h9 s.heap locs hP hS
  intro H locs hP hS
  refine lv_aload_n hx hb dX12_start_0 rfl (lv_at hl 0 rfl) ?_
  refine va_get (D := D) (ci := 12) (v := .ref (α.1 0)) (C := RX12) (T := TX12) (N := 42) hx hb hts in_X12 hown hK hP 1 (sm_gX12 σ α) rfl 0 (by decide) k_17 (fun _ h9 => h9) rfl dX12_start_1 ?_
  refine va_getN (D := D) (ci := 11) (v := .int (σ.1 4)) (C := RX11) (T := TX11) (N := 28) hx hb hts in_X11 hown hK hP 0 (sm_gX11 σ α) rfl 7 (by decide) (va_Nw.use rfl (hE.1 (.fieldLinkNest "SteadyMachineModel" 164 "SteadyMachineModel$Image" "there" "Z" "SteadyMachineModel") (by decide +kernel))) (fun _ h9 => h9) rfl dX12_start_4 ?_
  refine lv_if_ne (tgt := 12) hx hb dX12_start_7 (by decide) (fun h23 => ?_) (fun h23 => ?_)
  · replace hF := hF.1 h23
    refine lv_iload_n hx hb dX12_start_12 rfl (lv_at hl 1 rfl) ?_
    refine lv_sipush (v := 1024) hx hb dX12_start_13 (by decide) ?_
    refine lv_icmp_ge (tgt := 25) hx hb dX12_start_16 (by decide) (fun h24 => ?_) (fun h24 => ?_)
    · replace hF := hF.1 h24
      refine lv_iload_n hx hb dX12_start_25 rfl (lv_at hl 1 rfl) ?_
      refine lv_ldc (v := 60000) hx hb hown k_18 dX12_start_26 ?_
      refine lv_icmp_le (tgt := 36) hx hb dX12_start_28 (by decide) (fun h25 => ?_) (fun h25 => ?_)
      · replace hF := hF.1 h25
        refine lv_iload_n hx hb dX12_start_36 rfl (lv_at hl 1 rfl) ?_
        exact B37 σ p2 p1 hF H locs ls hP hS (lv_sub hl [0, 2] rfl)
      · replace hF := hF.2 h25
        refine lv_ldc (v := 60000) hx hb hown k_18 dX12_start_31 ?_
        refine lv_goto (tgt := 37) hx hb dX12_start_33 (by decide) ?_
        exact B37 σ p2 60000 hF H locs ls hP hS (lv_sub hl [0, 2] rfl)
    · replace hF := hF.2 h24
      refine lv_sipush (v := 1024) hx hb dX12_start_19 (by decide) ?_
      refine lv_goto (tgt := 37) hx hb dX12_start_22 (by decide) ?_
      exact B37 σ p2 1024 hF H locs ls hP hS (lv_sub hl [0, 2] rfl)
  · replace hF := hF.2 h23
    refine lv_iconst (v := 0) hx hb dX12_start_10 (by decide) ?_
    exact W.zret (v := 0) hx hb hr sm_z0.1 (fun t ht hW => ⟨⟨0, σ, rfl, hF, (by unfold sm_B; rw [ht]; exact hP)⟩, hS.F ht⟩) hS.2.2 dX12_start_11
theorem dX12_run_0 : decode cX12_run 0 = .ok (.iload_n 1, 1) := by decide +kernel
theorem dX12_run_1 : decode cX12_run 1 = .ok (.ifCond .lt 18, 3) := by decide +kernel
theorem dX12_run_4 : decode cX12_run 4 = .ok (.iload_n 1, 1) := by decide +kernel
theorem dX12_run_5 : decode cX12_run 5 = .ok (.sipush 20000, 3) := by decide +kernel
theorem dX12_run_8 : decode cX12_run 8 = .ok (.if_icmp .gt 11, 3) := by decide +kernel
theorem dX12_run_11 : decode cX12_run 11 = .ok (.aload_n 0, 1) := by decide +kernel
theorem dX12_run_12 : decode cX12_run 12 = .ok (.getfield 152, 3) := by decide +kernel
theorem dX12_run_15 : decode cX12_run 15 = .ok (.iconst 1, 1) := by decide +kernel
theorem dX12_run_16 : decode cX12_run 16 = .ok (.if_icmp .eq 5, 3) := by decide +kernel
theorem dX12_run_19 : decode cX12_run 19 = .ok (.iconst (-1), 1) := by decide +kernel
theorem dX12_run_20 : decode cX12_run 20 = .ok (.ireturn, 1) := by decide +kernel
theorem dX12_run_21 : decode cX12_run 21 = .ok (.iconst 0, 1) := by decide +kernel
theorem dX12_run_22 : decode cX12_run 22 = .ok (.istore_n 2, 1) := by decide +kernel
theorem dX12_run_23 : decode cX12_run 23 = .ok (.iload_n 2, 1) := by decide +kernel
theorem dX12_run_24 : decode cX12_run 24 = .ok (.iload_n 1, 1) := by decide +kernel
theorem dX12_run_25 : decode cX12_run 25 = .ok (.if_icmp .ge 34, 3) := by decide +kernel
theorem dX12_run_28 : decode cX12_run 28 = .ok (.aload_n 0, 1) := by decide +kernel
theorem dX12_run_29 : decode cX12_run 29 = .ok (.getfield 152, 3) := by decide +kernel
theorem dX12_run_32 : decode cX12_run 32 = .ok (.iconst 1, 1) := by decide +kernel
theorem dX12_run_33 : decode cX12_run 33 = .ok (.if_icmp .ne 26, 3) := by decide +kernel
theorem dX12_run_36 : decode cX12_run 36 = .ok (.aload_n 0, 1) := by decide +kernel
theorem dX12_run_37 : decode cX12_run 37 = .ok (.invokevirtual 406, 3) := by decide +kernel
theorem dX12_run_40 : decode cX12_run 40 = .ok (.ifCond .eq (-17), 3) := by decide +kernel
theorem dX12_run_43 : decode cX12_run 43 = .ok (.aload_n 0, 1) := by decide +kernel
theorem dX12_run_44 : decode cX12_run 44 = .ok (.dup, 1) := by decide +kernel
theorem dX12_run_45 : decode cX12_run 45 = .ok (.getfield 262, 3) := by decide +kernel
theorem dX12_run_48 : decode cX12_run 48 = .ok (.lconst 1, 1) := by decide +kernel
theorem dX12_run_49 : decode cX12_run 49 = .ok (.ladd, 1) := by decide +kernel
theorem dX12_run_50 : decode cX12_run 50 = .ok (.putfield 262, 3) := by decide +kernel
theorem dX12_run_53 : decode cX12_run 53 = .ok (.iinc 2 1, 3) := by decide +kernel
theorem dX12_run_56 : decode cX12_run 56 = .ok (.goto (-33), 3) := by decide +kernel
theorem dX12_run_59 : decode cX12_run 59 = .ok (.iload_n 2, 1) := by decide +kernel
theorem dX12_run_60 : decode cX12_run 60 = .ok (.ireturn, 1) := by decide +kernel
def mp_X12_run_59 (K : Int32 → sm_S → Prop) (σ : sm_S) (x2 : Int32) : Prop := K x2 σ
def mp_X12_run_23 (K : Int32 → sm_S → Prop) : Nat → sm_S → Int32 → Int32 → Prop
  | 0, _, _, _ => False
  | n23 + 1, σ, x1, x2 => ((x1 ≤ x2 → (mp_X12_run_59 K σ x2)) ∧ (¬ x1 ≤ x2 → ((¬ (σ.1 17) = 1 → (mp_X12_run_59 K σ x2)) ∧ ((σ.1 17) = 1 → (False)))))
def mp_X12_run_19 (K : Int32 → sm_S → Prop) (σ : sm_S)  : Prop := K (-1) σ
/-- SteadyMachineModel.run(I)I -/
def mp_X12_run (σ : sm_S) (p1 : Int32) (K : Int32 → sm_S → Prop) : Prop := ((p1 < 0 → (mp_X12_run_19 K σ)) ∧ (¬ p1 < 0 → (((20000 : Int32) < p1 → (mp_X12_run_19 K σ)) ∧ (¬ (20000 : Int32) < p1 → (((σ.1 17) = 1 → (∃ n23 : Nat, mp_X12_run_23 K n23 σ p1 0)) ∧ (¬ (σ.1 17) = 1 → (mp_X12_run_19 K σ)))))))
def wp_X12_run : List Cond := .code yX12_run cX12_run 3 (some .int) :: ([.fieldLink RX12 152 "SteadyMachineModel" "state" "I"] ++ wsX120)
theorem wi_X12_run_X12 : ∀ w ∈ wsX120, w ∈ wp_X12_run := fun w h => List.mem_cons_of_mem _ (List.mem_append_right _ h)
set_option maxHeartbeats 4000000 in
set_option maxRecDepth 100000 in
theorem c_X12_run (l : Launch) (D : va_G) (sz t0 : Nat) (σ : sm_S) (α : sm_A) (p1 : Int32) (K : Int32 → sm_S → Prop) (hF : mp_X12_run σ p1 K) : Met l yX12_run wp_X12_run { frames := 0, cells := 0, slots := 0, locals := 0 } (sm_P sm_wM sm_tM 40 D sz t0 σ α [.ref (α.1 1), .int p1]) (va_Qi K (sm_B sm_wM D α) (sm_a α 40 sz)) 0 0 (sm_a α 40 sz) := by
  refine Met.ofW (cc := cX12_run) (maxL := 3) (ret := (some .int)) (by decide) rfl ?_
  intro p e s m args below meth c s₁ B hml hv
  obtain ⟨rfl, hsz, hP, hK, hD0, hE⟩ := hv
  have hx := B.exec
  have hb := B.bytes
  have hr := B.returns
  have hts := atoms_spec (ws := wp_X12_run) B.pre
  have hown : s.vm.findClass RX12 = some m.cls := findClass_of_methodNamed B.named
  have hlocks := B.notSynchronized
  subst hsz
  have hD : sm_D (sm_a α 40 s.heap.size) α 40 := hD0.own
  have hA : ∀ q : Nat, s.heap.size ≤ q → sm_a α 40 s.heap.size q := fun q h => Or.inr h
  generalize hAe : sm_a α 40 s.heap.size = A at hD hA hE ⊢
  have hS : va_S A s.heap s.heap [] := va_S.rf
  have in_X12 : ∀ w ∈ wsX120, w ∈ wp_X12_run := wi_X12_run_X12
  have k_0 := hts (.fieldLink RX12 152 "SteadyMachineModel" "state" "I") (by decide +kernel)
  have hl := lv_entry ([.ref (α.1 1), .int p1]) (n := 3) (Nat.le_of_ble_eq_true rfl)
  rw [lg_entry_eq]
  generalize (lg_sl ([.ref (α.1 1), .int p1]) ++ List.replicate (3 - (lg_sl ([.ref (α.1 1), .int p1])).length) Slot.unset).toArray = ls at hl ⊢
  have hl : lv_has ls 3 [(0, .ref (α.1 1)), (1, .int p1)] := hl
  have B59 : ∀ (σ : sm_S) (x2 : Int32), mp_X12_run_59 K σ x2 → sm_J p l e (headSpec wp_X12_run { frames := 0, cells := 0, slots := 0, locals := 0 }).room s m ([.ref (α.1 1), .int p1] : List Value).toArray below meth c (MQ below (va_Qi K (sm_B sm_wM D α) A) ([.ref (α.1 1), .int p1] : List Value).toArray s 0 0 A) D A 3 (sm_wM σ α) 59 [(2, .int x2)] [] := by
    intro σ x2 hF H locs ls hP hS hl
    unfold mp_X12_run_59 at hF
    refine lv_iload_n hx hb dX12_run_59 rfl (lv_at hl 0 rfl) ?_
    exact W.iret (v := x2) hx hb hr (fun t ht hW => ⟨⟨x2, σ, rfl, hF, (by unfold sm_B; rw [ht]; exact hP)⟩, hS.F ht⟩) hS.2.2 dX12_run_60
  have B23 : ∀ (n : Nat) (σ : sm_S) (x1 : Int32) (x2 : Int32), mp_X12_run_23 K n σ x1 x2 → sm_J p l e (headSpec wp_X12_run { frames := 0, cells := 0, slots := 0, locals := 0 }).room s m ([.ref (α.1 1), .int p1] : List Value).toArray below meth c (MQ below (va_Qi K (sm_B sm_wM D α) A) ([.ref (α.1 1), .int p1] : List Value).toArray s 0 0 A) D A 3 (sm_wM σ α) 23 [(0, .ref (α.1 1)), (1, .int x1), (2, .int x2)] [] := by
    intro n23
    induction n23 with
    | zero =>
      intro σ x1 x2 hF
      exact hF.elim
    | succ n23 ih23 =>
      intro σ x1 x2 hF H locs ls hP hS hl
      unfold mp_X12_run_23 at hF
      refine lv_iload_n hx hb dX12_run_23 rfl (lv_at hl 2 rfl) ?_
      refine lv_iload_n hx hb dX12_run_24 rfl (lv_at hl 1 rfl) ?_
      refine lv_icmp_ge (tgt := 59) hx hb dX12_run_25 (by decide) (fun h1 => ?_) (fun h1 => ?_)
      · replace hF := hF.1 h1
        exact B59 σ x2 hF H locs ls hP hS (lv_sub hl [2] rfl)
      · replace hF := hF.2 h1
        refine lv_aload_n hx hb dX12_run_28 rfl (lv_at hl 0 rfl) ?_
        refine va_get (D := D) (ci := 12) (v := .int (σ.1 17)) (C := RX12) (T := TX12) (N := 42) hx hb hts in_X12 hown hK hP 1 (sm_gX12 σ α) rfl 26 (by decide) k_0 (fun _ h9 => h9) rfl dX12_run_29 ?_
        refine lv_iconst (v := 1) hx hb dX12_run_32 (by decide) ?_
        refine lv_icmp_ne (tgt := 59) hx hb dX12_run_33 (by decide) (fun h2 => ?_) (fun h2 => ?_)
        · replace hF := hF.1 h2
          exact B59 σ x2 hF H locs ls hP hS (lv_sub hl [2] rfl)
        · replace hF := hF.2 h2
          refine lv_aload_n hx hb dX12_run_36 rfl (lv_at hl 0 rfl) ?_
          exact hF.elim
  have B19 : ∀ (σ : sm_S), mp_X12_run_19 K σ → sm_J p l e (headSpec wp_X12_run { frames := 0, cells := 0, slots := 0, locals := 0 }).room s m ([.ref (α.1 1), .int p1] : List Value).toArray below meth c (MQ below (va_Qi K (sm_B sm_wM D α) A) ([.ref (α.1 1), .int p1] : List Value).toArray s 0 0 A) D A 3 (sm_wM σ α) 19 [] [] := by
    intro σ hF H locs ls hP hS hl
    unfold mp_X12_run_19 at hF
    refine lv_iconst (v := -1) hx hb dX12_run_19 (by decide) ?_
    exact W.iret (v := (-1)) hx hb hr (fun t ht hW => ⟨⟨(-1), σ, rfl, hF, (by unfold sm_B; rw [ht]; exact hP)⟩, hS.F ht⟩) hS.2.2 dX12_run_20
  unfold mp_X12_run at hF
  revert hP hS
  generalize hLo : ([] : List Loc) = locs
  suffices h9 : ∀ (H : Heap) (locs : List Loc), va_P D vwCl (sm_wM σ α) H → va_S A s.heap H locs → W p l e (headSpec wp_X12_run { frames := 0, cells := 0, slots := 0, locals := 0 }).room s m ([.ref (α.1 1), .int p1] : List Value).toArray below meth c H locs 0 0 (MQ below (va_Qi K (sm_B sm_wM D α) A) ([.ref (α.1 1), .int p1] : List Value).toArray s 0 0 A) (F0 m 0 ls []) from fun hP hS => h9 s.heap locs hP hS
  intro H locs hP hS
  refine lv_iload_n hx hb dX12_run_0 rfl (lv_at hl 1 rfl) ?_
  refine lv_if_lt (tgt := 19) hx hb dX12_run_1 (by decide) (fun h3 => ?_) (fun h3 => ?_)
  · replace hF := hF.1 h3
    exact B19 σ hF H locs ls hP hS (lv_sub hl [] rfl)
  · replace hF := hF.2 h3
    refine lv_iload_n hx hb dX12_run_4 rfl (lv_at hl 1 rfl) ?_
    refine lv_sipush (v := 20000) hx hb dX12_run_5 (by decide) ?_
    refine lv_icmp_gt (tgt := 19) hx hb dX12_run_8 (by decide) (fun h4 => ?_) (fun h4 => ?_)
    · replace hF := hF.1 h4
      exact B19 σ hF H locs ls hP hS (lv_sub hl [] rfl)
    · replace hF := hF.2 h4
      refine lv_aload_n hx hb dX12_run_11 rfl (lv_at hl 0 rfl) ?_
      refine va_get (D := D) (ci := 12) (v := .int (σ.1 17)) (C := RX12) (T := TX12) (N := 42) hx hb hts in_X12 hown hK hP 1 (sm_gX12 σ α) rfl 26 (by decide) k_0 (fun _ h9 => h9) rfl dX12_run_12 ?_
      refine lv_iconst (v := 1) hx hb dX12_run_15 (by decide) ?_
      refine lv_icmp_eq (tgt := 21) hx hb dX12_run_16 (by decide) (fun h5 => ?_) (fun h5 => ?_)
      · replace hF := hF.1 h5
        refine lv_iconst (v := 0) hx hb dX12_run_21 (by decide) ?_
        refine lv_istore_n (lv' := [(2, .int 0), (0, .ref (α.1 1)), (1, .int p1)]) hx hb dX12_run_22 rfl hl (by decide) rfl (fun ls hl => ?_)
        obtain ⟨n23, hF⟩ := hF
        exact B23 n23 σ p1 0 hF H locs ls hP hS (lv_sub hl [1, 2, 0] rfl)
      · replace hF := hF.2 h5
        exact B19 σ hF H locs ls hP hS (lv_sub hl [] rfl)
theorem dX12_state_0 : decode cX12_state 0 = .ok (.aload_n 0, 1) := by decide +kernel
theorem dX12_state_1 : decode cX12_state 1 = .ok (.getfield 152, 3) := by decide +kernel
theorem dX12_state_4 : decode cX12_state 4 = .ok (.ireturn, 1) := by decide +kernel
/-- SteadyMachineModel.state()I -/
def mp_X12_state (σ : sm_S)  (K : Int32 → sm_S → Prop) : Prop := K (σ.1 17) σ
def wp_X12_state : List Cond := .code yX12_state cX12_state 1 (some .int) :: ([.fieldLink RX12 152 "SteadyMachineModel" "state" "I"] ++ wsX120)
theorem wi_X12_state_X12 : ∀ w ∈ wsX120, w ∈ wp_X12_state := fun w h => List.mem_cons_of_mem _ (List.mem_append_right _ h)
set_option maxHeartbeats 4000000 in
set_option maxRecDepth 100000 in
theorem c_X12_state (l : Launch) (D : va_G) (sz t0 : Nat) (σ : sm_S) (α : sm_A) (K : Int32 → sm_S → Prop) (hF : mp_X12_state σ K) : Met l yX12_state wp_X12_state { frames := 0, cells := 0, slots := 0, locals := 0 } (sm_P sm_wM sm_tM 40 D sz t0 σ α [.ref (α.1 1)]) (va_Qi K (sm_B sm_wM D α) (sm_a α 40 sz)) 0 0 (sm_a α 40 sz) := by
  refine Met.ofW (cc := cX12_state) (maxL := 1) (ret := (some .int)) (by decide) rfl ?_
  intro p e s m args below meth c s₁ B hml hv
  obtain ⟨rfl, hsz, hP, hK, hD0, hE⟩ := hv
  have hx := B.exec
  have hb := B.bytes
  have hr := B.returns
  have hts := atoms_spec (ws := wp_X12_state) B.pre
  have hown : s.vm.findClass RX12 = some m.cls := findClass_of_methodNamed B.named
  have hlocks := B.notSynchronized
  subst hsz
  have hD : sm_D (sm_a α 40 s.heap.size) α 40 := hD0.own
  have hA : ∀ q : Nat, s.heap.size ≤ q → sm_a α 40 s.heap.size q := fun q h => Or.inr h
  generalize hAe : sm_a α 40 s.heap.size = A at hD hA hE ⊢
  have hS : va_S A s.heap s.heap [] := va_S.rf
  have in_X12 : ∀ w ∈ wsX120, w ∈ wp_X12_state := wi_X12_state_X12
  have k_0 := hts (.fieldLink RX12 152 "SteadyMachineModel" "state" "I") (by decide +kernel)
  have hl := lv_entry ([.ref (α.1 1)]) (n := 1) (Nat.le_of_ble_eq_true rfl)
  rw [lg_entry_eq]
  generalize (lg_sl ([.ref (α.1 1)]) ++ List.replicate (1 - (lg_sl ([.ref (α.1 1)])).length) Slot.unset).toArray = ls at hl ⊢
  have hl : lv_has ls 1 [(0, .ref (α.1 1))] := hl
  unfold mp_X12_state at hF
  revert hP hS
  generalize hLo : ([] : List Loc) = locs
  suffices h9 : ∀ (H : Heap) (locs : List Loc), va_P D vwCl (sm_wM σ α) H → va_S A s.heap H locs → W p l e (headSpec wp_X12_state { frames := 0, cells := 0, slots := 0, locals := 0 }).room s m ([.ref (α.1 1)] : List Value).toArray below meth c H locs 0 0 (MQ below (va_Qi K (sm_B sm_wM D α) A) ([.ref (α.1 1)] : List Value).toArray s 0 0 A) (F0 m 0 ls []) from fun hP hS => h9 s.heap locs hP hS
  intro H locs hP hS
  refine lv_aload_n hx hb dX12_state_0 rfl (lv_at hl 0 rfl) ?_
  refine va_get (D := D) (ci := 12) (v := .int (σ.1 17)) (C := RX12) (T := TX12) (N := 42) hx hb hts in_X12 hown hK hP 1 (sm_gX12 σ α) rfl 26 (by decide) k_0 (fun _ h9 => h9) rfl dX12_state_1 ?_
  exact W.iret (v := (σ.1 17)) hx hb hr (fun t ht hW => ⟨⟨(σ.1 17), σ, rfl, hF, (by unfold sm_B; rw [ht]; exact hP)⟩, hS.F ht⟩) hS.2.2 dX12_state_4
theorem dX12_count_0 : decode cX12_count 0 = .ok (.aload_n 0, 1) := by decide +kernel
theorem dX12_count_1 : decode cX12_count 1 = .ok (.getfield 152, 3) := by decide +kernel
theorem dX12_count_4 : decode cX12_count 4 = .ok (.ifCond .le 7, 3) := by decide +kernel
theorem dX12_count_7 : decode cX12_count 7 = .ok (.iconst 1, 1) := by decide +kernel
theorem dX12_count_8 : decode cX12_count 8 = .ok (.goto 4, 3) := by decide +kernel
theorem dX12_count_11 : decode cX12_count 11 = .ok (.iconst 0, 1) := by decide +kernel
theorem dX12_count_12 : decode cX12_count 12 = .ok (.istore_n 2, 1) := by decide +kernel
theorem dX12_count_13 : decode cX12_count 13 = .ok (.iload_n 1, 1) := by decide +kernel
theorem dX12_count_14 : decode cX12_count 14 = .ok (.tableswitch 159 0 6 #[42, 55, 69, 82, 96, 113, 136], 42) := by decide +kernel
theorem dX12_count_56 : decode cX12_count 56 = .ok (.iload_n 2, 1) := by decide +kernel
theorem dX12_count_57 : decode cX12_count 57 = .ok (.ifCond .eq 10, 3) := by decide +kernel
theorem dX12_count_60 : decode cX12_count 60 = .ok (.aload_n 0, 1) := by decide +kernel
theorem dX12_count_61 : decode cX12_count 61 = .ok (.getfield 262, 3) := by decide +kernel
theorem dX12_count_64 : decode cX12_count 64 = .ok (.goto 4, 3) := by decide +kernel
theorem dX12_count_67 : decode cX12_count 67 = .ok (.lconst 0, 1) := by decide +kernel
theorem dX12_count_68 : decode cX12_count 68 = .ok (.lreturn, 1) := by decide +kernel
theorem dX12_count_69 : decode cX12_count 69 = .ok (.iload_n 2, 1) := by decide +kernel
theorem dX12_count_70 : decode cX12_count 70 = .ok (.ifCond .eq 11, 3) := by decide +kernel
theorem dX12_count_73 : decode cX12_count 73 = .ok (.aload_n 0, 1) := by decide +kernel
theorem dX12_count_74 : decode cX12_count 74 = .ok (.getfield 265, 3) := by decide +kernel
theorem dX12_count_77 : decode cX12_count 77 = .ok (.i2l, 1) := by decide +kernel
theorem dX12_count_78 : decode cX12_count 78 = .ok (.goto 4, 3) := by decide +kernel
theorem dX12_count_81 : decode cX12_count 81 = .ok (.lconst 0, 1) := by decide +kernel
theorem dX12_count_82 : decode cX12_count 82 = .ok (.lreturn, 1) := by decide +kernel
theorem dX12_count_83 : decode cX12_count 83 = .ok (.iload_n 2, 1) := by decide +kernel
theorem dX12_count_84 : decode cX12_count 84 = .ok (.ifCond .eq 10, 3) := by decide +kernel
theorem dX12_count_87 : decode cX12_count 87 = .ok (.aload_n 0, 1) := by decide +kernel
theorem dX12_count_88 : decode cX12_count 88 = .ok (.getfield 271, 3) := by decide +kernel
theorem dX12_count_91 : decode cX12_count 91 = .ok (.goto 4, 3) := by decide +kernel
theorem dX12_count_94 : decode cX12_count 94 = .ok (.lconst 0, 1) := by decide +kernel
theorem dX12_count_95 : decode cX12_count 95 = .ok (.lreturn, 1) := by decide +kernel
theorem dX12_count_96 : decode cX12_count 96 = .ok (.iload_n 2, 1) := by decide +kernel
theorem dX12_count_97 : decode cX12_count 97 = .ok (.ifCond .eq 11, 3) := by decide +kernel
theorem dX12_count_100 : decode cX12_count 100 = .ok (.aload_n 0, 1) := by decide +kernel
theorem dX12_count_101 : decode cX12_count 101 = .ok (.getfield 256, 3) := by decide +kernel
theorem dX12_count_104 : decode cX12_count 104 = .ok (.i2l, 1) := by decide +kernel
theorem dX12_count_105 : decode cX12_count 105 = .ok (.goto 4, 3) := by decide +kernel
theorem dX12_count_108 : decode cX12_count 108 = .ok (.lconst 0, 1) := by decide +kernel
theorem dX12_count_109 : decode cX12_count 109 = .ok (.lreturn, 1) := by decide +kernel
theorem dX12_count_110 : decode cX12_count 110 = .ok (.iload_n 2, 1) := by decide +kernel
theorem dX12_count_111 : decode cX12_count 111 = .ok (.ifCond .eq 14, 3) := by decide +kernel
theorem dX12_count_114 : decode cX12_count 114 = .ok (.aload_n 0, 1) := by decide +kernel
theorem dX12_count_115 : decode cX12_count 115 = .ok (.getfield 259, 3) := by decide +kernel
theorem dX12_count_118 : decode cX12_count 118 = .ok (.ifCond .eq 7, 3) := by decide +kernel
theorem dX12_count_121 : decode cX12_count 121 = .ok (.lconst 1, 1) := by decide +kernel
theorem dX12_count_122 : decode cX12_count 122 = .ok (.goto 4, 3) := by decide +kernel
theorem dX12_count_125 : decode cX12_count 125 = .ok (.lconst 0, 1) := by decide +kernel
theorem dX12_count_126 : decode cX12_count 126 = .ok (.lreturn, 1) := by decide +kernel
theorem dX12_count_127 : decode cX12_count 127 = .ok (.aload_n 0, 1) := by decide +kernel
theorem dX12_count_128 : decode cX12_count 128 = .ok (.getfield 10, 3) := by decide +kernel
theorem dX12_count_131 : decode cX12_count 131 = .ok (.getfield 164, 3) := by decide +kernel
theorem dX12_count_134 : decode cX12_count 134 = .ok (.ifCond .eq 14, 3) := by decide +kernel
theorem dX12_count_137 : decode cX12_count 137 = .ok (.aload_n 0, 1) := by decide +kernel
theorem dX12_count_138 : decode cX12_count 138 = .ok (.getfield 10, 3) := by decide +kernel
theorem dX12_count_141 : decode cX12_count 141 = .ok (.getfield 409, 3) := by decide +kernel
theorem dX12_count_144 : decode cX12_count 144 = .ok (.i2l, 1) := by decide +kernel
theorem dX12_count_145 : decode cX12_count 145 = .ok (.goto 4, 3) := by decide +kernel
theorem dX12_count_148 : decode cX12_count 148 = .ok (.lconst 0, 1) := by decide +kernel
theorem dX12_count_149 : decode cX12_count 149 = .ok (.lreturn, 1) := by decide +kernel
theorem dX12_count_150 : decode cX12_count 150 = .ok (.aload_n 0, 1) := by decide +kernel
theorem dX12_count_151 : decode cX12_count 151 = .ok (.getfield 10, 3) := by decide +kernel
theorem dX12_count_154 : decode cX12_count 154 = .ok (.getfield 164, 3) := by decide +kernel
theorem dX12_count_157 : decode cX12_count 157 = .ok (.ifCond .eq 14, 3) := by decide +kernel
theorem dX12_count_160 : decode cX12_count 160 = .ok (.aload_n 0, 1) := by decide +kernel
theorem dX12_count_161 : decode cX12_count 161 = .ok (.getfield 10, 3) := by decide +kernel
theorem dX12_count_164 : decode cX12_count 164 = .ok (.getfield 158, 3) := by decide +kernel
theorem dX12_count_167 : decode cX12_count 167 = .ok (.i2l, 1) := by decide +kernel
theorem dX12_count_168 : decode cX12_count 168 = .ok (.goto 4, 3) := by decide +kernel
theorem dX12_count_171 : decode cX12_count 171 = .ok (.lconst 0, 1) := by decide +kernel
theorem dX12_count_172 : decode cX12_count 172 = .ok (.lreturn, 1) := by decide +kernel
theorem dX12_count_173 : decode cX12_count 173 = .ok (.ldc2_w 412, 3) := by decide +kernel
theorem dX12_count_176 : decode cX12_count 176 = .ok (.lreturn, 1) := by decide +kernel
def mp_X12_count_172 (K : Int64 → sm_S → Prop) (σ : sm_S) (y0 : Int64) : Prop := K y0 σ
def mp_X12_count_149 (K : Int64 → sm_S → Prop) (σ : sm_S) (y0 : Int64) : Prop := K y0 σ
def mp_X12_count_126 (K : Int64 → sm_S → Prop) (σ : sm_S) (y0 : Int64) : Prop := K y0 σ
def mp_X12_count_125 (K : Int64 → sm_S → Prop) (σ : sm_S)  : Prop := mp_X12_count_126 K σ 0
def mp_X12_count_109 (K : Int64 → sm_S → Prop) (σ : sm_S) (y0 : Int64) : Prop := K y0 σ
def mp_X12_count_95 (K : Int64 → sm_S → Prop) (σ : sm_S) (y0 : Int64) : Prop := K y0 σ
def mp_X12_count_82 (K : Int64 → sm_S → Prop) (σ : sm_S) (y0 : Int64) : Prop := K y0 σ
def mp_X12_count_68 (K : Int64 → sm_S → Prop) (σ : sm_S) (y0 : Int64) : Prop := K y0 σ
def mp_X12_count_12 (K : Int64 → sm_S → Prop) (σ : sm_S) (x1 : Int32) (y0 : Int32) : Prop := ((x1 = 0 → ((y0 = 0 → (mp_X12_count_68 K σ 0)) ∧ (¬ y0 = 0 → (mp_X12_count_68 K σ (σ.2.1 0))))) ∧ (x1 = 1 → ((y0 = 0 → (mp_X12_count_82 K σ 0)) ∧ (¬ y0 = 0 → (mp_X12_count_82 K σ ((σ.1 18).toInt64))))) ∧ (x1 = 2 → ((y0 = 0 → (mp_X12_count_95 K σ 0)) ∧ (¬ y0 = 0 → (mp_X12_count_95 K σ (σ.2.1 1))))) ∧ (x1 = 3 → ((y0 = 0 → (mp_X12_count_109 K σ 0)) ∧ (¬ y0 = 0 → (mp_X12_count_109 K σ ((σ.1 14).toInt64))))) ∧ (x1 = 4 → ((y0 = 0 → (mp_X12_count_125 K σ)) ∧ (¬ y0 = 0 → (((σ.1 15) = 0 → (mp_X12_count_125 K σ)) ∧ (¬ (σ.1 15) = 0 → (mp_X12_count_126 K σ 1)))))) ∧ (x1 = 5 → (((σ.1 4) = 0 → (mp_X12_count_149 K σ 0)) ∧ (¬ (σ.1 4) = 0 → (mp_X12_count_149 K σ ((σ.1 5).toInt64))))) ∧ (x1 = 6 → (((σ.1 4) = 0 → (mp_X12_count_172 K σ 0)) ∧ (¬ (σ.1 4) = 0 → (mp_X12_count_172 K σ ((σ.1 6).toInt64))))) ∧ (¬ x1 = 0 → ¬ x1 = 1 → ¬ x1 = 2 → ¬ x1 = 3 → ¬ x1 = 4 → ¬ x1 = 5 → ¬ x1 = 6 → (K (-1) σ)))
/-- SteadyMachineModel.count(I)J -/
def mp_X12_count (σ : sm_S) (p1 : Int32) (K : Int64 → sm_S → Prop) : Prop := (((σ.1 17) ≤ 0 → (mp_X12_count_12 K σ p1 0)) ∧ (¬ (σ.1 17) ≤ 0 → (mp_X12_count_12 K σ p1 1)))
def wp_X12_count : List Cond := .code yX12_count cX12_count 3 (some .long) :: (([.fieldLink RX12 262 "SteadyMachineModel" "steps" "J", .fieldLink RX12 265 "SteadyMachineModel" "taken" "I", .fieldLink RX12 271 "SteadyMachineModel" "allOutputs" "J", .fieldLink RX12 256 "SteadyMachineModel" "frames" "I", .fieldLink RX12 259 "SteadyMachineModel" "flies" "Z", .fieldLink RX12 10 "SteadyMachineModel" "image" "LSteadyMachineModel$Image;", .constantLong RX12 412 (-1), .fieldLink RX12 152 "SteadyMachineModel" "state" "I"] ++ wsX110) ++ wsX120)
theorem wi_X12_count_X11 : ∀ w ∈ wsX110, w ∈ wp_X12_count := fun w h => List.mem_cons_of_mem _ (List.mem_append_left _ (List.mem_append_right _ h))
theorem wi_X12_count_X12 : ∀ w ∈ wsX120, w ∈ wp_X12_count := fun w h => List.mem_cons_of_mem _ (List.mem_append_right _ h)
set_option maxHeartbeats 4000000 in
set_option maxRecDepth 100000 in
theorem c_X12_count (l : Launch) (D : va_G) (sz t0 : Nat) (σ : sm_S) (α : sm_A) (p1 : Int32) (K : Int64 → sm_S → Prop) (hF : mp_X12_count σ p1 K) : Met l yX12_count wp_X12_count { frames := 0, cells := 0, slots := 0, locals := 0 } (sm_P sm_wM sm_tM 40 D sz t0 σ α [.ref (α.1 1), .int p1]) (va_Ql K (sm_B sm_wM D α) (sm_a α 40 sz)) 0 0 (sm_a α 40 sz) := by
  refine Met.ofW (cc := cX12_count) (maxL := 3) (ret := (some .long)) (by decide) rfl ?_
  intro p e s m args below meth c s₁ B hml hv
  obtain ⟨rfl, hsz, hP, hK, hD0, hE⟩ := hv
  have hx := B.exec
  have hb := B.bytes
  have hr := B.returns
  have hts := atoms_spec (ws := wp_X12_count) B.pre
  have hown : s.vm.findClass RX12 = some m.cls := findClass_of_methodNamed B.named
  have hlocks := B.notSynchronized
  subst hsz
  have hD : sm_D (sm_a α 40 s.heap.size) α 40 := hD0.own
  have hA : ∀ q : Nat, s.heap.size ≤ q → sm_a α 40 s.heap.size q := fun q h => Or.inr h
  generalize hAe : sm_a α 40 s.heap.size = A at hD hA hE ⊢
  have hS : va_S A s.heap s.heap [] := va_S.rf
  have in_X11 : ∀ w ∈ wsX110, w ∈ wp_X12_count := wi_X12_count_X11
  have in_X12 : ∀ w ∈ wsX120, w ∈ wp_X12_count := wi_X12_count_X12
  have k_0 := hts (.fieldLink RX12 262 "SteadyMachineModel" "steps" "J") (by decide +kernel)
  have k_1 := hts (.fieldLink RX12 265 "SteadyMachineModel" "taken" "I") (by decide +kernel)
  have k_2 := hts (.fieldLink RX12 271 "SteadyMachineModel" "allOutputs" "J") (by decide +kernel)
  have k_3 := hts (.fieldLink RX12 256 "SteadyMachineModel" "frames" "I") (by decide +kernel)
  have k_4 := hts (.fieldLink RX12 259 "SteadyMachineModel" "flies" "Z") (by decide +kernel)
  have k_5 := hts (.fieldLink RX12 10 "SteadyMachineModel" "image" "LSteadyMachineModel$Image;") (by decide +kernel)
  have k_6 := hts (.constantLong RX12 412 (-1)) (by decide +kernel)
  have k_7 := hts (.fieldLink RX12 152 "SteadyMachineModel" "state" "I") (by decide +kernel)
  have hl := lv_entry ([.ref (α.1 1), .int p1]) (n := 3) (Nat.le_of_ble_eq_true rfl)
  rw [lg_entry_eq]
  generalize (lg_sl ([.ref (α.1 1), .int p1]) ++ List.replicate (3 - (lg_sl ([.ref (α.1 1), .int p1])).length) Slot.unset).toArray = ls at hl ⊢
  have hl : lv_has ls 3 [(0, .ref (α.1 1)), (1, .int p1)] := hl
  have B172 : ∀ (σ : sm_S) (y0 : Int64), mp_X12_count_172 K σ y0 → sm_J p l e (headSpec wp_X12_count { frames := 0, cells := 0, slots := 0, locals := 0 }).room s m ([.ref (α.1 1), .int p1] : List Value).toArray below meth c (MQ below (va_Ql K (sm_B sm_wM D α) A) ([.ref (α.1 1), .int p1] : List Value).toArray s 0 0 A) D A 3 (sm_wM σ α) 172 [] [.long y0] := by
    intro σ y0 hF H locs ls hP hS hl
    unfold mp_X12_count_172 at hF
    exact W.lret (v := y0) hx hb hr (fun t ht hW => ⟨⟨y0, σ, rfl, hF, (by unfold sm_B; rw [ht]; exact hP)⟩, hS.F ht⟩) hS.2.2 dX12_count_172
  have B149 : ∀ (σ : sm_S) (y0 : Int64), mp_X12_count_149 K σ y0 → sm_J p l e (headSpec wp_X12_count { frames := 0, cells := 0, slots := 0, locals := 0 }).room s m ([.ref (α.1 1), .int p1] : List Value).toArray below meth c (MQ below (va_Ql K (sm_B sm_wM D α) A) ([.ref (α.1 1), .int p1] : List Value).toArray s 0 0 A) D A 3 (sm_wM σ α) 149 [] [.long y0] := by
    intro σ y0 hF H locs ls hP hS hl
    unfold mp_X12_count_149 at hF
    exact W.lret (v := y0) hx hb hr (fun t ht hW => ⟨⟨y0, σ, rfl, hF, (by unfold sm_B; rw [ht]; exact hP)⟩, hS.F ht⟩) hS.2.2 dX12_count_149
  have B126 : ∀ (σ : sm_S) (y0 : Int64), mp_X12_count_126 K σ y0 → sm_J p l e (headSpec wp_X12_count { frames := 0, cells := 0, slots := 0, locals := 0 }).room s m ([.ref (α.1 1), .int p1] : List Value).toArray below meth c (MQ below (va_Ql K (sm_B sm_wM D α) A) ([.ref (α.1 1), .int p1] : List Value).toArray s 0 0 A) D A 3 (sm_wM σ α) 126 [] [.long y0] := by
    intro σ y0 hF H locs ls hP hS hl
    unfold mp_X12_count_126 at hF
    exact W.lret (v := y0) hx hb hr (fun t ht hW => ⟨⟨y0, σ, rfl, hF, (by unfold sm_B; rw [ht]; exact hP)⟩, hS.F ht⟩) hS.2.2 dX12_count_126
  have B125 : ∀ (σ : sm_S), mp_X12_count_125 K σ → sm_J p l e (headSpec wp_X12_count { frames := 0, cells := 0, slots := 0, locals := 0 }).room s m ([.ref (α.1 1), .int p1] : List Value).toArray below meth c (MQ below (va_Ql K (sm_B sm_wM D α) A) ([.ref (α.1 1), .int p1] : List Value).toArray s 0 0 A) D A 3 (sm_wM σ α) 125 [] [] := by
    intro σ hF H locs ls hP hS hl
    unfold mp_X12_count_125 at hF
    refine lv_lconst (v := 0) hx hb dX12_count_125 (by decide) ?_
    exact B126 σ 0 hF H locs ls hP hS (lv_sub hl [] rfl)
  have B109 : ∀ (σ : sm_S) (y0 : Int64), mp_X12_count_109 K σ y0 → sm_J p l e (headSpec wp_X12_count { frames := 0, cells := 0, slots := 0, locals := 0 }).room s m ([.ref (α.1 1), .int p1] : List Value).toArray below meth c (MQ below (va_Ql K (sm_B sm_wM D α) A) ([.ref (α.1 1), .int p1] : List Value).toArray s 0 0 A) D A 3 (sm_wM σ α) 109 [] [.long y0] := by
    intro σ y0 hF H locs ls hP hS hl
    unfold mp_X12_count_109 at hF
    exact W.lret (v := y0) hx hb hr (fun t ht hW => ⟨⟨y0, σ, rfl, hF, (by unfold sm_B; rw [ht]; exact hP)⟩, hS.F ht⟩) hS.2.2 dX12_count_109
  have B95 : ∀ (σ : sm_S) (y0 : Int64), mp_X12_count_95 K σ y0 → sm_J p l e (headSpec wp_X12_count { frames := 0, cells := 0, slots := 0, locals := 0 }).room s m ([.ref (α.1 1), .int p1] : List Value).toArray below meth c (MQ below (va_Ql K (sm_B sm_wM D α) A) ([.ref (α.1 1), .int p1] : List Value).toArray s 0 0 A) D A 3 (sm_wM σ α) 95 [] [.long y0] := by
    intro σ y0 hF H locs ls hP hS hl
    unfold mp_X12_count_95 at hF
    exact W.lret (v := y0) hx hb hr (fun t ht hW => ⟨⟨y0, σ, rfl, hF, (by unfold sm_B; rw [ht]; exact hP)⟩, hS.F ht⟩) hS.2.2 dX12_count_95
  have B82 : ∀ (σ : sm_S) (y0 : Int64), mp_X12_count_82 K σ y0 → sm_J p l e (headSpec wp_X12_count { frames := 0, cells := 0, slots := 0, locals := 0 }).room s m ([.ref (α.1 1), .int p1] : List Value).toArray below meth c (MQ below (va_Ql K (sm_B sm_wM D α) A) ([.ref (α.1 1), .int p1] : List Value).toArray s 0 0 A) D A 3 (sm_wM σ α) 82 [] [.long y0] := by
    intro σ y0 hF H locs ls hP hS hl
    unfold mp_X12_count_82 at hF
    exact W.lret (v := y0) hx hb hr (fun t ht hW => ⟨⟨y0, σ, rfl, hF, (by unfold sm_B; rw [ht]; exact hP)⟩, hS.F ht⟩) hS.2.2 dX12_count_82
  have B68 : ∀ (σ : sm_S) (y0 : Int64), mp_X12_count_68 K σ y0 → sm_J p l e (headSpec wp_X12_count { frames := 0, cells := 0, slots := 0, locals := 0 }).room s m ([.ref (α.1 1), .int p1] : List Value).toArray below meth c (MQ below (va_Ql K (sm_B sm_wM D α) A) ([.ref (α.1 1), .int p1] : List Value).toArray s 0 0 A) D A 3 (sm_wM σ α) 68 [] [.long y0] := by
    intro σ y0 hF H locs ls hP hS hl
    unfold mp_X12_count_68 at hF
    exact W.lret (v := y0) hx hb hr (fun t ht hW => ⟨⟨y0, σ, rfl, hF, (by unfold sm_B; rw [ht]; exact hP)⟩, hS.F ht⟩) hS.2.2 dX12_count_68
  have B12 : ∀ (σ : sm_S) (x1 : Int32) (y0 : Int32), mp_X12_count_12 K σ x1 y0 → sm_J p l e (headSpec wp_X12_count { frames := 0, cells := 0, slots := 0, locals := 0 }).room s m ([.ref (α.1 1), .int p1] : List Value).toArray below meth c (MQ below (va_Ql K (sm_B sm_wM D α) A) ([.ref (α.1 1), .int p1] : List Value).toArray s 0 0 A) D A 3 (sm_wM σ α) 12 [(0, .ref (α.1 1)), (1, .int x1)] [.int y0] := by
    intro σ x1 y0 hF H locs ls hP hS hl
    unfold mp_X12_count_12 at hF
    refine lv_istore_n (lv' := [(2, .int y0), (0, .ref (α.1 1)), (1, .int x1)]) hx hb dX12_count_12 rfl hl (by decide) rfl (fun ls hl => ?_)
    refine lv_iload_n hx hb dX12_count_13 rfl (lv_at hl 2 rfl) ?_
    by_cases h1 : x1 = 0
    · refine lv_tableIn (tgt := 56) hx hb dX12_count_14 (by rw [h1]; decide) (by rw [h1]; decide) (by rw [h1]; rfl) (by decide) ?_
      replace hF := hF.1 h1
      refine lv_iload_n hx hb dX12_count_56 rfl (lv_at hl 0 rfl) ?_
      refine lv_if_eq (tgt := 67) hx hb dX12_count_57 (by decide) (fun h2 => ?_) (fun h2 => ?_)
      · replace hF := hF.1 h2
        refine lv_lconst (v := 0) hx hb dX12_count_67 (by decide) ?_
        exact B68 σ 0 hF H locs ls hP hS (lv_sub hl [] rfl)
      · replace hF := hF.2 h2
        refine lv_aload_n hx hb dX12_count_60 rfl (lv_at hl 1 rfl) ?_
        refine va_get (D := D) (ci := 12) (v := .long (σ.2.1 0)) (C := RX12) (T := TX12) (N := 42) hx hb hts in_X12 hown hK hP 1 (sm_gX12 σ α) rfl 27 (by decide) k_0 (fun _ h9 => h9) rfl dX12_count_61 ?_
        refine lv_goto (tgt := 68) hx hb dX12_count_64 (by decide) ?_
        exact B68 σ (σ.2.1 0) hF H locs ls hP hS (lv_sub hl [] rfl)
    by_cases h3 : x1 = 1
    · refine lv_tableIn (tgt := 69) hx hb dX12_count_14 (by rw [h3]; decide) (by rw [h3]; decide) (by rw [h3]; rfl) (by decide) ?_
      replace hF := hF.2.1 h3
      refine lv_iload_n hx hb dX12_count_69 rfl (lv_at hl 0 rfl) ?_
      refine lv_if_eq (tgt := 81) hx hb dX12_count_70 (by decide) (fun h4 => ?_) (fun h4 => ?_)
      · replace hF := hF.1 h4
        refine lv_lconst (v := 0) hx hb dX12_count_81 (by decide) ?_
        exact B82 σ 0 hF H locs ls hP hS (lv_sub hl [] rfl)
      · replace hF := hF.2 h4
        refine lv_aload_n hx hb dX12_count_73 rfl (lv_at hl 1 rfl) ?_
        refine va_get (D := D) (ci := 12) (v := .int (σ.1 18)) (C := RX12) (T := TX12) (N := 42) hx hb hts in_X12 hown hK hP 1 (sm_gX12 σ α) rfl 28 (by decide) k_1 (fun _ h9 => h9) rfl dX12_count_74 ?_
        refine lv_i2l hx hb dX12_count_77 rfl ?_
        refine lv_goto (tgt := 82) hx hb dX12_count_78 (by decide) ?_
        exact B82 σ ((σ.1 18).toInt64) hF H locs ls hP hS (lv_sub hl [] rfl)
    by_cases h5 : x1 = 2
    · refine lv_tableIn (tgt := 83) hx hb dX12_count_14 (by rw [h5]; decide) (by rw [h5]; decide) (by rw [h5]; rfl) (by decide) ?_
      replace hF := hF.2.2.1 h5
      refine lv_iload_n hx hb dX12_count_83 rfl (lv_at hl 0 rfl) ?_
      refine lv_if_eq (tgt := 94) hx hb dX12_count_84 (by decide) (fun h6 => ?_) (fun h6 => ?_)
      · replace hF := hF.1 h6
        refine lv_lconst (v := 0) hx hb dX12_count_94 (by decide) ?_
        exact B95 σ 0 hF H locs ls hP hS (lv_sub hl [] rfl)
      · replace hF := hF.2 h6
        refine lv_aload_n hx hb dX12_count_87 rfl (lv_at hl 1 rfl) ?_
        refine va_get (D := D) (ci := 12) (v := .long (σ.2.1 1)) (C := RX12) (T := TX12) (N := 42) hx hb hts in_X12 hown hK hP 1 (sm_gX12 σ α) rfl 32 (by decide) k_2 (fun _ h9 => h9) rfl dX12_count_88 ?_
        refine lv_goto (tgt := 95) hx hb dX12_count_91 (by decide) ?_
        exact B95 σ (σ.2.1 1) hF H locs ls hP hS (lv_sub hl [] rfl)
    by_cases h7 : x1 = 3
    · refine lv_tableIn (tgt := 96) hx hb dX12_count_14 (by rw [h7]; decide) (by rw [h7]; decide) (by rw [h7]; rfl) (by decide) ?_
      replace hF := hF.2.2.2.1 h7
      refine lv_iload_n hx hb dX12_count_96 rfl (lv_at hl 0 rfl) ?_
      refine lv_if_eq (tgt := 108) hx hb dX12_count_97 (by decide) (fun h8 => ?_) (fun h8 => ?_)
      · replace hF := hF.1 h8
        refine lv_lconst (v := 0) hx hb dX12_count_108 (by decide) ?_
        exact B109 σ 0 hF H locs ls hP hS (lv_sub hl [] rfl)
      · replace hF := hF.2 h8
        refine lv_aload_n hx hb dX12_count_100 rfl (lv_at hl 1 rfl) ?_
        refine va_get (D := D) (ci := 12) (v := .int (σ.1 14)) (C := RX12) (T := TX12) (N := 42) hx hb hts in_X12 hown hK hP 1 (sm_gX12 σ α) rfl 18 (by decide) k_3 (fun _ h9 => h9) rfl dX12_count_101 ?_
        refine lv_i2l hx hb dX12_count_104 rfl ?_
        refine lv_goto (tgt := 109) hx hb dX12_count_105 (by decide) ?_
        exact B109 σ ((σ.1 14).toInt64) hF H locs ls hP hS (lv_sub hl [] rfl)
    by_cases h9 : x1 = 4
    · refine lv_tableIn (tgt := 110) hx hb dX12_count_14 (by rw [h9]; decide) (by rw [h9]; decide) (by rw [h9]; rfl) (by decide) ?_
      replace hF := hF.2.2.2.2.1 h9
      refine lv_iload_n hx hb dX12_count_110 rfl (lv_at hl 0 rfl) ?_
      refine lv_if_eq (tgt := 125) hx hb dX12_count_111 (by decide) (fun h10 => ?_) (fun h10 => ?_)
      · replace hF := hF.1 h10
        exact B125 σ hF H locs ls hP hS (lv_sub hl [] rfl)
      · replace hF := hF.2 h10
        refine lv_aload_n hx hb dX12_count_114 rfl (lv_at hl 1 rfl) ?_
        refine va_get (D := D) (ci := 12) (v := .int (σ.1 15)) (C := RX12) (T := TX12) (N := 42) hx hb hts in_X12 hown hK hP 1 (sm_gX12 σ α) rfl 24 (by decide) k_4 (fun _ h9 => h9) rfl dX12_count_115 ?_
        refine lv_if_eq (tgt := 125) hx hb dX12_count_118 (by decide) (fun h11 => ?_) (fun h11 => ?_)
        · replace hF := hF.1 h11
          exact B125 σ hF H locs ls hP hS (lv_sub hl [] rfl)
        · replace hF := hF.2 h11
          refine lv_lconst (v := 1) hx hb dX12_count_121 (by decide) ?_
          refine lv_goto (tgt := 126) hx hb dX12_count_122 (by decide) ?_
          exact B126 σ 1 hF H locs ls hP hS (lv_sub hl [] rfl)
    by_cases h12 : x1 = 5
    · refine lv_tableIn (tgt := 127) hx hb dX12_count_14 (by rw [h12]; decide) (by rw [h12]; decide) (by rw [h12]; rfl) (by decide) ?_
      replace hF := hF.2.2.2.2.2.1 h12
      refine lv_aload_n hx hb dX12_count_127 rfl (lv_at hl 1 rfl) ?_
      refine va_get (D := D) (ci := 12) (v := .ref (α.1 0)) (C := RX12) (T := TX12) (N := 42) hx hb hts in_X12 hown hK hP 1 (sm_gX12 σ α) rfl 0 (by decide) k_5 (fun _ h9 => h9) rfl dX12_count_128 ?_
      refine va_getN (D := D) (ci := 11) (v := .int (σ.1 4)) (C := RX11) (T := TX11) (N := 28) hx hb hts in_X11 hown hK hP 0 (sm_gX11 σ α) rfl 7 (by decide) (va_Nw.use rfl (hE.1 (.fieldLinkNest "SteadyMachineModel" 164 "SteadyMachineModel$Image" "there" "Z" "SteadyMachineModel") (by decide +kernel))) (fun _ h9 => h9) rfl dX12_count_131 ?_
      refine lv_if_eq (tgt := 148) hx hb dX12_count_134 (by decide) (fun h13 => ?_) (fun h13 => ?_)
      · replace hF := hF.1 h13
        refine lv_lconst (v := 0) hx hb dX12_count_148 (by decide) ?_
        exact B149 σ 0 hF H locs ls hP hS (lv_sub hl [] rfl)
      · replace hF := hF.2 h13
        refine lv_aload_n hx hb dX12_count_137 rfl (lv_at hl 1 rfl) ?_
        refine va_get (D := D) (ci := 12) (v := .ref (α.1 0)) (C := RX12) (T := TX12) (N := 42) hx hb hts in_X12 hown hK hP 1 (sm_gX12 σ α) rfl 0 (by decide) k_5 (fun _ h9 => h9) rfl dX12_count_138 ?_
        refine va_getN (D := D) (ci := 11) (v := .int (σ.1 5)) (C := RX11) (T := TX11) (N := 28) hx hb hts in_X11 hown hK hP 0 (sm_gX11 σ α) rfl 8 (by decide) (va_Nw.use rfl (hE.1 (.fieldLinkNest "SteadyMachineModel" 409 "SteadyMachineModel$Image" "classes" "I" "SteadyMachineModel") (by decide +kernel))) (fun _ h9 => h9) rfl dX12_count_141 ?_
        refine lv_i2l hx hb dX12_count_144 rfl ?_
        refine lv_goto (tgt := 149) hx hb dX12_count_145 (by decide) ?_
        exact B149 σ ((σ.1 5).toInt64) hF H locs ls hP hS (lv_sub hl [] rfl)
    by_cases h14 : x1 = 6
    · refine lv_tableIn (tgt := 150) hx hb dX12_count_14 (by rw [h14]; decide) (by rw [h14]; decide) (by rw [h14]; rfl) (by decide) ?_
      replace hF := hF.2.2.2.2.2.2.1 h14
      refine lv_aload_n hx hb dX12_count_150 rfl (lv_at hl 1 rfl) ?_
      refine va_get (D := D) (ci := 12) (v := .ref (α.1 0)) (C := RX12) (T := TX12) (N := 42) hx hb hts in_X12 hown hK hP 1 (sm_gX12 σ α) rfl 0 (by decide) k_5 (fun _ h9 => h9) rfl dX12_count_151 ?_
      refine va_getN (D := D) (ci := 11) (v := .int (σ.1 4)) (C := RX11) (T := TX11) (N := 28) hx hb hts in_X11 hown hK hP 0 (sm_gX11 σ α) rfl 7 (by decide) (va_Nw.use rfl (hE.1 (.fieldLinkNest "SteadyMachineModel" 164 "SteadyMachineModel$Image" "there" "Z" "SteadyMachineModel") (by decide +kernel))) (fun _ h9 => h9) rfl dX12_count_154 ?_
      refine lv_if_eq (tgt := 171) hx hb dX12_count_157 (by decide) (fun h15 => ?_) (fun h15 => ?_)
      · replace hF := hF.1 h15
        refine lv_lconst (v := 0) hx hb dX12_count_171 (by decide) ?_
        exact B172 σ 0 hF H locs ls hP hS (lv_sub hl [] rfl)
      · replace hF := hF.2 h15
        refine lv_aload_n hx hb dX12_count_160 rfl (lv_at hl 1 rfl) ?_
        refine va_get (D := D) (ci := 12) (v := .ref (α.1 0)) (C := RX12) (T := TX12) (N := 42) hx hb hts in_X12 hown hK hP 1 (sm_gX12 σ α) rfl 0 (by decide) k_5 (fun _ h9 => h9) rfl dX12_count_161 ?_
        refine va_getN (D := D) (ci := 11) (v := .int (σ.1 6)) (C := RX11) (T := TX11) (N := 28) hx hb hts in_X11 hown hK hP 0 (sm_gX11 σ α) rfl 15 (by decide) (va_Nw.use rfl (hE.1 (.fieldLinkNest "SteadyMachineModel" 158 "SteadyMachineModel$Image" "methods" "I" "SteadyMachineModel") (by decide +kernel))) (fun _ h9 => h9) rfl dX12_count_164 ?_
        refine lv_i2l hx hb dX12_count_167 rfl ?_
        refine lv_goto (tgt := 172) hx hb dX12_count_168 (by decide) ?_
        exact B172 σ ((σ.1 6).toInt64) hF H locs ls hP hS (lv_sub hl [] rfl)
    refine lv_tableOut (tgt := 173) hx hb dX12_count_14 (by have q0 := lv_neT h1 (show Int32.toInt 0 = 0 by decide); have q1 := lv_neT h3 (show Int32.toInt 1 = 1 by decide); have q2 := lv_neT h5 (show Int32.toInt 2 = 2 by decide); have q3 := lv_neT h7 (show Int32.toInt 3 = 3 by decide); have q4 := lv_neT h9 (show Int32.toInt 4 = 4 by decide); have q5 := lv_neT h12 (show Int32.toInt 5 = 5 by decide); have q6 := lv_neT h14 (show Int32.toInt 6 = 6 by decide); omega) (by decide) ?_
    replace hF := hF.2.2.2.2.2.2.2 h1 h3 h5 h7 h9 h12 h14
    refine lv_ldc2 (v := -1) hx hb hown k_6 dX12_count_173 ?_
    exact W.lret (v := (-1)) hx hb hr (fun t ht hW => ⟨⟨(-1), σ, rfl, hF, (by unfold sm_B; rw [ht]; exact hP)⟩, hS.F ht⟩) hS.2.2 dX12_count_176
  unfold mp_X12_count at hF
  revert hP hS
  generalize hLo : ([] : List Loc) = locs
  suffices h9 : ∀ (H : Heap) (locs : List Loc), va_P D vwCl (sm_wM σ α) H → va_S A s.heap H locs → W p l e (headSpec wp_X12_count { frames := 0, cells := 0, slots := 0, locals := 0 }).room s m ([.ref (α.1 1), .int p1] : List Value).toArray below meth c H locs 0 0 (MQ below (va_Ql K (sm_B sm_wM D α) A) ([.ref (α.1 1), .int p1] : List Value).toArray s 0 0 A) (F0 m 0 ls []) from fun hP hS => h9 s.heap locs hP hS
  intro H locs hP hS
  refine lv_aload_n hx hb dX12_count_0 rfl (lv_at hl 0 rfl) ?_
  refine va_get (D := D) (ci := 12) (v := .int (σ.1 17)) (C := RX12) (T := TX12) (N := 42) hx hb hts in_X12 hown hK hP 1 (sm_gX12 σ α) rfl 26 (by decide) k_7 (fun _ h9 => h9) rfl dX12_count_1 ?_
  refine lv_if_le (tgt := 11) hx hb dX12_count_4 (by decide) (fun h16 => ?_) (fun h16 => ?_)
  · replace hF := hF.1 h16
    refine lv_iconst (v := 0) hx hb dX12_count_11 (by decide) ?_
    exact B12 σ p1 0 hF H locs ls hP hS (lv_sub hl [0, 1] rfl)
  · replace hF := hF.2 h16
    refine lv_iconst (v := 1) hx hb dX12_count_7 (by decide) ?_
    refine lv_goto (tgt := 12) hx hb dX12_count_8 (by decide) ?_
    exact B12 σ p1 1 hF H locs ls hP hS (lv_sub hl [0, 1] rfl)
theorem dX12_out_0 : decode cX12_out 0 = .ok (.aload_n 0, 1) := by decide +kernel
theorem dX12_out_1 : decode cX12_out 1 = .ok (.getfield 152, 3) := by decide +kernel
theorem dX12_out_4 : decode cX12_out 4 = .ok (.ifCond .le 24, 3) := by decide +kernel
theorem dX12_out_7 : decode cX12_out 7 = .ok (.iload_n 1, 1) := by decide +kernel
theorem dX12_out_8 : decode cX12_out 8 = .ok (.ifCond .lt 20, 3) := by decide +kernel
theorem dX12_out_11 : decode cX12_out 11 = .ok (.iload_n 1, 1) := by decide +kernel
theorem dX12_out_12 : decode cX12_out 12 = .ok (.aload_n 0, 1) := by decide +kernel
theorem dX12_out_13 : decode cX12_out 13 = .ok (.getfield 268, 3) := by decide +kernel
theorem dX12_out_16 : decode cX12_out 16 = .ok (.if_icmp .ge 12, 3) := by decide +kernel
theorem dX12_out_19 : decode cX12_out 19 = .ok (.aload_n 0, 1) := by decide +kernel
theorem dX12_out_20 : decode cX12_out 20 = .ok (.getfield 224, 3) := by decide +kernel
theorem dX12_out_23 : decode cX12_out 23 = .ok (.iload_n 1, 1) := by decide +kernel
theorem dX12_out_24 : decode cX12_out 24 = .ok (.iaload, 1) := by decide +kernel
theorem dX12_out_25 : decode cX12_out 25 = .ok (.goto 4, 3) := by decide +kernel
theorem dX12_out_28 : decode cX12_out 28 = .ok (.iconst 0, 1) := by decide +kernel
theorem dX12_out_29 : decode cX12_out 29 = .ok (.ireturn, 1) := by decide +kernel
def mp_X12_out_29 (K : Int32 → sm_S → Prop) (σ : sm_S) (y0 : Int32) : Prop := K y0 σ
def mp_X12_out_28 (K : Int32 → sm_S → Prop) (σ : sm_S)  : Prop := mp_X12_out_29 K σ 0
/-- SteadyMachineModel.out(I)I -/
def mp_X12_out (σ : sm_S) (p1 : Int32) (K : Int32 → sm_S → Prop) : Prop := (((σ.1 17) ≤ 0 → (mp_X12_out_28 K σ)) ∧ (¬ (σ.1 17) ≤ 0 → ((p1 < 0 → (mp_X12_out_28 K σ)) ∧ (¬ p1 < 0 → (((σ.1 20) ≤ p1 → (mp_X12_out_28 K σ)) ∧ (¬ (σ.1 20) ≤ p1 → (vp_in p1 (σ.2.2.1 39) ∧ mp_X12_out_29 K σ ((σ.2.2.2.1 39) p1.toNatClampNeg))))))))
def wp_X12_out : List Cond := .code yX12_out cX12_out 2 (some .int) :: ([.fieldLink RX12 152 "SteadyMachineModel" "state" "I", .fieldLink RX12 268 "SteadyMachineModel" "outputs" "I", .fieldLink RX12 224 "SteadyMachineModel" "output" "[I"] ++ wsX120)
theorem wi_X12_out_X12 : ∀ w ∈ wsX120, w ∈ wp_X12_out := fun w h => List.mem_cons_of_mem _ (List.mem_append_right _ h)
set_option maxHeartbeats 4000000 in
set_option maxRecDepth 100000 in
theorem c_X12_out (l : Launch) (D : va_G) (sz t0 : Nat) (σ : sm_S) (α : sm_A) (p1 : Int32) (K : Int32 → sm_S → Prop) (hF : mp_X12_out σ p1 K) : Met l yX12_out wp_X12_out { frames := 0, cells := 0, slots := 0, locals := 0 } (sm_P sm_wM sm_tM 40 D sz t0 σ α [.ref (α.1 1), .int p1]) (va_Qi K (sm_B sm_wM D α) (sm_a α 40 sz)) 0 0 (sm_a α 40 sz) := by
  refine Met.ofW (cc := cX12_out) (maxL := 2) (ret := (some .int)) (by decide) rfl ?_
  intro p e s m args below meth c s₁ B hml hv
  obtain ⟨rfl, hsz, hP, hK, hD0, hE⟩ := hv
  have hx := B.exec
  have hb := B.bytes
  have hr := B.returns
  have hts := atoms_spec (ws := wp_X12_out) B.pre
  have hown : s.vm.findClass RX12 = some m.cls := findClass_of_methodNamed B.named
  have hlocks := B.notSynchronized
  subst hsz
  have hD : sm_D (sm_a α 40 s.heap.size) α 40 := hD0.own
  have hA : ∀ q : Nat, s.heap.size ≤ q → sm_a α 40 s.heap.size q := fun q h => Or.inr h
  generalize hAe : sm_a α 40 s.heap.size = A at hD hA hE ⊢
  have hS : va_S A s.heap s.heap [] := va_S.rf
  have in_X12 : ∀ w ∈ wsX120, w ∈ wp_X12_out := wi_X12_out_X12
  have k_0 := hts (.fieldLink RX12 152 "SteadyMachineModel" "state" "I") (by decide +kernel)
  have k_1 := hts (.fieldLink RX12 268 "SteadyMachineModel" "outputs" "I") (by decide +kernel)
  have k_2 := hts (.fieldLink RX12 224 "SteadyMachineModel" "output" "[I") (by decide +kernel)
  have hl := lv_entry ([.ref (α.1 1), .int p1]) (n := 2) (Nat.le_of_ble_eq_true rfl)
  rw [lg_entry_eq]
  generalize (lg_sl ([.ref (α.1 1), .int p1]) ++ List.replicate (2 - (lg_sl ([.ref (α.1 1), .int p1])).length) Slot.unset).toArray = ls at hl ⊢
  have hl : lv_has ls 2 [(0, .ref (α.1 1)), (1, .int p1)] := hl
  have B29 : ∀ (σ : sm_S) (y0 : Int32), mp_X12_out_29 K σ y0 → sm_J p l e (headSpec wp_X12_out { frames := 0, cells := 0, slots := 0, locals := 0 }).room s m ([.ref (α.1 1), .int p1] : List Value).toArray below meth c (MQ below (va_Qi K (sm_B sm_wM D α) A) ([.ref (α.1 1), .int p1] : List Value).toArray s 0 0 A) D A 2 (sm_wM σ α) 29 [] [.int y0] := by
    intro σ y0 hF H locs ls hP hS hl
    unfold mp_X12_out_29 at hF
    exact W.iret (v := y0) hx hb hr (fun t ht hW => ⟨⟨y0, σ, rfl, hF, (by unfold sm_B; rw [ht]; exact hP)⟩, hS.F ht⟩) hS.2.2 dX12_out_29
  have B28 : ∀ (σ : sm_S), mp_X12_out_28 K σ → sm_J p l e (headSpec wp_X12_out { frames := 0, cells := 0, slots := 0, locals := 0 }).room s m ([.ref (α.1 1), .int p1] : List Value).toArray below meth c (MQ below (va_Qi K (sm_B sm_wM D α) A) ([.ref (α.1 1), .int p1] : List Value).toArray s 0 0 A) D A 2 (sm_wM σ α) 28 [] [] := by
    intro σ hF H locs ls hP hS hl
    unfold mp_X12_out_28 at hF
    refine lv_iconst (v := 0) hx hb dX12_out_28 (by decide) ?_
    exact B29 σ 0 hF H locs ls hP hS (lv_sub hl [] rfl)
  unfold mp_X12_out at hF
  revert hP hS
  generalize hLo : ([] : List Loc) = locs
  suffices h9 : ∀ (H : Heap) (locs : List Loc), va_P D vwCl (sm_wM σ α) H → va_S A s.heap H locs → W p l e (headSpec wp_X12_out { frames := 0, cells := 0, slots := 0, locals := 0 }).room s m ([.ref (α.1 1), .int p1] : List Value).toArray below meth c H locs 0 0 (MQ below (va_Qi K (sm_B sm_wM D α) A) ([.ref (α.1 1), .int p1] : List Value).toArray s 0 0 A) (F0 m 0 ls []) from fun hP hS => h9 s.heap locs hP hS
  intro H locs hP hS
  refine lv_aload_n hx hb dX12_out_0 rfl (lv_at hl 0 rfl) ?_
  refine va_get (D := D) (ci := 12) (v := .int (σ.1 17)) (C := RX12) (T := TX12) (N := 42) hx hb hts in_X12 hown hK hP 1 (sm_gX12 σ α) rfl 26 (by decide) k_0 (fun _ h9 => h9) rfl dX12_out_1 ?_
  refine lv_if_le (tgt := 28) hx hb dX12_out_4 (by decide) (fun h1 => ?_) (fun h1 => ?_)
  · replace hF := hF.1 h1
    exact B28 σ hF H locs ls hP hS (lv_sub hl [] rfl)
  · replace hF := hF.2 h1
    refine lv_iload_n hx hb dX12_out_7 rfl (lv_at hl 1 rfl) ?_
    refine lv_if_lt (tgt := 28) hx hb dX12_out_8 (by decide) (fun h2 => ?_) (fun h2 => ?_)
    · replace hF := hF.1 h2
      exact B28 σ hF H locs ls hP hS (lv_sub hl [] rfl)
    · replace hF := hF.2 h2
      refine lv_iload_n hx hb dX12_out_11 rfl (lv_at hl 1 rfl) ?_
      refine lv_aload_n hx hb dX12_out_12 rfl (lv_at hl 0 rfl) ?_
      refine va_get (D := D) (ci := 12) (v := .int (σ.1 20)) (C := RX12) (T := TX12) (N := 42) hx hb hts in_X12 hown hK hP 1 (sm_gX12 σ α) rfl 31 (by decide) k_1 (fun _ h9 => h9) rfl dX12_out_13 ?_
      refine lv_icmp_ge (tgt := 28) hx hb dX12_out_16 (by decide) (fun h3 => ?_) (fun h3 => ?_)
      · replace hF := hF.1 h3
        exact B28 σ hF H locs ls hP hS (lv_sub hl [] rfl)
      · replace hF := hF.2 h3
        refine lv_aload_n hx hb dX12_out_19 rfl (lv_at hl 0 rfl) ?_
        refine va_get (D := D) (ci := 12) (v := .ref (α.1 39)) (C := RX12) (T := TX12) (N := 42) hx hb hts in_X12 hown hK hP 1 (sm_gX12 σ α) rfl 33 (by decide) k_2 (fun _ h9 => h9) rfl dX12_out_20 ?_
        refine lv_iload_n hx hb dX12_out_23 rfl (lv_at hl 1 rfl) ?_
        obtain ⟨h4, hF⟩ := hF
        refine va_iald (n := (σ.2.2.1 39)) (f := (σ.2.2.2.1 39)) hx hb hK hP 39 37 (sm_aM39 σ α) (sm_yM39 α) h4 dX12_out_24 ?_
        refine lv_goto (tgt := 29) hx hb dX12_out_25 (by decide) ?_
        exact B29 σ ((σ.2.2.2.1 39) p1.toNatClampNeg) hF H locs ls hP hS (lv_sub hl [] rfl)
theorem dX12_frame_0 : decode cX12_frame 0 = .ok (.aload_n 0, 1) := by decide +kernel
theorem dX12_frame_1 : decode cX12_frame 1 = .ok (.getfield 152, 3) := by decide +kernel
theorem dX12_frame_4 : decode cX12_frame 4 = .ok (.ifCond .eq 15, 3) := by decide +kernel
theorem dX12_frame_7 : decode cX12_frame 7 = .ok (.iload_n 1, 1) := by decide +kernel
theorem dX12_frame_8 : decode cX12_frame 8 = .ok (.ifCond .lt 11, 3) := by decide +kernel
theorem dX12_frame_11 : decode cX12_frame 11 = .ok (.iload_n 1, 1) := by decide +kernel
theorem dX12_frame_12 : decode cX12_frame 12 = .ok (.aload_n 0, 1) := by decide +kernel
theorem dX12_frame_13 : decode cX12_frame 13 = .ok (.getfield 256, 3) := by decide +kernel
theorem dX12_frame_16 : decode cX12_frame 16 = .ok (.if_icmp .lt 5, 3) := by decide +kernel
theorem dX12_frame_19 : decode cX12_frame 19 = .ok (.iconst (-1), 1) := by decide +kernel
theorem dX12_frame_20 : decode cX12_frame 20 = .ok (.ireturn, 1) := by decide +kernel
theorem dX12_frame_21 : decode cX12_frame 21 = .ok (.aload_n 0, 1) := by decide +kernel
theorem dX12_frame_22 : decode cX12_frame 22 = .ok (.getfield 256, 3) := by decide +kernel
theorem dX12_frame_25 : decode cX12_frame 25 = .ok (.iconst 1, 1) := by decide +kernel
theorem dX12_frame_26 : decode cX12_frame 26 = .ok (.isub, 1) := by decide +kernel
theorem dX12_frame_27 : decode cX12_frame 27 = .ok (.iload_n 1, 1) := by decide +kernel
theorem dX12_frame_28 : decode cX12_frame 28 = .ok (.isub, 1) := by decide +kernel
theorem dX12_frame_29 : decode cX12_frame 29 = .ok (.istore_n 3, 1) := by decide +kernel
theorem dX12_frame_30 : decode cX12_frame 30 = .ok (.iload_n 2, 1) := by decide +kernel
theorem dX12_frame_31 : decode cX12_frame 31 = .ok (.ifCond .ne 12, 3) := by decide +kernel
theorem dX12_frame_34 : decode cX12_frame 34 = .ok (.aload_n 0, 1) := by decide +kernel
theorem dX12_frame_35 : decode cX12_frame 35 = .ok (.getfield 205, 3) := by decide +kernel
theorem dX12_frame_38 : decode cX12_frame 38 = .ok (.iload_n 3, 1) := by decide +kernel
theorem dX12_frame_39 : decode cX12_frame 39 = .ok (.iaload, 1) := by decide +kernel
theorem dX12_frame_40 : decode cX12_frame 40 = .ok (.goto 54, 3) := by decide +kernel
theorem dX12_frame_43 : decode cX12_frame 43 = .ok (.iload_n 2, 1) := by decide +kernel
theorem dX12_frame_44 : decode cX12_frame 44 = .ok (.iconst 1, 1) := by decide +kernel
theorem dX12_frame_45 : decode cX12_frame 45 = .ok (.if_icmp .ne 12, 3) := by decide +kernel
theorem dX12_frame_48 : decode cX12_frame 48 = .ok (.aload_n 0, 1) := by decide +kernel
theorem dX12_frame_49 : decode cX12_frame 49 = .ok (.getfield 208, 3) := by decide +kernel
theorem dX12_frame_52 : decode cX12_frame 52 = .ok (.iload_n 3, 1) := by decide +kernel
theorem dX12_frame_53 : decode cX12_frame 53 = .ok (.iaload, 1) := by decide +kernel
theorem dX12_frame_54 : decode cX12_frame 54 = .ok (.goto 40, 3) := by decide +kernel
theorem dX12_frame_57 : decode cX12_frame 57 = .ok (.iload_n 2, 1) := by decide +kernel
theorem dX12_frame_58 : decode cX12_frame 58 = .ok (.iconst 2, 1) := by decide +kernel
theorem dX12_frame_59 : decode cX12_frame 59 = .ok (.if_icmp .ne 12, 3) := by decide +kernel
theorem dX12_frame_62 : decode cX12_frame 62 = .ok (.aload_n 0, 1) := by decide +kernel
theorem dX12_frame_63 : decode cX12_frame 63 = .ok (.getfield 211, 3) := by decide +kernel
theorem dX12_frame_66 : decode cX12_frame 66 = .ok (.iload_n 3, 1) := by decide +kernel
theorem dX12_frame_67 : decode cX12_frame 67 = .ok (.iaload, 1) := by decide +kernel
theorem dX12_frame_68 : decode cX12_frame 68 = .ok (.goto 26, 3) := by decide +kernel
theorem dX12_frame_71 : decode cX12_frame 71 = .ok (.iload_n 2, 1) := by decide +kernel
theorem dX12_frame_72 : decode cX12_frame 72 = .ok (.iconst 3, 1) := by decide +kernel
theorem dX12_frame_73 : decode cX12_frame 73 = .ok (.if_icmp .ne 20, 3) := by decide +kernel
theorem dX12_frame_76 : decode cX12_frame 76 = .ok (.aload_n 0, 1) := by decide +kernel
theorem dX12_frame_77 : decode cX12_frame 77 = .ok (.getfield 10, 3) := by decide +kernel
theorem dX12_frame_80 : decode cX12_frame 80 = .ok (.getfield 27, 3) := by decide +kernel
theorem dX12_frame_83 : decode cX12_frame 83 = .ok (.aload_n 0, 1) := by decide +kernel
theorem dX12_frame_84 : decode cX12_frame 84 = .ok (.getfield 205, 3) := by decide +kernel
theorem dX12_frame_87 : decode cX12_frame 87 = .ok (.iload_n 3, 1) := by decide +kernel
theorem dX12_frame_88 : decode cX12_frame 88 = .ok (.iaload, 1) := by decide +kernel
theorem dX12_frame_89 : decode cX12_frame 89 = .ok (.iaload, 1) := by decide +kernel
theorem dX12_frame_90 : decode cX12_frame 90 = .ok (.goto 4, 3) := by decide +kernel
theorem dX12_frame_93 : decode cX12_frame 93 = .ok (.iconst (-1), 1) := by decide +kernel
theorem dX12_frame_94 : decode cX12_frame 94 = .ok (.ireturn, 1) := by decide +kernel
def mp_X12_frame_94 (K : Int32 → sm_S → Prop) (σ : sm_S) (y0 : Int32) : Prop := K y0 σ
def mp_X12_frame_19 (K : Int32 → sm_S → Prop) (σ : sm_S)  : Prop := K (-1) σ
/-- SteadyMachineModel.frame(II)I -/
def mp_X12_frame (σ : sm_S) (p1 : Int32) (p2 : Int32) (K : Int32 → sm_S → Prop) : Prop := (((σ.1 17) = 0 → (mp_X12_frame_19 K σ)) ∧ (¬ (σ.1 17) = 0 → ((p1 < 0 → (mp_X12_frame_19 K σ)) ∧ (¬ p1 < 0 → ((p1 < (σ.1 14) → (∀ v4 : Int32, v4 = (((σ.1 14) - 1) - p1) → ((¬ p2 = 0 → ((¬ p2 = 1 → ((¬ p2 = 2 → ((¬ p2 = 3 → (mp_X12_frame_94 K σ (-1))) ∧ (p2 = 3 → (vp_in v4 (σ.2.2.1 33) ∧ vp_in ((σ.2.2.2.1 33) v4.toNatClampNeg) (σ.2.2.1 15) ∧ mp_X12_frame_94 K σ ((σ.2.2.2.1 15) ((σ.2.2.2.1 33) v4.toNatClampNeg).toNatClampNeg))))) ∧ (p2 = 2 → (vp_in v4 (σ.2.2.1 35) ∧ mp_X12_frame_94 K σ ((σ.2.2.2.1 35) v4.toNatClampNeg))))) ∧ (p2 = 1 → (vp_in v4 (σ.2.2.1 34) ∧ mp_X12_frame_94 K σ ((σ.2.2.2.1 34) v4.toNatClampNeg))))) ∧ (p2 = 0 → (vp_in v4 (σ.2.2.1 33) ∧ mp_X12_frame_94 K σ ((σ.2.2.2.1 33) v4.toNatClampNeg)))))) ∧ (¬ p1 < (σ.1 14) → (mp_X12_frame_19 K σ)))))))
def wp_X12_frame : List Cond := .code yX12_frame cX12_frame 4 (some .int) :: (([.fieldLink RX12 152 "SteadyMachineModel" "state" "I", .fieldLink RX12 256 "SteadyMachineModel" "frames" "I", .fieldLink RX12 10 "SteadyMachineModel" "image" "LSteadyMachineModel$Image;", .fieldLink RX12 205 "SteadyMachineModel" "methodOf" "[I", .fieldLink RX12 211 "SteadyMachineModel" "highOf" "[I", .fieldLink RX12 208 "SteadyMachineModel" "placeOf" "[I"] ++ wsX110) ++ wsX120)
theorem wi_X12_frame_X11 : ∀ w ∈ wsX110, w ∈ wp_X12_frame := fun w h => List.mem_cons_of_mem _ (List.mem_append_left _ (List.mem_append_right _ h))
theorem wi_X12_frame_X12 : ∀ w ∈ wsX120, w ∈ wp_X12_frame := fun w h => List.mem_cons_of_mem _ (List.mem_append_right _ h)
set_option maxHeartbeats 4000000 in
set_option maxRecDepth 100000 in
theorem c_X12_frame (l : Launch) (D : va_G) (sz t0 : Nat) (σ : sm_S) (α : sm_A) (p1 : Int32) (p2 : Int32) (K : Int32 → sm_S → Prop) (hF : mp_X12_frame σ p1 p2 K) : Met l yX12_frame wp_X12_frame { frames := 0, cells := 0, slots := 0, locals := 0 } (sm_P sm_wM sm_tM 40 D sz t0 σ α [.ref (α.1 1), .int p1, .int p2]) (va_Qi K (sm_B sm_wM D α) (sm_a α 40 sz)) 0 0 (sm_a α 40 sz) := by
  refine Met.ofW (cc := cX12_frame) (maxL := 4) (ret := (some .int)) (by decide) rfl ?_
  intro p e s m args below meth c s₁ B hml hv
  obtain ⟨rfl, hsz, hP, hK, hD0, hE⟩ := hv
  have hx := B.exec
  have hb := B.bytes
  have hr := B.returns
  have hts := atoms_spec (ws := wp_X12_frame) B.pre
  have hown : s.vm.findClass RX12 = some m.cls := findClass_of_methodNamed B.named
  have hlocks := B.notSynchronized
  subst hsz
  have hD : sm_D (sm_a α 40 s.heap.size) α 40 := hD0.own
  have hA : ∀ q : Nat, s.heap.size ≤ q → sm_a α 40 s.heap.size q := fun q h => Or.inr h
  generalize hAe : sm_a α 40 s.heap.size = A at hD hA hE ⊢
  have hS : va_S A s.heap s.heap [] := va_S.rf
  have in_X11 : ∀ w ∈ wsX110, w ∈ wp_X12_frame := wi_X12_frame_X11
  have in_X12 : ∀ w ∈ wsX120, w ∈ wp_X12_frame := wi_X12_frame_X12
  have k_0 := hts (.fieldLink RX12 152 "SteadyMachineModel" "state" "I") (by decide +kernel)
  have k_1 := hts (.fieldLink RX12 256 "SteadyMachineModel" "frames" "I") (by decide +kernel)
  have k_2 := hts (.fieldLink RX12 10 "SteadyMachineModel" "image" "LSteadyMachineModel$Image;") (by decide +kernel)
  have k_3 := hts (.fieldLink RX12 205 "SteadyMachineModel" "methodOf" "[I") (by decide +kernel)
  have k_4 := hts (.fieldLink RX12 211 "SteadyMachineModel" "highOf" "[I") (by decide +kernel)
  have k_5 := hts (.fieldLink RX12 208 "SteadyMachineModel" "placeOf" "[I") (by decide +kernel)
  have hl := lv_entry ([.ref (α.1 1), .int p1, .int p2]) (n := 4) (Nat.le_of_ble_eq_true rfl)
  rw [lg_entry_eq]
  generalize (lg_sl ([.ref (α.1 1), .int p1, .int p2]) ++ List.replicate (4 - (lg_sl ([.ref (α.1 1), .int p1, .int p2])).length) Slot.unset).toArray = ls at hl ⊢
  have hl : lv_has ls 4 [(0, .ref (α.1 1)), (1, .int p1), (2, .int p2)] := hl
  have B94 : ∀ (σ : sm_S) (y0 : Int32), mp_X12_frame_94 K σ y0 → sm_J p l e (headSpec wp_X12_frame { frames := 0, cells := 0, slots := 0, locals := 0 }).room s m ([.ref (α.1 1), .int p1, .int p2] : List Value).toArray below meth c (MQ below (va_Qi K (sm_B sm_wM D α) A) ([.ref (α.1 1), .int p1, .int p2] : List Value).toArray s 0 0 A) D A 4 (sm_wM σ α) 94 [] [.int y0] := by
    intro σ y0 hF H locs ls hP hS hl
    unfold mp_X12_frame_94 at hF
    exact W.iret (v := y0) hx hb hr (fun t ht hW => ⟨⟨y0, σ, rfl, hF, (by unfold sm_B; rw [ht]; exact hP)⟩, hS.F ht⟩) hS.2.2 dX12_frame_94
  have B19 : ∀ (σ : sm_S), mp_X12_frame_19 K σ → sm_J p l e (headSpec wp_X12_frame { frames := 0, cells := 0, slots := 0, locals := 0 }).room s m ([.ref (α.1 1), .int p1, .int p2] : List Value).toArray below meth c (MQ below (va_Qi K (sm_B sm_wM D α) A) ([.ref (α.1 1), .int p1, .int p2] : List Value).toArray s 0 0 A) D A 4 (sm_wM σ α) 19 [] [] := by
    intro σ hF H locs ls hP hS hl
    unfold mp_X12_frame_19 at hF
    refine lv_iconst (v := -1) hx hb dX12_frame_19 (by decide) ?_
    exact W.iret (v := (-1)) hx hb hr (fun t ht hW => ⟨⟨(-1), σ, rfl, hF, (by unfold sm_B; rw [ht]; exact hP)⟩, hS.F ht⟩) hS.2.2 dX12_frame_20
  unfold mp_X12_frame at hF
  revert hP hS
  generalize hLo : ([] : List Loc) = locs
  suffices h9 : ∀ (H : Heap) (locs : List Loc), va_P D vwCl (sm_wM σ α) H → va_S A s.heap H locs → W p l e (headSpec wp_X12_frame { frames := 0, cells := 0, slots := 0, locals := 0 }).room s m ([.ref (α.1 1), .int p1, .int p2] : List Value).toArray below meth c H locs 0 0 (MQ below (va_Qi K (sm_B sm_wM D α) A) ([.ref (α.1 1), .int p1, .int p2] : List Value).toArray s 0 0 A) (F0 m 0 ls []) from fun hP hS => h9 s.heap locs hP hS
  intro H locs hP hS
  refine lv_aload_n hx hb dX12_frame_0 rfl (lv_at hl 0 rfl) ?_
  refine va_get (D := D) (ci := 12) (v := .int (σ.1 17)) (C := RX12) (T := TX12) (N := 42) hx hb hts in_X12 hown hK hP 1 (sm_gX12 σ α) rfl 26 (by decide) k_0 (fun _ h9 => h9) rfl dX12_frame_1 ?_
  refine lv_if_eq (tgt := 19) hx hb dX12_frame_4 (by decide) (fun h1 => ?_) (fun h1 => ?_)
  · replace hF := hF.1 h1
    exact B19 σ hF H locs ls hP hS (lv_sub hl [] rfl)
  · replace hF := hF.2 h1
    refine lv_iload_n hx hb dX12_frame_7 rfl (lv_at hl 1 rfl) ?_
    refine lv_if_lt (tgt := 19) hx hb dX12_frame_8 (by decide) (fun h2 => ?_) (fun h2 => ?_)
    · replace hF := hF.1 h2
      exact B19 σ hF H locs ls hP hS (lv_sub hl [] rfl)
    · replace hF := hF.2 h2
      refine lv_iload_n hx hb dX12_frame_11 rfl (lv_at hl 1 rfl) ?_
      refine lv_aload_n hx hb dX12_frame_12 rfl (lv_at hl 0 rfl) ?_
      refine va_get (D := D) (ci := 12) (v := .int (σ.1 14)) (C := RX12) (T := TX12) (N := 42) hx hb hts in_X12 hown hK hP 1 (sm_gX12 σ α) rfl 18 (by decide) k_1 (fun _ h9 => h9) rfl dX12_frame_13 ?_
      refine lv_icmp_lt (tgt := 21) hx hb dX12_frame_16 (by decide) (fun h3 => ?_) (fun h3 => ?_)
      · replace hF := hF.1 h3
        refine lv_aload_n hx hb dX12_frame_21 rfl (lv_at hl 0 rfl) ?_
        refine va_get (D := D) (ci := 12) (v := .int (σ.1 14)) (C := RX12) (T := TX12) (N := 42) hx hb hts in_X12 hown hK hP 1 (sm_gX12 σ α) rfl 18 (by decide) k_1 (fun _ h9 => h9) rfl dX12_frame_22 ?_
        refine lv_iconst (v := 1) hx hb dX12_frame_25 (by decide) ?_
        refine lv_isub hx hb dX12_frame_26 ?_
        refine lv_iload_n hx hb dX12_frame_27 rfl (lv_at hl 1 rfl) ?_
        refine lv_isub hx hb dX12_frame_28 ?_
        refine lv_topi (fun v4 ev4 => ?_)
        replace hF := hF v4 ev4
        refine lv_istore_n (lv' := [(3, .int v4), (0, .ref (α.1 1)), (1, .int p1), (2, .int p2)]) hx hb dX12_frame_29 rfl hl (by decide) rfl (fun ls hl => ?_)
        refine lv_iload_n hx hb dX12_frame_30 rfl (lv_at hl 3 rfl) ?_
        refine lv_if_ne (tgt := 43) hx hb dX12_frame_31 (by decide) (fun h5 => ?_) (fun h5 => ?_)
        · replace hF := hF.1 h5
          refine lv_iload_n hx hb dX12_frame_43 rfl (lv_at hl 3 rfl) ?_
          refine lv_iconst (v := 1) hx hb dX12_frame_44 (by decide) ?_
          refine lv_icmp_ne (tgt := 57) hx hb dX12_frame_45 (by decide) (fun h6 => ?_) (fun h6 => ?_)
          · replace hF := hF.1 h6
            refine lv_iload_n hx hb dX12_frame_57 rfl (lv_at hl 3 rfl) ?_
            refine lv_iconst (v := 2) hx hb dX12_frame_58 (by decide) ?_
            refine lv_icmp_ne (tgt := 71) hx hb dX12_frame_59 (by decide) (fun h7 => ?_) (fun h7 => ?_)
            · replace hF := hF.1 h7
              refine lv_iload_n hx hb dX12_frame_71 rfl (lv_at hl 3 rfl) ?_
              refine lv_iconst (v := 3) hx hb dX12_frame_72 (by decide) ?_
              refine lv_icmp_ne (tgt := 93) hx hb dX12_frame_73 (by decide) (fun h8 => ?_) (fun h8 => ?_)
              · replace hF := hF.1 h8
                refine lv_iconst (v := -1) hx hb dX12_frame_93 (by decide) ?_
                exact B94 σ (-1) hF H locs ls hP hS (lv_sub hl [] rfl)
              · replace hF := hF.2 h8
                refine lv_aload_n hx hb dX12_frame_76 rfl (lv_at hl 1 rfl) ?_
                refine va_get (D := D) (ci := 12) (v := .ref (α.1 0)) (C := RX12) (T := TX12) (N := 42) hx hb hts in_X12 hown hK hP 1 (sm_gX12 σ α) rfl 0 (by decide) k_2 (fun _ h9 => h9) rfl dX12_frame_77 ?_
                refine va_getN (D := D) (ci := 11) (v := .ref (α.1 15)) (C := RX11) (T := TX11) (N := 28) hx hb hts in_X11 hown hK hP 0 (sm_gX11 σ α) rfl 20 (by decide) (va_Nw.use rfl (hE.1 (.fieldLinkNest "SteadyMachineModel" 27 "SteadyMachineModel$Image" "locals" "[I" "SteadyMachineModel") (by decide +kernel))) (fun _ h9 => h9) rfl dX12_frame_80 ?_
                refine lv_aload_n hx hb dX12_frame_83 rfl (lv_at hl 1 rfl) ?_
                refine va_get (D := D) (ci := 12) (v := .ref (α.1 33)) (C := RX12) (T := TX12) (N := 42) hx hb hts in_X12 hown hK hP 1 (sm_gX12 σ α) rfl 19 (by decide) k_3 (fun _ h9 => h9) rfl dX12_frame_84 ?_
                refine lv_iload_n hx hb dX12_frame_87 rfl (lv_at hl 0 rfl) ?_
                obtain ⟨h9, hF⟩ := hF
                refine va_iald (n := (σ.2.2.1 33)) (f := (σ.2.2.2.1 33)) hx hb hK hP 33 31 (sm_aM33 σ α) (sm_yM33 α) h9 dX12_frame_88 ?_
                obtain ⟨h10, hF⟩ := hF
                refine va_iald (n := (σ.2.2.1 15)) (f := (σ.2.2.2.1 15)) hx hb hK hP 15 13 (sm_aM15 σ α) (sm_yM15 α) h10 dX12_frame_89 ?_
                refine lv_goto (tgt := 94) hx hb dX12_frame_90 (by decide) ?_
                exact B94 σ ((σ.2.2.2.1 15) ((σ.2.2.2.1 33) v4.toNatClampNeg).toNatClampNeg) hF H locs ls hP hS (lv_sub hl [] rfl)
            · replace hF := hF.2 h7
              refine lv_aload_n hx hb dX12_frame_62 rfl (lv_at hl 1 rfl) ?_
              refine va_get (D := D) (ci := 12) (v := .ref (α.1 35)) (C := RX12) (T := TX12) (N := 42) hx hb hts in_X12 hown hK hP 1 (sm_gX12 σ α) rfl 21 (by decide) k_4 (fun _ h9 => h9) rfl dX12_frame_63 ?_
              refine lv_iload_n hx hb dX12_frame_66 rfl (lv_at hl 0 rfl) ?_
              obtain ⟨h11, hF⟩ := hF
              refine va_iald (n := (σ.2.2.1 35)) (f := (σ.2.2.2.1 35)) hx hb hK hP 35 33 (sm_aM35 σ α) (sm_yM35 α) h11 dX12_frame_67 ?_
              refine lv_goto (tgt := 94) hx hb dX12_frame_68 (by decide) ?_
              exact B94 σ ((σ.2.2.2.1 35) v4.toNatClampNeg) hF H locs ls hP hS (lv_sub hl [] rfl)
          · replace hF := hF.2 h6
            refine lv_aload_n hx hb dX12_frame_48 rfl (lv_at hl 1 rfl) ?_
            refine va_get (D := D) (ci := 12) (v := .ref (α.1 34)) (C := RX12) (T := TX12) (N := 42) hx hb hts in_X12 hown hK hP 1 (sm_gX12 σ α) rfl 20 (by decide) k_5 (fun _ h9 => h9) rfl dX12_frame_49 ?_
            refine lv_iload_n hx hb dX12_frame_52 rfl (lv_at hl 0 rfl) ?_
            obtain ⟨h12, hF⟩ := hF
            refine va_iald (n := (σ.2.2.1 34)) (f := (σ.2.2.2.1 34)) hx hb hK hP 34 32 (sm_aM34 σ α) (sm_yM34 α) h12 dX12_frame_53 ?_
            refine lv_goto (tgt := 94) hx hb dX12_frame_54 (by decide) ?_
            exact B94 σ ((σ.2.2.2.1 34) v4.toNatClampNeg) hF H locs ls hP hS (lv_sub hl [] rfl)
        · replace hF := hF.2 h5
          refine lv_aload_n hx hb dX12_frame_34 rfl (lv_at hl 1 rfl) ?_
          refine va_get (D := D) (ci := 12) (v := .ref (α.1 33)) (C := RX12) (T := TX12) (N := 42) hx hb hts in_X12 hown hK hP 1 (sm_gX12 σ α) rfl 19 (by decide) k_3 (fun _ h9 => h9) rfl dX12_frame_35 ?_
          refine lv_iload_n hx hb dX12_frame_38 rfl (lv_at hl 0 rfl) ?_
          obtain ⟨h13, hF⟩ := hF
          refine va_iald (n := (σ.2.2.1 33)) (f := (σ.2.2.2.1 33)) hx hb hK hP 33 31 (sm_aM33 σ α) (sm_yM33 α) h13 dX12_frame_39 ?_
          refine lv_goto (tgt := 94) hx hb dX12_frame_40 (by decide) ?_
          exact B94 σ ((σ.2.2.2.1 33) v4.toNatClampNeg) hF H locs ls hP hS (lv_sub hl [] rfl)
      · replace hF := hF.2 h3
        exact B19 σ hF H locs ls hP hS (lv_sub hl [] rfl)
theorem dX12_placeOfValue_0 : decode cX12_placeOfValue 0 = .ok (.aload_n 0, 1) := by decide +kernel
theorem dX12_placeOfValue_1 : decode cX12_placeOfValue 1 = .ok (.getfield 152, 3) := by decide +kernel
theorem dX12_placeOfValue_4 : decode cX12_placeOfValue 4 = .ok (.ifCond .eq 19, 3) := by decide +kernel
theorem dX12_placeOfValue_7 : decode cX12_placeOfValue 7 = .ok (.iload_n 1, 1) := by decide +kernel
theorem dX12_placeOfValue_8 : decode cX12_placeOfValue 8 = .ok (.ifCond .lt 15, 3) := by decide +kernel
theorem dX12_placeOfValue_11 : decode cX12_placeOfValue 11 = .ok (.iload_n 1, 1) := by decide +kernel
theorem dX12_placeOfValue_12 : decode cX12_placeOfValue 12 = .ok (.aload_n 0, 1) := by decide +kernel
theorem dX12_placeOfValue_13 : decode cX12_placeOfValue 13 = .ok (.getfield 256, 3) := by decide +kernel
theorem dX12_placeOfValue_16 : decode cX12_placeOfValue 16 = .ok (.if_icmp .ge 7, 3) := by decide +kernel
theorem dX12_placeOfValue_19 : decode cX12_placeOfValue 19 = .ok (.iload_n 2, 1) := by decide +kernel
theorem dX12_placeOfValue_20 : decode cX12_placeOfValue 20 = .ok (.ifCond .ge 5, 3) := by decide +kernel
theorem dX12_placeOfValue_23 : decode cX12_placeOfValue 23 = .ok (.iconst (-1), 1) := by decide +kernel
theorem dX12_placeOfValue_24 : decode cX12_placeOfValue 24 = .ok (.ireturn, 1) := by decide +kernel
theorem dX12_placeOfValue_25 : decode cX12_placeOfValue 25 = .ok (.aload_n 0, 1) := by decide +kernel
theorem dX12_placeOfValue_26 : decode cX12_placeOfValue 26 = .ok (.getfield 256, 3) := by decide +kernel
theorem dX12_placeOfValue_29 : decode cX12_placeOfValue 29 = .ok (.iconst 1, 1) := by decide +kernel
theorem dX12_placeOfValue_30 : decode cX12_placeOfValue 30 = .ok (.isub, 1) := by decide +kernel
theorem dX12_placeOfValue_31 : decode cX12_placeOfValue 31 = .ok (.iload_n 1, 1) := by decide +kernel
theorem dX12_placeOfValue_32 : decode cX12_placeOfValue 32 = .ok (.isub, 1) := by decide +kernel
theorem dX12_placeOfValue_33 : decode cX12_placeOfValue 33 = .ok (.istore_n 3, 1) := by decide +kernel
theorem dX12_placeOfValue_34 : decode cX12_placeOfValue 34 = .ok (.iload_n 2, 1) := by decide +kernel
theorem dX12_placeOfValue_35 : decode cX12_placeOfValue 35 = .ok (.aload_n 0, 1) := by decide +kernel
theorem dX12_placeOfValue_36 : decode cX12_placeOfValue 36 = .ok (.getfield 10, 3) := by decide +kernel
theorem dX12_placeOfValue_39 : decode cX12_placeOfValue 39 = .ok (.getfield 27, 3) := by decide +kernel
theorem dX12_placeOfValue_42 : decode cX12_placeOfValue 42 = .ok (.aload_n 0, 1) := by decide +kernel
theorem dX12_placeOfValue_43 : decode cX12_placeOfValue 43 = .ok (.getfield 205, 3) := by decide +kernel
theorem dX12_placeOfValue_46 : decode cX12_placeOfValue 46 = .ok (.iload_n 3, 1) := by decide +kernel
theorem dX12_placeOfValue_47 : decode cX12_placeOfValue 47 = .ok (.iaload, 1) := by decide +kernel
theorem dX12_placeOfValue_48 : decode cX12_placeOfValue 48 = .ok (.iaload, 1) := by decide +kernel
theorem dX12_placeOfValue_49 : decode cX12_placeOfValue 49 = .ok (.aload_n 0, 1) := by decide +kernel
theorem dX12_placeOfValue_50 : decode cX12_placeOfValue 50 = .ok (.getfield 211, 3) := by decide +kernel
theorem dX12_placeOfValue_53 : decode cX12_placeOfValue 53 = .ok (.iload_n 3, 1) := by decide +kernel
theorem dX12_placeOfValue_54 : decode cX12_placeOfValue 54 = .ok (.iaload, 1) := by decide +kernel
theorem dX12_placeOfValue_55 : decode cX12_placeOfValue 55 = .ok (.iadd, 1) := by decide +kernel
theorem dX12_placeOfValue_56 : decode cX12_placeOfValue 56 = .ok (.if_icmp .ge 12, 3) := by decide +kernel
theorem dX12_placeOfValue_59 : decode cX12_placeOfValue 59 = .ok (.bipush 12, 2) := by decide +kernel
theorem dX12_placeOfValue_61 : decode cX12_placeOfValue 61 = .ok (.iload_n 3, 1) := by decide +kernel
theorem dX12_placeOfValue_62 : decode cX12_placeOfValue 62 = .ok (.imul, 1) := by decide +kernel
theorem dX12_placeOfValue_63 : decode cX12_placeOfValue 63 = .ok (.iload_n 2, 1) := by decide +kernel
theorem dX12_placeOfValue_64 : decode cX12_placeOfValue 64 = .ok (.iadd, 1) := by decide +kernel
theorem dX12_placeOfValue_65 : decode cX12_placeOfValue 65 = .ok (.goto 4, 3) := by decide +kernel
theorem dX12_placeOfValue_68 : decode cX12_placeOfValue 68 = .ok (.iconst (-1), 1) := by decide +kernel
theorem dX12_placeOfValue_69 : decode cX12_placeOfValue 69 = .ok (.ireturn, 1) := by decide +kernel
def mp_X12_placeOfValue_69 (K : Int32 → sm_S → Prop) (σ : sm_S) (y0 : Int32) : Prop := K y0 σ
def mp_X12_placeOfValue_23 (K : Int32 → sm_S → Prop) (σ : sm_S)  : Prop := K (-1) σ
/-- SteadyMachineModel.placeOfValue(II)I -/
def mp_X12_placeOfValue (σ : sm_S) (p1 : Int32) (p2 : Int32) (K : Int32 → sm_S → Prop) : Prop := (((σ.1 17) = 0 → (mp_X12_placeOfValue_23 K σ)) ∧ (¬ (σ.1 17) = 0 → ((p1 < 0 → (mp_X12_placeOfValue_23 K σ)) ∧ (¬ p1 < 0 → (((σ.1 14) ≤ p1 → (mp_X12_placeOfValue_23 K σ)) ∧ (¬ (σ.1 14) ≤ p1 → (((0 : Int32) ≤ p2 → (∀ v5 : Int32, v5 = (((σ.1 14) - 1) - p1) → vp_in v5 (σ.2.2.1 33) ∧ vp_in ((σ.2.2.2.1 33) v5.toNatClampNeg) (σ.2.2.1 15) ∧ vp_in v5 (σ.2.2.1 35) ∧ (((((σ.2.2.2.1 15) ((σ.2.2.2.1 33) v5.toNatClampNeg).toNatClampNeg) + ((σ.2.2.2.1 35) v5.toNatClampNeg)) ≤ p2 → (mp_X12_placeOfValue_69 K σ (-1))) ∧ (¬ (((σ.2.2.2.1 15) ((σ.2.2.2.1 33) v5.toNatClampNeg).toNatClampNeg) + ((σ.2.2.2.1 35) v5.toNatClampNeg)) ≤ p2 → (mp_X12_placeOfValue_69 K σ ((12 * v5) + p2)))))) ∧ (¬ (0 : Int32) ≤ p2 → (mp_X12_placeOfValue_23 K σ)))))))))
def wp_X12_placeOfValue : List Cond := .code yX12_placeOfValue cX12_placeOfValue 4 (some .int) :: (([.fieldLink RX12 152 "SteadyMachineModel" "state" "I", .fieldLink RX12 256 "SteadyMachineModel" "frames" "I", .fieldLink RX12 10 "SteadyMachineModel" "image" "LSteadyMachineModel$Image;", .fieldLink RX12 205 "SteadyMachineModel" "methodOf" "[I", .fieldLink RX12 211 "SteadyMachineModel" "highOf" "[I"] ++ wsX110) ++ wsX120)
theorem wi_X12_placeOfValue_X11 : ∀ w ∈ wsX110, w ∈ wp_X12_placeOfValue := fun w h => List.mem_cons_of_mem _ (List.mem_append_left _ (List.mem_append_right _ h))
theorem wi_X12_placeOfValue_X12 : ∀ w ∈ wsX120, w ∈ wp_X12_placeOfValue := fun w h => List.mem_cons_of_mem _ (List.mem_append_right _ h)
set_option maxHeartbeats 4000000 in
set_option maxRecDepth 100000 in
theorem c_X12_placeOfValue (l : Launch) (D : va_G) (sz t0 : Nat) (σ : sm_S) (α : sm_A) (p1 : Int32) (p2 : Int32) (K : Int32 → sm_S → Prop) (hF : mp_X12_placeOfValue σ p1 p2 K) : Met l yX12_placeOfValue wp_X12_placeOfValue { frames := 0, cells := 0, slots := 0, locals := 0 } (sm_P sm_wM sm_tM 40 D sz t0 σ α [.ref (α.1 1), .int p1, .int p2]) (va_Qi K (sm_B sm_wM D α) (sm_a α 40 sz)) 0 0 (sm_a α 40 sz) := by
  refine Met.ofW (cc := cX12_placeOfValue) (maxL := 4) (ret := (some .int)) (by decide) rfl ?_
  intro p e s m args below meth c s₁ B hml hv
  obtain ⟨rfl, hsz, hP, hK, hD0, hE⟩ := hv
  have hx := B.exec
  have hb := B.bytes
  have hr := B.returns
  have hts := atoms_spec (ws := wp_X12_placeOfValue) B.pre
  have hown : s.vm.findClass RX12 = some m.cls := findClass_of_methodNamed B.named
  have hlocks := B.notSynchronized
  subst hsz
  have hD : sm_D (sm_a α 40 s.heap.size) α 40 := hD0.own
  have hA : ∀ q : Nat, s.heap.size ≤ q → sm_a α 40 s.heap.size q := fun q h => Or.inr h
  generalize hAe : sm_a α 40 s.heap.size = A at hD hA hE ⊢
  have hS : va_S A s.heap s.heap [] := va_S.rf
  have in_X11 : ∀ w ∈ wsX110, w ∈ wp_X12_placeOfValue := wi_X12_placeOfValue_X11
  have in_X12 : ∀ w ∈ wsX120, w ∈ wp_X12_placeOfValue := wi_X12_placeOfValue_X12
  have k_0 := hts (.fieldLink RX12 152 "SteadyMachineModel" "state" "I") (by decide +kernel)
  have k_1 := hts (.fieldLink RX12 256 "SteadyMachineModel" "frames" "I") (by decide +kernel)
  have k_2 := hts (.fieldLink RX12 10 "SteadyMachineModel" "image" "LSteadyMachineModel$Image;") (by decide +kernel)
  have k_3 := hts (.fieldLink RX12 205 "SteadyMachineModel" "methodOf" "[I") (by decide +kernel)
  have k_4 := hts (.fieldLink RX12 211 "SteadyMachineModel" "highOf" "[I") (by decide +kernel)
  have hl := lv_entry ([.ref (α.1 1), .int p1, .int p2]) (n := 4) (Nat.le_of_ble_eq_true rfl)
  rw [lg_entry_eq]
  generalize (lg_sl ([.ref (α.1 1), .int p1, .int p2]) ++ List.replicate (4 - (lg_sl ([.ref (α.1 1), .int p1, .int p2])).length) Slot.unset).toArray = ls at hl ⊢
  have hl : lv_has ls 4 [(0, .ref (α.1 1)), (1, .int p1), (2, .int p2)] := hl
  have B69 : ∀ (σ : sm_S) (y0 : Int32), mp_X12_placeOfValue_69 K σ y0 → sm_J p l e (headSpec wp_X12_placeOfValue { frames := 0, cells := 0, slots := 0, locals := 0 }).room s m ([.ref (α.1 1), .int p1, .int p2] : List Value).toArray below meth c (MQ below (va_Qi K (sm_B sm_wM D α) A) ([.ref (α.1 1), .int p1, .int p2] : List Value).toArray s 0 0 A) D A 4 (sm_wM σ α) 69 [] [.int y0] := by
    intro σ y0 hF H locs ls hP hS hl
    unfold mp_X12_placeOfValue_69 at hF
    exact W.iret (v := y0) hx hb hr (fun t ht hW => ⟨⟨y0, σ, rfl, hF, (by unfold sm_B; rw [ht]; exact hP)⟩, hS.F ht⟩) hS.2.2 dX12_placeOfValue_69
  have B23 : ∀ (σ : sm_S), mp_X12_placeOfValue_23 K σ → sm_J p l e (headSpec wp_X12_placeOfValue { frames := 0, cells := 0, slots := 0, locals := 0 }).room s m ([.ref (α.1 1), .int p1, .int p2] : List Value).toArray below meth c (MQ below (va_Qi K (sm_B sm_wM D α) A) ([.ref (α.1 1), .int p1, .int p2] : List Value).toArray s 0 0 A) D A 4 (sm_wM σ α) 23 [] [] := by
    intro σ hF H locs ls hP hS hl
    unfold mp_X12_placeOfValue_23 at hF
    refine lv_iconst (v := -1) hx hb dX12_placeOfValue_23 (by decide) ?_
    exact W.iret (v := (-1)) hx hb hr (fun t ht hW => ⟨⟨(-1), σ, rfl, hF, (by unfold sm_B; rw [ht]; exact hP)⟩, hS.F ht⟩) hS.2.2 dX12_placeOfValue_24
  unfold mp_X12_placeOfValue at hF
  revert hP hS
  generalize hLo : ([] : List Loc) = locs
  suffices h9 : ∀ (H : Heap) (locs : List Loc), va_P D vwCl (sm_wM σ α) H → va_S A s.heap H locs → W p l e (headSpec wp_X12_placeOfValue { frames := 0, cells := 0, slots := 0, locals := 0 }).room s m ([.ref (α.1 1), .int p1, .int p2] : List Value).toArray below meth c H locs 0 0 (MQ below (va_Qi K (sm_B sm_wM D α) A) ([.ref (α.1 1), .int p1, .int p2] : List Value).toArray s 0 0 A) (F0 m 0 ls []) from fun hP hS => h9 s.heap locs hP hS
  intro H locs hP hS
  refine lv_aload_n hx hb dX12_placeOfValue_0 rfl (lv_at hl 0 rfl) ?_
  refine va_get (D := D) (ci := 12) (v := .int (σ.1 17)) (C := RX12) (T := TX12) (N := 42) hx hb hts in_X12 hown hK hP 1 (sm_gX12 σ α) rfl 26 (by decide) k_0 (fun _ h9 => h9) rfl dX12_placeOfValue_1 ?_
  refine lv_if_eq (tgt := 23) hx hb dX12_placeOfValue_4 (by decide) (fun h1 => ?_) (fun h1 => ?_)
  · replace hF := hF.1 h1
    exact B23 σ hF H locs ls hP hS (lv_sub hl [] rfl)
  · replace hF := hF.2 h1
    refine lv_iload_n hx hb dX12_placeOfValue_7 rfl (lv_at hl 1 rfl) ?_
    refine lv_if_lt (tgt := 23) hx hb dX12_placeOfValue_8 (by decide) (fun h2 => ?_) (fun h2 => ?_)
    · replace hF := hF.1 h2
      exact B23 σ hF H locs ls hP hS (lv_sub hl [] rfl)
    · replace hF := hF.2 h2
      refine lv_iload_n hx hb dX12_placeOfValue_11 rfl (lv_at hl 1 rfl) ?_
      refine lv_aload_n hx hb dX12_placeOfValue_12 rfl (lv_at hl 0 rfl) ?_
      refine va_get (D := D) (ci := 12) (v := .int (σ.1 14)) (C := RX12) (T := TX12) (N := 42) hx hb hts in_X12 hown hK hP 1 (sm_gX12 σ α) rfl 18 (by decide) k_1 (fun _ h9 => h9) rfl dX12_placeOfValue_13 ?_
      refine lv_icmp_ge (tgt := 23) hx hb dX12_placeOfValue_16 (by decide) (fun h3 => ?_) (fun h3 => ?_)
      · replace hF := hF.1 h3
        exact B23 σ hF H locs ls hP hS (lv_sub hl [] rfl)
      · replace hF := hF.2 h3
        refine lv_iload_n hx hb dX12_placeOfValue_19 rfl (lv_at hl 2 rfl) ?_
        refine lv_if_ge (tgt := 25) hx hb dX12_placeOfValue_20 (by decide) (fun h4 => ?_) (fun h4 => ?_)
        · replace hF := hF.1 h4
          refine lv_aload_n hx hb dX12_placeOfValue_25 rfl (lv_at hl 0 rfl) ?_
          refine va_get (D := D) (ci := 12) (v := .int (σ.1 14)) (C := RX12) (T := TX12) (N := 42) hx hb hts in_X12 hown hK hP 1 (sm_gX12 σ α) rfl 18 (by decide) k_1 (fun _ h9 => h9) rfl dX12_placeOfValue_26 ?_
          refine lv_iconst (v := 1) hx hb dX12_placeOfValue_29 (by decide) ?_
          refine lv_isub hx hb dX12_placeOfValue_30 ?_
          refine lv_iload_n hx hb dX12_placeOfValue_31 rfl (lv_at hl 1 rfl) ?_
          refine lv_isub hx hb dX12_placeOfValue_32 ?_
          refine lv_topi (fun v5 ev5 => ?_)
          replace hF := hF v5 ev5
          refine lv_istore_n (lv' := [(3, .int v5), (0, .ref (α.1 1)), (1, .int p1), (2, .int p2)]) hx hb dX12_placeOfValue_33 rfl hl (by decide) rfl (fun ls hl => ?_)
          refine lv_iload_n hx hb dX12_placeOfValue_34 rfl (lv_at hl 3 rfl) ?_
          refine lv_aload_n hx hb dX12_placeOfValue_35 rfl (lv_at hl 1 rfl) ?_
          refine va_get (D := D) (ci := 12) (v := .ref (α.1 0)) (C := RX12) (T := TX12) (N := 42) hx hb hts in_X12 hown hK hP 1 (sm_gX12 σ α) rfl 0 (by decide) k_2 (fun _ h9 => h9) rfl dX12_placeOfValue_36 ?_
          refine va_getN (D := D) (ci := 11) (v := .ref (α.1 15)) (C := RX11) (T := TX11) (N := 28) hx hb hts in_X11 hown hK hP 0 (sm_gX11 σ α) rfl 20 (by decide) (va_Nw.use rfl (hE.1 (.fieldLinkNest "SteadyMachineModel" 27 "SteadyMachineModel$Image" "locals" "[I" "SteadyMachineModel") (by decide +kernel))) (fun _ h9 => h9) rfl dX12_placeOfValue_39 ?_
          refine lv_aload_n hx hb dX12_placeOfValue_42 rfl (lv_at hl 1 rfl) ?_
          refine va_get (D := D) (ci := 12) (v := .ref (α.1 33)) (C := RX12) (T := TX12) (N := 42) hx hb hts in_X12 hown hK hP 1 (sm_gX12 σ α) rfl 19 (by decide) k_3 (fun _ h9 => h9) rfl dX12_placeOfValue_43 ?_
          refine lv_iload_n hx hb dX12_placeOfValue_46 rfl (lv_at hl 0 rfl) ?_
          obtain ⟨h6, hF⟩ := hF
          refine va_iald (n := (σ.2.2.1 33)) (f := (σ.2.2.2.1 33)) hx hb hK hP 33 31 (sm_aM33 σ α) (sm_yM33 α) h6 dX12_placeOfValue_47 ?_
          obtain ⟨h7, hF⟩ := hF
          refine va_iald (n := (σ.2.2.1 15)) (f := (σ.2.2.2.1 15)) hx hb hK hP 15 13 (sm_aM15 σ α) (sm_yM15 α) h7 dX12_placeOfValue_48 ?_
          refine lv_aload_n hx hb dX12_placeOfValue_49 rfl (lv_at hl 1 rfl) ?_
          refine va_get (D := D) (ci := 12) (v := .ref (α.1 35)) (C := RX12) (T := TX12) (N := 42) hx hb hts in_X12 hown hK hP 1 (sm_gX12 σ α) rfl 21 (by decide) k_4 (fun _ h9 => h9) rfl dX12_placeOfValue_50 ?_
          refine lv_iload_n hx hb dX12_placeOfValue_53 rfl (lv_at hl 0 rfl) ?_
          obtain ⟨h8, hF⟩ := hF
          refine va_iald (n := (σ.2.2.1 35)) (f := (σ.2.2.2.1 35)) hx hb hK hP 35 33 (sm_aM35 σ α) (sm_yM35 α) h8 dX12_placeOfValue_54 ?_
          refine lv_iadd hx hb dX12_placeOfValue_55 ?_
          refine lv_icmp_ge (tgt := 68) hx hb dX12_placeOfValue_56 (by decide) (fun h9 => ?_) (fun h9 => ?_)
          · replace hF := hF.1 h9
            refine lv_iconst (v := -1) hx hb dX12_placeOfValue_68 (by decide) ?_
            exact B69 σ (-1) hF H locs ls hP hS (lv_sub hl [] rfl)
          · replace hF := hF.2 h9
            refine lv_bipush (v := 12) hx hb dX12_placeOfValue_59 (by decide) ?_
            refine lv_iload_n hx hb dX12_placeOfValue_61 rfl (lv_at hl 0 rfl) ?_
            refine lv_imul hx hb dX12_placeOfValue_62 ?_
            refine lv_iload_n hx hb dX12_placeOfValue_63 rfl (lv_at hl 3 rfl) ?_
            refine lv_iadd hx hb dX12_placeOfValue_64 ?_
            refine lv_goto (tgt := 69) hx hb dX12_placeOfValue_65 (by decide) ?_
            exact B69 σ ((12 * v5) + p2) hF H locs ls hP hS (lv_sub hl [] rfl)
        · replace hF := hF.2 h4
          exact B23 σ hF H locs ls hP hS (lv_sub hl [] rfl)
theorem dX12_value__0 : decode cX12_value_ 0 = .ok (.iload_n 1, 1) := by decide +kernel
theorem dX12_value__1 : decode cX12_value_ 1 = .ok (.iconst (-1), 1) := by decide +kernel
theorem dX12_value__2 : decode cX12_value_ 2 = .ok (.if_icmp .ne 25, 3) := by decide +kernel
theorem dX12_value__5 : decode cX12_value_ 5 = .ok (.iload_n 2, 1) := by decide +kernel
theorem dX12_value__6 : decode cX12_value_ 6 = .ok (.ifCond .ne 21, 3) := by decide +kernel
theorem dX12_value__9 : decode cX12_value_ 9 = .ok (.aload_n 0, 1) := by decide +kernel
theorem dX12_value__10 : decode cX12_value_ 10 = .ok (.getfield 152, 3) := by decide +kernel
theorem dX12_value__13 : decode cX12_value_ 13 = .ok (.ifCond .le 14, 3) := by decide +kernel
theorem dX12_value__16 : decode cX12_value_ 16 = .ok (.aload_n 0, 1) := by decide +kernel
theorem dX12_value__17 : decode cX12_value_ 17 = .ok (.getfield 259, 3) := by decide +kernel
theorem dX12_value__20 : decode cX12_value_ 20 = .ok (.ifCond .eq 7, 3) := by decide +kernel
theorem dX12_value__23 : decode cX12_value_ 23 = .ok (.iconst 1, 1) := by decide +kernel
theorem dX12_value__24 : decode cX12_value_ 24 = .ok (.goto 4, 3) := by decide +kernel
theorem dX12_value__27 : decode cX12_value_ 27 = .ok (.iconst 0, 1) := by decide +kernel
theorem dX12_value__28 : decode cX12_value_ 28 = .ok (.istore 6, 2) := by decide +kernel
theorem dX12_value__30 : decode cX12_value_ 30 = .ok (.iload 6, 2) := by decide +kernel
theorem dX12_value__32 : decode cX12_value_ 32 = .ok (.ifCond .eq 7, 3) := by decide +kernel
theorem dX12_value__35 : decode cX12_value_ 35 = .ok (.iconst (-1), 1) := by decide +kernel
theorem dX12_value__36 : decode cX12_value_ 36 = .ok (.goto 9, 3) := by decide +kernel
theorem dX12_value__39 : decode cX12_value_ 39 = .ok (.aload_n 0, 1) := by decide +kernel
theorem dX12_value__40 : decode cX12_value_ 40 = .ok (.iload_n 1, 1) := by decide +kernel
theorem dX12_value__41 : decode cX12_value_ 41 = .ok (.iload_n 2, 1) := by decide +kernel
theorem dX12_value__42 : decode cX12_value_ 42 = .ok (.invokevirtual 414, 3) := by decide +kernel
theorem dX12_value__45 : decode cX12_value_ 45 = .ok (.istore 7, 2) := by decide +kernel
theorem dX12_value__47 : decode cX12_value_ 47 = .ok (.iload 6, 2) := by decide +kernel
theorem dX12_value__49 : decode cX12_value_ 49 = .ok (.ifCond .ne 9, 3) := by decide +kernel
theorem dX12_value__52 : decode cX12_value_ 52 = .ok (.iload 7, 2) := by decide +kernel
theorem dX12_value__54 : decode cX12_value_ 54 = .ok (.iconst (-1), 1) := by decide +kernel
theorem dX12_value__55 : decode cX12_value_ 55 = .ok (.if_icmp .eq 14, 3) := by decide +kernel
theorem dX12_value__58 : decode cX12_value_ 58 = .ok (.iload 5, 2) := by decide +kernel
theorem dX12_value__60 : decode cX12_value_ 60 = .ok (.ifCond .lt 9, 3) := by decide +kernel
theorem dX12_value__63 : decode cX12_value_ 63 = .ok (.iload 5, 2) := by decide +kernel
theorem dX12_value__65 : decode cX12_value_ 65 = .ok (.iconst 2, 1) := by decide +kernel
theorem dX12_value__66 : decode cX12_value_ 66 = .ok (.if_icmp .le 7, 3) := by decide +kernel
theorem dX12_value__69 : decode cX12_value_ 69 = .ok (.ldc2_w 412, 3) := by decide +kernel
theorem dX12_value__72 : decode cX12_value_ 72 = .ok (.lreturn, 1) := by decide +kernel
theorem dX12_value__73 : decode cX12_value_ 73 = .ok (.iload 6, 2) := by decide +kernel
theorem dX12_value__75 : decode cX12_value_ 75 = .ok (.ifCond .eq 10, 3) := by decide +kernel
theorem dX12_value__78 : decode cX12_value_ 78 = .ok (.aload_n 0, 1) := by decide +kernel
theorem dX12_value__79 : decode cX12_value_ 79 = .ok (.getfield 301, 3) := by decide +kernel
theorem dX12_value__82 : decode cX12_value_ 82 = .ok (.goto 10, 3) := by decide +kernel
theorem dX12_value__85 : decode cX12_value_ 85 = .ok (.aload_n 0, 1) := by decide +kernel
theorem dX12_value__86 : decode cX12_value_ 86 = .ok (.getfield 215, 3) := by decide +kernel
theorem dX12_value__89 : decode cX12_value_ 89 = .ok (.iload 7, 2) := by decide +kernel
theorem dX12_value__91 : decode cX12_value_ 91 = .ok (.iaload, 1) := by decide +kernel
theorem dX12_value__92 : decode cX12_value_ 92 = .ok (.istore 8, 2) := by decide +kernel
theorem dX12_value__94 : decode cX12_value_ 94 = .ok (.iload 6, 2) := by decide +kernel
theorem dX12_value__96 : decode cX12_value_ 96 = .ok (.ifCond .ne 13, 3) := by decide +kernel
theorem dX12_value__99 : decode cX12_value_ 99 = .ok (.aload_n 0, 1) := by decide +kernel
theorem dX12_value__100 : decode cX12_value_ 100 = .ok (.getfield 218, 3) := by decide +kernel
theorem dX12_value__103 : decode cX12_value_ 103 = .ok (.iload 7, 2) := by decide +kernel
theorem dX12_value__105 : decode cX12_value_ 105 = .ok (.baload, 1) := by decide +kernel
theorem dX12_value__106 : decode cX12_value_ 106 = .ok (.ifCond .eq 7, 3) := by decide +kernel
theorem dX12_value__109 : decode cX12_value_ 109 = .ok (.iconst 1, 1) := by decide +kernel
theorem dX12_value__110 : decode cX12_value_ 110 = .ok (.goto 4, 3) := by decide +kernel
theorem dX12_value__113 : decode cX12_value_ 113 = .ok (.iconst 0, 1) := by decide +kernel
theorem dX12_value__114 : decode cX12_value_ 114 = .ok (.istore 9, 2) := by decide +kernel
theorem dX12_value__116 : decode cX12_value_ 116 = .ok (.lload_n 3, 1) := by decide +kernel
theorem dX12_value__117 : decode cX12_value_ 117 = .ok (.lstore 10, 2) := by decide +kernel
theorem dX12_value__119 : decode cX12_value_ 119 = .ok (.lload 10, 2) := by decide +kernel
theorem dX12_value__121 : decode cX12_value_ 121 = .ok (.ldc2_w 417, 3) := by decide +kernel
theorem dX12_value__124 : decode cX12_value_ 124 = .ok (.land, 1) := by decide +kernel
theorem dX12_value__125 : decode cX12_value_ 125 = .ok (.lconst 0, 1) := by decide +kernel
theorem dX12_value__126 : decode cX12_value_ 126 = .ok (.lcmp, 1) := by decide +kernel
theorem dX12_value__127 : decode cX12_value_ 127 = .ok (.ifCond .eq 195, 3) := by decide +kernel
theorem dX12_value__130 : decode cX12_value_ 130 = .ok (.lload 10, 2) := by decide +kernel
theorem dX12_value__132 : decode cX12_value_ 132 = .ok (.ldc2_w 417, 3) := by decide +kernel
theorem dX12_value__135 : decode cX12_value_ 135 = .ok (.land, 1) := by decide +kernel
theorem dX12_value__136 : decode cX12_value_ 136 = .ok (.l2i, 1) := by decide +kernel
theorem dX12_value__137 : decode cX12_value_ 137 = .ok (.iconst 1, 1) := by decide +kernel
theorem dX12_value__138 : decode cX12_value_ 138 = .ok (.isub, 1) := by decide +kernel
theorem dX12_value__139 : decode cX12_value_ 139 = .ok (.istore 12, 2) := by decide +kernel
theorem dX12_value__141 : decode cX12_value_ 141 = .ok (.iload 9, 2) := by decide +kernel
theorem dX12_value__143 : decode cX12_value_ 143 = .ok (.ifCond .eq 9, 3) := by decide +kernel
theorem dX12_value__146 : decode cX12_value_ 146 = .ok (.iload 8, 2) := by decide +kernel
theorem dX12_value__148 : decode cX12_value_ 148 = .ok (.iconst (-1), 1) := by decide +kernel
theorem dX12_value__149 : decode cX12_value_ 149 = .ok (.if_icmp .ne 7, 3) := by decide +kernel
theorem dX12_value__152 : decode cX12_value_ 152 = .ok (.ldc2_w 412, 3) := by decide +kernel
theorem dX12_value__155 : decode cX12_value_ 155 = .ok (.lreturn, 1) := by decide +kernel
theorem dX12_value__156 : decode cX12_value_ 156 = .ok (.aload_n 0, 1) := by decide +kernel
theorem dX12_value__157 : decode cX12_value_ 157 = .ok (.getfield 180, 3) := by decide +kernel
theorem dX12_value__160 : decode cX12_value_ 160 = .ok (.iload 8, 2) := by decide +kernel
theorem dX12_value__162 : decode cX12_value_ 162 = .ok (.baload, 1) := by decide +kernel
theorem dX12_value__163 : decode cX12_value_ 163 = .ok (.ifCond .ne 78, 3) := by decide +kernel
theorem dX12_value__166 : decode cX12_value_ 166 = .ok (.iload 12, 2) := by decide +kernel
theorem dX12_value__168 : decode cX12_value_ 168 = .ok (.aload_n 0, 1) := by decide +kernel
theorem dX12_value__169 : decode cX12_value_ 169 = .ok (.getfield 10, 3) := by decide +kernel
theorem dX12_value__172 : decode cX12_value_ 172 = .ok (.getfield 292, 3) := by decide +kernel
theorem dX12_value__175 : decode cX12_value_ 175 = .ok (.aload_n 0, 1) := by decide +kernel
theorem dX12_value__176 : decode cX12_value_ 176 = .ok (.getfield 183, 3) := by decide +kernel
theorem dX12_value__179 : decode cX12_value_ 179 = .ok (.iload 8, 2) := by decide +kernel
theorem dX12_value__181 : decode cX12_value_ 181 = .ok (.iaload, 1) := by decide +kernel
theorem dX12_value__182 : decode cX12_value_ 182 = .ok (.iaload, 1) := by decide +kernel
theorem dX12_value__183 : decode cX12_value_ 183 = .ok (.if_icmp .lt 7, 3) := by decide +kernel
theorem dX12_value__186 : decode cX12_value_ 186 = .ok (.ldc2_w 412, 3) := by decide +kernel
theorem dX12_value__189 : decode cX12_value_ 189 = .ok (.lreturn, 1) := by decide +kernel
theorem dX12_value__190 : decode cX12_value_ 190 = .ok (.aload_n 0, 1) := by decide +kernel
theorem dX12_value__191 : decode cX12_value_ 191 = .ok (.getfield 10, 3) := by decide +kernel
theorem dX12_value__194 : decode cX12_value_ 194 = .ok (.getfield 99, 3) := by decide +kernel
theorem dX12_value__197 : decode cX12_value_ 197 = .ok (.bipush 15, 2) := by decide +kernel
theorem dX12_value__199 : decode cX12_value_ 199 = .ok (.aload_n 0, 1) := by decide +kernel
theorem dX12_value__200 : decode cX12_value_ 200 = .ok (.getfield 183, 3) := by decide +kernel
theorem dX12_value__203 : decode cX12_value_ 203 = .ok (.iload 8, 2) := by decide +kernel
theorem dX12_value__205 : decode cX12_value_ 205 = .ok (.iaload, 1) := by decide +kernel
theorem dX12_value__206 : decode cX12_value_ 206 = .ok (.imul, 1) := by decide +kernel
theorem dX12_value__207 : decode cX12_value_ 207 = .ok (.iload 12, 2) := by decide +kernel
theorem dX12_value__209 : decode cX12_value_ 209 = .ok (.iadd, 1) := by decide +kernel
theorem dX12_value__210 : decode cX12_value_ 210 = .ok (.iaload, 1) := by decide +kernel
theorem dX12_value__211 : decode cX12_value_ 211 = .ok (.ifCond .le 7, 3) := by decide +kernel
theorem dX12_value__214 : decode cX12_value_ 214 = .ok (.iconst 1, 1) := by decide +kernel
theorem dX12_value__215 : decode cX12_value_ 215 = .ok (.goto 4, 3) := by decide +kernel
theorem dX12_value__218 : decode cX12_value_ 218 = .ok (.iconst 0, 1) := by decide +kernel
theorem dX12_value__219 : decode cX12_value_ 219 = .ok (.istore 9, 2) := by decide +kernel
theorem dX12_value__221 : decode cX12_value_ 221 = .ok (.aload_n 0, 1) := by decide +kernel
theorem dX12_value__222 : decode cX12_value_ 222 = .ok (.getfield 199, 3) := by decide +kernel
theorem dX12_value__225 : decode cX12_value_ 225 = .ok (.aload_n 0, 1) := by decide +kernel
theorem dX12_value__226 : decode cX12_value_ 226 = .ok (.getfield 192, 3) := by decide +kernel
theorem dX12_value__229 : decode cX12_value_ 229 = .ok (.iload 8, 2) := by decide +kernel
theorem dX12_value__231 : decode cX12_value_ 231 = .ok (.iaload, 1) := by decide +kernel
theorem dX12_value__232 : decode cX12_value_ 232 = .ok (.iload 12, 2) := by decide +kernel
theorem dX12_value__234 : decode cX12_value_ 234 = .ok (.iadd, 1) := by decide +kernel
theorem dX12_value__235 : decode cX12_value_ 235 = .ok (.iaload, 1) := by decide +kernel
theorem dX12_value__236 : decode cX12_value_ 236 = .ok (.istore 8, 2) := by decide +kernel
theorem dX12_value__238 : decode cX12_value_ 238 = .ok (.goto 74, 3) := by decide +kernel
theorem dX12_value__241 : decode cX12_value_ 241 = .ok (.iload 12, 2) := by decide +kernel
theorem dX12_value__243 : decode cX12_value_ 243 = .ok (.aload_n 0, 1) := by decide +kernel
theorem dX12_value__244 : decode cX12_value_ 244 = .ok (.getfield 183, 3) := by decide +kernel
theorem dX12_value__247 : decode cX12_value_ 247 = .ok (.iload 8, 2) := by decide +kernel
theorem dX12_value__249 : decode cX12_value_ 249 = .ok (.iaload, 1) := by decide +kernel
theorem dX12_value__250 : decode cX12_value_ 250 = .ok (.if_icmp .lt 7, 3) := by decide +kernel
theorem dX12_value__253 : decode cX12_value_ 253 = .ok (.ldc2_w 412, 3) := by decide +kernel
theorem dX12_value__256 : decode cX12_value_ 256 = .ok (.lreturn, 1) := by decide +kernel
theorem dX12_value__257 : decode cX12_value_ 257 = .ok (.aload_n 0, 1) := by decide +kernel
theorem dX12_value__258 : decode cX12_value_ 258 = .ok (.getfield 189, 3) := by decide +kernel
theorem dX12_value__261 : decode cX12_value_ 261 = .ok (.iload 8, 2) := by decide +kernel
theorem dX12_value__263 : decode cX12_value_ 263 = .ok (.baload, 1) := by decide +kernel
theorem dX12_value__264 : decode cX12_value_ 264 = .ok (.ifCond .le 7, 3) := by decide +kernel
theorem dX12_value__267 : decode cX12_value_ 267 = .ok (.iconst 1, 1) := by decide +kernel
theorem dX12_value__268 : decode cX12_value_ 268 = .ok (.goto 4, 3) := by decide +kernel
theorem dX12_value__271 : decode cX12_value_ 271 = .ok (.iconst 0, 1) := by decide +kernel
theorem dX12_value__272 : decode cX12_value_ 272 = .ok (.istore 9, 2) := by decide +kernel
theorem dX12_value__274 : decode cX12_value_ 274 = .ok (.aload_n 0, 1) := by decide +kernel
theorem dX12_value__275 : decode cX12_value_ 275 = .ok (.iload 8, 2) := by decide +kernel
theorem dX12_value__277 : decode cX12_value_ 277 = .ok (.iload 12, 2) := by decide +kernel
theorem dX12_value__279 : decode cX12_value_ 279 = .ok (.invokevirtual 403, 3) := by decide +kernel
theorem dX12_value__282 : decode cX12_value_ 282 = .ok (.istore 13, 2) := by decide +kernel
theorem dX12_value__284 : decode cX12_value_ 284 = .ok (.iload 13, 2) := by decide +kernel
theorem dX12_value__286 : decode cX12_value_ 286 = .ok (.iconst (-1), 1) := by decide +kernel
theorem dX12_value__287 : decode cX12_value_ 287 = .ok (.if_icmp .ne 16, 3) := by decide +kernel
theorem dX12_value__290 : decode cX12_value_ 290 = .ok (.iload 9, 2) := by decide +kernel
theorem dX12_value__292 : decode cX12_value_ 292 = .ok (.ifCond .eq 7, 3) := by decide +kernel
theorem dX12_value__295 : decode cX12_value_ 295 = .ok (.iconst (-1), 1) := by decide +kernel
theorem dX12_value__296 : decode cX12_value_ 296 = .ok (.goto 14, 3) := by decide +kernel
theorem dX12_value__299 : decode cX12_value_ 299 = .ok (.iconst 0, 1) := by decide +kernel
theorem dX12_value__300 : decode cX12_value_ 300 = .ok (.goto 10, 3) := by decide +kernel
theorem dX12_value__303 : decode cX12_value_ 303 = .ok (.aload_n 0, 1) := by decide +kernel
theorem dX12_value__304 : decode cX12_value_ 304 = .ok (.getfield 199, 3) := by decide +kernel
theorem dX12_value__307 : decode cX12_value_ 307 = .ok (.iload 13, 2) := by decide +kernel
theorem dX12_value__309 : decode cX12_value_ 309 = .ok (.iaload, 1) := by decide +kernel
theorem dX12_value__310 : decode cX12_value_ 310 = .ok (.istore 8, 2) := by decide +kernel
theorem dX12_value__312 : decode cX12_value_ 312 = .ok (.lload 10, 2) := by decide +kernel
theorem dX12_value__314 : decode cX12_value_ 314 = .ok (.bipush 12, 2) := by decide +kernel
theorem dX12_value__316 : decode cX12_value_ 316 = .ok (.lushr, 1) := by decide +kernel
theorem dX12_value__317 : decode cX12_value_ 317 = .ok (.lstore 10, 2) := by decide +kernel
theorem dX12_value__319 : decode cX12_value_ 319 = .ok (.goto (-200), 3) := by decide +kernel
theorem dX12_value__322 : decode cX12_value_ 322 = .ok (.iload 9, 2) := by decide +kernel
theorem dX12_value__324 : decode cX12_value_ 324 = .ok (.ifCond .ne 17, 3) := by decide +kernel
theorem dX12_value__327 : decode cX12_value_ 327 = .ok (.iload 5, 2) := by decide +kernel
theorem dX12_value__329 : decode cX12_value_ 329 = .ok (.iconst 1, 1) := by decide +kernel
theorem dX12_value__330 : decode cX12_value_ 330 = .ok (.if_icmp .ne 9, 3) := by decide +kernel
theorem dX12_value__333 : decode cX12_value_ 333 = .ok (.iload 8, 2) := by decide +kernel
theorem dX12_value__335 : decode cX12_value_ 335 = .ok (.i2l, 1) := by decide +kernel
theorem dX12_value__336 : decode cX12_value_ 336 = .ok (.goto 4, 3) := by decide +kernel
theorem dX12_value__339 : decode cX12_value_ 339 = .ok (.lconst 0, 1) := by decide +kernel
theorem dX12_value__340 : decode cX12_value_ 340 = .ok (.lreturn, 1) := by decide +kernel
theorem dX12_value__341 : decode cX12_value_ 341 = .ok (.iload 8, 2) := by decide +kernel
theorem dX12_value__343 : decode cX12_value_ 343 = .ok (.iconst (-1), 1) := by decide +kernel
theorem dX12_value__344 : decode cX12_value_ 344 = .ok (.if_icmp .ne 14, 3) := by decide +kernel
theorem dX12_value__347 : decode cX12_value_ 347 = .ok (.iload 5, 2) := by decide +kernel
theorem dX12_value__349 : decode cX12_value_ 349 = .ok (.ifCond .ne 7, 3) := by decide +kernel
theorem dX12_value__352 : decode cX12_value_ 352 = .ok (.lconst 1, 1) := by decide +kernel
theorem dX12_value__353 : decode cX12_value_ 353 = .ok (.goto 4, 3) := by decide +kernel
theorem dX12_value__356 : decode cX12_value_ 356 = .ok (.lconst 0, 1) := by decide +kernel
theorem dX12_value__357 : decode cX12_value_ 357 = .ok (.lreturn, 1) := by decide +kernel
theorem dX12_value__358 : decode cX12_value_ 358 = .ok (.aload_n 0, 1) := by decide +kernel
theorem dX12_value__359 : decode cX12_value_ 359 = .ok (.getfield 180, 3) := by decide +kernel
theorem dX12_value__362 : decode cX12_value_ 362 = .ok (.iload 8, 2) := by decide +kernel
theorem dX12_value__364 : decode cX12_value_ 364 = .ok (.baload, 1) := by decide +kernel
theorem dX12_value__365 : decode cX12_value_ 365 = .ok (.ifCond .ne 7, 3) := by decide +kernel
theorem dX12_value__368 : decode cX12_value_ 368 = .ok (.iconst 1, 1) := by decide +kernel
theorem dX12_value__369 : decode cX12_value_ 369 = .ok (.goto 4, 3) := by decide +kernel
theorem dX12_value__372 : decode cX12_value_ 372 = .ok (.iconst 0, 1) := by decide +kernel
theorem dX12_value__373 : decode cX12_value_ 373 = .ok (.istore 10, 2) := by decide +kernel
theorem dX12_value__375 : decode cX12_value_ 375 = .ok (.iload 5, 2) := by decide +kernel
theorem dX12_value__377 : decode cX12_value_ 377 = .ok (.ifCond .ne 36, 3) := by decide +kernel
theorem dX12_value__380 : decode cX12_value_ 380 = .ok (.iload 10, 2) := by decide +kernel
theorem dX12_value__382 : decode cX12_value_ 382 = .ok (.ifCond .eq 9, 3) := by decide +kernel
theorem dX12_value__385 : decode cX12_value_ 385 = .ok (.ldc2_w 419, 3) := by decide +kernel
theorem dX12_value__388 : decode cX12_value_ 388 = .ok (.goto 67, 3) := by decide +kernel
theorem dX12_value__391 : decode cX12_value_ 391 = .ok (.aload_n 0, 1) := by decide +kernel
theorem dX12_value__392 : decode cX12_value_ 392 = .ok (.getfield 189, 3) := by decide +kernel
theorem dX12_value__395 : decode cX12_value_ 395 = .ok (.iload 8, 2) := by decide +kernel
theorem dX12_value__397 : decode cX12_value_ 397 = .ok (.baload, 1) := by decide +kernel
theorem dX12_value__398 : decode cX12_value_ 398 = .ok (.ifCond .ne 9, 3) := by decide +kernel
theorem dX12_value__401 : decode cX12_value_ 401 = .ok (.ldc2_w 421, 3) := by decide +kernel
theorem dX12_value__404 : decode cX12_value_ 404 = .ok (.goto 51, 3) := by decide +kernel
theorem dX12_value__407 : decode cX12_value_ 407 = .ok (.ldc2_w 423, 3) := by decide +kernel
theorem dX12_value__410 : decode cX12_value_ 410 = .ok (.goto 45, 3) := by decide +kernel
theorem dX12_value__413 : decode cX12_value_ 413 = .ok (.iload 5, 2) := by decide +kernel
theorem dX12_value__415 : decode cX12_value_ 415 = .ok (.iconst 1, 1) := by decide +kernel
theorem dX12_value__416 : decode cX12_value_ 416 = .ok (.if_icmp .ne 14, 3) := by decide +kernel
theorem dX12_value__419 : decode cX12_value_ 419 = .ok (.aload_n 0, 1) := by decide +kernel
theorem dX12_value__420 : decode cX12_value_ 420 = .ok (.getfield 183, 3) := by decide +kernel
theorem dX12_value__423 : decode cX12_value_ 423 = .ok (.iload 8, 2) := by decide +kernel
theorem dX12_value__425 : decode cX12_value_ 425 = .ok (.iaload, 1) := by decide +kernel
theorem dX12_value__426 : decode cX12_value_ 426 = .ok (.i2l, 1) := by decide +kernel
theorem dX12_value__427 : decode cX12_value_ 427 = .ok (.goto 28, 3) := by decide +kernel
theorem dX12_value__430 : decode cX12_value_ 430 = .ok (.iload 10, 2) := by decide +kernel
theorem dX12_value__432 : decode cX12_value_ 432 = .ok (.ifCond .eq 22, 3) := by decide +kernel
theorem dX12_value__435 : decode cX12_value_ 435 = .ok (.aload_n 0, 1) := by decide +kernel
theorem dX12_value__436 : decode cX12_value_ 436 = .ok (.getfield 10, 3) := by decide +kernel
theorem dX12_value__439 : decode cX12_value_ 439 = .ok (.getfield 292, 3) := by decide +kernel
theorem dX12_value__442 : decode cX12_value_ 442 = .ok (.aload_n 0, 1) := by decide +kernel
theorem dX12_value__443 : decode cX12_value_ 443 = .ok (.getfield 183, 3) := by decide +kernel
theorem dX12_value__446 : decode cX12_value_ 446 = .ok (.iload 8, 2) := by decide +kernel
theorem dX12_value__448 : decode cX12_value_ 448 = .ok (.iaload, 1) := by decide +kernel
theorem dX12_value__449 : decode cX12_value_ 449 = .ok (.iaload, 1) := by decide +kernel
theorem dX12_value__450 : decode cX12_value_ 450 = .ok (.i2l, 1) := by decide +kernel
theorem dX12_value__451 : decode cX12_value_ 451 = .ok (.goto 4, 3) := by decide +kernel
theorem dX12_value__454 : decode cX12_value_ 454 = .ok (.lconst 0, 1) := by decide +kernel
theorem dX12_value__455 : decode cX12_value_ 455 = .ok (.lreturn, 1) := by decide +kernel
def mp_X12_value__455 (K : Int64 → sm_S → Prop) (σ : sm_S) (y0 : Int64) : Prop := K y0 σ
def mp_X12_value__373 (K : Int64 → sm_S → Prop) (σ : sm_S) (x5 : Int32) (x8 : Int32) (y0 : Int32) : Prop := ((¬ x5 = 0 → ((¬ x5 = 1 → ((y0 = 0 → (mp_X12_value__455 K σ 0)) ∧ (¬ y0 = 0 → (vp_in x8 (σ.2.2.1 26) ∧ vp_in ((σ.2.2.2.1 26) x8.toNatClampNeg) (σ.2.2.1 6) ∧ mp_X12_value__455 K σ (((σ.2.2.2.1 6) ((σ.2.2.2.1 26) x8.toNatClampNeg).toNatClampNeg).toInt64))))) ∧ (x5 = 1 → (vp_in x8 (σ.2.2.1 26) ∧ mp_X12_value__455 K σ (((σ.2.2.2.1 26) x8.toNatClampNeg).toInt64))))) ∧ (x5 = 0 → ((y0 = 0 → (vp_in x8 (σ.2.2.1 28) ∧ ((¬ ((σ.2.2.2.1 28) x8.toNatClampNeg) = 0 → (mp_X12_value__455 K σ 4)) ∧ (((σ.2.2.2.1 28) x8.toNatClampNeg) = 0 → (mp_X12_value__455 K σ 3))))) ∧ (¬ y0 = 0 → (mp_X12_value__455 K σ 2)))))
def mp_X12_value__357 (K : Int64 → sm_S → Prop) (σ : sm_S) (y0 : Int64) : Prop := K y0 σ
def mp_X12_value__340 (K : Int64 → sm_S → Prop) (σ : sm_S) (y0 : Int64) : Prop := K y0 σ
def mp_X12_value__312 (L119 : sm_S → Int32 → Int32 → Int32 → Int64 → Prop) (K : Int64 → sm_S → Prop) (σ : sm_S) (x5 : Int32) (x8 : Int32) (x9 : Int32) (x10 : Int64) : Prop := ∀ v10 : Int64, v10 = (x10.toUInt64 >>> ((12 : Int32).toInt64.toUInt64 &&& Int64.toUInt64 63)).toInt64 → L119 σ x5 x8 x9 v10
def mp_X12_value__310 (L119 : sm_S → Int32 → Int32 → Int32 → Int64 → Prop) (K : Int64 → sm_S → Prop) (σ : sm_S) (x5 : Int32) (x9 : Int32) (x10 : Int64) (y0 : Int32) : Prop := mp_X12_value__312 L119 K σ x5 y0 x9 x10
def mp_X12_value__272 (L119 : sm_S → Int32 → Int32 → Int32 → Int64 → Prop) (K : Int64 → sm_S → Prop) (σ : sm_S) (x5 : Int32) (x8 : Int32) (x10 : Int64) (x12 : Int32) (y0 : Int32) : Prop := False
def mp_X12_value__219 (L119 : sm_S → Int32 → Int32 → Int32 → Int64 → Prop) (K : Int64 → sm_S → Prop) (σ : sm_S) (x5 : Int32) (x8 : Int32) (x10 : Int64) (x12 : Int32) (y0 : Int32) : Prop := vp_in x8 (σ.2.2.1 29) ∧ vp_in (((σ.2.2.2.1 29) x8.toNatClampNeg) + x12) (σ.2.2.1 31) ∧ ∀ v13 : Int32, v13 = ((σ.2.2.2.1 31) (((σ.2.2.2.1 29) x8.toNatClampNeg) + x12).toNatClampNeg) → mp_X12_value__312 L119 K σ x5 v13 y0 x10
def mp_X12_value__152 (L119 : sm_S → Int32 → Int32 → Int32 → Int64 → Prop) (K : Int64 → sm_S → Prop) (σ : sm_S)  : Prop := K (-1) σ
def mp_X12_value__119 (K : Int64 → sm_S → Prop) : Nat → sm_S → Int32 → Int32 → Int32 → Int64 → Prop
  | 0, _, _, _, _, _ => False
  | n119 + 1, σ, x5, x8, x9, x10 => (((lg_cmp (x10 &&& 4095) 0) = 0 → ((¬ x9 = 0 → ((¬ x8 = (-1) → (vp_in x8 (σ.2.2.1 25) ∧ ((¬ ((σ.2.2.2.1 25) x8.toNatClampNeg) = 0 → (mp_X12_value__373 K σ x5 x8 0)) ∧ (((σ.2.2.2.1 25) x8.toNatClampNeg) = 0 → (mp_X12_value__373 K σ x5 x8 1))))) ∧ (x8 = (-1) → ((¬ x5 = 0 → (mp_X12_value__357 K σ 0)) ∧ (x5 = 0 → (mp_X12_value__357 K σ 1)))))) ∧ (x9 = 0 → ((¬ x5 = 1 → (mp_X12_value__340 K σ 0)) ∧ (x5 = 1 → (mp_X12_value__340 K σ x8.toInt64)))))) ∧ (¬ (lg_cmp (x10 &&& 4095) 0) = 0 → (∀ v21 : Int32, v21 = (((x10 &&& 4095).toInt32) - 1) → ((x9 = 0 → (mp_X12_value__152 (mp_X12_value__119 K n119) K σ)) ∧ (¬ x9 = 0 → ((¬ x8 = (-1) → (vp_in x8 (σ.2.2.1 25) ∧ ((¬ ((σ.2.2.2.1 25) x8.toNatClampNeg) = 0 → (vp_in x8 (σ.2.2.1 26) ∧ ((v21 < ((σ.2.2.2.1 26) x8.toNatClampNeg) → (vp_in x8 (σ.2.2.1 28) ∧ ((((σ.2.2.2.1 28) x8.toNatClampNeg) ≤ 0 → (mp_X12_value__272 (mp_X12_value__119 K n119) K σ x5 x8 x10 v21 0)) ∧ (¬ ((σ.2.2.2.1 28) x8.toNatClampNeg) ≤ 0 → (mp_X12_value__272 (mp_X12_value__119 K n119) K σ x5 x8 x10 v21 1))))) ∧ (¬ v21 < ((σ.2.2.2.1 26) x8.toNatClampNeg) → (K (-1) σ))))) ∧ (((σ.2.2.2.1 25) x8.toNatClampNeg) = 0 → (vp_in x8 (σ.2.2.1 26) ∧ vp_in ((σ.2.2.2.1 26) x8.toNatClampNeg) (σ.2.2.1 6) ∧ ((v21 < ((σ.2.2.2.1 6) ((σ.2.2.2.1 26) x8.toNatClampNeg).toNatClampNeg) → (vp_in x8 (σ.2.2.1 26) ∧ vp_in ((15 * ((σ.2.2.2.1 26) x8.toNatClampNeg)) + v21) (σ.2.2.1 7) ∧ ((((σ.2.2.2.1 7) ((15 * ((σ.2.2.2.1 26) x8.toNatClampNeg)) + v21).toNatClampNeg) ≤ 0 → (mp_X12_value__219 (mp_X12_value__119 K n119) K σ x5 x8 x10 v21 0)) ∧ (¬ ((σ.2.2.2.1 7) ((15 * ((σ.2.2.2.1 26) x8.toNatClampNeg)) + v21).toNatClampNeg) ≤ 0 → (mp_X12_value__219 (mp_X12_value__119 K n119) K σ x5 x8 x10 v21 1))))) ∧ (¬ v21 < ((σ.2.2.2.1 6) ((σ.2.2.2.1 26) x8.toNatClampNeg).toNatClampNeg) → (K (-1) σ)))))))) ∧ (x8 = (-1) → (mp_X12_value__152 (mp_X12_value__119 K n119) K σ))))))))
def mp_X12_value__114 (K : Int64 → sm_S → Prop) (σ : sm_S) (x3 : Int64) (x5 : Int32) (x8 : Int32) (y0 : Int32) : Prop := ∃ n119 : Nat, mp_X12_value__119 K n119 σ x5 x8 y0 x3
def mp_X12_value__109 (K : Int64 → sm_S → Prop) (σ : sm_S) (x3 : Int64) (x5 : Int32) (x8 : Int32) : Prop := mp_X12_value__114 K σ x3 x5 x8 1
def mp_X12_value__92 (K : Int64 → sm_S → Prop) (σ : sm_S) (x3 : Int64) (x5 : Int32) (x6 : Int32) (x7 : Int32) (y0 : Int32) : Prop := ((¬ x6 = 0 → (mp_X12_value__109 K σ x3 x5 y0)) ∧ (x6 = 0 → (vp_in x7 (σ.2.2.1 37) ∧ ((((σ.2.2.2.1 37) x7.toNatClampNeg) = 0 → (mp_X12_value__114 K σ x3 x5 y0 0)) ∧ (¬ ((σ.2.2.2.1 37) x7.toNatClampNeg) = 0 → (mp_X12_value__109 K σ x3 x5 y0))))))
def mp_X12_value__69 (K : Int64 → sm_S → Prop) (σ : sm_S)  : Prop := K (-1) σ
def mp_X12_value__58 (K : Int64 → sm_S → Prop) (σ : sm_S) (x3 : Int64) (x5 : Int32) (x6 : Int32) (x7 : Int32) : Prop := ((x5 < 0 → (mp_X12_value__69 K σ)) ∧ (¬ x5 < 0 → ((x5 ≤ 2 → ((x6 = 0 → (vp_in x7 (σ.2.2.1 36) ∧ mp_X12_value__92 K σ x3 x5 x6 x7 ((σ.2.2.2.1 36) x7.toNatClampNeg))) ∧ (¬ x6 = 0 → (mp_X12_value__92 K σ x3 x5 x6 x7 (σ.1 16))))) ∧ (¬ x5 ≤ 2 → (mp_X12_value__69 K σ)))))
def mp_X12_value__45 (K : Int64 → sm_S → Prop) (σ : sm_S) (x3 : Int64) (x5 : Int32) (x6 : Int32) (y0 : Int32) : Prop := ((¬ x6 = 0 → (mp_X12_value__58 K σ x3 x5 x6 y0)) ∧ (x6 = 0 → ((y0 = (-1) → (mp_X12_value__69 K σ)) ∧ (¬ y0 = (-1) → (mp_X12_value__58 K σ x3 x5 x6 y0)))))
def mp_X12_value__28 (K : Int64 → sm_S → Prop) (σ : sm_S) (x1 : Int32) (x2 : Int32) (x3 : Int64) (x5 : Int32) (y0 : Int32) : Prop := ((y0 = 0 → (mp_X12_placeOfValue σ x1 x2 (fun r47 σ46 => mp_X12_value__45 K σ46 x3 x5 y0 r47))) ∧ (¬ y0 = 0 → (mp_X12_value__45 K σ x3 x5 y0 (-1))))
def mp_X12_value__27 (K : Int64 → sm_S → Prop) (σ : sm_S) (x1 : Int32) (x2 : Int32) (x3 : Int64) (x5 : Int32) : Prop := mp_X12_value__28 K σ x1 x2 x3 x5 0
/-- SteadyMachineModel.value(IIJI)J -/
def mp_X12_value_ (σ : sm_S) (p1 : Int32) (p2 : Int32) (p3 : Int64) (p4 : Int32) (K : Int64 → sm_S → Prop) : Prop := ((¬ p1 = (-1) → (mp_X12_value__27 K σ p1 p2 p3 p4)) ∧ (p1 = (-1) → ((¬ p2 = 0 → (mp_X12_value__27 K σ p1 p2 p3 p4)) ∧ (p2 = 0 → (((σ.1 17) ≤ 0 → (mp_X12_value__27 K σ p1 p2 p3 p4)) ∧ (¬ (σ.1 17) ≤ 0 → (((σ.1 15) = 0 → (mp_X12_value__27 K σ p1 p2 p3 p4)) ∧ (¬ (σ.1 15) = 0 → (mp_X12_value__28 K σ p1 p2 p3 p4 1)))))))))
def wp_X12_value_ : List Cond := .code yX12_value_ cX12_value_ 14 (some .long) :: ((([.fieldLink RX12 10 "SteadyMachineModel" "image" "LSteadyMachineModel$Image;", .fieldLink RX12 183 "SteadyMachineModel" "infos" "[I", .fieldLink RX12 189 "SteadyMachineModel" "itemTypes" "[B", .constantLong RX12 423 (4), .constantLong RX12 421 (3), .constantLong RX12 419 (2), .fieldLink RX12 199 "SteadyMachineModel" "cells" "[I", .fieldLink RX12 192 "SteadyMachineModel" "begins" "[I", .constantLong RX12 412 (-1), .constantLong RX12 417 (4095), .fieldLink RX12 180 "SteadyMachineModel" "sorts" "[B", .fieldLink RX12 218 "SteadyMachineModel" "isThing" "[Z", .fieldLink RX12 215 "SteadyMachineModel" "valueAt" "[I", .fieldLink RX12 301 "SteadyMachineModel" "flying" "I", .fieldLink RX12 152 "SteadyMachineModel" "state" "I", .fieldLink RX12 259 "SteadyMachineModel" "flies" "Z"] ++ (wsV RX12 414 RX12 yX12_placeOfValue wp_X12_placeOfValue)) ++ wsX110) ++ wsX120)
theorem wg_X12_value__X12_placeOfValue_414 : GoodIn wp_X12_value_ (wsV RX12 414 RX12 yX12_placeOfValue wp_X12_placeOfValue) := goodIn_sub (fun w h => List.mem_cons_of_mem _ (List.mem_append_left _ (List.mem_append_left _ (List.mem_append_right _ h)))) (by decide +kernel)
theorem wi_X12_value__X11 : ∀ w ∈ wsX110, w ∈ wp_X12_value_ := fun w h => List.mem_cons_of_mem _ (List.mem_append_left _ (List.mem_append_right _ h))
theorem wi_X12_value__X12 : ∀ w ∈ wsX120, w ∈ wp_X12_value_ := fun w h => List.mem_cons_of_mem _ (List.mem_append_right _ h)
set_option maxHeartbeats 4000000 in
set_option maxRecDepth 100000 in
theorem c_X12_value_ (l : Launch) (D : va_G) (sz t0 : Nat) (σ : sm_S) (α : sm_A) (p1 : Int32) (p2 : Int32) (p3 : Int64) (p4 : Int32) (K : Int64 → sm_S → Prop) (hF : mp_X12_value_ σ p1 p2 p3 p4 K) : Met l yX12_value_ wp_X12_value_ { frames := 1, cells := 0, slots := 0, locals := 23 } (sm_P sm_wM sm_tM 40 D sz t0 σ α [.ref (α.1 1), .int p1, .int p2, .long p3, .int p4]) (va_Ql K (sm_B sm_wM D α) (sm_a α 40 sz)) 0 0 (sm_a α 40 sz) := by
  refine Met.ofW (cc := cX12_value_) (maxL := 14) (ret := (some .long)) (by decide) rfl ?_
  intro p e s m args below meth c s₁ B hml hv
  obtain ⟨rfl, hsz, hP, hK, hD0, hE⟩ := hv
  have hx := B.exec
  have hb := B.bytes
  have hr := B.returns
  have hts := atoms_spec (ws := wp_X12_value_) B.pre
  have hown : s.vm.findClass RX12 = some m.cls := findClass_of_methodNamed B.named
  have hlocks := B.notSynchronized
  subst hsz
  have hD : sm_D (sm_a α 40 s.heap.size) α 40 := hD0.own
  have hA : ∀ q : Nat, s.heap.size ≤ q → sm_a α 40 s.heap.size q := fun q h => Or.inr h
  generalize hAe : sm_a α 40 s.heap.size = A at hD hA hE ⊢
  have hS : va_S A s.heap s.heap [] := va_S.rf
  have in_X11 : ∀ w ∈ wsX110, w ∈ wp_X12_value_ := wi_X12_value__X11
  have in_X12 : ∀ w ∈ wsX120, w ∈ wp_X12_value_ := wi_X12_value__X12
  have k_0 := hts (.fieldLink RX12 10 "SteadyMachineModel" "image" "LSteadyMachineModel$Image;") (by decide +kernel)
  have k_1 := hts (.fieldLink RX12 183 "SteadyMachineModel" "infos" "[I") (by decide +kernel)
  have k_2 := hts (.fieldLink RX12 189 "SteadyMachineModel" "itemTypes" "[B") (by decide +kernel)
  have k_3 := hts (.constantLong RX12 423 (4)) (by decide +kernel)
  have k_4 := hts (.constantLong RX12 421 (3)) (by decide +kernel)
  have k_5 := hts (.constantLong RX12 419 (2)) (by decide +kernel)
  have k_6 := hts (.fieldLink RX12 199 "SteadyMachineModel" "cells" "[I") (by decide +kernel)
  have k_7 := hts (.fieldLink RX12 192 "SteadyMachineModel" "begins" "[I") (by decide +kernel)
  have k_8 := hts (.constantLong RX12 412 (-1)) (by decide +kernel)
  have k_9 := hts (.constantLong RX12 417 (4095)) (by decide +kernel)
  have k_10 := hts (.fieldLink RX12 180 "SteadyMachineModel" "sorts" "[B") (by decide +kernel)
  have k_11 := hts (.fieldLink RX12 218 "SteadyMachineModel" "isThing" "[Z") (by decide +kernel)
  have k_12 := hts (.fieldLink RX12 215 "SteadyMachineModel" "valueAt" "[I") (by decide +kernel)
  have k_13 := hts (.fieldLink RX12 301 "SteadyMachineModel" "flying" "I") (by decide +kernel)
  have k_14 := hts (.fieldLink RX12 152 "SteadyMachineModel" "state" "I") (by decide +kernel)
  have k_15 := hts (.fieldLink RX12 259 "SteadyMachineModel" "flies" "Z") (by decide +kernel)
  have hl := lv_entry ([.ref (α.1 1), .int p1, .int p2, .long p3, .int p4]) (n := 14) (Nat.le_of_ble_eq_true rfl)
  rw [lg_entry_eq]
  generalize (lg_sl ([.ref (α.1 1), .int p1, .int p2, .long p3, .int p4]) ++ List.replicate (14 - (lg_sl ([.ref (α.1 1), .int p1, .int p2, .long p3, .int p4])).length) Slot.unset).toArray = ls at hl ⊢
  have hl : lv_has ls 14 [(0, .ref (α.1 1)), (1, .int p1), (2, .int p2), (3, .long p3), (5, .int p4)] := hl
  have B455 : ∀ (σ : sm_S) (y0 : Int64), mp_X12_value__455 K σ y0 → sm_J p l e (headSpec wp_X12_value_ { frames := 1, cells := 0, slots := 0, locals := 23 }).room s m ([.ref (α.1 1), .int p1, .int p2, .long p3, .int p4] : List Value).toArray below meth c (MQ below (va_Ql K (sm_B sm_wM D α) A) ([.ref (α.1 1), .int p1, .int p2, .long p3, .int p4] : List Value).toArray s 0 0 A) D A 14 (sm_wM σ α) 455 [] [.long y0] := by
    intro σ y0 hF H locs ls hP hS hl
    unfold mp_X12_value__455 at hF
    exact W.lret (v := y0) hx hb hr (fun t ht hW => ⟨⟨y0, σ, rfl, hF, (by unfold sm_B; rw [ht]; exact hP)⟩, hS.F ht⟩) hS.2.2 dX12_value__455
  have B373 : ∀ (σ : sm_S) (x5 : Int32) (x8 : Int32) (y0 : Int32), mp_X12_value__373 K σ x5 x8 y0 → sm_J p l e (headSpec wp_X12_value_ { frames := 1, cells := 0, slots := 0, locals := 23 }).room s m ([.ref (α.1 1), .int p1, .int p2, .long p3, .int p4] : List Value).toArray below meth c (MQ below (va_Ql K (sm_B sm_wM D α) A) ([.ref (α.1 1), .int p1, .int p2, .long p3, .int p4] : List Value).toArray s 0 0 A) D A 14 (sm_wM σ α) 373 [(0, .ref (α.1 1)), (5, .int x5), (8, .int x8)] [.int y0] := by
    intro σ x5 x8 y0 hF H locs ls hP hS hl
    unfold mp_X12_value__373 at hF
    refine lv_istore (lv' := [(10, .int y0), (0, .ref (α.1 1)), (5, .int x5), (8, .int x8)]) hx hb dX12_value__373 hl (by decide) rfl (fun ls hl => ?_)
    refine lv_iload hx hb dX12_value__375 (lv_at hl 2 rfl) ?_
    refine lv_if_ne (tgt := 413) hx hb dX12_value__377 (by decide) (fun h1 => ?_) (fun h1 => ?_)
    · replace hF := hF.1 h1
      refine lv_iload hx hb dX12_value__413 (lv_at hl 2 rfl) ?_
      refine lv_iconst (v := 1) hx hb dX12_value__415 (by decide) ?_
      refine lv_icmp_ne (tgt := 430) hx hb dX12_value__416 (by decide) (fun h2 => ?_) (fun h2 => ?_)
      · replace hF := hF.1 h2
        refine lv_iload hx hb dX12_value__430 (lv_at hl 0 rfl) ?_
        refine lv_if_eq (tgt := 454) hx hb dX12_value__432 (by decide) (fun h3 => ?_) (fun h3 => ?_)
        · replace hF := hF.1 h3
          refine lv_lconst (v := 0) hx hb dX12_value__454 (by decide) ?_
          exact B455 σ 0 hF H locs ls hP hS (lv_sub hl [] rfl)
        · replace hF := hF.2 h3
          refine lv_aload_n hx hb dX12_value__435 rfl (lv_at hl 1 rfl) ?_
          refine va_get (D := D) (ci := 12) (v := .ref (α.1 0)) (C := RX12) (T := TX12) (N := 42) hx hb hts in_X12 hown hK hP 1 (sm_gX12 σ α) rfl 0 (by decide) k_0 (fun _ h9 => h9) rfl dX12_value__436 ?_
          refine va_getN (D := D) (ci := 11) (v := .ref (α.1 6)) (C := RX11) (T := TX11) (N := 28) hx hb hts in_X11 hown hK hP 0 (sm_gX11 σ α) rfl 10 (by decide) (va_Nw.use rfl (hE.1 (.fieldLinkNest "SteadyMachineModel" 292 "SteadyMachineModel$Image" "fieldCounts" "[I" "SteadyMachineModel") (by decide +kernel))) (fun _ h9 => h9) rfl dX12_value__439 ?_
          refine lv_aload_n hx hb dX12_value__442 rfl (lv_at hl 1 rfl) ?_
          refine va_get (D := D) (ci := 12) (v := .ref (α.1 26)) (C := RX12) (T := TX12) (N := 42) hx hb hts in_X12 hown hK hP 1 (sm_gX12 σ α) rfl 9 (by decide) k_1 (fun _ h9 => h9) rfl dX12_value__443 ?_
          refine lv_iload hx hb dX12_value__446 (lv_at hl 3 rfl) ?_
          obtain ⟨h4, hF⟩ := hF
          refine va_iald (n := (σ.2.2.1 26)) (f := (σ.2.2.2.1 26)) hx hb hK hP 26 24 (sm_aM26 σ α) (sm_yM26 α) h4 dX12_value__448 ?_
          obtain ⟨h5, hF⟩ := hF
          refine va_iald (n := (σ.2.2.1 6)) (f := (σ.2.2.2.1 6)) hx hb hK hP 6 4 (sm_aM6 σ α) (sm_yM6 α) h5 dX12_value__449 ?_
          refine lv_i2l hx hb dX12_value__450 rfl ?_
          refine lv_goto (tgt := 455) hx hb dX12_value__451 (by decide) ?_
          exact B455 σ (((σ.2.2.2.1 6) ((σ.2.2.2.1 26) x8.toNatClampNeg).toNatClampNeg).toInt64) hF H locs ls hP hS (lv_sub hl [] rfl)
      · replace hF := hF.2 h2
        refine lv_aload_n hx hb dX12_value__419 rfl (lv_at hl 1 rfl) ?_
        refine va_get (D := D) (ci := 12) (v := .ref (α.1 26)) (C := RX12) (T := TX12) (N := 42) hx hb hts in_X12 hown hK hP 1 (sm_gX12 σ α) rfl 9 (by decide) k_1 (fun _ h9 => h9) rfl dX12_value__420 ?_
        refine lv_iload hx hb dX12_value__423 (lv_at hl 3 rfl) ?_
        obtain ⟨h6, hF⟩ := hF
        refine va_iald (n := (σ.2.2.1 26)) (f := (σ.2.2.2.1 26)) hx hb hK hP 26 24 (sm_aM26 σ α) (sm_yM26 α) h6 dX12_value__425 ?_
        refine lv_i2l hx hb dX12_value__426 rfl ?_
        refine lv_goto (tgt := 455) hx hb dX12_value__427 (by decide) ?_
        exact B455 σ (((σ.2.2.2.1 26) x8.toNatClampNeg).toInt64) hF H locs ls hP hS (lv_sub hl [] rfl)
    · replace hF := hF.2 h1
      refine lv_iload hx hb dX12_value__380 (lv_at hl 0 rfl) ?_
      refine lv_if_eq (tgt := 391) hx hb dX12_value__382 (by decide) (fun h7 => ?_) (fun h7 => ?_)
      · replace hF := hF.1 h7
        refine lv_aload_n hx hb dX12_value__391 rfl (lv_at hl 1 rfl) ?_
        refine va_get (D := D) (ci := 12) (v := .ref (α.1 28)) (C := RX12) (T := TX12) (N := 42) hx hb hts in_X12 hown hK hP 1 (sm_gX12 σ α) rfl 11 (by decide) k_2 (fun _ h9 => h9) rfl dX12_value__392 ?_
        refine lv_iload hx hb dX12_value__395 (lv_at hl 3 rfl) ?_
        obtain ⟨h8, hF⟩ := hF
        refine va_bald (n := (σ.2.2.1 28)) (f := (σ.2.2.2.1 28)) hx hb hK hP 28 26 (sm_aM28 σ α) (sm_yM28 α) h8 dX12_value__397 ?_
        refine lv_if_ne (tgt := 407) hx hb dX12_value__398 (by decide) (fun h9 => ?_) (fun h9 => ?_)
        · replace hF := hF.1 h9
          refine lv_ldc2 (v := 4) hx hb hown k_3 dX12_value__407 ?_
          refine lv_goto (tgt := 455) hx hb dX12_value__410 (by decide) ?_
          exact B455 σ 4 hF H locs ls hP hS (lv_sub hl [] rfl)
        · replace hF := hF.2 h9
          refine lv_ldc2 (v := 3) hx hb hown k_4 dX12_value__401 ?_
          refine lv_goto (tgt := 455) hx hb dX12_value__404 (by decide) ?_
          exact B455 σ 3 hF H locs ls hP hS (lv_sub hl [] rfl)
      · replace hF := hF.2 h7
        refine lv_ldc2 (v := 2) hx hb hown k_5 dX12_value__385 ?_
        refine lv_goto (tgt := 455) hx hb dX12_value__388 (by decide) ?_
        exact B455 σ 2 hF H locs ls hP hS (lv_sub hl [] rfl)
  have B357 : ∀ (σ : sm_S) (y0 : Int64), mp_X12_value__357 K σ y0 → sm_J p l e (headSpec wp_X12_value_ { frames := 1, cells := 0, slots := 0, locals := 23 }).room s m ([.ref (α.1 1), .int p1, .int p2, .long p3, .int p4] : List Value).toArray below meth c (MQ below (va_Ql K (sm_B sm_wM D α) A) ([.ref (α.1 1), .int p1, .int p2, .long p3, .int p4] : List Value).toArray s 0 0 A) D A 14 (sm_wM σ α) 357 [] [.long y0] := by
    intro σ y0 hF H locs ls hP hS hl
    unfold mp_X12_value__357 at hF
    exact W.lret (v := y0) hx hb hr (fun t ht hW => ⟨⟨y0, σ, rfl, hF, (by unfold sm_B; rw [ht]; exact hP)⟩, hS.F ht⟩) hS.2.2 dX12_value__357
  have B340 : ∀ (σ : sm_S) (y0 : Int64), mp_X12_value__340 K σ y0 → sm_J p l e (headSpec wp_X12_value_ { frames := 1, cells := 0, slots := 0, locals := 23 }).room s m ([.ref (α.1 1), .int p1, .int p2, .long p3, .int p4] : List Value).toArray below meth c (MQ below (va_Ql K (sm_B sm_wM D α) A) ([.ref (α.1 1), .int p1, .int p2, .long p3, .int p4] : List Value).toArray s 0 0 A) D A 14 (sm_wM σ α) 340 [] [.long y0] := by
    intro σ y0 hF H locs ls hP hS hl
    unfold mp_X12_value__340 at hF
    exact W.lret (v := y0) hx hb hr (fun t ht hW => ⟨⟨y0, σ, rfl, hF, (by unfold sm_B; rw [ht]; exact hP)⟩, hS.F ht⟩) hS.2.2 dX12_value__340
  have B312 : ∀ (L119 : sm_S → Int32 → Int32 → Int32 → Int64 → Prop) (hL119 : ∀ (σ : sm_S) (x5 : Int32) (x8 : Int32) (x9 : Int32) (x10 : Int64), L119 σ x5 x8 x9 x10 → sm_J p l e (headSpec wp_X12_value_ { frames := 1, cells := 0, slots := 0, locals := 23 }).room s m ([.ref (α.1 1), .int p1, .int p2, .long p3, .int p4] : List Value).toArray below meth c (MQ below (va_Ql K (sm_B sm_wM D α) A) ([.ref (α.1 1), .int p1, .int p2, .long p3, .int p4] : List Value).toArray s 0 0 A) D A 14 (sm_wM σ α) 119 [(0, .ref (α.1 1)), (5, .int x5), (8, .int x8), (9, .int x9), (10, .long x10)] []) (σ : sm_S) (x5 : Int32) (x8 : Int32) (x9 : Int32) (x10 : Int64), mp_X12_value__312 L119 K σ x5 x8 x9 x10 → sm_J p l e (headSpec wp_X12_value_ { frames := 1, cells := 0, slots := 0, locals := 23 }).room s m ([.ref (α.1 1), .int p1, .int p2, .long p3, .int p4] : List Value).toArray below meth c (MQ below (va_Ql K (sm_B sm_wM D α) A) ([.ref (α.1 1), .int p1, .int p2, .long p3, .int p4] : List Value).toArray s 0 0 A) D A 14 (sm_wM σ α) 312 [(0, .ref (α.1 1)), (5, .int x5), (8, .int x8), (9, .int x9), (10, .long x10)] [] := by
    intro L119 hL119 σ x5 x8 x9 x10 hF H locs ls hP hS hl
    unfold mp_X12_value__312 at hF
    refine lv_lload hx hb dX12_value__312 (lv_at hl 4 rfl) ?_
    refine lv_bipush (v := 12) hx hb dX12_value__314 (by decide) ?_
    refine lv_lushr hx hb dX12_value__316 rfl ?_
    refine lv_topl (fun v10 ev10 => ?_)
    replace hF := hF v10 ev10
    refine lv_lstore (lv' := [(10, .long v10), (0, .ref (α.1 1)), (5, .int x5), (8, .int x8), (9, .int x9)]) hx hb dX12_value__317 hl (by decide) rfl (fun ls hl => ?_)
    refine lv_goto (tgt := 119) hx hb dX12_value__319 (by decide) ?_
    exact hL119 σ x5 x8 x9 v10 hF H locs ls hP hS (lv_sub hl [1, 2, 3, 4, 0] rfl)
  have B310 : ∀ (L119 : sm_S → Int32 → Int32 → Int32 → Int64 → Prop) (hL119 : ∀ (σ : sm_S) (x5 : Int32) (x8 : Int32) (x9 : Int32) (x10 : Int64), L119 σ x5 x8 x9 x10 → sm_J p l e (headSpec wp_X12_value_ { frames := 1, cells := 0, slots := 0, locals := 23 }).room s m ([.ref (α.1 1), .int p1, .int p2, .long p3, .int p4] : List Value).toArray below meth c (MQ below (va_Ql K (sm_B sm_wM D α) A) ([.ref (α.1 1), .int p1, .int p2, .long p3, .int p4] : List Value).toArray s 0 0 A) D A 14 (sm_wM σ α) 119 [(0, .ref (α.1 1)), (5, .int x5), (8, .int x8), (9, .int x9), (10, .long x10)] []) (σ : sm_S) (x5 : Int32) (x9 : Int32) (x10 : Int64) (y0 : Int32), mp_X12_value__310 L119 K σ x5 x9 x10 y0 → sm_J p l e (headSpec wp_X12_value_ { frames := 1, cells := 0, slots := 0, locals := 23 }).room s m ([.ref (α.1 1), .int p1, .int p2, .long p3, .int p4] : List Value).toArray below meth c (MQ below (va_Ql K (sm_B sm_wM D α) A) ([.ref (α.1 1), .int p1, .int p2, .long p3, .int p4] : List Value).toArray s 0 0 A) D A 14 (sm_wM σ α) 310 [(0, .ref (α.1 1)), (5, .int x5), (9, .int x9), (10, .long x10)] [.int y0] := by
    intro L119 hL119 σ x5 x9 x10 y0 hF H locs ls hP hS hl
    unfold mp_X12_value__310 at hF
    refine lv_istore (lv' := [(8, .int y0), (0, .ref (α.1 1)), (5, .int x5), (9, .int x9), (10, .long x10)]) hx hb dX12_value__310 hl (by decide) rfl (fun ls hl => ?_)
    exact B312 L119 hL119 σ x5 y0 x9 x10 hF H locs ls hP hS (lv_sub hl [1, 2, 0, 3, 4] rfl)
  have B272 : ∀ (L119 : sm_S → Int32 → Int32 → Int32 → Int64 → Prop) (hL119 : ∀ (σ : sm_S) (x5 : Int32) (x8 : Int32) (x9 : Int32) (x10 : Int64), L119 σ x5 x8 x9 x10 → sm_J p l e (headSpec wp_X12_value_ { frames := 1, cells := 0, slots := 0, locals := 23 }).room s m ([.ref (α.1 1), .int p1, .int p2, .long p3, .int p4] : List Value).toArray below meth c (MQ below (va_Ql K (sm_B sm_wM D α) A) ([.ref (α.1 1), .int p1, .int p2, .long p3, .int p4] : List Value).toArray s 0 0 A) D A 14 (sm_wM σ α) 119 [(0, .ref (α.1 1)), (5, .int x5), (8, .int x8), (9, .int x9), (10, .long x10)] []) (σ : sm_S) (x5 : Int32) (x8 : Int32) (x10 : Int64) (x12 : Int32) (y0 : Int32), mp_X12_value__272 L119 K σ x5 x8 x10 x12 y0 → sm_J p l e (headSpec wp_X12_value_ { frames := 1, cells := 0, slots := 0, locals := 23 }).room s m ([.ref (α.1 1), .int p1, .int p2, .long p3, .int p4] : List Value).toArray below meth c (MQ below (va_Ql K (sm_B sm_wM D α) A) ([.ref (α.1 1), .int p1, .int p2, .long p3, .int p4] : List Value).toArray s 0 0 A) D A 14 (sm_wM σ α) 272 [(0, .ref (α.1 1)), (5, .int x5), (8, .int x8), (10, .long x10), (12, .int x12)] [.int y0] := by
    intro L119 hL119 σ x5 x8 x10 x12 y0 hF H locs ls hP hS hl
    unfold mp_X12_value__272 at hF
    refine lv_istore (lv' := [(9, .int y0), (0, .ref (α.1 1)), (5, .int x5), (8, .int x8), (10, .long x10), (12, .int x12)]) hx hb dX12_value__272 hl (by decide) rfl (fun ls hl => ?_)
    refine lv_aload_n hx hb dX12_value__274 rfl (lv_at hl 1 rfl) ?_
    refine lv_iload hx hb dX12_value__275 (lv_at hl 3 rfl) ?_
    refine lv_iload hx hb dX12_value__277 (lv_at hl 5 rfl) ?_
    exact hF.elim
  have B219 : ∀ (L119 : sm_S → Int32 → Int32 → Int32 → Int64 → Prop) (hL119 : ∀ (σ : sm_S) (x5 : Int32) (x8 : Int32) (x9 : Int32) (x10 : Int64), L119 σ x5 x8 x9 x10 → sm_J p l e (headSpec wp_X12_value_ { frames := 1, cells := 0, slots := 0, locals := 23 }).room s m ([.ref (α.1 1), .int p1, .int p2, .long p3, .int p4] : List Value).toArray below meth c (MQ below (va_Ql K (sm_B sm_wM D α) A) ([.ref (α.1 1), .int p1, .int p2, .long p3, .int p4] : List Value).toArray s 0 0 A) D A 14 (sm_wM σ α) 119 [(0, .ref (α.1 1)), (5, .int x5), (8, .int x8), (9, .int x9), (10, .long x10)] []) (σ : sm_S) (x5 : Int32) (x8 : Int32) (x10 : Int64) (x12 : Int32) (y0 : Int32), mp_X12_value__219 L119 K σ x5 x8 x10 x12 y0 → sm_J p l e (headSpec wp_X12_value_ { frames := 1, cells := 0, slots := 0, locals := 23 }).room s m ([.ref (α.1 1), .int p1, .int p2, .long p3, .int p4] : List Value).toArray below meth c (MQ below (va_Ql K (sm_B sm_wM D α) A) ([.ref (α.1 1), .int p1, .int p2, .long p3, .int p4] : List Value).toArray s 0 0 A) D A 14 (sm_wM σ α) 219 [(0, .ref (α.1 1)), (5, .int x5), (8, .int x8), (10, .long x10), (12, .int x12)] [.int y0] := by
    intro L119 hL119 σ x5 x8 x10 x12 y0 hF H locs ls hP hS hl
    unfold mp_X12_value__219 at hF
    refine lv_istore (lv' := [(9, .int y0), (0, .ref (α.1 1)), (5, .int x5), (8, .int x8), (10, .long x10), (12, .int x12)]) hx hb dX12_value__219 hl (by decide) rfl (fun ls hl => ?_)
    refine lv_aload_n hx hb dX12_value__221 rfl (lv_at hl 1 rfl) ?_
    refine va_get (D := D) (ci := 12) (v := .ref (α.1 31)) (C := RX12) (T := TX12) (N := 42) hx hb hts in_X12 hown hK hP 1 (sm_gX12 σ α) rfl 16 (by decide) k_6 (fun _ h9 => h9) rfl dX12_value__222 ?_
    refine lv_aload_n hx hb dX12_value__225 rfl (lv_at hl 1 rfl) ?_
    refine va_get (D := D) (ci := 12) (v := .ref (α.1 29)) (C := RX12) (T := TX12) (N := 42) hx hb hts in_X12 hown hK hP 1 (sm_gX12 σ α) rfl 12 (by decide) k_7 (fun _ h9 => h9) rfl dX12_value__226 ?_
    refine lv_iload hx hb dX12_value__229 (lv_at hl 3 rfl) ?_
    obtain ⟨h11, hF⟩ := hF
    refine va_iald (n := (σ.2.2.1 29)) (f := (σ.2.2.2.1 29)) hx hb hK hP 29 27 (sm_aM29 σ α) (sm_yM29 α) h11 dX12_value__231 ?_
    refine lv_iload hx hb dX12_value__232 (lv_at hl 5 rfl) ?_
    refine lv_iadd hx hb dX12_value__234 ?_
    obtain ⟨h12, hF⟩ := hF
    refine va_iald (n := (σ.2.2.1 31)) (f := (σ.2.2.2.1 31)) hx hb hK hP 31 29 (sm_aM31 σ α) (sm_yM31 α) h12 dX12_value__235 ?_
    refine lv_topi (fun v13 ev13 => ?_)
    replace hF := hF v13 ev13
    refine lv_istore (lv' := [(8, .int v13), (9, .int y0), (0, .ref (α.1 1)), (5, .int x5), (10, .long x10), (12, .int x12)]) hx hb dX12_value__236 hl (by decide) rfl (fun ls hl => ?_)
    refine lv_goto (tgt := 312) hx hb dX12_value__238 (by decide) ?_
    exact B312 L119 hL119 σ x5 v13 y0 x10 hF H locs ls hP hS (lv_sub hl [2, 3, 0, 1, 4] rfl)
  have B152 : ∀ (L119 : sm_S → Int32 → Int32 → Int32 → Int64 → Prop) (hL119 : ∀ (σ : sm_S) (x5 : Int32) (x8 : Int32) (x9 : Int32) (x10 : Int64), L119 σ x5 x8 x9 x10 → sm_J p l e (headSpec wp_X12_value_ { frames := 1, cells := 0, slots := 0, locals := 23 }).room s m ([.ref (α.1 1), .int p1, .int p2, .long p3, .int p4] : List Value).toArray below meth c (MQ below (va_Ql K (sm_B sm_wM D α) A) ([.ref (α.1 1), .int p1, .int p2, .long p3, .int p4] : List Value).toArray s 0 0 A) D A 14 (sm_wM σ α) 119 [(0, .ref (α.1 1)), (5, .int x5), (8, .int x8), (9, .int x9), (10, .long x10)] []) (σ : sm_S), mp_X12_value__152 L119 K σ → sm_J p l e (headSpec wp_X12_value_ { frames := 1, cells := 0, slots := 0, locals := 23 }).room s m ([.ref (α.1 1), .int p1, .int p2, .long p3, .int p4] : List Value).toArray below meth c (MQ below (va_Ql K (sm_B sm_wM D α) A) ([.ref (α.1 1), .int p1, .int p2, .long p3, .int p4] : List Value).toArray s 0 0 A) D A 14 (sm_wM σ α) 152 [] [] := by
    intro L119 hL119 σ hF H locs ls hP hS hl
    unfold mp_X12_value__152 at hF
    refine lv_ldc2 (v := -1) hx hb hown k_8 dX12_value__152 ?_
    exact W.lret (v := (-1)) hx hb hr (fun t ht hW => ⟨⟨(-1), σ, rfl, hF, (by unfold sm_B; rw [ht]; exact hP)⟩, hS.F ht⟩) hS.2.2 dX12_value__155
  have B119 : ∀ (n : Nat) (σ : sm_S) (x5 : Int32) (x8 : Int32) (x9 : Int32) (x10 : Int64), mp_X12_value__119 K n σ x5 x8 x9 x10 → sm_J p l e (headSpec wp_X12_value_ { frames := 1, cells := 0, slots := 0, locals := 23 }).room s m ([.ref (α.1 1), .int p1, .int p2, .long p3, .int p4] : List Value).toArray below meth c (MQ below (va_Ql K (sm_B sm_wM D α) A) ([.ref (α.1 1), .int p1, .int p2, .long p3, .int p4] : List Value).toArray s 0 0 A) D A 14 (sm_wM σ α) 119 [(0, .ref (α.1 1)), (5, .int x5), (8, .int x8), (9, .int x9), (10, .long x10)] [] := by
    intro n119
    induction n119 with
    | zero =>
      intro σ x5 x8 x9 x10 hF
      exact hF.elim
    | succ n119 ih119 =>
      intro σ x5 x8 x9 x10 hF H locs ls hP hS hl
      unfold mp_X12_value__119 at hF
      refine lv_lload hx hb dX12_value__119 (lv_at hl 4 rfl) ?_
      refine lv_ldc2 (v := 4095) hx hb hown k_9 dX12_value__121 ?_
      refine lv_land hx hb dX12_value__124 ?_
      refine lv_lconst (v := 0) hx hb dX12_value__125 (by decide) ?_
      refine W.lcmp hx hb dX12_value__126 ?_
      refine lv_if_eq (tgt := 322) hx hb dX12_value__127 (by decide) (fun h14 => ?_) (fun h14 => ?_)
      · replace hF := hF.1 h14
        refine lv_iload hx hb dX12_value__322 (lv_at hl 3 rfl) ?_
        refine lv_if_ne (tgt := 341) hx hb dX12_value__324 (by decide) (fun h15 => ?_) (fun h15 => ?_)
        · replace hF := hF.1 h15
          refine lv_iload hx hb dX12_value__341 (lv_at hl 2 rfl) ?_
          refine lv_iconst (v := -1) hx hb dX12_value__343 (by decide) ?_
          refine lv_icmp_ne (tgt := 358) hx hb dX12_value__344 (by decide) (fun h16 => ?_) (fun h16 => ?_)
          · replace hF := hF.1 h16
            refine lv_aload_n hx hb dX12_value__358 rfl (lv_at hl 0 rfl) ?_
            refine va_get (D := D) (ci := 12) (v := .ref (α.1 25)) (C := RX12) (T := TX12) (N := 42) hx hb hts in_X12 hown hK hP 1 (sm_gX12 σ α) rfl 8 (by decide) k_10 (fun _ h9 => h9) rfl dX12_value__359 ?_
            refine lv_iload hx hb dX12_value__362 (lv_at hl 2 rfl) ?_
            obtain ⟨h17, hF⟩ := hF
            refine va_bald (n := (σ.2.2.1 25)) (f := (σ.2.2.2.1 25)) hx hb hK hP 25 23 (sm_aM25 σ α) (sm_yM25 α) h17 dX12_value__364 ?_
            refine lv_if_ne (tgt := 372) hx hb dX12_value__365 (by decide) (fun h18 => ?_) (fun h18 => ?_)
            · replace hF := hF.1 h18
              refine lv_iconst (v := 0) hx hb dX12_value__372 (by decide) ?_
              exact B373 σ x5 x8 0 hF H locs ls hP hS (lv_sub hl [0, 1, 2] rfl)
            · replace hF := hF.2 h18
              refine lv_iconst (v := 1) hx hb dX12_value__368 (by decide) ?_
              refine lv_goto (tgt := 373) hx hb dX12_value__369 (by decide) ?_
              exact B373 σ x5 x8 1 hF H locs ls hP hS (lv_sub hl [0, 1, 2] rfl)
          · replace hF := hF.2 h16
            refine lv_iload hx hb dX12_value__347 (lv_at hl 1 rfl) ?_
            refine lv_if_ne (tgt := 356) hx hb dX12_value__349 (by decide) (fun h19 => ?_) (fun h19 => ?_)
            · replace hF := hF.1 h19
              refine lv_lconst (v := 0) hx hb dX12_value__356 (by decide) ?_
              exact B357 σ 0 hF H locs ls hP hS (lv_sub hl [] rfl)
            · replace hF := hF.2 h19
              refine lv_lconst (v := 1) hx hb dX12_value__352 (by decide) ?_
              refine lv_goto (tgt := 357) hx hb dX12_value__353 (by decide) ?_
              exact B357 σ 1 hF H locs ls hP hS (lv_sub hl [] rfl)
        · replace hF := hF.2 h15
          refine lv_iload hx hb dX12_value__327 (lv_at hl 1 rfl) ?_
          refine lv_iconst (v := 1) hx hb dX12_value__329 (by decide) ?_
          refine lv_icmp_ne (tgt := 339) hx hb dX12_value__330 (by decide) (fun h20 => ?_) (fun h20 => ?_)
          · replace hF := hF.1 h20
            refine lv_lconst (v := 0) hx hb dX12_value__339 (by decide) ?_
            exact B340 σ 0 hF H locs ls hP hS (lv_sub hl [] rfl)
          · replace hF := hF.2 h20
            refine lv_iload hx hb dX12_value__333 (lv_at hl 2 rfl) ?_
            refine lv_i2l hx hb dX12_value__335 rfl ?_
            refine lv_goto (tgt := 340) hx hb dX12_value__336 (by decide) ?_
            exact B340 σ x8.toInt64 hF H locs ls hP hS (lv_sub hl [] rfl)
      · replace hF := hF.2 h14
        refine lv_lload hx hb dX12_value__130 (lv_at hl 4 rfl) ?_
        refine lv_ldc2 (v := 4095) hx hb hown k_9 dX12_value__132 ?_
        refine lv_land hx hb dX12_value__135 ?_
        refine lv_l2i hx hb dX12_value__136 rfl ?_
        refine lv_iconst (v := 1) hx hb dX12_value__137 (by decide) ?_
        refine lv_isub hx hb dX12_value__138 ?_
        refine lv_topi (fun v21 ev21 => ?_)
        replace hF := hF v21 ev21
        refine lv_istore (lv' := [(12, .int v21), (0, .ref (α.1 1)), (5, .int x5), (8, .int x8), (9, .int x9), (10, .long x10)]) hx hb dX12_value__139 hl (by decide) rfl (fun ls hl => ?_)
        refine lv_iload hx hb dX12_value__141 (lv_at hl 4 rfl) ?_
        refine lv_if_eq (tgt := 152) hx hb dX12_value__143 (by decide) (fun h22 => ?_) (fun h22 => ?_)
        · replace hF := hF.1 h22
          exact B152 (mp_X12_value__119 K n119) ih119 σ hF H locs ls hP hS (lv_sub hl [] rfl)
        · replace hF := hF.2 h22
          refine lv_iload hx hb dX12_value__146 (lv_at hl 3 rfl) ?_
          refine lv_iconst (v := -1) hx hb dX12_value__148 (by decide) ?_
          refine lv_icmp_ne (tgt := 156) hx hb dX12_value__149 (by decide) (fun h23 => ?_) (fun h23 => ?_)
          · replace hF := hF.1 h23
            refine lv_aload_n hx hb dX12_value__156 rfl (lv_at hl 1 rfl) ?_
            refine va_get (D := D) (ci := 12) (v := .ref (α.1 25)) (C := RX12) (T := TX12) (N := 42) hx hb hts in_X12 hown hK hP 1 (sm_gX12 σ α) rfl 8 (by decide) k_10 (fun _ h9 => h9) rfl dX12_value__157 ?_
            refine lv_iload hx hb dX12_value__160 (lv_at hl 3 rfl) ?_
            obtain ⟨h24, hF⟩ := hF
            refine va_bald (n := (σ.2.2.1 25)) (f := (σ.2.2.2.1 25)) hx hb hK hP 25 23 (sm_aM25 σ α) (sm_yM25 α) h24 dX12_value__162 ?_
            refine lv_if_ne (tgt := 241) hx hb dX12_value__163 (by decide) (fun h25 => ?_) (fun h25 => ?_)
            · replace hF := hF.1 h25
              refine lv_iload hx hb dX12_value__241 (lv_at hl 0 rfl) ?_
              refine lv_aload_n hx hb dX12_value__243 rfl (lv_at hl 1 rfl) ?_
              refine va_get (D := D) (ci := 12) (v := .ref (α.1 26)) (C := RX12) (T := TX12) (N := 42) hx hb hts in_X12 hown hK hP 1 (sm_gX12 σ α) rfl 9 (by decide) k_1 (fun _ h9 => h9) rfl dX12_value__244 ?_
              refine lv_iload hx hb dX12_value__247 (lv_at hl 3 rfl) ?_
              obtain ⟨h26, hF⟩ := hF
              refine va_iald (n := (σ.2.2.1 26)) (f := (σ.2.2.2.1 26)) hx hb hK hP 26 24 (sm_aM26 σ α) (sm_yM26 α) h26 dX12_value__249 ?_
              refine lv_icmp_lt (tgt := 257) hx hb dX12_value__250 (by decide) (fun h27 => ?_) (fun h27 => ?_)
              · replace hF := hF.1 h27
                refine lv_aload_n hx hb dX12_value__257 rfl (lv_at hl 1 rfl) ?_
                refine va_get (D := D) (ci := 12) (v := .ref (α.1 28)) (C := RX12) (T := TX12) (N := 42) hx hb hts in_X12 hown hK hP 1 (sm_gX12 σ α) rfl 11 (by decide) k_2 (fun _ h9 => h9) rfl dX12_value__258 ?_
                refine lv_iload hx hb dX12_value__261 (lv_at hl 3 rfl) ?_
                obtain ⟨h28, hF⟩ := hF
                refine va_bald (n := (σ.2.2.1 28)) (f := (σ.2.2.2.1 28)) hx hb hK hP 28 26 (sm_aM28 σ α) (sm_yM28 α) h28 dX12_value__263 ?_
                refine lv_if_le (tgt := 271) hx hb dX12_value__264 (by decide) (fun h29 => ?_) (fun h29 => ?_)
                · replace hF := hF.1 h29
                  refine lv_iconst (v := 0) hx hb dX12_value__271 (by decide) ?_
                  exact B272 (mp_X12_value__119 K n119) ih119 σ x5 x8 x10 v21 0 hF H locs ls hP hS (lv_sub hl [1, 2, 3, 5, 0] rfl)
                · replace hF := hF.2 h29
                  refine lv_iconst (v := 1) hx hb dX12_value__267 (by decide) ?_
                  refine lv_goto (tgt := 272) hx hb dX12_value__268 (by decide) ?_
                  exact B272 (mp_X12_value__119 K n119) ih119 σ x5 x8 x10 v21 1 hF H locs ls hP hS (lv_sub hl [1, 2, 3, 5, 0] rfl)
              · replace hF := hF.2 h27
                refine lv_ldc2 (v := -1) hx hb hown k_8 dX12_value__253 ?_
                exact W.lret (v := (-1)) hx hb hr (fun t ht hW => ⟨⟨(-1), σ, rfl, hF, (by unfold sm_B; rw [ht]; exact hP)⟩, hS.F ht⟩) hS.2.2 dX12_value__256
            · replace hF := hF.2 h25
              refine lv_iload hx hb dX12_value__166 (lv_at hl 0 rfl) ?_
              refine lv_aload_n hx hb dX12_value__168 rfl (lv_at hl 1 rfl) ?_
              refine va_get (D := D) (ci := 12) (v := .ref (α.1 0)) (C := RX12) (T := TX12) (N := 42) hx hb hts in_X12 hown hK hP 1 (sm_gX12 σ α) rfl 0 (by decide) k_0 (fun _ h9 => h9) rfl dX12_value__169 ?_
              refine va_getN (D := D) (ci := 11) (v := .ref (α.1 6)) (C := RX11) (T := TX11) (N := 28) hx hb hts in_X11 hown hK hP 0 (sm_gX11 σ α) rfl 10 (by decide) (va_Nw.use rfl (hE.1 (.fieldLinkNest "SteadyMachineModel" 292 "SteadyMachineModel$Image" "fieldCounts" "[I" "SteadyMachineModel") (by decide +kernel))) (fun _ h9 => h9) rfl dX12_value__172 ?_
              refine lv_aload_n hx hb dX12_value__175 rfl (lv_at hl 1 rfl) ?_
              refine va_get (D := D) (ci := 12) (v := .ref (α.1 26)) (C := RX12) (T := TX12) (N := 42) hx hb hts in_X12 hown hK hP 1 (sm_gX12 σ α) rfl 9 (by decide) k_1 (fun _ h9 => h9) rfl dX12_value__176 ?_
              refine lv_iload hx hb dX12_value__179 (lv_at hl 3 rfl) ?_
              obtain ⟨h30, hF⟩ := hF
              refine va_iald (n := (σ.2.2.1 26)) (f := (σ.2.2.2.1 26)) hx hb hK hP 26 24 (sm_aM26 σ α) (sm_yM26 α) h30 dX12_value__181 ?_
              obtain ⟨h31, hF⟩ := hF
              refine va_iald (n := (σ.2.2.1 6)) (f := (σ.2.2.2.1 6)) hx hb hK hP 6 4 (sm_aM6 σ α) (sm_yM6 α) h31 dX12_value__182 ?_
              refine lv_icmp_lt (tgt := 190) hx hb dX12_value__183 (by decide) (fun h32 => ?_) (fun h32 => ?_)
              · replace hF := hF.1 h32
                refine lv_aload_n hx hb dX12_value__190 rfl (lv_at hl 1 rfl) ?_
                refine va_get (D := D) (ci := 12) (v := .ref (α.1 0)) (C := RX12) (T := TX12) (N := 42) hx hb hts in_X12 hown hK hP 1 (sm_gX12 σ α) rfl 0 (by decide) k_0 (fun _ h9 => h9) rfl dX12_value__191 ?_
                refine va_getN (D := D) (ci := 11) (v := .ref (α.1 7)) (C := RX11) (T := TX11) (N := 28) hx hb hts in_X11 hown hK hP 0 (sm_gX11 σ α) rfl 11 (by decide) (va_Nw.use rfl (hE.1 (.fieldLinkNest "SteadyMachineModel" 99 "SteadyMachineModel$Image" "fieldTypes" "[I" "SteadyMachineModel") (by decide +kernel))) (fun _ h9 => h9) rfl dX12_value__194 ?_
                refine lv_bipush (v := 15) hx hb dX12_value__197 (by decide) ?_
                refine lv_aload_n hx hb dX12_value__199 rfl (lv_at hl 1 rfl) ?_
                refine va_get (D := D) (ci := 12) (v := .ref (α.1 26)) (C := RX12) (T := TX12) (N := 42) hx hb hts in_X12 hown hK hP 1 (sm_gX12 σ α) rfl 9 (by decide) k_1 (fun _ h9 => h9) rfl dX12_value__200 ?_
                refine lv_iload hx hb dX12_value__203 (lv_at hl 3 rfl) ?_
                obtain ⟨h33, hF⟩ := hF
                refine va_iald (n := (σ.2.2.1 26)) (f := (σ.2.2.2.1 26)) hx hb hK hP 26 24 (sm_aM26 σ α) (sm_yM26 α) h33 dX12_value__205 ?_
                refine lv_imul hx hb dX12_value__206 ?_
                refine lv_iload hx hb dX12_value__207 (lv_at hl 0 rfl) ?_
                refine lv_iadd hx hb dX12_value__209 ?_
                obtain ⟨h34, hF⟩ := hF
                refine va_iald (n := (σ.2.2.1 7)) (f := (σ.2.2.2.1 7)) hx hb hK hP 7 5 (sm_aM7 σ α) (sm_yM7 α) h34 dX12_value__210 ?_
                refine lv_if_le (tgt := 218) hx hb dX12_value__211 (by decide) (fun h35 => ?_) (fun h35 => ?_)
                · replace hF := hF.1 h35
                  refine lv_iconst (v := 0) hx hb dX12_value__218 (by decide) ?_
                  exact B219 (mp_X12_value__119 K n119) ih119 σ x5 x8 x10 v21 0 hF H locs ls hP hS (lv_sub hl [1, 2, 3, 5, 0] rfl)
                · replace hF := hF.2 h35
                  refine lv_iconst (v := 1) hx hb dX12_value__214 (by decide) ?_
                  refine lv_goto (tgt := 219) hx hb dX12_value__215 (by decide) ?_
                  exact B219 (mp_X12_value__119 K n119) ih119 σ x5 x8 x10 v21 1 hF H locs ls hP hS (lv_sub hl [1, 2, 3, 5, 0] rfl)
              · replace hF := hF.2 h32
                refine lv_ldc2 (v := -1) hx hb hown k_8 dX12_value__186 ?_
                exact W.lret (v := (-1)) hx hb hr (fun t ht hW => ⟨⟨(-1), σ, rfl, hF, (by unfold sm_B; rw [ht]; exact hP)⟩, hS.F ht⟩) hS.2.2 dX12_value__189
          · replace hF := hF.2 h23
            exact B152 (mp_X12_value__119 K n119) ih119 σ hF H locs ls hP hS (lv_sub hl [] rfl)
  have B114 : ∀ (σ : sm_S) (x3 : Int64) (x5 : Int32) (x8 : Int32) (y0 : Int32), mp_X12_value__114 K σ x3 x5 x8 y0 → sm_J p l e (headSpec wp_X12_value_ { frames := 1, cells := 0, slots := 0, locals := 23 }).room s m ([.ref (α.1 1), .int p1, .int p2, .long p3, .int p4] : List Value).toArray below meth c (MQ below (va_Ql K (sm_B sm_wM D α) A) ([.ref (α.1 1), .int p1, .int p2, .long p3, .int p4] : List Value).toArray s 0 0 A) D A 14 (sm_wM σ α) 114 [(0, .ref (α.1 1)), (3, .long x3), (5, .int x5), (8, .int x8)] [.int y0] := by
    intro σ x3 x5 x8 y0 hF H locs ls hP hS hl
    unfold mp_X12_value__114 at hF
    refine lv_istore (lv' := [(9, .int y0), (0, .ref (α.1 1)), (3, .long x3), (5, .int x5), (8, .int x8)]) hx hb dX12_value__114 hl (by decide) rfl (fun ls hl => ?_)
    refine lv_lload_n hx hb dX12_value__116 rfl (lv_at hl 2 rfl) ?_
    refine lv_lstore (lv' := [(10, .long x3), (9, .int y0), (0, .ref (α.1 1)), (3, .long x3), (5, .int x5), (8, .int x8)]) hx hb dX12_value__117 hl (by decide) rfl (fun ls hl => ?_)
    obtain ⟨n119, hF⟩ := hF
    exact B119 n119 σ x5 x8 y0 x3 hF H locs ls hP hS (lv_sub hl [2, 4, 5, 1, 0] rfl)
  have B109 : ∀ (σ : sm_S) (x3 : Int64) (x5 : Int32) (x8 : Int32), mp_X12_value__109 K σ x3 x5 x8 → sm_J p l e (headSpec wp_X12_value_ { frames := 1, cells := 0, slots := 0, locals := 23 }).room s m ([.ref (α.1 1), .int p1, .int p2, .long p3, .int p4] : List Value).toArray below meth c (MQ below (va_Ql K (sm_B sm_wM D α) A) ([.ref (α.1 1), .int p1, .int p2, .long p3, .int p4] : List Value).toArray s 0 0 A) D A 14 (sm_wM σ α) 109 [(0, .ref (α.1 1)), (3, .long x3), (5, .int x5), (8, .int x8)] [] := by
    intro σ x3 x5 x8 hF H locs ls hP hS hl
    unfold mp_X12_value__109 at hF
    refine lv_iconst (v := 1) hx hb dX12_value__109 (by decide) ?_
    refine lv_goto (tgt := 114) hx hb dX12_value__110 (by decide) ?_
    exact B114 σ x3 x5 x8 1 hF H locs ls hP hS (lv_sub hl [0, 1, 2, 3] rfl)
  have B92 : ∀ (σ : sm_S) (x3 : Int64) (x5 : Int32) (x6 : Int32) (x7 : Int32) (y0 : Int32), mp_X12_value__92 K σ x3 x5 x6 x7 y0 → sm_J p l e (headSpec wp_X12_value_ { frames := 1, cells := 0, slots := 0, locals := 23 }).room s m ([.ref (α.1 1), .int p1, .int p2, .long p3, .int p4] : List Value).toArray below meth c (MQ below (va_Ql K (sm_B sm_wM D α) A) ([.ref (α.1 1), .int p1, .int p2, .long p3, .int p4] : List Value).toArray s 0 0 A) D A 14 (sm_wM σ α) 92 [(0, .ref (α.1 1)), (3, .long x3), (5, .int x5), (6, .int x6), (7, .int x7)] [.int y0] := by
    intro σ x3 x5 x6 x7 y0 hF H locs ls hP hS hl
    unfold mp_X12_value__92 at hF
    refine lv_istore (lv' := [(8, .int y0), (0, .ref (α.1 1)), (3, .long x3), (5, .int x5), (6, .int x6), (7, .int x7)]) hx hb dX12_value__92 hl (by decide) rfl (fun ls hl => ?_)
    refine lv_iload hx hb dX12_value__94 (lv_at hl 4 rfl) ?_
    refine lv_if_ne (tgt := 109) hx hb dX12_value__96 (by decide) (fun h36 => ?_) (fun h36 => ?_)
    · replace hF := hF.1 h36
      exact B109 σ x3 x5 y0 hF H locs ls hP hS (lv_sub hl [1, 2, 3, 0] rfl)
    · replace hF := hF.2 h36
      refine lv_aload_n hx hb dX12_value__99 rfl (lv_at hl 1 rfl) ?_
      refine va_get (D := D) (ci := 12) (v := .ref (α.1 37)) (C := RX12) (T := TX12) (N := 42) hx hb hts in_X12 hown hK hP 1 (sm_gX12 σ α) rfl 23 (by decide) k_11 (fun _ h9 => h9) rfl dX12_value__100 ?_
      refine lv_iload hx hb dX12_value__103 (lv_at hl 5 rfl) ?_
      obtain ⟨h37, hF⟩ := hF
      refine va_zald (n := (σ.2.2.1 37)) (f := (σ.2.2.2.1 37)) hx hb hK hP 37 35 (sm_aM37 σ α) (sm_yM37 α) h37 dX12_value__105 ?_
      refine lv_if_eq (tgt := 113) hx hb dX12_value__106 (by decide) (fun h38 => ?_) (fun h38 => ?_)
      · replace hF := hF.1 h38
        refine lv_iconst (v := 0) hx hb dX12_value__113 (by decide) ?_
        exact B114 σ x3 x5 y0 0 hF H locs ls hP hS (lv_sub hl [1, 2, 3, 0] rfl)
      · replace hF := hF.2 h38
        exact B109 σ x3 x5 y0 hF H locs ls hP hS (lv_sub hl [1, 2, 3, 0] rfl)
  have B69 : ∀ (σ : sm_S), mp_X12_value__69 K σ → sm_J p l e (headSpec wp_X12_value_ { frames := 1, cells := 0, slots := 0, locals := 23 }).room s m ([.ref (α.1 1), .int p1, .int p2, .long p3, .int p4] : List Value).toArray below meth c (MQ below (va_Ql K (sm_B sm_wM D α) A) ([.ref (α.1 1), .int p1, .int p2, .long p3, .int p4] : List Value).toArray s 0 0 A) D A 14 (sm_wM σ α) 69 [] [] := by
    intro σ hF H locs ls hP hS hl
    unfold mp_X12_value__69 at hF
    refine lv_ldc2 (v := -1) hx hb hown k_8 dX12_value__69 ?_
    exact W.lret (v := (-1)) hx hb hr (fun t ht hW => ⟨⟨(-1), σ, rfl, hF, (by unfold sm_B; rw [ht]; exact hP)⟩, hS.F ht⟩) hS.2.2 dX12_value__72
  have B58 : ∀ (σ : sm_S) (x3 : Int64) (x5 : Int32) (x6 : Int32) (x7 : Int32), mp_X12_value__58 K σ x3 x5 x6 x7 → sm_J p l e (headSpec wp_X12_value_ { frames := 1, cells := 0, slots := 0, locals := 23 }).room s m ([.ref (α.1 1), .int p1, .int p2, .long p3, .int p4] : List Value).toArray below meth c (MQ below (va_Ql K (sm_B sm_wM D α) A) ([.ref (α.1 1), .int p1, .int p2, .long p3, .int p4] : List Value).toArray s 0 0 A) D A 14 (sm_wM σ α) 58 [(0, .ref (α.1 1)), (3, .long x3), (5, .int x5), (6, .int x6), (7, .int x7)] [] := by
    intro σ x3 x5 x6 x7 hF H locs ls hP hS hl
    unfold mp_X12_value__58 at hF
    refine lv_iload hx hb dX12_value__58 (lv_at hl 2 rfl) ?_
    refine lv_if_lt (tgt := 69) hx hb dX12_value__60 (by decide) (fun h39 => ?_) (fun h39 => ?_)
    · replace hF := hF.1 h39
      exact B69 σ hF H locs ls hP hS (lv_sub hl [] rfl)
    · replace hF := hF.2 h39
      refine lv_iload hx hb dX12_value__63 (lv_at hl 2 rfl) ?_
      refine lv_iconst (v := 2) hx hb dX12_value__65 (by decide) ?_
      refine lv_icmp_le (tgt := 73) hx hb dX12_value__66 (by decide) (fun h40 => ?_) (fun h40 => ?_)
      · replace hF := hF.1 h40
        refine lv_iload hx hb dX12_value__73 (lv_at hl 3 rfl) ?_
        refine lv_if_eq (tgt := 85) hx hb dX12_value__75 (by decide) (fun h41 => ?_) (fun h41 => ?_)
        · replace hF := hF.1 h41
          refine lv_aload_n hx hb dX12_value__85 rfl (lv_at hl 0 rfl) ?_
          refine va_get (D := D) (ci := 12) (v := .ref (α.1 36)) (C := RX12) (T := TX12) (N := 42) hx hb hts in_X12 hown hK hP 1 (sm_gX12 σ α) rfl 22 (by decide) k_12 (fun _ h9 => h9) rfl dX12_value__86 ?_
          refine lv_iload hx hb dX12_value__89 (lv_at hl 4 rfl) ?_
          obtain ⟨h42, hF⟩ := hF
          refine va_iald (n := (σ.2.2.1 36)) (f := (σ.2.2.2.1 36)) hx hb hK hP 36 34 (sm_aM36 σ α) (sm_yM36 α) h42 dX12_value__91 ?_
          exact B92 σ x3 x5 x6 x7 ((σ.2.2.2.1 36) x7.toNatClampNeg) hF H locs ls hP hS (lv_sub hl [0, 1, 2, 3, 4] rfl)
        · replace hF := hF.2 h41
          refine lv_aload_n hx hb dX12_value__78 rfl (lv_at hl 0 rfl) ?_
          refine va_get (D := D) (ci := 12) (v := .int (σ.1 16)) (C := RX12) (T := TX12) (N := 42) hx hb hts in_X12 hown hK hP 1 (sm_gX12 σ α) rfl 25 (by decide) k_13 (fun _ h9 => h9) rfl dX12_value__79 ?_
          refine lv_goto (tgt := 92) hx hb dX12_value__82 (by decide) ?_
          exact B92 σ x3 x5 x6 x7 (σ.1 16) hF H locs ls hP hS (lv_sub hl [0, 1, 2, 3, 4] rfl)
      · replace hF := hF.2 h40
        exact B69 σ hF H locs ls hP hS (lv_sub hl [] rfl)
  have B45 : ∀ (σ : sm_S) (x3 : Int64) (x5 : Int32) (x6 : Int32) (y0 : Int32), mp_X12_value__45 K σ x3 x5 x6 y0 → sm_J p l e (headSpec wp_X12_value_ { frames := 1, cells := 0, slots := 0, locals := 23 }).room s m ([.ref (α.1 1), .int p1, .int p2, .long p3, .int p4] : List Value).toArray below meth c (MQ below (va_Ql K (sm_B sm_wM D α) A) ([.ref (α.1 1), .int p1, .int p2, .long p3, .int p4] : List Value).toArray s 0 0 A) D A 14 (sm_wM σ α) 45 [(0, .ref (α.1 1)), (3, .long x3), (5, .int x5), (6, .int x6)] [.int y0] := by
    intro σ x3 x5 x6 y0 hF H locs ls hP hS hl
    unfold mp_X12_value__45 at hF
    refine lv_istore (lv' := [(7, .int y0), (0, .ref (α.1 1)), (3, .long x3), (5, .int x5), (6, .int x6)]) hx hb dX12_value__45 hl (by decide) rfl (fun ls hl => ?_)
    refine lv_iload hx hb dX12_value__47 (lv_at hl 4 rfl) ?_
    refine lv_if_ne (tgt := 58) hx hb dX12_value__49 (by decide) (fun h43 => ?_) (fun h43 => ?_)
    · replace hF := hF.1 h43
      exact B58 σ x3 x5 x6 y0 hF H locs ls hP hS (lv_sub hl [1, 2, 3, 4, 0] rfl)
    · replace hF := hF.2 h43
      refine lv_iload hx hb dX12_value__52 (lv_at hl 0 rfl) ?_
      refine lv_iconst (v := -1) hx hb dX12_value__54 (by decide) ?_
      refine lv_icmp_eq (tgt := 69) hx hb dX12_value__55 (by decide) (fun h44 => ?_) (fun h44 => ?_)
      · replace hF := hF.1 h44
        exact B69 σ hF H locs ls hP hS (lv_sub hl [] rfl)
      · replace hF := hF.2 h44
        exact B58 σ x3 x5 x6 y0 hF H locs ls hP hS (lv_sub hl [1, 2, 3, 4, 0] rfl)
  have B28 : ∀ (σ : sm_S) (x1 : Int32) (x2 : Int32) (x3 : Int64) (x5 : Int32) (y0 : Int32), mp_X12_value__28 K σ x1 x2 x3 x5 y0 → sm_J p l e (headSpec wp_X12_value_ { frames := 1, cells := 0, slots := 0, locals := 23 }).room s m ([.ref (α.1 1), .int p1, .int p2, .long p3, .int p4] : List Value).toArray below meth c (MQ below (va_Ql K (sm_B sm_wM D α) A) ([.ref (α.1 1), .int p1, .int p2, .long p3, .int p4] : List Value).toArray s 0 0 A) D A 14 (sm_wM σ α) 28 [(0, .ref (α.1 1)), (1, .int x1), (2, .int x2), (3, .long x3), (5, .int x5)] [.int y0] := by
    intro σ x1 x2 x3 x5 y0 hF H locs ls hP hS hl
    unfold mp_X12_value__28 at hF
    refine lv_istore (lv' := [(6, .int y0), (0, .ref (α.1 1)), (1, .int x1), (2, .int x2), (3, .long x3), (5, .int x5)]) hx hb dX12_value__28 hl (by decide) rfl (fun ls hl => ?_)
    refine lv_iload hx hb dX12_value__30 (lv_at hl 0 rfl) ?_
    refine lv_if_eq (tgt := 39) hx hb dX12_value__32 (by decide) (fun h45 => ?_) (fun h45 => ?_)
    · replace hF := hF.1 h45
      refine lv_aload_n hx hb dX12_value__39 rfl (lv_at hl 1 rfl) ?_
      refine lv_iload_n hx hb dX12_value__40 rfl (lv_at hl 2 rfl) ?_
      refine lv_iload_n hx hb dX12_value__41 rfl (lv_at hl 3 rfl) ?_
      refine sm_vi (As := [.int x1, .int x2]) (rest := []) hP hK hD hE hS hA ⟨hx, hb, hml, hown, hts⟩ hl.1 (c_X12_placeOfValue l D H.size t0 σ α x1 x2 _ hF) (cwV 2 hts wg_X12_value__X12_placeOfValue_414 rfl rfl rfl (by decide +kernel) ⟨Nat.le_of_ble_eq_true rfl, Nat.le_of_ble_eq_true rfl⟩) (va_recv hK hP (ci := 12) (q0 := 1) rfl (sm_gX12 σ α)) rfl rfl (Nat.le_of_ble_eq_true rfl) dX12_value__42 ⟨Nat.zero_le _, Nat.zero_le _⟩ (fun r47 σ46 H locs hF hP hS => ?_)
      exact B45 σ46 x3 x5 y0 r47 hF H locs ls hP hS (lv_sub hl [1, 4, 5, 0] rfl)
    · replace hF := hF.2 h45
      refine lv_iconst (v := -1) hx hb dX12_value__35 (by decide) ?_
      refine lv_goto (tgt := 45) hx hb dX12_value__36 (by decide) ?_
      exact B45 σ x3 x5 y0 (-1) hF H locs ls hP hS (lv_sub hl [1, 4, 5, 0] rfl)
  have B27 : ∀ (σ : sm_S) (x1 : Int32) (x2 : Int32) (x3 : Int64) (x5 : Int32), mp_X12_value__27 K σ x1 x2 x3 x5 → sm_J p l e (headSpec wp_X12_value_ { frames := 1, cells := 0, slots := 0, locals := 23 }).room s m ([.ref (α.1 1), .int p1, .int p2, .long p3, .int p4] : List Value).toArray below meth c (MQ below (va_Ql K (sm_B sm_wM D α) A) ([.ref (α.1 1), .int p1, .int p2, .long p3, .int p4] : List Value).toArray s 0 0 A) D A 14 (sm_wM σ α) 27 [(0, .ref (α.1 1)), (1, .int x1), (2, .int x2), (3, .long x3), (5, .int x5)] [] := by
    intro σ x1 x2 x3 x5 hF H locs ls hP hS hl
    unfold mp_X12_value__27 at hF
    refine lv_iconst (v := 0) hx hb dX12_value__27 (by decide) ?_
    exact B28 σ x1 x2 x3 x5 0 hF H locs ls hP hS (lv_sub hl [0, 1, 2, 3, 4] rfl)
  unfold mp_X12_value_ at hF
  revert hP hS
  generalize hLo : ([] : List Loc) = locs
  suffices h9 : ∀ (H : Heap) (locs : List Loc), va_P D vwCl (sm_wM σ α) H → va_S A s.heap H locs → W p l e (headSpec wp_X12_value_ { frames := 1, cells := 0, slots := 0, locals := 23 }).room s m ([.ref (α.1 1), .int p1, .int p2, .long p3, .int p4] : List Value).toArray below meth c H locs 0 0 (MQ below (va_Ql K (sm_B sm_wM D α) A) ([.ref (α.1 1), .int p1, .int p2, .long p3, .int p4] : List Value).toArray s 0 0 A) (F0 m 0 ls []) from fun hP hS => h9 s.heap locs hP hS
  intro H locs hP hS
  refine lv_iload_n hx hb dX12_value__0 rfl (lv_at hl 1 rfl) ?_
  refine lv_iconst (v := -1) hx hb dX12_value__1 (by decide) ?_
  refine lv_icmp_ne (tgt := 27) hx hb dX12_value__2 (by decide) (fun h48 => ?_) (fun h48 => ?_)
  · replace hF := hF.1 h48
    exact B27 σ p1 p2 p3 p4 hF H locs ls hP hS (lv_sub hl [0, 1, 2, 3, 4] rfl)
  · replace hF := hF.2 h48
    refine lv_iload_n hx hb dX12_value__5 rfl (lv_at hl 2 rfl) ?_
    refine lv_if_ne (tgt := 27) hx hb dX12_value__6 (by decide) (fun h49 => ?_) (fun h49 => ?_)
    · replace hF := hF.1 h49
      exact B27 σ p1 p2 p3 p4 hF H locs ls hP hS (lv_sub hl [0, 1, 2, 3, 4] rfl)
    · replace hF := hF.2 h49
      refine lv_aload_n hx hb dX12_value__9 rfl (lv_at hl 0 rfl) ?_
      refine va_get (D := D) (ci := 12) (v := .int (σ.1 17)) (C := RX12) (T := TX12) (N := 42) hx hb hts in_X12 hown hK hP 1 (sm_gX12 σ α) rfl 26 (by decide) k_14 (fun _ h9 => h9) rfl dX12_value__10 ?_
      refine lv_if_le (tgt := 27) hx hb dX12_value__13 (by decide) (fun h50 => ?_) (fun h50 => ?_)
      · replace hF := hF.1 h50
        exact B27 σ p1 p2 p3 p4 hF H locs ls hP hS (lv_sub hl [0, 1, 2, 3, 4] rfl)
      · replace hF := hF.2 h50
        refine lv_aload_n hx hb dX12_value__16 rfl (lv_at hl 0 rfl) ?_
        refine va_get (D := D) (ci := 12) (v := .int (σ.1 15)) (C := RX12) (T := TX12) (N := 42) hx hb hts in_X12 hown hK hP 1 (sm_gX12 σ α) rfl 24 (by decide) k_15 (fun _ h9 => h9) rfl dX12_value__17 ?_
        refine lv_if_eq (tgt := 27) hx hb dX12_value__20 (by decide) (fun h51 => ?_) (fun h51 => ?_)
        · replace hF := hF.1 h51
          exact B27 σ p1 p2 p3 p4 hF H locs ls hP hS (lv_sub hl [0, 1, 2, 3, 4] rfl)
        · replace hF := hF.2 h51
          refine lv_iconst (v := 1) hx hb dX12_value__23 (by decide) ?_
          refine lv_goto (tgt := 28) hx hb dX12_value__24 (by decide) ?_
          exact B28 σ p1 p2 p3 p4 1 hF H locs ls hP hS (lv_sub hl [0, 1, 2, 3, 4] rfl)
theorem dX12_same_0 : decode cX12_same 0 = .ok (.aload_n 0, 1) := by decide +kernel
theorem dX12_same_1 : decode cX12_same 1 = .ok (.iconst 0, 1) := by decide +kernel
theorem dX12_same_2 : decode cX12_same 2 = .ok (.iload_n 1, 1) := by decide +kernel
theorem dX12_same_3 : decode cX12_same 3 = .ok (.invokevirtual 414, 3) := by decide +kernel
theorem dX12_same_6 : decode cX12_same 6 = .ok (.istore_n 3, 1) := by decide +kernel
theorem dX12_same_7 : decode cX12_same 7 = .ok (.aload_n 0, 1) := by decide +kernel
theorem dX12_same_8 : decode cX12_same 8 = .ok (.iconst 0, 1) := by decide +kernel
theorem dX12_same_9 : decode cX12_same 9 = .ok (.iload_n 2, 1) := by decide +kernel
theorem dX12_same_10 : decode cX12_same 10 = .ok (.invokevirtual 414, 3) := by decide +kernel
theorem dX12_same_13 : decode cX12_same 13 = .ok (.istore 4, 2) := by decide +kernel
theorem dX12_same_15 : decode cX12_same 15 = .ok (.iload_n 3, 1) := by decide +kernel
theorem dX12_same_16 : decode cX12_same 16 = .ok (.iconst (-1), 1) := by decide +kernel
theorem dX12_same_17 : decode cX12_same 17 = .ok (.if_icmp .eq 48, 3) := by decide +kernel
theorem dX12_same_20 : decode cX12_same 20 = .ok (.iload 4, 2) := by decide +kernel
theorem dX12_same_22 : decode cX12_same 22 = .ok (.iconst (-1), 1) := by decide +kernel
theorem dX12_same_23 : decode cX12_same 23 = .ok (.if_icmp .eq 42, 3) := by decide +kernel
theorem dX12_same_26 : decode cX12_same 26 = .ok (.aload_n 0, 1) := by decide +kernel
theorem dX12_same_27 : decode cX12_same 27 = .ok (.getfield 218, 3) := by decide +kernel
theorem dX12_same_30 : decode cX12_same 30 = .ok (.iload_n 3, 1) := by decide +kernel
theorem dX12_same_31 : decode cX12_same 31 = .ok (.baload, 1) := by decide +kernel
theorem dX12_same_32 : decode cX12_same 32 = .ok (.ifCond .eq 33, 3) := by decide +kernel
theorem dX12_same_35 : decode cX12_same 35 = .ok (.aload_n 0, 1) := by decide +kernel
theorem dX12_same_36 : decode cX12_same 36 = .ok (.getfield 218, 3) := by decide +kernel
theorem dX12_same_39 : decode cX12_same 39 = .ok (.iload 4, 2) := by decide +kernel
theorem dX12_same_41 : decode cX12_same 41 = .ok (.baload, 1) := by decide +kernel
theorem dX12_same_42 : decode cX12_same 42 = .ok (.ifCond .eq 23, 3) := by decide +kernel
theorem dX12_same_45 : decode cX12_same 45 = .ok (.aload_n 0, 1) := by decide +kernel
theorem dX12_same_46 : decode cX12_same 46 = .ok (.getfield 215, 3) := by decide +kernel
theorem dX12_same_49 : decode cX12_same 49 = .ok (.iload_n 3, 1) := by decide +kernel
theorem dX12_same_50 : decode cX12_same 50 = .ok (.iaload, 1) := by decide +kernel
theorem dX12_same_51 : decode cX12_same 51 = .ok (.aload_n 0, 1) := by decide +kernel
theorem dX12_same_52 : decode cX12_same 52 = .ok (.getfield 215, 3) := by decide +kernel
theorem dX12_same_55 : decode cX12_same 55 = .ok (.iload 4, 2) := by decide +kernel
theorem dX12_same_57 : decode cX12_same 57 = .ok (.iaload, 1) := by decide +kernel
theorem dX12_same_58 : decode cX12_same 58 = .ok (.if_icmp .ne 7, 3) := by decide +kernel
theorem dX12_same_61 : decode cX12_same 61 = .ok (.iconst 1, 1) := by decide +kernel
theorem dX12_same_62 : decode cX12_same 62 = .ok (.goto 4, 3) := by decide +kernel
theorem dX12_same_65 : decode cX12_same 65 = .ok (.iconst 0, 1) := by decide +kernel
theorem dX12_same_66 : decode cX12_same 66 = .ok (.ireturn, 1) := by decide +kernel
def mp_X12_same_66 (K : Int32 → sm_S → Prop) (σ : sm_S) (y0 : Int32) : Prop := sm_z y0 ∧ K y0 σ
def mp_X12_same_65 (K : Int32 → sm_S → Prop) (σ : sm_S)  : Prop := mp_X12_same_66 K σ 0
/-- SteadyMachineModel.same(II)Z -/
def mp_X12_same (σ : sm_S) (p1 : Int32) (p2 : Int32) (K : Int32 → sm_S → Prop) : Prop := mp_X12_placeOfValue σ 0 p1 (fun r3 σ2 => mp_X12_placeOfValue σ2 0 p2 (fun r5 σ4 => ((r3 = (-1) → (mp_X12_same_65 K σ4)) ∧ (¬ r3 = (-1) → ((r5 = (-1) → (mp_X12_same_65 K σ4)) ∧ (¬ r5 = (-1) → (vp_in r3 (σ4.2.2.1 37) ∧ ((((σ4.2.2.2.1 37) r3.toNatClampNeg) = 0 → (mp_X12_same_65 K σ4)) ∧ (¬ ((σ4.2.2.2.1 37) r3.toNatClampNeg) = 0 → (vp_in r5 (σ4.2.2.1 37) ∧ ((((σ4.2.2.2.1 37) r5.toNatClampNeg) = 0 → (mp_X12_same_65 K σ4)) ∧ (¬ ((σ4.2.2.2.1 37) r5.toNatClampNeg) = 0 → (vp_in r3 (σ4.2.2.1 36) ∧ vp_in r5 (σ4.2.2.1 36) ∧ ((¬ ((σ4.2.2.2.1 36) r3.toNatClampNeg) = ((σ4.2.2.2.1 36) r5.toNatClampNeg) → (mp_X12_same_65 K σ4)) ∧ (((σ4.2.2.2.1 36) r3.toNatClampNeg) = ((σ4.2.2.2.1 36) r5.toNatClampNeg) → (mp_X12_same_66 K σ4 1))))))))))))))))
def wp_X12_same : List Cond := .code yX12_same cX12_same 5 (some .boolean) :: (([.fieldLink RX12 218 "SteadyMachineModel" "isThing" "[Z", .fieldLink RX12 215 "SteadyMachineModel" "valueAt" "[I"] ++ (wsV RX12 414 RX12 yX12_placeOfValue wp_X12_placeOfValue)) ++ wsX120)
theorem wg_X12_same_X12_placeOfValue_414 : GoodIn wp_X12_same (wsV RX12 414 RX12 yX12_placeOfValue wp_X12_placeOfValue) := goodIn_sub (fun w h => List.mem_cons_of_mem _ (List.mem_append_left _ (List.mem_append_right _ h))) (by decide +kernel)
theorem wi_X12_same_X12 : ∀ w ∈ wsX120, w ∈ wp_X12_same := fun w h => List.mem_cons_of_mem _ (List.mem_append_right _ h)
set_option maxHeartbeats 4000000 in
set_option maxRecDepth 100000 in
theorem c_X12_same (l : Launch) (D : va_G) (sz t0 : Nat) (σ : sm_S) (α : sm_A) (p1 : Int32) (p2 : Int32) (K : Int32 → sm_S → Prop) (hF : mp_X12_same σ p1 p2 K) : Met l yX12_same wp_X12_same { frames := 1, cells := 0, slots := 0, locals := 23 } (sm_P sm_wM sm_tM 40 D sz t0 σ α [.ref (α.1 1), .int p1, .int p2]) (va_Qi K (sm_B sm_wM D α) (sm_a α 40 sz)) 0 0 (sm_a α 40 sz) := by
  refine Met.ofW (cc := cX12_same) (maxL := 5) (ret := (some .boolean)) (by decide) rfl ?_
  intro p e s m args below meth c s₁ B hml hv
  obtain ⟨rfl, hsz, hP, hK, hD0, hE⟩ := hv
  have hx := B.exec
  have hb := B.bytes
  have hr := B.returns
  have hts := atoms_spec (ws := wp_X12_same) B.pre
  have hown : s.vm.findClass RX12 = some m.cls := findClass_of_methodNamed B.named
  have hlocks := B.notSynchronized
  subst hsz
  have hD : sm_D (sm_a α 40 s.heap.size) α 40 := hD0.own
  have hA : ∀ q : Nat, s.heap.size ≤ q → sm_a α 40 s.heap.size q := fun q h => Or.inr h
  generalize hAe : sm_a α 40 s.heap.size = A at hD hA hE ⊢
  have hS : va_S A s.heap s.heap [] := va_S.rf
  have in_X12 : ∀ w ∈ wsX120, w ∈ wp_X12_same := wi_X12_same_X12
  have k_0 := hts (.fieldLink RX12 218 "SteadyMachineModel" "isThing" "[Z") (by decide +kernel)
  have k_1 := hts (.fieldLink RX12 215 "SteadyMachineModel" "valueAt" "[I") (by decide +kernel)
  have hl := lv_entry ([.ref (α.1 1), .int p1, .int p2]) (n := 5) (Nat.le_of_ble_eq_true rfl)
  rw [lg_entry_eq]
  generalize (lg_sl ([.ref (α.1 1), .int p1, .int p2]) ++ List.replicate (5 - (lg_sl ([.ref (α.1 1), .int p1, .int p2])).length) Slot.unset).toArray = ls at hl ⊢
  have hl : lv_has ls 5 [(0, .ref (α.1 1)), (1, .int p1), (2, .int p2)] := hl
  have B66 : ∀ (σ : sm_S) (y0 : Int32), mp_X12_same_66 K σ y0 → sm_J p l e (headSpec wp_X12_same { frames := 1, cells := 0, slots := 0, locals := 23 }).room s m ([.ref (α.1 1), .int p1, .int p2] : List Value).toArray below meth c (MQ below (va_Qi K (sm_B sm_wM D α) A) ([.ref (α.1 1), .int p1, .int p2] : List Value).toArray s 0 0 A) D A 5 (sm_wM σ α) 66 [] [.int y0] := by
    intro σ y0 hF H locs ls hP hS hl
    unfold mp_X12_same_66 at hF
    obtain ⟨h1, hF⟩ := hF
    exact W.zret (v := y0) hx hb hr h1.1 (fun t ht hW => ⟨⟨y0, σ, rfl, hF, (by unfold sm_B; rw [ht]; exact hP)⟩, hS.F ht⟩) hS.2.2 dX12_same_66
  have B65 : ∀ (σ : sm_S), mp_X12_same_65 K σ → sm_J p l e (headSpec wp_X12_same { frames := 1, cells := 0, slots := 0, locals := 23 }).room s m ([.ref (α.1 1), .int p1, .int p2] : List Value).toArray below meth c (MQ below (va_Qi K (sm_B sm_wM D α) A) ([.ref (α.1 1), .int p1, .int p2] : List Value).toArray s 0 0 A) D A 5 (sm_wM σ α) 65 [] [] := by
    intro σ hF H locs ls hP hS hl
    unfold mp_X12_same_65 at hF
    refine lv_iconst (v := 0) hx hb dX12_same_65 (by decide) ?_
    exact B66 σ 0 hF H locs ls hP hS (lv_sub hl [] rfl)
  unfold mp_X12_same at hF
  revert hP hS
  generalize hLo : ([] : List Loc) = locs
  suffices h9 : ∀ (H : Heap) (locs : List Loc), va_P D vwCl (sm_wM σ α) H → va_S A s.heap H locs → W p l e (headSpec wp_X12_same { frames := 1, cells := 0, slots := 0, locals := 23 }).room s m ([.ref (α.1 1), .int p1, .int p2] : List Value).toArray below meth c H locs 0 0 (MQ below (va_Qi K (sm_B sm_wM D α) A) ([.ref (α.1 1), .int p1, .int p2] : List Value).toArray s 0 0 A) (F0 m 0 ls []) from fun hP hS => h9 s.heap locs hP hS
  intro H locs hP hS
  refine lv_aload_n hx hb dX12_same_0 rfl (lv_at hl 0 rfl) ?_
  refine lv_iconst (v := 0) hx hb dX12_same_1 (by decide) ?_
  refine lv_iload_n hx hb dX12_same_2 rfl (lv_at hl 1 rfl) ?_
  refine sm_vi (As := [.int 0, .int p1]) (rest := []) hP hK hD hE hS hA ⟨hx, hb, hml, hown, hts⟩ hl.1 (c_X12_placeOfValue l D H.size t0 σ α 0 p1 _ hF) (cwV 2 hts wg_X12_same_X12_placeOfValue_414 rfl rfl rfl (by decide +kernel) ⟨Nat.le_of_ble_eq_true rfl, Nat.le_of_ble_eq_true rfl⟩) (va_recv hK hP (ci := 12) (q0 := 1) rfl (sm_gX12 σ α)) rfl rfl (Nat.le_of_ble_eq_true rfl) dX12_same_3 ⟨Nat.zero_le _, Nat.zero_le _⟩ (fun r3 σ2 H locs hF hP hS => ?_)
  refine lv_istore_n (lv' := [(3, .int r3), (0, .ref (α.1 1)), (1, .int p1), (2, .int p2)]) hx hb dX12_same_6 rfl hl (by decide) rfl (fun ls hl => ?_)
  refine lv_aload_n hx hb dX12_same_7 rfl (lv_at hl 1 rfl) ?_
  refine lv_iconst (v := 0) hx hb dX12_same_8 (by decide) ?_
  refine lv_iload_n hx hb dX12_same_9 rfl (lv_at hl 3 rfl) ?_
  refine sm_vi (As := [.int 0, .int p2]) (rest := []) hP hK hD hE hS hA ⟨hx, hb, hml, hown, hts⟩ hl.1 (c_X12_placeOfValue l D H.size t0 σ2 α 0 p2 _ hF) (cwV 2 hts wg_X12_same_X12_placeOfValue_414 rfl rfl rfl (by decide +kernel) ⟨Nat.le_of_ble_eq_true rfl, Nat.le_of_ble_eq_true rfl⟩) (va_recv hK hP (ci := 12) (q0 := 1) rfl (sm_gX12 σ2 α)) rfl rfl (Nat.le_of_ble_eq_true rfl) dX12_same_10 ⟨Nat.zero_le _, Nat.zero_le _⟩ (fun r5 σ4 H locs hF hP hS => ?_)
  refine lv_istore (lv' := [(4, .int r5), (3, .int r3), (0, .ref (α.1 1)), (1, .int p1), (2, .int p2)]) hx hb dX12_same_13 hl (by decide) rfl (fun ls hl => ?_)
  refine lv_iload_n hx hb dX12_same_15 rfl (lv_at hl 1 rfl) ?_
  refine lv_iconst (v := -1) hx hb dX12_same_16 (by decide) ?_
  refine lv_icmp_eq (tgt := 65) hx hb dX12_same_17 (by decide) (fun h6 => ?_) (fun h6 => ?_)
  · replace hF := hF.1 h6
    exact B65 σ4 hF H locs ls hP hS (lv_sub hl [] rfl)
  · replace hF := hF.2 h6
    refine lv_iload hx hb dX12_same_20 (lv_at hl 0 rfl) ?_
    refine lv_iconst (v := -1) hx hb dX12_same_22 (by decide) ?_
    refine lv_icmp_eq (tgt := 65) hx hb dX12_same_23 (by decide) (fun h7 => ?_) (fun h7 => ?_)
    · replace hF := hF.1 h7
      exact B65 σ4 hF H locs ls hP hS (lv_sub hl [] rfl)
    · replace hF := hF.2 h7
      refine lv_aload_n hx hb dX12_same_26 rfl (lv_at hl 2 rfl) ?_
      refine va_get (D := D) (ci := 12) (v := .ref (α.1 37)) (C := RX12) (T := TX12) (N := 42) hx hb hts in_X12 hown hK hP 1 (sm_gX12 σ4 α) rfl 23 (by decide) k_0 (fun _ h9 => h9) rfl dX12_same_27 ?_
      refine lv_iload_n hx hb dX12_same_30 rfl (lv_at hl 1 rfl) ?_
      obtain ⟨h8, hF⟩ := hF
      refine va_zald (n := (σ4.2.2.1 37)) (f := (σ4.2.2.2.1 37)) hx hb hK hP 37 35 (sm_aM37 σ4 α) (sm_yM37 α) h8 dX12_same_31 ?_
      refine lv_if_eq (tgt := 65) hx hb dX12_same_32 (by decide) (fun h9 => ?_) (fun h9 => ?_)
      · replace hF := hF.1 h9
        exact B65 σ4 hF H locs ls hP hS (lv_sub hl [] rfl)
      · replace hF := hF.2 h9
        refine lv_aload_n hx hb dX12_same_35 rfl (lv_at hl 2 rfl) ?_
        refine va_get (D := D) (ci := 12) (v := .ref (α.1 37)) (C := RX12) (T := TX12) (N := 42) hx hb hts in_X12 hown hK hP 1 (sm_gX12 σ4 α) rfl 23 (by decide) k_0 (fun _ h9 => h9) rfl dX12_same_36 ?_
        refine lv_iload hx hb dX12_same_39 (lv_at hl 0 rfl) ?_
        obtain ⟨h10, hF⟩ := hF
        refine va_zald (n := (σ4.2.2.1 37)) (f := (σ4.2.2.2.1 37)) hx hb hK hP 37 35 (sm_aM37 σ4 α) (sm_yM37 α) h10 dX12_same_41 ?_
        refine lv_if_eq (tgt := 65) hx hb dX12_same_42 (by decide) (fun h11 => ?_) (fun h11 => ?_)
        · replace hF := hF.1 h11
          exact B65 σ4 hF H locs ls hP hS (lv_sub hl [] rfl)
        · replace hF := hF.2 h11
          refine lv_aload_n hx hb dX12_same_45 rfl (lv_at hl 2 rfl) ?_
          refine va_get (D := D) (ci := 12) (v := .ref (α.1 36)) (C := RX12) (T := TX12) (N := 42) hx hb hts in_X12 hown hK hP 1 (sm_gX12 σ4 α) rfl 22 (by decide) k_1 (fun _ h9 => h9) rfl dX12_same_46 ?_
          refine lv_iload_n hx hb dX12_same_49 rfl (lv_at hl 1 rfl) ?_
          obtain ⟨h12, hF⟩ := hF
          refine va_iald (n := (σ4.2.2.1 36)) (f := (σ4.2.2.2.1 36)) hx hb hK hP 36 34 (sm_aM36 σ4 α) (sm_yM36 α) h12 dX12_same_50 ?_
          refine lv_aload_n hx hb dX12_same_51 rfl (lv_at hl 2 rfl) ?_
          refine va_get (D := D) (ci := 12) (v := .ref (α.1 36)) (C := RX12) (T := TX12) (N := 42) hx hb hts in_X12 hown hK hP 1 (sm_gX12 σ4 α) rfl 22 (by decide) k_1 (fun _ h9 => h9) rfl dX12_same_52 ?_
          refine lv_iload hx hb dX12_same_55 (lv_at hl 0 rfl) ?_
          obtain ⟨h13, hF⟩ := hF
          refine va_iald (n := (σ4.2.2.1 36)) (f := (σ4.2.2.2.1 36)) hx hb hK hP 36 34 (sm_aM36 σ4 α) (sm_yM36 α) h13 dX12_same_57 ?_
          refine lv_icmp_ne (tgt := 65) hx hb dX12_same_58 (by decide) (fun h14 => ?_) (fun h14 => ?_)
          · replace hF := hF.1 h14
            exact B65 σ4 hF H locs ls hP hS (lv_sub hl [] rfl)
          · replace hF := hF.2 h14
            refine lv_iconst (v := 1) hx hb dX12_same_61 (by decide) ?_
            refine lv_goto (tgt := 66) hx hb dX12_same_62 (by decide) ?_
            exact B66 σ4 1 hF H locs ls hP hS (lv_sub hl [] rfl)
theorem dX12_told_0 : decode cX12_told 0 = .ok (.aload_n 0, 1) := by decide +kernel
theorem dX12_told_1 : decode cX12_told 1 = .ok (.getfield 152, 3) := by decide +kernel
theorem dX12_told_4 : decode cX12_told 4 = .ok (.ifCond .ne 5, 3) := by decide +kernel
theorem dX12_told_7 : decode cX12_told 7 = .ok (.iconst (-1), 1) := by decide +kernel
theorem dX12_told_8 : decode cX12_told 8 = .ok (.ireturn, 1) := by decide +kernel
theorem dX12_told_9 : decode cX12_told 9 = .ok (.iload_n 1, 1) := by decide +kernel
theorem dX12_told_10 : decode cX12_told 10 = .ok (.tableswitch 79 0 4 #[34, 39, 52, 68, 74], 34) := by decide +kernel
theorem dX12_told_44 : decode cX12_told 44 = .ok (.aload_n 0, 1) := by decide +kernel
theorem dX12_told_45 : decode cX12_told 45 = .ok (.getfield 244, 3) := by decide +kernel
theorem dX12_told_48 : decode cX12_told 48 = .ok (.ireturn, 1) := by decide +kernel
theorem dX12_told_49 : decode cX12_told 49 = .ok (.aload_n 0, 1) := by decide +kernel
theorem dX12_told_50 : decode cX12_told 50 = .ok (.invokevirtual 284, 3) := by decide +kernel
theorem dX12_told_53 : decode cX12_told 53 = .ok (.ifCond .eq 7, 3) := by decide +kernel
theorem dX12_told_56 : decode cX12_told 56 = .ok (.iconst 1, 1) := by decide +kernel
theorem dX12_told_57 : decode cX12_told 57 = .ok (.goto 4, 3) := by decide +kernel
theorem dX12_told_60 : decode cX12_told 60 = .ok (.iconst 0, 1) := by decide +kernel
theorem dX12_told_61 : decode cX12_told 61 = .ok (.ireturn, 1) := by decide +kernel
theorem dX12_told_62 : decode cX12_told 62 = .ok (.aload_n 0, 1) := by decide +kernel
theorem dX12_told_63 : decode cX12_told 63 = .ok (.invokevirtual 284, 3) := by decide +kernel
theorem dX12_told_66 : decode cX12_told 66 = .ok (.ifCond .eq 10, 3) := by decide +kernel
theorem dX12_told_69 : decode cX12_told 69 = .ok (.aload_n 0, 1) := by decide +kernel
theorem dX12_told_70 : decode cX12_told 70 = .ok (.getfield 237, 3) := by decide +kernel
theorem dX12_told_73 : decode cX12_told 73 = .ok (.goto 4, 3) := by decide +kernel
theorem dX12_told_76 : decode cX12_told 76 = .ok (.iconst (-1), 1) := by decide +kernel
theorem dX12_told_77 : decode cX12_told 77 = .ok (.ireturn, 1) := by decide +kernel
theorem dX12_told_78 : decode cX12_told 78 = .ok (.aload_n 0, 1) := by decide +kernel
theorem dX12_told_79 : decode cX12_told 79 = .ok (.getfield 240, 3) := by decide +kernel
theorem dX12_told_82 : decode cX12_told 82 = .ok (.l2i, 1) := by decide +kernel
theorem dX12_told_83 : decode cX12_told 83 = .ok (.ireturn, 1) := by decide +kernel
theorem dX12_told_84 : decode cX12_told 84 = .ok (.aload_n 0, 1) := by decide +kernel
theorem dX12_told_85 : decode cX12_told 85 = .ok (.getfield 234, 3) := by decide +kernel
theorem dX12_told_88 : decode cX12_told 88 = .ok (.ireturn, 1) := by decide +kernel
theorem dX12_told_89 : decode cX12_told 89 = .ok (.iconst (-1), 1) := by decide +kernel
theorem dX12_told_90 : decode cX12_told 90 = .ok (.ireturn, 1) := by decide +kernel
def mp_X12_told_77 (K : Int32 → sm_S → Prop) (σ : sm_S) (y0 : Int32) : Prop := K y0 σ
def mp_X12_told_61 (K : Int32 → sm_S → Prop) (σ : sm_S) (y0 : Int32) : Prop := K y0 σ
/-- SteadyMachineModel.told(I)I -/
def mp_X12_told (σ : sm_S) (p1 : Int32) (K : Int32 → sm_S → Prop) : Prop := ((¬ (σ.1 17) = 0 → ((p1 = 0 → (K (σ.1 24) σ)) ∧ (p1 = 1 → (False)) ∧ (p1 = 2 → (False)) ∧ (p1 = 3 → (K ((σ.2.1 2).toInt32) σ)) ∧ (p1 = 4 → (K (σ.1 22) σ)) ∧ (¬ p1 = 0 → ¬ p1 = 1 → ¬ p1 = 2 → ¬ p1 = 3 → ¬ p1 = 4 → (K (-1) σ)))) ∧ ((σ.1 17) = 0 → (K (-1) σ)))
def wp_X12_told : List Cond := .code yX12_told cX12_told 2 (some .int) :: ([.fieldLink RX12 152 "SteadyMachineModel" "state" "I", .fieldLink RX12 244 "SteadyMachineModel" "flips" "I", .fieldLink RX12 240 "SteadyMachineModel" "made" "J", .fieldLink RX12 234 "SteadyMachineModel" "limit" "I"] ++ wsX120)
theorem wi_X12_told_X12 : ∀ w ∈ wsX120, w ∈ wp_X12_told := fun w h => List.mem_cons_of_mem _ (List.mem_append_right _ h)
set_option maxHeartbeats 4000000 in
set_option maxRecDepth 100000 in
theorem c_X12_told (l : Launch) (D : va_G) (sz t0 : Nat) (σ : sm_S) (α : sm_A) (p1 : Int32) (K : Int32 → sm_S → Prop) (hF : mp_X12_told σ p1 K) : Met l yX12_told wp_X12_told { frames := 0, cells := 0, slots := 0, locals := 0 } (sm_P sm_wM sm_tM 40 D sz t0 σ α [.ref (α.1 1), .int p1]) (va_Qi K (sm_B sm_wM D α) (sm_a α 40 sz)) 0 0 (sm_a α 40 sz) := by
  refine Met.ofW (cc := cX12_told) (maxL := 2) (ret := (some .int)) (by decide) rfl ?_
  intro p e s m args below meth c s₁ B hml hv
  obtain ⟨rfl, hsz, hP, hK, hD0, hE⟩ := hv
  have hx := B.exec
  have hb := B.bytes
  have hr := B.returns
  have hts := atoms_spec (ws := wp_X12_told) B.pre
  have hown : s.vm.findClass RX12 = some m.cls := findClass_of_methodNamed B.named
  have hlocks := B.notSynchronized
  subst hsz
  have hD : sm_D (sm_a α 40 s.heap.size) α 40 := hD0.own
  have hA : ∀ q : Nat, s.heap.size ≤ q → sm_a α 40 s.heap.size q := fun q h => Or.inr h
  generalize hAe : sm_a α 40 s.heap.size = A at hD hA hE ⊢
  have hS : va_S A s.heap s.heap [] := va_S.rf
  have in_X12 : ∀ w ∈ wsX120, w ∈ wp_X12_told := wi_X12_told_X12
  have k_0 := hts (.fieldLink RX12 152 "SteadyMachineModel" "state" "I") (by decide +kernel)
  have k_1 := hts (.fieldLink RX12 244 "SteadyMachineModel" "flips" "I") (by decide +kernel)
  have k_2 := hts (.fieldLink RX12 240 "SteadyMachineModel" "made" "J") (by decide +kernel)
  have k_3 := hts (.fieldLink RX12 234 "SteadyMachineModel" "limit" "I") (by decide +kernel)
  have hl := lv_entry ([.ref (α.1 1), .int p1]) (n := 2) (Nat.le_of_ble_eq_true rfl)
  rw [lg_entry_eq]
  generalize (lg_sl ([.ref (α.1 1), .int p1]) ++ List.replicate (2 - (lg_sl ([.ref (α.1 1), .int p1])).length) Slot.unset).toArray = ls at hl ⊢
  have hl : lv_has ls 2 [(0, .ref (α.1 1)), (1, .int p1)] := hl
  have B77 : ∀ (σ : sm_S) (y0 : Int32), mp_X12_told_77 K σ y0 → sm_J p l e (headSpec wp_X12_told { frames := 0, cells := 0, slots := 0, locals := 0 }).room s m ([.ref (α.1 1), .int p1] : List Value).toArray below meth c (MQ below (va_Qi K (sm_B sm_wM D α) A) ([.ref (α.1 1), .int p1] : List Value).toArray s 0 0 A) D A 2 (sm_wM σ α) 77 [] [.int y0] := by
    intro σ y0 hF H locs ls hP hS hl
    unfold mp_X12_told_77 at hF
    exact W.iret (v := y0) hx hb hr (fun t ht hW => ⟨⟨y0, σ, rfl, hF, (by unfold sm_B; rw [ht]; exact hP)⟩, hS.F ht⟩) hS.2.2 dX12_told_77
  have B61 : ∀ (σ : sm_S) (y0 : Int32), mp_X12_told_61 K σ y0 → sm_J p l e (headSpec wp_X12_told { frames := 0, cells := 0, slots := 0, locals := 0 }).room s m ([.ref (α.1 1), .int p1] : List Value).toArray below meth c (MQ below (va_Qi K (sm_B sm_wM D α) A) ([.ref (α.1 1), .int p1] : List Value).toArray s 0 0 A) D A 2 (sm_wM σ α) 61 [] [.int y0] := by
    intro σ y0 hF H locs ls hP hS hl
    unfold mp_X12_told_61 at hF
    exact W.iret (v := y0) hx hb hr (fun t ht hW => ⟨⟨y0, σ, rfl, hF, (by unfold sm_B; rw [ht]; exact hP)⟩, hS.F ht⟩) hS.2.2 dX12_told_61
  unfold mp_X12_told at hF
  revert hP hS
  generalize hLo : ([] : List Loc) = locs
  suffices h9 : ∀ (H : Heap) (locs : List Loc), va_P D vwCl (sm_wM σ α) H → va_S A s.heap H locs → W p l e (headSpec wp_X12_told { frames := 0, cells := 0, slots := 0, locals := 0 }).room s m ([.ref (α.1 1), .int p1] : List Value).toArray below meth c H locs 0 0 (MQ below (va_Qi K (sm_B sm_wM D α) A) ([.ref (α.1 1), .int p1] : List Value).toArray s 0 0 A) (F0 m 0 ls []) from fun hP hS => h9 s.heap locs hP hS
  intro H locs hP hS
  refine lv_aload_n hx hb dX12_told_0 rfl (lv_at hl 0 rfl) ?_
  refine va_get (D := D) (ci := 12) (v := .int (σ.1 17)) (C := RX12) (T := TX12) (N := 42) hx hb hts in_X12 hown hK hP 1 (sm_gX12 σ α) rfl 26 (by decide) k_0 (fun _ h9 => h9) rfl dX12_told_1 ?_
  refine lv_if_ne (tgt := 9) hx hb dX12_told_4 (by decide) (fun h1 => ?_) (fun h1 => ?_)
  · replace hF := hF.1 h1
    refine lv_iload_n hx hb dX12_told_9 rfl (lv_at hl 1 rfl) ?_
    by_cases h2 : p1 = 0
    · refine lv_tableIn (tgt := 44) hx hb dX12_told_10 (by rw [h2]; decide) (by rw [h2]; decide) (by rw [h2]; rfl) (by decide) ?_
      replace hF := hF.1 h2
      refine lv_aload_n hx hb dX12_told_44 rfl (lv_at hl 0 rfl) ?_
      refine va_get (D := D) (ci := 12) (v := .int (σ.1 24)) (C := RX12) (T := TX12) (N := 42) hx hb hts in_X12 hown hK hP 1 (sm_gX12 σ α) rfl 38 (by decide) k_1 (fun _ h9 => h9) rfl dX12_told_45 ?_
      exact W.iret (v := (σ.1 24)) hx hb hr (fun t ht hW => ⟨⟨(σ.1 24), σ, rfl, hF, (by unfold sm_B; rw [ht]; exact hP)⟩, hS.F ht⟩) hS.2.2 dX12_told_48
    by_cases h3 : p1 = 1
    · refine lv_tableIn (tgt := 49) hx hb dX12_told_10 (by rw [h3]; decide) (by rw [h3]; decide) (by rw [h3]; rfl) (by decide) ?_
      replace hF := hF.2.1 h3
      refine lv_aload_n hx hb dX12_told_49 rfl (lv_at hl 0 rfl) ?_
      exact hF.elim
    by_cases h4 : p1 = 2
    · refine lv_tableIn (tgt := 62) hx hb dX12_told_10 (by rw [h4]; decide) (by rw [h4]; decide) (by rw [h4]; rfl) (by decide) ?_
      replace hF := hF.2.2.1 h4
      refine lv_aload_n hx hb dX12_told_62 rfl (lv_at hl 0 rfl) ?_
      exact hF.elim
    by_cases h5 : p1 = 3
    · refine lv_tableIn (tgt := 78) hx hb dX12_told_10 (by rw [h5]; decide) (by rw [h5]; decide) (by rw [h5]; rfl) (by decide) ?_
      replace hF := hF.2.2.2.1 h5
      refine lv_aload_n hx hb dX12_told_78 rfl (lv_at hl 0 rfl) ?_
      refine va_get (D := D) (ci := 12) (v := .long (σ.2.1 2)) (C := RX12) (T := TX12) (N := 42) hx hb hts in_X12 hown hK hP 1 (sm_gX12 σ α) rfl 37 (by decide) k_2 (fun _ h9 => h9) rfl dX12_told_79 ?_
      refine lv_l2i hx hb dX12_told_82 rfl ?_
      exact W.iret (v := (σ.2.1 2).toInt32) hx hb hr (fun t ht hW => ⟨⟨(σ.2.1 2).toInt32, σ, rfl, hF, (by unfold sm_B; rw [ht]; exact hP)⟩, hS.F ht⟩) hS.2.2 dX12_told_83
    by_cases h6 : p1 = 4
    · refine lv_tableIn (tgt := 84) hx hb dX12_told_10 (by rw [h6]; decide) (by rw [h6]; decide) (by rw [h6]; rfl) (by decide) ?_
      replace hF := hF.2.2.2.2.1 h6
      refine lv_aload_n hx hb dX12_told_84 rfl (lv_at hl 0 rfl) ?_
      refine va_get (D := D) (ci := 12) (v := .int (σ.1 22)) (C := RX12) (T := TX12) (N := 42) hx hb hts in_X12 hown hK hP 1 (sm_gX12 σ α) rfl 35 (by decide) k_3 (fun _ h9 => h9) rfl dX12_told_85 ?_
      exact W.iret (v := (σ.1 22)) hx hb hr (fun t ht hW => ⟨⟨(σ.1 22), σ, rfl, hF, (by unfold sm_B; rw [ht]; exact hP)⟩, hS.F ht⟩) hS.2.2 dX12_told_88
    refine lv_tableOut (tgt := 89) hx hb dX12_told_10 (by have q0 := lv_neT h2 (show Int32.toInt 0 = 0 by decide); have q1 := lv_neT h3 (show Int32.toInt 1 = 1 by decide); have q2 := lv_neT h4 (show Int32.toInt 2 = 2 by decide); have q3 := lv_neT h5 (show Int32.toInt 3 = 3 by decide); have q4 := lv_neT h6 (show Int32.toInt 4 = 4 by decide); omega) (by decide) ?_
    replace hF := hF.2.2.2.2.2 h2 h3 h4 h5 h6
    refine lv_iconst (v := -1) hx hb dX12_told_89 (by decide) ?_
    exact W.iret (v := (-1)) hx hb hr (fun t ht hW => ⟨⟨(-1), σ, rfl, hF, (by unfold sm_B; rw [ht]; exact hP)⟩, hS.F ht⟩) hS.2.2 dX12_told_90
  · replace hF := hF.2 h1
    refine lv_iconst (v := -1) hx hb dX12_told_7 (by decide) ?_
    exact W.iret (v := (-1)) hx hb hr (fun t ht hW => ⟨⟨(-1), σ, rfl, hF, (by unfold sm_B; rw [ht]; exact hP)⟩, hS.F ht⟩) hS.2.2 dX12_told_8
theorem dX12_steady_0 : decode cX12_steady 0 = .ok (.iconst 1, 1) := by decide +kernel
theorem dX12_steady_1 : decode cX12_steady 1 = .ok (.ireturn, 1) := by decide +kernel
/-- SteadyMachineModel.steady()Z -/
def mp_X12_steady (σ : sm_S)  (K : Int32 → sm_S → Prop) : Prop := K 1 σ
def wp_X12_steady : List Cond := .code yX12_steady cX12_steady 1 (some .boolean) :: []
set_option maxHeartbeats 4000000 in
set_option maxRecDepth 100000 in
theorem c_X12_steady (l : Launch) (D : va_G) (sz t0 : Nat) (σ : sm_S) (α : sm_A) (K : Int32 → sm_S → Prop) (hF : mp_X12_steady σ K) : Met l yX12_steady wp_X12_steady { frames := 0, cells := 0, slots := 0, locals := 0 } (sm_P sm_wM sm_tM 40 D sz t0 σ α [.ref (α.1 1)]) (va_Qi K (sm_B sm_wM D α) (sm_a α 40 sz)) 0 0 (sm_a α 40 sz) := by
  refine Met.ofW (cc := cX12_steady) (maxL := 1) (ret := (some .boolean)) (by decide) rfl ?_
  intro p e s m args below meth c s₁ B hml hv
  obtain ⟨rfl, hsz, hP, hK, hD0, hE⟩ := hv
  have hx := B.exec
  have hb := B.bytes
  have hr := B.returns
  have hts := atoms_spec (ws := wp_X12_steady) B.pre
  have hown : s.vm.findClass RX12 = some m.cls := findClass_of_methodNamed B.named
  have hlocks := B.notSynchronized
  subst hsz
  have hD : sm_D (sm_a α 40 s.heap.size) α 40 := hD0.own
  have hA : ∀ q : Nat, s.heap.size ≤ q → sm_a α 40 s.heap.size q := fun q h => Or.inr h
  generalize hAe : sm_a α 40 s.heap.size = A at hD hA hE ⊢
  have hS : va_S A s.heap s.heap [] := va_S.rf
  have hl := lv_entry ([.ref (α.1 1)]) (n := 1) (Nat.le_of_ble_eq_true rfl)
  rw [lg_entry_eq]
  generalize (lg_sl ([.ref (α.1 1)]) ++ List.replicate (1 - (lg_sl ([.ref (α.1 1)])).length) Slot.unset).toArray = ls at hl ⊢
  have hl : lv_has ls 1 [(0, .ref (α.1 1))] := hl
  unfold mp_X12_steady at hF
  revert hP hS
  generalize hLo : ([] : List Loc) = locs
  suffices h9 : ∀ (H : Heap) (locs : List Loc), va_P D vwCl (sm_wM σ α) H → va_S A s.heap H locs → W p l e (headSpec wp_X12_steady { frames := 0, cells := 0, slots := 0, locals := 0 }).room s m ([.ref (α.1 1)] : List Value).toArray below meth c H locs 0 0 (MQ below (va_Qi K (sm_B sm_wM D α) A) ([.ref (α.1 1)] : List Value).toArray s 0 0 A) (F0 m 0 ls []) from fun hP hS => h9 s.heap locs hP hS
  intro H locs hP hS
  refine lv_iconst (v := 1) hx hb dX12_steady_0 (by decide) ?_
  exact W.zret (v := 1) hx hb hr sm_z1.1 (fun t ht hW => ⟨⟨1, σ, rfl, hF, (by unfold sm_B; rw [ht]; exact hP)⟩, hS.F ht⟩) hS.2.2 dX12_steady_1
