theorem dX7_slot_0 : decode cX7_slot 0 = .ok (.aload_n 0, 1) := by decide +kernel
theorem dX7_slot_1 : decode cX7_slot 1 = .ok (.getfield 27, 3) := by decide +kernel
theorem dX7_slot_4 : decode cX7_slot 4 = .ok (.getfield 107, 3) := by decide +kernel
theorem dX7_slot_7 : decode cX7_slot 7 = .ok (.iconst 4, 1) := by decide +kernel
theorem dX7_slot_8 : decode cX7_slot 8 = .ok (.iadd, 1) := by decide +kernel
theorem dX7_slot_9 : decode cX7_slot 9 = .ok (.aload_n 0, 1) := by decide +kernel
theorem dX7_slot_10 : decode cX7_slot 10 = .ok (.getfield 26, 3) := by decide +kernel
theorem dX7_slot_13 : decode cX7_slot 13 = .ok (.getfield 133, 3) := by decide +kernel
theorem dX7_slot_16 : decode cX7_slot 16 = .ok (.aload_n 0, 1) := by decide +kernel
theorem dX7_slot_17 : decode cX7_slot 17 = .ok (.getfield 124, 3) := by decide +kernel
theorem dX7_slot_20 : decode cX7_slot 20 = .ok (.iaload, 1) := by decide +kernel
theorem dX7_slot_21 : decode cX7_slot 21 = .ok (.iadd, 1) := by decide +kernel
theorem dX7_slot_22 : decode cX7_slot 22 = .ok (.iload_n 1, 1) := by decide +kernel
theorem dX7_slot_23 : decode cX7_slot 23 = .ok (.iadd, 1) := by decide +kernel
theorem dX7_slot_24 : decode cX7_slot 24 = .ok (.ireturn, 1) := by decide +kernel
def wp_X7_slot : List Cond := .code yX7_slot cX7_slot 2 (some .int) :: ((([.fieldLink RX7 27 "SteadyMachine$Runner" "heap" "LSteadyMachine$Heap;", .fieldLink RX7 107 "SteadyMachine$Heap" "top" "I", .fieldLink RX7 26 "SteadyMachine$Runner" "methods" "LSteadyMachine$Methods;", .fieldLink RX7 133 "SteadyMachine$Methods" "locals" "[I", .fieldLink RX7 124 "SteadyMachine$Runner" "method" "I"] ++ wsX10) ++ wsX40) ++ wsX70)
theorem wq_X7_slot : wp_X7_slot.all goodWord = true := wa_c rfl (wa_a (wa_a (wa_a (by decide +kernel) uq_X1) uq_X4) uq_X7)
theorem wt_X7_slot : GoodIn lw_tbl wp_X7_slot := wm_c (List.mem_of_getElem? (i := 935) (by decide +kernel)) rfl (wm_a (wm_a (wm_a (goodIn_r _ [515, 463, 514, 241, 523] (by decide +kernel) (by decide +kernel)) ut_X1) ut_X4) ut_X7)
theorem wi_X7_slot_X1 : ∀ w ∈ wsX10, w ∈ wp_X7_slot := fun w h => List.mem_cons_of_mem _ (List.mem_append_left _ (List.mem_append_left _ (List.mem_append_right _ h)))
theorem wi_X7_slot_X4 : ∀ w ∈ wsX40, w ∈ wp_X7_slot := fun w h => List.mem_cons_of_mem _ (List.mem_append_left _ (List.mem_append_right _ h))
theorem wi_X7_slot_X7 : ∀ w ∈ wsX70, w ∈ wp_X7_slot := fun w h => List.mem_cons_of_mem _ (List.mem_append_right _ h)
set_option maxHeartbeats 4000000 in
set_option maxRecDepth 100000 in
theorem c_X7_slot (l : Launch) (D : va_G) (sz t0 : Nat) (σ : sm_S) (α : sm_A) (p1 : Int32) (K : Int32 → sm_S → Prop) (hF : mp_X7_slot σ p1 K) : Met l yX7_slot wp_X7_slot { frames := 0, cells := 0, slots := 0, locals := 0 } (sm_P sm_wX sm_tX 37 D sz t0 σ α [.ref (α.1 7), .int p1]) (va_Qi K (sm_B sm_wX D α) (sm_a α 37 sz)) 0 0 (sm_a α 37 sz) := by
  refine Met.ofW (cc := cX7_slot) (maxL := 2) (ret := (some .int)) (by decide) rfl ?_
  intro p e s m args below meth c s₁ B hml hv
  obtain ⟨rfl, hsz, hP, hK, hD0, hE⟩ := hv
  have hx := B.exec
  have hb := B.bytes
  have hr := B.returns
  have hts := atoms_spec (ws := wp_X7_slot) B.pre
  have hown : s.vm.findClass RX7 = some m.cls := findClass_of_methodNamed B.named
  have hlocks := B.notSynchronized
  subst hsz
  have hD : sm_D (sm_a α 37 s.heap.size) α 37 := hD0.own
  have hA : ∀ q : Nat, s.heap.size ≤ q → sm_a α 37 s.heap.size q := fun q h => Or.inr h
  generalize hAe : sm_a α 37 s.heap.size = A at hD hA hE ⊢
  have hS : va_S A s.heap s.heap [] := va_S.rf
  have in_X1 : ∀ w ∈ wsX10, w ∈ wp_X7_slot := wi_X7_slot_X1
  have in_X4 : ∀ w ∈ wsX40, w ∈ wp_X7_slot := wi_X7_slot_X4
  have in_X7 : ∀ w ∈ wsX70, w ∈ wp_X7_slot := wi_X7_slot_X7
  have k_0 := hts (.fieldLink RX7 27 "SteadyMachine$Runner" "heap" "LSteadyMachine$Heap;") (by decide +kernel)
  have k_1 := hts (.fieldLink RX7 107 "SteadyMachine$Heap" "top" "I") (by decide +kernel)
  have k_2 := hts (.fieldLink RX7 26 "SteadyMachine$Runner" "methods" "LSteadyMachine$Methods;") (by decide +kernel)
  have k_3 := hts (.fieldLink RX7 133 "SteadyMachine$Methods" "locals" "[I") (by decide +kernel)
  have k_4 := hts (.fieldLink RX7 124 "SteadyMachine$Runner" "method" "I") (by decide +kernel)
  have hl := lv_entry ([.ref (α.1 7), .int p1]) (n := 2) (Nat.le_of_ble_eq_true rfl)
  rw [lg_entry_eq]
  generalize (lg_sl ([.ref (α.1 7), .int p1]) ++ List.replicate (2 - (lg_sl ([.ref (α.1 7), .int p1])).length) Slot.unset).toArray = ls at hl ⊢
  have hl : lv_has ls 2 [(0, .ref (α.1 7)), (1, .int p1)] := hl
  unfold mp_X7_slot at hF
  revert hP hS
  generalize hLo : ([] : List Loc) = locs
  suffices h9 : ∀ (H : Heap) (locs : List Loc), va_P D vwCl (sm_wX σ α) H → va_S A s.heap H locs → W p l e (headSpec wp_X7_slot { frames := 0, cells := 0, slots := 0, locals := 0 }).room s m ([.ref (α.1 7), .int p1] : List Value).toArray below meth c H locs 0 0 (MQ below (va_Qi K (sm_B sm_wX D α) A) ([.ref (α.1 7), .int p1] : List Value).toArray s 0 0 A) (F0 m 0 ls []) from fun hP hS => h9 s.heap locs hP hS
  intro H locs hP hS
  refine lv_aload_n hx hb dX7_slot_0 rfl (lv_at hl 0 rfl) ?_
  refine va_get (D := D) (ci := 7) (v := .ref (α.1 1)) (C := RX7) (T := TX7) (N := 13) hx hb hts in_X7 hown hK hP 7 (sm_gX7 σ α) rfl 3 (by decide) k_0 (fun _ h9 => h9) rfl dX7_slot_1 ?_
  refine va_get (D := D) (ci := 1) (v := .int (σ.1 10)) (C := RX1) (T := TX1) (N := 16) hx hb hts in_X1 hown hK hP 1 (sm_gX1 σ α) rfl 12 (by decide) k_1 (fun _ h9 => h9) rfl dX7_slot_4 ?_
  refine lv_iconst (v := 4) hx hb dX7_slot_7 (by decide) ?_
  refine lv_iadd hx hb dX7_slot_8 ?_
  refine lv_aload_n hx hb dX7_slot_9 rfl (lv_at hl 0 rfl) ?_
  refine va_get (D := D) (ci := 7) (v := .ref (α.1 4)) (C := RX7) (T := TX7) (N := 13) hx hb hts in_X7 hown hK hP 7 (sm_gX7 σ α) rfl 2 (by decide) k_2 (fun _ h9 => h9) rfl dX7_slot_10 ?_
  refine va_get (D := D) (ci := 4) (v := .ref (α.1 24)) (C := RX4) (T := TX4) (N := 12) hx hb hts in_X4 hown hK hP 4 (sm_gX4 σ α) rfl 6 (by decide) k_3 (fun _ h9 => h9) rfl dX7_slot_13 ?_
  refine lv_aload_n hx hb dX7_slot_16 rfl (lv_at hl 0 rfl) ?_
  refine va_get (D := D) (ci := 7) (v := .int (σ.1 24)) (C := RX7) (T := TX7) (N := 13) hx hb hts in_X7 hown hK hP 7 (sm_gX7 σ α) rfl 8 (by decide) k_4 (fun _ h9 => h9) rfl dX7_slot_17 ?_
  obtain ⟨h1, hF⟩ := hF
  refine va_iald (n := (σ.2.2.1 24)) (f := (σ.2.2.2.1 24)) hx hb hK hP 24 13 (sm_aX24 σ α) (sm_yX24 α) h1 dX7_slot_20 ?_
  refine lv_iadd hx hb dX7_slot_21 ?_
  refine lv_iload_n hx hb dX7_slot_22 rfl (lv_at hl 1 rfl) ?_
  refine lv_iadd hx hb dX7_slot_23 ?_
  exact W.iret (v := ((((σ.1 10) + 4) + ((σ.2.2.2.1 24) (σ.1 24).toNatClampNeg)) + p1)) hx hb hr (fun t ht hW => ⟨⟨((((σ.1 10) + 4) + ((σ.2.2.2.1 24) (σ.1 24).toNatClampNeg)) + p1), σ, rfl, hF, (by unfold sm_B; rw [ht]; exact hP)⟩, hS.F ht⟩) hS.2.2 dX7_slot_24
theorem dX7_enter_0 : decode cX7_enter 0 = .ok (.aload_n 0, 1) := by decide +kernel
theorem dX7_enter_1 : decode cX7_enter 1 = .ok (.getfield 27, 3) := by decide +kernel
theorem dX7_enter_4 : decode cX7_enter 4 = .ok (.bipush 16, 2) := by decide +kernel
theorem dX7_enter_6 : decode cX7_enter 6 = .ok (.invokevirtual 200, 3) := by decide +kernel
theorem dX7_enter_9 : decode cX7_enter 9 = .ok (.istore_n 2, 1) := by decide +kernel
theorem dX7_enter_10 : decode cX7_enter 10 = .ok (.iload_n 2, 1) := by decide +kernel
theorem dX7_enter_11 : decode cX7_enter 11 = .ok (.ifCond .ne 6, 3) := by decide +kernel
theorem dX7_enter_14 : decode cX7_enter 14 = .ok (.bipush (-3), 2) := by decide +kernel
theorem dX7_enter_16 : decode cX7_enter 16 = .ok (.ireturn, 1) := by decide +kernel
theorem dX7_enter_17 : decode cX7_enter 17 = .ok (.aload_n 0, 1) := by decide +kernel
theorem dX7_enter_18 : decode cX7_enter 18 = .ok (.getfield 46, 3) := by decide +kernel
theorem dX7_enter_21 : decode cX7_enter 21 = .ok (.aload_n 0, 1) := by decide +kernel
theorem dX7_enter_22 : decode cX7_enter 22 = .ok (.getfield 26, 3) := by decide +kernel
theorem dX7_enter_25 : decode cX7_enter 25 = .ok (.getfield 240, 3) := by decide +kernel
theorem dX7_enter_28 : decode cX7_enter 28 = .ok (.iload_n 1, 1) := by decide +kernel
theorem dX7_enter_29 : decode cX7_enter 29 = .ok (.iaload, 1) := by decide +kernel
theorem dX7_enter_30 : decode cX7_enter 30 = .ok (.isub, 1) := by decide +kernel
theorem dX7_enter_31 : decode cX7_enter 31 = .ok (.istore_n 3, 1) := by decide +kernel
theorem dX7_enter_32 : decode cX7_enter 32 = .ok (.aload_n 0, 1) := by decide +kernel
theorem dX7_enter_33 : decode cX7_enter 33 = .ok (.getfield 27, 3) := by decide +kernel
theorem dX7_enter_36 : decode cX7_enter 36 = .ok (.iload_n 2, 1) := by decide +kernel
theorem dX7_enter_37 : decode cX7_enter 37 = .ok (.iconst 5, 1) := by decide +kernel
theorem dX7_enter_38 : decode cX7_enter 38 = .ok (.iload_n 1, 1) := by decide +kernel
theorem dX7_enter_39 : decode cX7_enter 39 = .ok (.invokestatic 139, 3) := by decide +kernel
theorem dX7_enter_42 : decode cX7_enter 42 = .ok (.invokevirtual 110, 3) := by decide +kernel
theorem dX7_enter_45 : decode cX7_enter 45 = .ok (.aload_n 0, 1) := by decide +kernel
theorem dX7_enter_46 : decode cX7_enter 46 = .ok (.getfield 27, 3) := by decide +kernel
theorem dX7_enter_49 : decode cX7_enter 49 = .ok (.iload_n 2, 1) := by decide +kernel
theorem dX7_enter_50 : decode cX7_enter 50 = .ok (.iconst 1, 1) := by decide +kernel
theorem dX7_enter_51 : decode cX7_enter 51 = .ok (.iadd, 1) := by decide +kernel
theorem dX7_enter_52 : decode cX7_enter 52 = .ok (.lconst 0, 1) := by decide +kernel
theorem dX7_enter_53 : decode cX7_enter 53 = .ok (.invokevirtual 110, 3) := by decide +kernel
theorem dX7_enter_56 : decode cX7_enter 56 = .ok (.aload_n 0, 1) := by decide +kernel
theorem dX7_enter_57 : decode cX7_enter 57 = .ok (.getfield 27, 3) := by decide +kernel
theorem dX7_enter_60 : decode cX7_enter 60 = .ok (.iload_n 2, 1) := by decide +kernel
theorem dX7_enter_61 : decode cX7_enter 61 = .ok (.iconst 2, 1) := by decide +kernel
theorem dX7_enter_62 : decode cX7_enter 62 = .ok (.iadd, 1) := by decide +kernel
theorem dX7_enter_63 : decode cX7_enter 63 = .ok (.lconst 0, 1) := by decide +kernel
theorem dX7_enter_64 : decode cX7_enter 64 = .ok (.invokevirtual 110, 3) := by decide +kernel
theorem dX7_enter_67 : decode cX7_enter 67 = .ok (.aload_n 0, 1) := by decide +kernel
theorem dX7_enter_68 : decode cX7_enter 68 = .ok (.getfield 27, 3) := by decide +kernel
theorem dX7_enter_71 : decode cX7_enter 71 = .ok (.iload_n 2, 1) := by decide +kernel
theorem dX7_enter_72 : decode cX7_enter 72 = .ok (.iconst 3, 1) := by decide +kernel
theorem dX7_enter_73 : decode cX7_enter 73 = .ok (.iadd, 1) := by decide +kernel
theorem dX7_enter_74 : decode cX7_enter 74 = .ok (.iconst 1, 1) := by decide +kernel
theorem dX7_enter_75 : decode cX7_enter 75 = .ok (.aload_n 0, 1) := by decide +kernel
theorem dX7_enter_76 : decode cX7_enter 76 = .ok (.getfield 27, 3) := by decide +kernel
theorem dX7_enter_79 : decode cX7_enter 79 = .ok (.getfield 107, 3) := by decide +kernel
theorem dX7_enter_82 : decode cX7_enter 82 = .ok (.invokestatic 139, 3) := by decide +kernel
theorem dX7_enter_85 : decode cX7_enter 85 = .ok (.invokevirtual 110, 3) := by decide +kernel
theorem dX7_enter_88 : decode cX7_enter 88 = .ok (.iconst 0, 1) := by decide +kernel
theorem dX7_enter_89 : decode cX7_enter 89 = .ok (.istore 4, 2) := by decide +kernel
theorem dX7_enter_91 : decode cX7_enter 91 = .ok (.iload 4, 2) := by decide +kernel
theorem dX7_enter_93 : decode cX7_enter 93 = .ok (.bipush 12, 2) := by decide +kernel
theorem dX7_enter_95 : decode cX7_enter 95 = .ok (.if_icmp .ge 55, 3) := by decide +kernel
theorem dX7_enter_98 : decode cX7_enter 98 = .ok (.aload_n 0, 1) := by decide +kernel
theorem dX7_enter_99 : decode cX7_enter 99 = .ok (.getfield 27, 3) := by decide +kernel
theorem dX7_enter_102 : decode cX7_enter 102 = .ok (.iload_n 2, 1) := by decide +kernel
theorem dX7_enter_103 : decode cX7_enter 103 = .ok (.iconst 4, 1) := by decide +kernel
theorem dX7_enter_104 : decode cX7_enter 104 = .ok (.iadd, 1) := by decide +kernel
theorem dX7_enter_105 : decode cX7_enter 105 = .ok (.iload 4, 2) := by decide +kernel
theorem dX7_enter_107 : decode cX7_enter 107 = .ok (.iadd, 1) := by decide +kernel
theorem dX7_enter_108 : decode cX7_enter 108 = .ok (.iload 4, 2) := by decide +kernel
theorem dX7_enter_110 : decode cX7_enter 110 = .ok (.aload_n 0, 1) := by decide +kernel
theorem dX7_enter_111 : decode cX7_enter 111 = .ok (.getfield 26, 3) := by decide +kernel
theorem dX7_enter_114 : decode cX7_enter 114 = .ok (.getfield 240, 3) := by decide +kernel
theorem dX7_enter_117 : decode cX7_enter 117 = .ok (.iload_n 1, 1) := by decide +kernel
theorem dX7_enter_118 : decode cX7_enter 118 = .ok (.iaload, 1) := by decide +kernel
theorem dX7_enter_119 : decode cX7_enter 119 = .ok (.if_icmp .ge 21, 3) := by decide +kernel
theorem dX7_enter_122 : decode cX7_enter 122 = .ok (.aload_n 0, 1) := by decide +kernel
theorem dX7_enter_123 : decode cX7_enter 123 = .ok (.getfield 27, 3) := by decide +kernel
theorem dX7_enter_126 : decode cX7_enter 126 = .ok (.aload_n 0, 1) := by decide +kernel
theorem dX7_enter_127 : decode cX7_enter 127 = .ok (.iload_n 3, 1) := by decide +kernel
theorem dX7_enter_128 : decode cX7_enter 128 = .ok (.iload 4, 2) := by decide +kernel
theorem dX7_enter_130 : decode cX7_enter 130 = .ok (.iadd, 1) := by decide +kernel
theorem dX7_enter_131 : decode cX7_enter 131 = .ok (.invokevirtual 136, 3) := by decide +kernel
theorem dX7_enter_134 : decode cX7_enter 134 = .ok (.invokevirtual 120, 3) := by decide +kernel
theorem dX7_enter_137 : decode cX7_enter 137 = .ok (.goto 4, 3) := by decide +kernel
theorem dX7_enter_140 : decode cX7_enter 140 = .ok (.lconst 0, 1) := by decide +kernel
theorem dX7_enter_141 : decode cX7_enter 141 = .ok (.invokevirtual 110, 3) := by decide +kernel
theorem dX7_enter_144 : decode cX7_enter 144 = .ok (.iinc 4 1, 3) := by decide +kernel
theorem dX7_enter_147 : decode cX7_enter 147 = .ok (.goto (-56), 3) := by decide +kernel
theorem dX7_enter_150 : decode cX7_enter 150 = .ok (.aload_n 0, 1) := by decide +kernel
theorem dX7_enter_151 : decode cX7_enter 151 = .ok (.getfield 27, 3) := by decide +kernel
theorem dX7_enter_154 : decode cX7_enter 154 = .ok (.getfield 107, 3) := by decide +kernel
theorem dX7_enter_157 : decode cX7_enter 157 = .ok (.ifCond .eq 21, 3) := by decide +kernel
theorem dX7_enter_160 : decode cX7_enter 160 = .ok (.aload_n 0, 1) := by decide +kernel
theorem dX7_enter_161 : decode cX7_enter 161 = .ok (.getfield 27, 3) := by decide +kernel
theorem dX7_enter_164 : decode cX7_enter 164 = .ok (.aload_n 0, 1) := by decide +kernel
theorem dX7_enter_165 : decode cX7_enter 165 = .ok (.getfield 27, 3) := by decide +kernel
theorem dX7_enter_168 : decode cX7_enter 168 = .ok (.getfield 107, 3) := by decide +kernel
theorem dX7_enter_171 : decode cX7_enter 171 = .ok (.iconst 2, 1) := by decide +kernel
theorem dX7_enter_172 : decode cX7_enter 172 = .ok (.iadd, 1) := by decide +kernel
theorem dX7_enter_173 : decode cX7_enter 173 = .ok (.iload_n 3, 1) := by decide +kernel
theorem dX7_enter_174 : decode cX7_enter 174 = .ok (.i2l, 1) := by decide +kernel
theorem dX7_enter_175 : decode cX7_enter 175 = .ok (.invokevirtual 110, 3) := by decide +kernel
theorem dX7_enter_178 : decode cX7_enter 178 = .ok (.aload_n 0, 1) := by decide +kernel
theorem dX7_enter_179 : decode cX7_enter 179 = .ok (.getfield 27, 3) := by decide +kernel
theorem dX7_enter_182 : decode cX7_enter 182 = .ok (.iload_n 2, 1) := by decide +kernel
theorem dX7_enter_183 : decode cX7_enter 183 = .ok (.putfield 107, 3) := by decide +kernel
theorem dX7_enter_186 : decode cX7_enter 186 = .ok (.aload_n 0, 1) := by decide +kernel
theorem dX7_enter_187 : decode cX7_enter 187 = .ok (.dup, 1) := by decide +kernel
theorem dX7_enter_188 : decode cX7_enter 188 = .ok (.getfield 39, 3) := by decide +kernel
theorem dX7_enter_191 : decode cX7_enter 191 = .ok (.iconst 1, 1) := by decide +kernel
theorem dX7_enter_192 : decode cX7_enter 192 = .ok (.iadd, 1) := by decide +kernel
theorem dX7_enter_193 : decode cX7_enter 193 = .ok (.putfield 39, 3) := by decide +kernel
theorem dX7_enter_196 : decode cX7_enter 196 = .ok (.bipush (-2), 2) := by decide +kernel
theorem dX7_enter_198 : decode cX7_enter 198 = .ok (.ireturn, 1) := by decide +kernel
def wp_X7_enter : List Cond := .code yX7_enter cX7_enter 5 (some .int) :: (((((((([.fieldLink RX7 27 "SteadyMachine$Runner" "heap" "LSteadyMachine$Heap;", .fieldLink RX7 107 "SteadyMachine$Heap" "top" "I", .fieldLink RX7 39 "SteadyMachine$Runner" "frames" "I", .fieldLink RX7 26 "SteadyMachine$Runner" "methods" "LSteadyMachine$Methods;", .fieldLink RX7 240 "SteadyMachine$Methods" "params" "[I", .fieldLink RX7 46 "SteadyMachine$Runner" "height" "I"] ++ (wsV RX7 110 RX1 yX1_put wp_X1_put)) ++ (wsV RX7 136 RX7 yX7_slot wp_X7_slot)) ++ (wsV RX7 120 RX1 yX1_look wp_X1_look)) ++ (wsV RX7 200 RX1 yX1_make wp_X1_make)) ++ (va_wsS RX7 139 yX1_cell wp_X1_cell)) ++ wsX10) ++ wsX40) ++ wsX70)
theorem wq_X7_enter : wp_X7_enter.all goodWord = true := wa_c rfl (wa_a (wa_a (wa_a (wa_a (wa_a (wa_a (wa_a (wa_a (by decide +kernel) (wa_V wq_X1_put)) (wa_V wq_X7_slot)) (wa_V wq_X1_look)) (wa_V wq_X1_make)) (wa_S wq_X1_cell)) uq_X1) uq_X4) uq_X7)
theorem wt_X7_enter : GoodIn lw_tbl wp_X7_enter := wm_c (List.mem_of_getElem? (i := 884) (by decide +kernel)) rfl (wm_a (wm_a (wm_a (wm_a (wm_a (wm_a (wm_a (wm_a (goodIn_r _ [515, 463, 519, 514, 232, 526] (by decide +kernel) (by decide +kernel)) (wm_a (goodIn_r _ [931, 923, 924, 144] (by decide +kernel) (by decide +kernel)) wt_X1_put)) (wm_a (goodIn_r _ [932, 934, 40, 145] (by decide +kernel) (by decide +kernel)) wt_X7_slot)) (wm_a (goodIn_r _ [936, 911, 912, 144] (by decide +kernel) (by decide +kernel)) wt_X1_look)) (wm_a (goodIn_r _ [885, 886, 887, 144] (by decide +kernel) (by decide +kernel)) wt_X1_make)) (wm_a (goodIn_r _ [930, 919, 144] (by decide +kernel) (by decide +kernel)) wt_X1_cell)) ut_X1) ut_X4) ut_X7)
theorem wg_X7_enter_X1_put_110 : GoodIn wp_X7_enter (wsV RX7 110 RX1 yX1_put wp_X1_put) := goodIn_sub (fun w h => List.mem_cons_of_mem _ (List.mem_append_left _ (List.mem_append_left _ (List.mem_append_left _ (List.mem_append_left _ (List.mem_append_left _ (List.mem_append_left _ (List.mem_append_left _ (List.mem_append_right _ h))))))))) (wa_V wq_X1_put)
theorem wg_X7_enter_X7_slot_136 : GoodIn wp_X7_enter (wsV RX7 136 RX7 yX7_slot wp_X7_slot) := goodIn_sub (fun w h => List.mem_cons_of_mem _ (List.mem_append_left _ (List.mem_append_left _ (List.mem_append_left _ (List.mem_append_left _ (List.mem_append_left _ (List.mem_append_left _ (List.mem_append_right _ h)))))))) (wa_V wq_X7_slot)
theorem wg_X7_enter_X1_look_120 : GoodIn wp_X7_enter (wsV RX7 120 RX1 yX1_look wp_X1_look) := goodIn_sub (fun w h => List.mem_cons_of_mem _ (List.mem_append_left _ (List.mem_append_left _ (List.mem_append_left _ (List.mem_append_left _ (List.mem_append_left _ (List.mem_append_right _ h))))))) (wa_V wq_X1_look)
theorem wg_X7_enter_X1_make_200 : GoodIn wp_X7_enter (wsV RX7 200 RX1 yX1_make wp_X1_make) := goodIn_sub (fun w h => List.mem_cons_of_mem _ (List.mem_append_left _ (List.mem_append_left _ (List.mem_append_left _ (List.mem_append_left _ (List.mem_append_right _ h)))))) (wa_V wq_X1_make)
theorem wg_X7_enter_X1_cell_139 : GoodIn wp_X7_enter (va_wsS RX7 139 yX1_cell wp_X1_cell) := goodIn_sub (fun w h => List.mem_cons_of_mem _ (List.mem_append_left _ (List.mem_append_left _ (List.mem_append_left _ (List.mem_append_right _ h))))) (wa_S wq_X1_cell)
theorem wi_X7_enter_X1 : ∀ w ∈ wsX10, w ∈ wp_X7_enter := fun w h => List.mem_cons_of_mem _ (List.mem_append_left _ (List.mem_append_left _ (List.mem_append_right _ h)))
theorem wi_X7_enter_X4 : ∀ w ∈ wsX40, w ∈ wp_X7_enter := fun w h => List.mem_cons_of_mem _ (List.mem_append_left _ (List.mem_append_right _ h))
theorem wi_X7_enter_X7 : ∀ w ∈ wsX70, w ∈ wp_X7_enter := fun w h => List.mem_cons_of_mem _ (List.mem_append_right _ h)
set_option maxHeartbeats 4000000 in
set_option maxRecDepth 100000 in
theorem c_X7_enter (l : Launch) (D : va_G) (sz t0 : Nat) (σ : sm_S) (α : sm_A) (p1 : Int32) (K : Int32 → sm_S → Prop) (hF : mp_X7_enter σ p1 K) : Met l yX7_enter wp_X7_enter { frames := 4, cells := 0, slots := 0, locals := 93 } (sm_P sm_wX sm_tX 37 D sz t0 σ α [.ref (α.1 7), .int p1]) (va_Qi K (sm_B sm_wX D α) (sm_a α 37 sz)) 0 0 (sm_a α 37 sz) := by
  refine Met.ofW (cc := cX7_enter) (maxL := 5) (ret := (some .int)) (by decide) rfl ?_
  intro p e s m args below meth c s₁ B hml hv
  obtain ⟨rfl, hsz, hP, hK, hD0, hE⟩ := hv
  have hx := B.exec
  have hb := B.bytes
  have hr := B.returns
  have hts := atoms_spec (ws := wp_X7_enter) B.pre
  have hown : s.vm.findClass RX7 = some m.cls := findClass_of_methodNamed B.named
  have hlocks := B.notSynchronized
  subst hsz
  have hD : sm_D (sm_a α 37 s.heap.size) α 37 := hD0.own
  have hA : ∀ q : Nat, s.heap.size ≤ q → sm_a α 37 s.heap.size q := fun q h => Or.inr h
  generalize hAe : sm_a α 37 s.heap.size = A at hD hA hE ⊢
  have hS : va_S A s.heap s.heap [] := va_S.rf
  have in_X1 : ∀ w ∈ wsX10, w ∈ wp_X7_enter := wi_X7_enter_X1
  have in_X4 : ∀ w ∈ wsX40, w ∈ wp_X7_enter := wi_X7_enter_X4
  have in_X7 : ∀ w ∈ wsX70, w ∈ wp_X7_enter := wi_X7_enter_X7
  have k_0 := hts (.fieldLink RX7 27 "SteadyMachine$Runner" "heap" "LSteadyMachine$Heap;") (by decide +kernel)
  have k_1 := hts (.fieldLink RX7 107 "SteadyMachine$Heap" "top" "I") (by decide +kernel)
  have k_2 := hts (.fieldLink RX7 39 "SteadyMachine$Runner" "frames" "I") (by decide +kernel)
  have k_3 := hts (.fieldLink RX7 26 "SteadyMachine$Runner" "methods" "LSteadyMachine$Methods;") (by decide +kernel)
  have k_4 := hts (.fieldLink RX7 240 "SteadyMachine$Methods" "params" "[I") (by decide +kernel)
  have k_5 := hts (.fieldLink RX7 46 "SteadyMachine$Runner" "height" "I") (by decide +kernel)
  have hl := lv_entry ([.ref (α.1 7), .int p1]) (n := 5) (Nat.le_of_ble_eq_true rfl)
  rw [lg_entry_eq]
  generalize (lg_sl ([.ref (α.1 7), .int p1]) ++ List.replicate (5 - (lg_sl ([.ref (α.1 7), .int p1])).length) Slot.unset).toArray = ls at hl ⊢
  have hl : lv_has ls 5 [(0, .ref (α.1 7)), (1, .int p1)] := hl
  have B178 : ∀ (σ : sm_S) (x2 : Int32), mp_X7_enter_178 K σ x2 → sm_J p l e (headSpec wp_X7_enter { frames := 4, cells := 0, slots := 0, locals := 93 }).room s m ([.ref (α.1 7), .int p1] : List Value).toArray below meth c (MQ below (va_Qi K (sm_B sm_wX D α) A) ([.ref (α.1 7), .int p1] : List Value).toArray s 0 0 A) D A 5 (sm_wX σ α) 178 [(0, .ref (α.1 7)), (2, .int x2)] [] := by
    intro σ x2 hF H locs ls hP hS hl
    unfold mp_X7_enter_178 at hF
    refine lv_aload_n hx hb dX7_enter_178 rfl (lv_at hl 0 rfl) ?_
    refine va_get (D := D) (ci := 7) (v := .ref (α.1 1)) (C := RX7) (T := TX7) (N := 13) hx hb hts in_X7 hown hK hP 7 (sm_gX7 σ α) rfl 3 (by decide) k_0 (fun _ h9 => h9) rfl dX7_enter_179 ?_
    refine lv_iload_n hx hb dX7_enter_182 rfl (lv_at hl 1 rfl) ?_
    refine va_put (D := D) (ci := 1) (v := .int x2) (ty := .int) (C := RX1) (T := TX1) (N := 16) hx hb hts in_X1 tyX1 tyX1_ok nmX1 hown hK hP (hD.to (sm_wX_m _ _)) hS 1 (sm_gX1 σ α) rfl 12 (by decide) k_1 (fun _ h9 => h9) rfl (by decide +kernel) rfl rfl (Nat.le_of_ble_eq_true rfl) dX7_enter_183 (fun H locs hP _ hS => ?_)
    rw [sm_iX10] at hP
    obtain ⟨σ1, eσ1⟩ : ∃ x : sm_S, x = sm_i σ 10 x2 := ⟨_, rfl⟩
    replace hF := hF σ1 eσ1
    rw [← eσ1] at hP
    refine lv_aload_n hx hb dX7_enter_186 rfl (lv_at hl 0 rfl) ?_
    refine lv_dup hx hb dX7_enter_187 rfl ?_
    refine va_get (D := D) (ci := 7) (v := .int (σ1.1 23)) (C := RX7) (T := TX7) (N := 13) hx hb hts in_X7 hown hK hP 7 (sm_gX7 σ1 α) rfl 6 (by decide) k_2 (fun _ h9 => h9) rfl dX7_enter_188 ?_
    refine lv_iconst (v := 1) hx hb dX7_enter_191 (by decide) ?_
    refine lv_iadd hx hb dX7_enter_192 ?_
    refine va_put (D := D) (ci := 7) (v := .int ((σ1.1 23) + 1)) (ty := .int) (C := RX7) (T := TX7) (N := 13) hx hb hts in_X7 tyX7 tyX7_ok nmX7 hown hK hP (hD.to (sm_wX_m _ _)) hS 7 (sm_gX7 σ1 α) rfl 6 (by decide) k_2 (fun _ h9 => h9) rfl (by decide +kernel) rfl rfl (Nat.le_of_ble_eq_true rfl) dX7_enter_193 (fun H locs hP _ hS => ?_)
    rw [sm_iX23] at hP
    obtain ⟨σ2, eσ2⟩ : ∃ x : sm_S, x = sm_i σ1 23 ((σ1.1 23) + 1) := ⟨_, rfl⟩
    replace hF := hF σ2 eσ2
    rw [← eσ2] at hP
    refine lv_bipush (v := -2) hx hb dX7_enter_196 (by decide) ?_
    exact W.iret (v := (-2)) hx hb hr (fun t ht hW => ⟨⟨(-2), σ2, rfl, hF, (by unfold sm_B; rw [ht]; exact hP)⟩, hS.F ht⟩) hS.2.2 dX7_enter_198
  have B141 : ∀ (L91 : sm_S → Int32 → Int32 → Int32 → Int32 → Prop) (hL91 : ∀ (σ : sm_S) (x1 : Int32) (x2 : Int32) (x3 : Int32) (x4 : Int32), L91 σ x1 x2 x3 x4 → sm_J p l e (headSpec wp_X7_enter { frames := 4, cells := 0, slots := 0, locals := 93 }).room s m ([.ref (α.1 7), .int p1] : List Value).toArray below meth c (MQ below (va_Qi K (sm_B sm_wX D α) A) ([.ref (α.1 7), .int p1] : List Value).toArray s 0 0 A) D A 5 (sm_wX σ α) 91 [(0, .ref (α.1 7)), (1, .int x1), (2, .int x2), (3, .int x3), (4, .int x4)] []) (σ : sm_S) (x1 : Int32) (x2 : Int32) (x3 : Int32) (x4 : Int32) (y1 : Int32) (y2 : Int64), mp_X7_enter_141 L91 K σ x1 x2 x3 x4 y1 y2 → sm_J p l e (headSpec wp_X7_enter { frames := 4, cells := 0, slots := 0, locals := 93 }).room s m ([.ref (α.1 7), .int p1] : List Value).toArray below meth c (MQ below (va_Qi K (sm_B sm_wX D α) A) ([.ref (α.1 7), .int p1] : List Value).toArray s 0 0 A) D A 5 (sm_wX σ α) 141 [(0, .ref (α.1 7)), (1, .int x1), (2, .int x2), (3, .int x3), (4, .int x4)] [.long y2, .int y1, .ref (α.1 1)] := by
    intro L91 hL91 σ x1 x2 x3 x4 y1 y2 hF H locs ls hP hS hl
    unfold mp_X7_enter_141 at hF
    refine sm_vv (As := [.int y1, .long y2]) (rest := []) hP hK hD hE hS hA ⟨hx, hb, hml, hown, hts⟩ hl.1 (c_X1_put l D H.size t0 σ α y1 y2 _ hF) (cwV 2 hts wg_X7_enter_X1_put_110 rfl rfl rfl (by decide +kernel) ⟨Nat.le_of_ble_eq_true rfl, Nat.le_of_ble_eq_true rfl⟩) (va_recv hK hP (ci := 1) (q0 := 1) rfl (sm_gX1 σ α)) rfl rfl (Nat.le_of_ble_eq_true rfl) dX7_enter_141 ⟨Nat.zero_le _, Nat.zero_le _⟩ (fun σ3 H locs hF hP hS => ?_)
    obtain ⟨v4, ev4⟩ : ∃ y : Int32, y = x4 + 1 := ⟨_, rfl⟩
    replace hF := hF v4 ev4
    refine lv_iinc (v := v4) (lv' := [(4, .int v4), (0, .ref (α.1 7)), (1, .int x1), (2, .int x2), (3, .int x3)]) hx hb dX7_enter_144 hl (k := 4) rfl (by rw [ev4]; rfl) (by decide) rfl (fun ls hl => ?_)
    refine lv_goto (tgt := 91) hx hb dX7_enter_147 (by decide) ?_
    exact hL91 σ3 x1 x2 x3 v4 hF H locs ls hP hS (lv_sub hl [1, 2, 3, 4, 0] rfl)
  have B91 : ∀ (n : Nat) (σ : sm_S) (x1 : Int32) (x2 : Int32) (x3 : Int32) (x4 : Int32), mp_X7_enter_91 K n σ x1 x2 x3 x4 → sm_J p l e (headSpec wp_X7_enter { frames := 4, cells := 0, slots := 0, locals := 93 }).room s m ([.ref (α.1 7), .int p1] : List Value).toArray below meth c (MQ below (va_Qi K (sm_B sm_wX D α) A) ([.ref (α.1 7), .int p1] : List Value).toArray s 0 0 A) D A 5 (sm_wX σ α) 91 [(0, .ref (α.1 7)), (1, .int x1), (2, .int x2), (3, .int x3), (4, .int x4)] [] := by
    intro n91
    induction n91 with
    | zero =>
      intro σ x1 x2 x3 x4 hF
      exact hF.elim
    | succ n91 ih91 =>
      intro σ x1 x2 x3 x4 hF H locs ls hP hS hl
      unfold mp_X7_enter_91 at hF
      refine lv_iload hx hb dX7_enter_91 (lv_at hl 4 rfl) ?_
      refine lv_bipush (v := 12) hx hb dX7_enter_93 (by decide) ?_
      refine lv_icmp_ge (tgt := 150) hx hb dX7_enter_95 (by decide) (fun h5 => ?_) (fun h5 => ?_)
      · replace hF := hF.1 h5
        refine lv_aload_n hx hb dX7_enter_150 rfl (lv_at hl 0 rfl) ?_
        refine va_get (D := D) (ci := 7) (v := .ref (α.1 1)) (C := RX7) (T := TX7) (N := 13) hx hb hts in_X7 hown hK hP 7 (sm_gX7 σ α) rfl 3 (by decide) k_0 (fun _ h9 => h9) rfl dX7_enter_151 ?_
        refine va_get (D := D) (ci := 1) (v := .int (σ.1 10)) (C := RX1) (T := TX1) (N := 16) hx hb hts in_X1 hown hK hP 1 (sm_gX1 σ α) rfl 12 (by decide) k_1 (fun _ h9 => h9) rfl dX7_enter_154 ?_
        refine lv_if_eq (tgt := 178) hx hb dX7_enter_157 (by decide) (fun h6 => ?_) (fun h6 => ?_)
        · replace hF := hF.1 h6
          exact B178 σ x2 hF H locs ls hP hS (lv_sub hl [0, 2] rfl)
        · replace hF := hF.2 h6
          refine lv_aload_n hx hb dX7_enter_160 rfl (lv_at hl 0 rfl) ?_
          refine va_get (D := D) (ci := 7) (v := .ref (α.1 1)) (C := RX7) (T := TX7) (N := 13) hx hb hts in_X7 hown hK hP 7 (sm_gX7 σ α) rfl 3 (by decide) k_0 (fun _ h9 => h9) rfl dX7_enter_161 ?_
          refine lv_aload_n hx hb dX7_enter_164 rfl (lv_at hl 0 rfl) ?_
          refine va_get (D := D) (ci := 7) (v := .ref (α.1 1)) (C := RX7) (T := TX7) (N := 13) hx hb hts in_X7 hown hK hP 7 (sm_gX7 σ α) rfl 3 (by decide) k_0 (fun _ h9 => h9) rfl dX7_enter_165 ?_
          refine va_get (D := D) (ci := 1) (v := .int (σ.1 10)) (C := RX1) (T := TX1) (N := 16) hx hb hts in_X1 hown hK hP 1 (sm_gX1 σ α) rfl 12 (by decide) k_1 (fun _ h9 => h9) rfl dX7_enter_168 ?_
          refine lv_iconst (v := 2) hx hb dX7_enter_171 (by decide) ?_
          refine lv_iadd hx hb dX7_enter_172 ?_
          refine lv_iload_n hx hb dX7_enter_173 rfl (lv_at hl 3 rfl) ?_
          refine lv_i2l hx hb dX7_enter_174 rfl ?_
          refine sm_vv (As := [.int ((σ.1 10) + 2), .long x3.toInt64]) (rest := []) hP hK hD hE hS hA ⟨hx, hb, hml, hown, hts⟩ hl.1 (c_X1_put l D H.size t0 σ α ((σ.1 10) + 2) x3.toInt64 _ hF) (cwV 2 hts wg_X7_enter_X1_put_110 rfl rfl rfl (by decide +kernel) ⟨Nat.le_of_ble_eq_true rfl, Nat.le_of_ble_eq_true rfl⟩) (va_recv hK hP (ci := 1) (q0 := 1) rfl (sm_gX1 σ α)) rfl rfl (Nat.le_of_ble_eq_true rfl) dX7_enter_175 ⟨Nat.zero_le _, Nat.zero_le _⟩ (fun σ7 H locs hF hP hS => ?_)
          exact B178 σ7 x2 hF H locs ls hP hS (lv_sub hl [0, 2] rfl)
      · replace hF := hF.2 h5
        refine lv_aload_n hx hb dX7_enter_98 rfl (lv_at hl 0 rfl) ?_
        refine va_get (D := D) (ci := 7) (v := .ref (α.1 1)) (C := RX7) (T := TX7) (N := 13) hx hb hts in_X7 hown hK hP 7 (sm_gX7 σ α) rfl 3 (by decide) k_0 (fun _ h9 => h9) rfl dX7_enter_99 ?_
        refine lv_iload_n hx hb dX7_enter_102 rfl (lv_at hl 2 rfl) ?_
        refine lv_iconst (v := 4) hx hb dX7_enter_103 (by decide) ?_
        refine lv_iadd hx hb dX7_enter_104 ?_
        refine lv_iload hx hb dX7_enter_105 (lv_at hl 4 rfl) ?_
        refine lv_iadd hx hb dX7_enter_107 ?_
        refine lv_iload hx hb dX7_enter_108 (lv_at hl 4 rfl) ?_
        refine lv_aload_n hx hb dX7_enter_110 rfl (lv_at hl 0 rfl) ?_
        refine va_get (D := D) (ci := 7) (v := .ref (α.1 4)) (C := RX7) (T := TX7) (N := 13) hx hb hts in_X7 hown hK hP 7 (sm_gX7 σ α) rfl 2 (by decide) k_3 (fun _ h9 => h9) rfl dX7_enter_111 ?_
        refine va_get (D := D) (ci := 4) (v := .ref (α.1 21)) (C := RX4) (T := TX4) (N := 12) hx hb hts in_X4 hown hK hP 4 (sm_gX4 σ α) rfl 3 (by decide) k_4 (fun _ h9 => h9) rfl dX7_enter_114 ?_
        refine lv_iload_n hx hb dX7_enter_117 rfl (lv_at hl 1 rfl) ?_
        obtain ⟨h8, hF⟩ := hF
        refine va_iald (n := (σ.2.2.1 21)) (f := (σ.2.2.2.1 21)) hx hb hK hP 21 10 (sm_aX21 σ α) (sm_yX21 α) h8 dX7_enter_118 ?_
        refine lv_icmp_ge (tgt := 140) hx hb dX7_enter_119 (by decide) (fun h9 => ?_) (fun h9 => ?_)
        · replace hF := hF.1 h9
          refine lv_lconst (v := 0) hx hb dX7_enter_140 (by decide) ?_
          exact B141 (mp_X7_enter_91 K n91) ih91 σ x1 x2 x3 x4 ((x2 + 4) + x4) 0 hF H locs ls hP hS (lv_sub hl [0, 1, 2, 3, 4] rfl)
        · replace hF := hF.2 h9
          refine lv_aload_n hx hb dX7_enter_122 rfl (lv_at hl 0 rfl) ?_
          refine va_get (D := D) (ci := 7) (v := .ref (α.1 1)) (C := RX7) (T := TX7) (N := 13) hx hb hts in_X7 hown hK hP 7 (sm_gX7 σ α) rfl 3 (by decide) k_0 (fun _ h9 => h9) rfl dX7_enter_123 ?_
          refine lv_aload_n hx hb dX7_enter_126 rfl (lv_at hl 0 rfl) ?_
          refine lv_iload_n hx hb dX7_enter_127 rfl (lv_at hl 3 rfl) ?_
          refine lv_iload hx hb dX7_enter_128 (lv_at hl 4 rfl) ?_
          refine lv_iadd hx hb dX7_enter_130 ?_
          refine sm_vi (As := [.int (x3 + x4)]) (rest := [.ref (α.1 1), .int ((x2 + 4) + x4), .ref (α.1 1)]) hP hK hD hE hS hA ⟨hx, hb, hml, hown, hts⟩ hl.1 (c_X7_slot l D H.size t0 σ α (x3 + x4) _ hF) (cwV 1 hts wg_X7_enter_X7_slot_136 rfl rfl rfl (by decide +kernel) ⟨Nat.le_of_ble_eq_true rfl, Nat.le_of_ble_eq_true rfl⟩) (va_recv hK hP (ci := 7) (q0 := 7) rfl (sm_gX7 σ α)) rfl rfl (Nat.le_of_ble_eq_true rfl) dX7_enter_131 ⟨Nat.zero_le _, Nat.zero_le _⟩ (fun r11 σ10 H locs hF hP hS => ?_)
          refine sm_vl (As := [.int r11]) (rest := [.int ((x2 + 4) + x4), .ref (α.1 1)]) hP hK hD hE hS hA ⟨hx, hb, hml, hown, hts⟩ hl.1 (c_X1_look l D H.size t0 σ10 α r11 _ hF) (cwV 1 hts wg_X7_enter_X1_look_120 rfl rfl rfl (by decide +kernel) ⟨Nat.le_of_ble_eq_true rfl, Nat.le_of_ble_eq_true rfl⟩) (va_recv hK hP (ci := 1) (q0 := 1) rfl (sm_gX1 σ10 α)) rfl rfl (Nat.le_of_ble_eq_true rfl) dX7_enter_134 ⟨Nat.zero_le _, Nat.zero_le _⟩ (fun r13 σ12 H locs hF hP hS => ?_)
          refine lv_goto (tgt := 141) hx hb dX7_enter_137 (by decide) ?_
          exact B141 (mp_X7_enter_91 K n91) ih91 σ12 x1 x2 x3 x4 ((x2 + 4) + x4) r13 hF H locs ls hP hS (lv_sub hl [0, 1, 2, 3, 4] rfl)
  unfold mp_X7_enter at hF
  revert hP hS
  generalize hLo : ([] : List Loc) = locs
  suffices h9 : ∀ (H : Heap) (locs : List Loc), va_P D vwCl (sm_wX σ α) H → va_S A s.heap H locs → W p l e (headSpec wp_X7_enter { frames := 4, cells := 0, slots := 0, locals := 93 }).room s m ([.ref (α.1 7), .int p1] : List Value).toArray below meth c H locs 0 0 (MQ below (va_Qi K (sm_B sm_wX D α) A) ([.ref (α.1 7), .int p1] : List Value).toArray s 0 0 A) (F0 m 0 ls []) from fun hP hS => h9 s.heap locs hP hS
  intro H locs hP hS
  refine lv_aload_n hx hb dX7_enter_0 rfl (lv_at hl 0 rfl) ?_
  refine va_get (D := D) (ci := 7) (v := .ref (α.1 1)) (C := RX7) (T := TX7) (N := 13) hx hb hts in_X7 hown hK hP 7 (sm_gX7 σ α) rfl 3 (by decide) k_0 (fun _ h9 => h9) rfl dX7_enter_1 ?_
  refine lv_bipush (v := 16) hx hb dX7_enter_4 (by decide) ?_
  refine sm_vi (As := [.int 16]) (rest := []) hP hK hD hE hS hA ⟨hx, hb, hml, hown, hts⟩ hl.1 (c_X1_make l D H.size t0 σ α 16 _ hF) (cwV 1 hts wg_X7_enter_X1_make_200 rfl rfl rfl (by decide +kernel) ⟨Nat.le_of_ble_eq_true rfl, Nat.le_of_ble_eq_true rfl⟩) (va_recv hK hP (ci := 1) (q0 := 1) rfl (sm_gX1 σ α)) rfl rfl (Nat.le_of_ble_eq_true rfl) dX7_enter_6 ⟨Nat.zero_le _, Nat.zero_le _⟩ (fun r15 σ14 H locs hF hP hS => ?_)
  refine lv_istore_n (lv' := [(2, .int r15), (0, .ref (α.1 7)), (1, .int p1)]) hx hb dX7_enter_9 rfl hl (by decide) rfl (fun ls hl => ?_)
  refine lv_iload_n hx hb dX7_enter_10 rfl (lv_at hl 0 rfl) ?_
  refine lv_if_ne (tgt := 17) hx hb dX7_enter_11 (by decide) (fun h16 => ?_) (fun h16 => ?_)
  · replace hF := hF.1 h16
    refine lv_aload_n hx hb dX7_enter_17 rfl (lv_at hl 1 rfl) ?_
    refine va_get (D := D) (ci := 7) (v := .int (σ14.1 27)) (C := RX7) (T := TX7) (N := 13) hx hb hts in_X7 hown hK hP 7 (sm_gX7 σ14 α) rfl 11 (by decide) k_5 (fun _ h9 => h9) rfl dX7_enter_18 ?_
    refine lv_aload_n hx hb dX7_enter_21 rfl (lv_at hl 1 rfl) ?_
    refine va_get (D := D) (ci := 7) (v := .ref (α.1 4)) (C := RX7) (T := TX7) (N := 13) hx hb hts in_X7 hown hK hP 7 (sm_gX7 σ14 α) rfl 2 (by decide) k_3 (fun _ h9 => h9) rfl dX7_enter_22 ?_
    refine va_get (D := D) (ci := 4) (v := .ref (α.1 21)) (C := RX4) (T := TX4) (N := 12) hx hb hts in_X4 hown hK hP 4 (sm_gX4 σ14 α) rfl 3 (by decide) k_4 (fun _ h9 => h9) rfl dX7_enter_25 ?_
    refine lv_iload_n hx hb dX7_enter_28 rfl (lv_at hl 2 rfl) ?_
    obtain ⟨h17, hF⟩ := hF
    refine va_iald (n := (σ14.2.2.1 21)) (f := (σ14.2.2.2.1 21)) hx hb hK hP 21 10 (sm_aX21 σ14 α) (sm_yX21 α) h17 dX7_enter_29 ?_
    refine lv_isub hx hb dX7_enter_30 ?_
    refine lv_topi (fun v18 ev18 => ?_)
    replace hF := hF v18 ev18
    refine lv_istore_n (lv' := [(3, .int v18), (2, .int r15), (0, .ref (α.1 7)), (1, .int p1)]) hx hb dX7_enter_31 rfl hl (by decide) rfl (fun ls hl => ?_)
    refine lv_aload_n hx hb dX7_enter_32 rfl (lv_at hl 2 rfl) ?_
    refine va_get (D := D) (ci := 7) (v := .ref (α.1 1)) (C := RX7) (T := TX7) (N := 13) hx hb hts in_X7 hown hK hP 7 (sm_gX7 σ14 α) rfl 3 (by decide) k_0 (fun _ h9 => h9) rfl dX7_enter_33 ?_
    refine lv_iload_n hx hb dX7_enter_36 rfl (lv_at hl 1 rfl) ?_
    refine lv_iconst (v := 5) hx hb dX7_enter_37 (by decide) ?_
    refine lv_iload_n hx hb dX7_enter_38 rfl (lv_at hl 3 rfl) ?_
    refine sm_sl (As := [.int 5, .int p1]) (rest := [.int r15, .ref (α.1 1)]) hP hK hD hE hS hA ⟨hx, hb, hml, hown, hts⟩ hl.1 (c_X1_cell l D H.size t0 σ14 α 5 p1 _ hF) (va_cwS 2 hts wg_X7_enter_X1_cell_139 rfl rfl rfl (by decide +kernel) ⟨Nat.le_of_ble_eq_true rfl, Nat.le_of_ble_eq_true rfl⟩) rfl rfl (Nat.le_of_ble_eq_true rfl) dX7_enter_39 ⟨Nat.zero_le _, Nat.zero_le _⟩ (fun r20 σ19 H locs hF hP hS => ?_)
    refine sm_vv (As := [.int r15, .long r20]) (rest := []) hP hK hD hE hS hA ⟨hx, hb, hml, hown, hts⟩ hl.1 (c_X1_put l D H.size t0 σ19 α r15 r20 _ hF) (cwV 2 hts wg_X7_enter_X1_put_110 rfl rfl rfl (by decide +kernel) ⟨Nat.le_of_ble_eq_true rfl, Nat.le_of_ble_eq_true rfl⟩) (va_recv hK hP (ci := 1) (q0 := 1) rfl (sm_gX1 σ19 α)) rfl rfl (Nat.le_of_ble_eq_true rfl) dX7_enter_42 ⟨Nat.zero_le _, Nat.zero_le _⟩ (fun σ21 H locs hF hP hS => ?_)
    refine lv_aload_n hx hb dX7_enter_45 rfl (lv_at hl 2 rfl) ?_
    refine va_get (D := D) (ci := 7) (v := .ref (α.1 1)) (C := RX7) (T := TX7) (N := 13) hx hb hts in_X7 hown hK hP 7 (sm_gX7 σ21 α) rfl 3 (by decide) k_0 (fun _ h9 => h9) rfl dX7_enter_46 ?_
    refine lv_iload_n hx hb dX7_enter_49 rfl (lv_at hl 1 rfl) ?_
    refine lv_iconst (v := 1) hx hb dX7_enter_50 (by decide) ?_
    refine lv_iadd hx hb dX7_enter_51 ?_
    refine lv_lconst (v := 0) hx hb dX7_enter_52 (by decide) ?_
    refine sm_vv (As := [.int (r15 + 1), .long 0]) (rest := []) hP hK hD hE hS hA ⟨hx, hb, hml, hown, hts⟩ hl.1 (c_X1_put l D H.size t0 σ21 α (r15 + 1) 0 _ hF) (cwV 2 hts wg_X7_enter_X1_put_110 rfl rfl rfl (by decide +kernel) ⟨Nat.le_of_ble_eq_true rfl, Nat.le_of_ble_eq_true rfl⟩) (va_recv hK hP (ci := 1) (q0 := 1) rfl (sm_gX1 σ21 α)) rfl rfl (Nat.le_of_ble_eq_true rfl) dX7_enter_53 ⟨Nat.zero_le _, Nat.zero_le _⟩ (fun σ22 H locs hF hP hS => ?_)
    refine lv_aload_n hx hb dX7_enter_56 rfl (lv_at hl 2 rfl) ?_
    refine va_get (D := D) (ci := 7) (v := .ref (α.1 1)) (C := RX7) (T := TX7) (N := 13) hx hb hts in_X7 hown hK hP 7 (sm_gX7 σ22 α) rfl 3 (by decide) k_0 (fun _ h9 => h9) rfl dX7_enter_57 ?_
    refine lv_iload_n hx hb dX7_enter_60 rfl (lv_at hl 1 rfl) ?_
    refine lv_iconst (v := 2) hx hb dX7_enter_61 (by decide) ?_
    refine lv_iadd hx hb dX7_enter_62 ?_
    refine lv_lconst (v := 0) hx hb dX7_enter_63 (by decide) ?_
    refine sm_vv (As := [.int (r15 + 2), .long 0]) (rest := []) hP hK hD hE hS hA ⟨hx, hb, hml, hown, hts⟩ hl.1 (c_X1_put l D H.size t0 σ22 α (r15 + 2) 0 _ hF) (cwV 2 hts wg_X7_enter_X1_put_110 rfl rfl rfl (by decide +kernel) ⟨Nat.le_of_ble_eq_true rfl, Nat.le_of_ble_eq_true rfl⟩) (va_recv hK hP (ci := 1) (q0 := 1) rfl (sm_gX1 σ22 α)) rfl rfl (Nat.le_of_ble_eq_true rfl) dX7_enter_64 ⟨Nat.zero_le _, Nat.zero_le _⟩ (fun σ23 H locs hF hP hS => ?_)
    refine lv_aload_n hx hb dX7_enter_67 rfl (lv_at hl 2 rfl) ?_
    refine va_get (D := D) (ci := 7) (v := .ref (α.1 1)) (C := RX7) (T := TX7) (N := 13) hx hb hts in_X7 hown hK hP 7 (sm_gX7 σ23 α) rfl 3 (by decide) k_0 (fun _ h9 => h9) rfl dX7_enter_68 ?_
    refine lv_iload_n hx hb dX7_enter_71 rfl (lv_at hl 1 rfl) ?_
    refine lv_iconst (v := 3) hx hb dX7_enter_72 (by decide) ?_
    refine lv_iadd hx hb dX7_enter_73 ?_
    refine lv_iconst (v := 1) hx hb dX7_enter_74 (by decide) ?_
    refine lv_aload_n hx hb dX7_enter_75 rfl (lv_at hl 2 rfl) ?_
    refine va_get (D := D) (ci := 7) (v := .ref (α.1 1)) (C := RX7) (T := TX7) (N := 13) hx hb hts in_X7 hown hK hP 7 (sm_gX7 σ23 α) rfl 3 (by decide) k_0 (fun _ h9 => h9) rfl dX7_enter_76 ?_
    refine va_get (D := D) (ci := 1) (v := .int (σ23.1 10)) (C := RX1) (T := TX1) (N := 16) hx hb hts in_X1 hown hK hP 1 (sm_gX1 σ23 α) rfl 12 (by decide) k_1 (fun _ h9 => h9) rfl dX7_enter_79 ?_
    refine sm_sl (As := [.int 1, .int (σ23.1 10)]) (rest := [.int (r15 + 3), .ref (α.1 1)]) hP hK hD hE hS hA ⟨hx, hb, hml, hown, hts⟩ hl.1 (c_X1_cell l D H.size t0 σ23 α 1 (σ23.1 10) _ hF) (va_cwS 2 hts wg_X7_enter_X1_cell_139 rfl rfl rfl (by decide +kernel) ⟨Nat.le_of_ble_eq_true rfl, Nat.le_of_ble_eq_true rfl⟩) rfl rfl (Nat.le_of_ble_eq_true rfl) dX7_enter_82 ⟨Nat.zero_le _, Nat.zero_le _⟩ (fun r25 σ24 H locs hF hP hS => ?_)
    refine sm_vv (As := [.int (r15 + 3), .long r25]) (rest := []) hP hK hD hE hS hA ⟨hx, hb, hml, hown, hts⟩ hl.1 (c_X1_put l D H.size t0 σ24 α (r15 + 3) r25 _ hF) (cwV 2 hts wg_X7_enter_X1_put_110 rfl rfl rfl (by decide +kernel) ⟨Nat.le_of_ble_eq_true rfl, Nat.le_of_ble_eq_true rfl⟩) (va_recv hK hP (ci := 1) (q0 := 1) rfl (sm_gX1 σ24 α)) rfl rfl (Nat.le_of_ble_eq_true rfl) dX7_enter_85 ⟨Nat.zero_le _, Nat.zero_le _⟩ (fun σ26 H locs hF hP hS => ?_)
    refine lv_iconst (v := 0) hx hb dX7_enter_88 (by decide) ?_
    refine lv_istore (lv' := [(4, .int 0), (3, .int v18), (2, .int r15), (0, .ref (α.1 7)), (1, .int p1)]) hx hb dX7_enter_89 hl (by decide) rfl (fun ls hl => ?_)
    obtain ⟨n91, hF⟩ := hF
    exact B91 n91 σ26 p1 r15 v18 0 hF H locs ls hP hS (lv_sub hl [3, 4, 2, 1, 0] rfl)
  · replace hF := hF.2 h16
    refine lv_bipush (v := -3) hx hb dX7_enter_14 (by decide) ?_
    exact W.iret (v := (-3)) hx hb hr (fun t ht hW => ⟨⟨(-3), σ14, rfl, hF, (by unfold sm_B; rw [ht]; exact hP)⟩, hS.F ht⟩) hS.2.2 dX7_enter_16
theorem dX7_begin_0 : decode cX7_begin 0 = .ok (.aload_n 0, 1) := by decide +kernel
theorem dX7_begin_1 : decode cX7_begin 1 = .ok (.iconst 1, 1) := by decide +kernel
theorem dX7_begin_2 : decode cX7_begin 2 = .ok (.putfield 35, 3) := by decide +kernel
theorem dX7_begin_5 : decode cX7_begin 5 = .ok (.aload_n 0, 1) := by decide +kernel
theorem dX7_begin_6 : decode cX7_begin 6 = .ok (.iconst 0, 1) := by decide +kernel
theorem dX7_begin_7 : decode cX7_begin 7 = .ok (.putfield 39, 3) := by decide +kernel
theorem dX7_begin_10 : decode cX7_begin 10 = .ok (.aload_n 0, 1) := by decide +kernel
theorem dX7_begin_11 : decode cX7_begin 11 = .ok (.lconst 0, 1) := by decide +kernel
theorem dX7_begin_12 : decode cX7_begin 12 = .ok (.putfield 42, 3) := by decide +kernel
theorem dX7_begin_15 : decode cX7_begin 15 = .ok (.aload_n 0, 1) := by decide +kernel
theorem dX7_begin_16 : decode cX7_begin 16 = .ok (.iconst 0, 1) := by decide +kernel
theorem dX7_begin_17 : decode cX7_begin 17 = .ok (.putfield 46, 3) := by decide +kernel
theorem dX7_begin_20 : decode cX7_begin 20 = .ok (.aload_n 0, 1) := by decide +kernel
theorem dX7_begin_21 : decode cX7_begin 21 = .ok (.aload_n 0, 1) := by decide +kernel
theorem dX7_begin_22 : decode cX7_begin 22 = .ok (.getfield 26, 3) := by decide +kernel
theorem dX7_begin_25 : decode cX7_begin 25 = .ok (.getfield 49, 3) := by decide +kernel
theorem dX7_begin_28 : decode cX7_begin 28 = .ok (.invokevirtual 54, 3) := by decide +kernel
theorem dX7_begin_31 : decode cX7_begin 31 = .ok (.pop, 1) := by decide +kernel
theorem dX7_begin_32 : decode cX7_begin 32 = .ok (.return_, 1) := by decide +kernel
def wp_X7_begin : List Cond := .code yX7_begin cX7_begin 1 none :: ((([.fieldLink RX7 35 "SteadyMachine$Runner" "state" "I", .fieldLink RX7 39 "SteadyMachine$Runner" "frames" "I", .fieldLink RX7 42 "SteadyMachine$Runner" "steps" "J", .fieldLink RX7 46 "SteadyMachine$Runner" "height" "I", .fieldLink RX7 26 "SteadyMachine$Runner" "methods" "LSteadyMachine$Methods;", .fieldLink RX7 49 "SteadyMachine$Methods" "first" "I"] ++ (wsV RX7 54 RX7 yX7_enter wp_X7_enter)) ++ wsX40) ++ wsX70)
theorem wq_X7_begin : wp_X7_begin.all goodWord = true := wa_c rfl (wa_a (wa_a (wa_a (by decide +kernel) (wa_V wq_X7_enter)) uq_X4) uq_X7)
theorem wt_X7_begin : GoodIn lw_tbl wp_X7_begin := wm_c (List.mem_of_getElem? (i := 880) (by decide +kernel)) rfl (wm_a (wm_a (wm_a (goodIn_r _ [517, 519, 521, 526, 514, 224] (by decide +kernel) (by decide +kernel)) (wm_a (goodIn_r _ [881, 883, 36, 145] (by decide +kernel) (by decide +kernel)) wt_X7_enter)) ut_X4) ut_X7)
theorem wg_X7_begin_X7_enter_54 : GoodIn wp_X7_begin (wsV RX7 54 RX7 yX7_enter wp_X7_enter) := goodIn_sub (fun w h => List.mem_cons_of_mem _ (List.mem_append_left _ (List.mem_append_left _ (List.mem_append_right _ h)))) (wa_V wq_X7_enter)
theorem wi_X7_begin_X4 : ∀ w ∈ wsX40, w ∈ wp_X7_begin := fun w h => List.mem_cons_of_mem _ (List.mem_append_left _ (List.mem_append_right _ h))
theorem wi_X7_begin_X7 : ∀ w ∈ wsX70, w ∈ wp_X7_begin := fun w h => List.mem_cons_of_mem _ (List.mem_append_right _ h)
set_option maxHeartbeats 4000000 in
set_option maxRecDepth 100000 in
theorem c_X7_begin (l : Launch) (D : va_G) (sz t0 : Nat) (σ : sm_S) (α : sm_A) (K : sm_S → Prop) (hF : mp_X7_begin σ K) : Met l yX7_begin wp_X7_begin { frames := 5, cells := 0, slots := 0, locals := 117 } (sm_P sm_wX sm_tX 37 D sz t0 σ α [.ref (α.1 7)]) (va_Qv K (sm_B sm_wX D α) (sm_a α 37 sz)) 0 0 (sm_a α 37 sz) := by
  refine Met.ofW (cc := cX7_begin) (maxL := 1) (ret := none) (by decide) rfl ?_
  intro p e s m args below meth c s₁ B hml hv
  obtain ⟨rfl, hsz, hP, hK, hD0, hE⟩ := hv
  have hx := B.exec
  have hb := B.bytes
  have hr := B.returns
  have hts := atoms_spec (ws := wp_X7_begin) B.pre
  have hown : s.vm.findClass RX7 = some m.cls := findClass_of_methodNamed B.named
  have hlocks := B.notSynchronized
  subst hsz
  have hD : sm_D (sm_a α 37 s.heap.size) α 37 := hD0.own
  have hA : ∀ q : Nat, s.heap.size ≤ q → sm_a α 37 s.heap.size q := fun q h => Or.inr h
  generalize hAe : sm_a α 37 s.heap.size = A at hD hA hE ⊢
  have hS : va_S A s.heap s.heap [] := va_S.rf
  have in_X4 : ∀ w ∈ wsX40, w ∈ wp_X7_begin := wi_X7_begin_X4
  have in_X7 : ∀ w ∈ wsX70, w ∈ wp_X7_begin := wi_X7_begin_X7
  have k_0 := hts (.fieldLink RX7 35 "SteadyMachine$Runner" "state" "I") (by decide +kernel)
  have k_1 := hts (.fieldLink RX7 39 "SteadyMachine$Runner" "frames" "I") (by decide +kernel)
  have k_2 := hts (.fieldLink RX7 42 "SteadyMachine$Runner" "steps" "J") (by decide +kernel)
  have k_3 := hts (.fieldLink RX7 46 "SteadyMachine$Runner" "height" "I") (by decide +kernel)
  have k_4 := hts (.fieldLink RX7 26 "SteadyMachine$Runner" "methods" "LSteadyMachine$Methods;") (by decide +kernel)
  have k_5 := hts (.fieldLink RX7 49 "SteadyMachine$Methods" "first" "I") (by decide +kernel)
  have hl := lv_entry ([.ref (α.1 7)]) (n := 1) (Nat.le_of_ble_eq_true rfl)
  rw [lg_entry_eq]
  generalize (lg_sl ([.ref (α.1 7)]) ++ List.replicate (1 - (lg_sl ([.ref (α.1 7)])).length) Slot.unset).toArray = ls at hl ⊢
  have hl : lv_has ls 1 [(0, .ref (α.1 7))] := hl
  unfold mp_X7_begin at hF
  revert hP hS
  generalize hLo : ([] : List Loc) = locs
  suffices h9 : ∀ (H : Heap) (locs : List Loc), va_P D vwCl (sm_wX σ α) H → va_S A s.heap H locs → W p l e (headSpec wp_X7_begin { frames := 5, cells := 0, slots := 0, locals := 117 }).room s m ([.ref (α.1 7)] : List Value).toArray below meth c H locs 0 0 (MQ below (va_Qv K (sm_B sm_wX D α) A) ([.ref (α.1 7)] : List Value).toArray s 0 0 A) (F0 m 0 ls []) from fun hP hS => h9 s.heap locs hP hS
  intro H locs hP hS
  refine lv_aload_n hx hb dX7_begin_0 rfl (lv_at hl 0 rfl) ?_
  refine lv_iconst (v := 1) hx hb dX7_begin_1 (by decide) ?_
  refine va_put (D := D) (ci := 7) (v := .int 1) (ty := .int) (C := RX7) (T := TX7) (N := 13) hx hb hts in_X7 tyX7 tyX7_ok nmX7 hown hK hP (hD.to (sm_wX_m _ _)) hS 7 (sm_gX7 σ α) rfl 5 (by decide) k_0 (fun _ h9 => h9) rfl (by decide +kernel) rfl rfl (Nat.le_of_ble_eq_true rfl) dX7_begin_2 (fun H locs hP _ hS => ?_)
  rw [sm_iX22] at hP
  obtain ⟨σ1, eσ1⟩ : ∃ x : sm_S, x = sm_i σ 22 1 := ⟨_, rfl⟩
  replace hF := hF σ1 eσ1
  rw [← eσ1] at hP
  refine lv_aload_n hx hb dX7_begin_5 rfl (lv_at hl 0 rfl) ?_
  refine lv_iconst (v := 0) hx hb dX7_begin_6 (by decide) ?_
  refine va_put (D := D) (ci := 7) (v := .int 0) (ty := .int) (C := RX7) (T := TX7) (N := 13) hx hb hts in_X7 tyX7 tyX7_ok nmX7 hown hK hP (hD.to (sm_wX_m _ _)) hS 7 (sm_gX7 σ1 α) rfl 6 (by decide) k_1 (fun _ h9 => h9) rfl (by decide +kernel) rfl rfl (Nat.le_of_ble_eq_true rfl) dX7_begin_7 (fun H locs hP _ hS => ?_)
  rw [sm_iX23] at hP
  obtain ⟨σ2, eσ2⟩ : ∃ x : sm_S, x = sm_i σ1 23 0 := ⟨_, rfl⟩
  replace hF := hF σ2 eσ2
  rw [← eσ2] at hP
  refine lv_aload_n hx hb dX7_begin_10 rfl (lv_at hl 0 rfl) ?_
  refine lv_lconst (v := 0) hx hb dX7_begin_11 (by decide) ?_
  refine va_put (D := D) (ci := 7) (v := .long 0) (ty := .long) (C := RX7) (T := TX7) (N := 13) hx hb hts in_X7 tyX7 tyX7_ok nmX7 hown hK hP (hD.to (sm_wX_m _ _)) hS 7 (sm_gX7 σ2 α) rfl 7 (by decide) k_2 (fun _ h9 => h9) rfl (by decide +kernel) rfl rfl (Nat.le_of_ble_eq_true rfl) dX7_begin_12 (fun H locs hP _ hS => ?_)
  rw [sm_jX1] at hP
  obtain ⟨σ3, eσ3⟩ : ∃ x : sm_S, x = sm_j σ2 1 0 := ⟨_, rfl⟩
  replace hF := hF σ3 eσ3
  rw [← eσ3] at hP
  refine lv_aload_n hx hb dX7_begin_15 rfl (lv_at hl 0 rfl) ?_
  refine lv_iconst (v := 0) hx hb dX7_begin_16 (by decide) ?_
  refine va_put (D := D) (ci := 7) (v := .int 0) (ty := .int) (C := RX7) (T := TX7) (N := 13) hx hb hts in_X7 tyX7 tyX7_ok nmX7 hown hK hP (hD.to (sm_wX_m _ _)) hS 7 (sm_gX7 σ3 α) rfl 11 (by decide) k_3 (fun _ h9 => h9) rfl (by decide +kernel) rfl rfl (Nat.le_of_ble_eq_true rfl) dX7_begin_17 (fun H locs hP _ hS => ?_)
  rw [sm_iX27] at hP
  obtain ⟨σ4, eσ4⟩ : ∃ x : sm_S, x = sm_i σ3 27 0 := ⟨_, rfl⟩
  replace hF := hF σ4 eσ4
  rw [← eσ4] at hP
  refine lv_aload_n hx hb dX7_begin_20 rfl (lv_at hl 0 rfl) ?_
  refine lv_aload_n hx hb dX7_begin_21 rfl (lv_at hl 0 rfl) ?_
  refine va_get (D := D) (ci := 7) (v := .ref (α.1 4)) (C := RX7) (T := TX7) (N := 13) hx hb hts in_X7 hown hK hP 7 (sm_gX7 σ4 α) rfl 2 (by decide) k_4 (fun _ h9 => h9) rfl dX7_begin_22 ?_
  refine va_get (D := D) (ci := 4) (v := .int (σ4.1 17)) (C := RX4) (T := TX4) (N := 12) hx hb hts in_X4 hown hK hP 4 (sm_gX4 σ4 α) rfl 1 (by decide) k_5 (fun _ h9 => h9) rfl dX7_begin_25 ?_
  refine sm_vi (As := [.int (σ4.1 17)]) (rest := []) hP hK hD hE hS hA ⟨hx, hb, hml, hown, hts⟩ hl.1 (c_X7_enter l D H.size t0 σ4 α (σ4.1 17) _ hF) (cwV 1 hts wg_X7_begin_X7_enter_54 rfl rfl rfl (by decide +kernel) ⟨Nat.le_of_ble_eq_true rfl, Nat.le_of_ble_eq_true rfl⟩) (va_recv hK hP (ci := 7) (q0 := 7) rfl (sm_gX7 σ4 α)) rfl rfl (Nat.le_of_ble_eq_true rfl) dX7_begin_28 ⟨Nat.zero_le _, Nat.zero_le _⟩ (fun r6 σ5 H locs hF hP hS => ?_)
  refine lv_pop hx hb dX7_begin_31 rfl ?_
  exact W.vret hx hb hr (fun t ht hW => ⟨⟨σ5, rfl, hF, (by unfold sm_B; rw [ht]; exact hP)⟩, hS.F ht⟩) hS.2.2 dX7_begin_32
theorem dX7_leaveTop_0 : decode cX7_leaveTop 0 = .ok (.aload_n 0, 1) := by decide +kernel
theorem dX7_leaveTop_1 : decode cX7_leaveTop 1 = .ok (.getfield 27, 3) := by decide +kernel
theorem dX7_leaveTop_4 : decode cX7_leaveTop 4 = .ok (.aload_n 0, 1) := by decide +kernel
theorem dX7_leaveTop_5 : decode cX7_leaveTop 5 = .ok (.getfield 27, 3) := by decide +kernel
theorem dX7_leaveTop_8 : decode cX7_leaveTop 8 = .ok (.aload_n 0, 1) := by decide +kernel
theorem dX7_leaveTop_9 : decode cX7_leaveTop 9 = .ok (.getfield 27, 3) := by decide +kernel
theorem dX7_leaveTop_12 : decode cX7_leaveTop 12 = .ok (.getfield 107, 3) := by decide +kernel
theorem dX7_leaveTop_15 : decode cX7_leaveTop 15 = .ok (.iconst 3, 1) := by decide +kernel
theorem dX7_leaveTop_16 : decode cX7_leaveTop 16 = .ok (.iadd, 1) := by decide +kernel
theorem dX7_leaveTop_17 : decode cX7_leaveTop 17 = .ok (.invokevirtual 120, 3) := by decide +kernel
theorem dX7_leaveTop_20 : decode cX7_leaveTop 20 = .ok (.l2i, 1) := by decide +kernel
theorem dX7_leaveTop_21 : decode cX7_leaveTop 21 = .ok (.putfield 107, 3) := by decide +kernel
theorem dX7_leaveTop_24 : decode cX7_leaveTop 24 = .ok (.aload_n 0, 1) := by decide +kernel
theorem dX7_leaveTop_25 : decode cX7_leaveTop 25 = .ok (.dup, 1) := by decide +kernel
theorem dX7_leaveTop_26 : decode cX7_leaveTop 26 = .ok (.getfield 39, 3) := by decide +kernel
theorem dX7_leaveTop_29 : decode cX7_leaveTop 29 = .ok (.iconst 1, 1) := by decide +kernel
theorem dX7_leaveTop_30 : decode cX7_leaveTop 30 = .ok (.isub, 1) := by decide +kernel
theorem dX7_leaveTop_31 : decode cX7_leaveTop 31 = .ok (.putfield 39, 3) := by decide +kernel
theorem dX7_leaveTop_34 : decode cX7_leaveTop 34 = .ok (.aload_n 0, 1) := by decide +kernel
theorem dX7_leaveTop_35 : decode cX7_leaveTop 35 = .ok (.getfield 27, 3) := by decide +kernel
theorem dX7_leaveTop_38 : decode cX7_leaveTop 38 = .ok (.getfield 107, 3) := by decide +kernel
theorem dX7_leaveTop_41 : decode cX7_leaveTop 41 = .ok (.ifCond .ne 5, 3) := by decide +kernel
theorem dX7_leaveTop_44 : decode cX7_leaveTop 44 = .ok (.iconst 0, 1) := by decide +kernel
theorem dX7_leaveTop_45 : decode cX7_leaveTop 45 = .ok (.ireturn, 1) := by decide +kernel
theorem dX7_leaveTop_46 : decode cX7_leaveTop 46 = .ok (.aload_n 0, 1) := by decide +kernel
theorem dX7_leaveTop_47 : decode cX7_leaveTop 47 = .ok (.getfield 27, 3) := by decide +kernel
theorem dX7_leaveTop_50 : decode cX7_leaveTop 50 = .ok (.aload_n 0, 1) := by decide +kernel
theorem dX7_leaveTop_51 : decode cX7_leaveTop 51 = .ok (.getfield 27, 3) := by decide +kernel
theorem dX7_leaveTop_54 : decode cX7_leaveTop 54 = .ok (.getfield 107, 3) := by decide +kernel
theorem dX7_leaveTop_57 : decode cX7_leaveTop 57 = .ok (.invokevirtual 260, 3) := by decide +kernel
theorem dX7_leaveTop_60 : decode cX7_leaveTop 60 = .ok (.iconst 1, 1) := by decide +kernel
theorem dX7_leaveTop_61 : decode cX7_leaveTop 61 = .ok (.ireturn, 1) := by decide +kernel
def wp_X7_leaveTop : List Cond := .code yX7_leaveTop cX7_leaveTop 1 (some .boolean) :: (((([.fieldLink RX7 27 "SteadyMachine$Runner" "heap" "LSteadyMachine$Heap;", .fieldLink RX7 107 "SteadyMachine$Heap" "top" "I", .fieldLink RX7 39 "SteadyMachine$Runner" "frames" "I"] ++ (wsV RX7 120 RX1 yX1_look wp_X1_look)) ++ (wsV RX7 260 RX1 yX1_settle wp_X1_settle)) ++ wsX10) ++ wsX70)
theorem wq_X7_leaveTop : wp_X7_leaveTop.all goodWord = true := wa_c rfl (wa_a (wa_a (wa_a (wa_a (by decide +kernel) (wa_V wq_X1_look)) (wa_V wq_X1_settle)) uq_X1) uq_X7)
theorem wt_X7_leaveTop : GoodIn lw_tbl wp_X7_leaveTop := wm_c (List.mem_of_getElem? (i := 963) (by decide +kernel)) rfl (wm_a (wm_a (wm_a (wm_a (goodIn_r _ [515, 463, 519] (by decide +kernel) (by decide +kernel)) (wm_a (goodIn_r _ [936, 911, 912, 144] (by decide +kernel) (by decide +kernel)) wt_X1_look)) (wm_a (goodIn_r _ [964, 903, 904, 144] (by decide +kernel) (by decide +kernel)) wt_X1_settle)) ut_X1) ut_X7)
theorem wg_X7_leaveTop_X1_look_120 : GoodIn wp_X7_leaveTop (wsV RX7 120 RX1 yX1_look wp_X1_look) := goodIn_sub (fun w h => List.mem_cons_of_mem _ (List.mem_append_left _ (List.mem_append_left _ (List.mem_append_left _ (List.mem_append_right _ h))))) (wa_V wq_X1_look)
theorem wg_X7_leaveTop_X1_settle_260 : GoodIn wp_X7_leaveTop (wsV RX7 260 RX1 yX1_settle wp_X1_settle) := goodIn_sub (fun w h => List.mem_cons_of_mem _ (List.mem_append_left _ (List.mem_append_left _ (List.mem_append_right _ h)))) (wa_V wq_X1_settle)
theorem wi_X7_leaveTop_X1 : ∀ w ∈ wsX10, w ∈ wp_X7_leaveTop := fun w h => List.mem_cons_of_mem _ (List.mem_append_left _ (List.mem_append_right _ h))
theorem wi_X7_leaveTop_X7 : ∀ w ∈ wsX70, w ∈ wp_X7_leaveTop := fun w h => List.mem_cons_of_mem _ (List.mem_append_right _ h)
set_option maxHeartbeats 4000000 in
set_option maxRecDepth 100000 in
theorem c_X7_leaveTop (l : Launch) (D : va_G) (sz t0 : Nat) (σ : sm_S) (α : sm_A) (K : Int32 → sm_S → Prop) (hF : mp_X7_leaveTop σ K) : Met l yX7_leaveTop wp_X7_leaveTop { frames := 3, cells := 0, slots := 0, locals := 72 } (sm_P sm_wX sm_tX 37 D sz t0 σ α [.ref (α.1 7)]) (va_Qi K (sm_B sm_wX D α) (sm_a α 37 sz)) 0 0 (sm_a α 37 sz) := by
  refine Met.ofW (cc := cX7_leaveTop) (maxL := 1) (ret := (some .boolean)) (by decide) rfl ?_
  intro p e s m args below meth c s₁ B hml hv
  obtain ⟨rfl, hsz, hP, hK, hD0, hE⟩ := hv
  have hx := B.exec
  have hb := B.bytes
  have hr := B.returns
  have hts := atoms_spec (ws := wp_X7_leaveTop) B.pre
  have hown : s.vm.findClass RX7 = some m.cls := findClass_of_methodNamed B.named
  have hlocks := B.notSynchronized
  subst hsz
  have hD : sm_D (sm_a α 37 s.heap.size) α 37 := hD0.own
  have hA : ∀ q : Nat, s.heap.size ≤ q → sm_a α 37 s.heap.size q := fun q h => Or.inr h
  generalize hAe : sm_a α 37 s.heap.size = A at hD hA hE ⊢
  have hS : va_S A s.heap s.heap [] := va_S.rf
  have in_X1 : ∀ w ∈ wsX10, w ∈ wp_X7_leaveTop := wi_X7_leaveTop_X1
  have in_X7 : ∀ w ∈ wsX70, w ∈ wp_X7_leaveTop := wi_X7_leaveTop_X7
  have k_0 := hts (.fieldLink RX7 27 "SteadyMachine$Runner" "heap" "LSteadyMachine$Heap;") (by decide +kernel)
  have k_1 := hts (.fieldLink RX7 107 "SteadyMachine$Heap" "top" "I") (by decide +kernel)
  have k_2 := hts (.fieldLink RX7 39 "SteadyMachine$Runner" "frames" "I") (by decide +kernel)
  have hl := lv_entry ([.ref (α.1 7)]) (n := 1) (Nat.le_of_ble_eq_true rfl)
  rw [lg_entry_eq]
  generalize (lg_sl ([.ref (α.1 7)]) ++ List.replicate (1 - (lg_sl ([.ref (α.1 7)])).length) Slot.unset).toArray = ls at hl ⊢
  have hl : lv_has ls 1 [(0, .ref (α.1 7))] := hl
  unfold mp_X7_leaveTop at hF
  revert hP hS
  generalize hLo : ([] : List Loc) = locs
  suffices h9 : ∀ (H : Heap) (locs : List Loc), va_P D vwCl (sm_wX σ α) H → va_S A s.heap H locs → W p l e (headSpec wp_X7_leaveTop { frames := 3, cells := 0, slots := 0, locals := 72 }).room s m ([.ref (α.1 7)] : List Value).toArray below meth c H locs 0 0 (MQ below (va_Qi K (sm_B sm_wX D α) A) ([.ref (α.1 7)] : List Value).toArray s 0 0 A) (F0 m 0 ls []) from fun hP hS => h9 s.heap locs hP hS
  intro H locs hP hS
  refine lv_aload_n hx hb dX7_leaveTop_0 rfl (lv_at hl 0 rfl) ?_
  refine va_get (D := D) (ci := 7) (v := .ref (α.1 1)) (C := RX7) (T := TX7) (N := 13) hx hb hts in_X7 hown hK hP 7 (sm_gX7 σ α) rfl 3 (by decide) k_0 (fun _ h9 => h9) rfl dX7_leaveTop_1 ?_
  refine lv_aload_n hx hb dX7_leaveTop_4 rfl (lv_at hl 0 rfl) ?_
  refine va_get (D := D) (ci := 7) (v := .ref (α.1 1)) (C := RX7) (T := TX7) (N := 13) hx hb hts in_X7 hown hK hP 7 (sm_gX7 σ α) rfl 3 (by decide) k_0 (fun _ h9 => h9) rfl dX7_leaveTop_5 ?_
  refine lv_aload_n hx hb dX7_leaveTop_8 rfl (lv_at hl 0 rfl) ?_
  refine va_get (D := D) (ci := 7) (v := .ref (α.1 1)) (C := RX7) (T := TX7) (N := 13) hx hb hts in_X7 hown hK hP 7 (sm_gX7 σ α) rfl 3 (by decide) k_0 (fun _ h9 => h9) rfl dX7_leaveTop_9 ?_
  refine va_get (D := D) (ci := 1) (v := .int (σ.1 10)) (C := RX1) (T := TX1) (N := 16) hx hb hts in_X1 hown hK hP 1 (sm_gX1 σ α) rfl 12 (by decide) k_1 (fun _ h9 => h9) rfl dX7_leaveTop_12 ?_
  refine lv_iconst (v := 3) hx hb dX7_leaveTop_15 (by decide) ?_
  refine lv_iadd hx hb dX7_leaveTop_16 ?_
  refine sm_vl (As := [.int ((σ.1 10) + 3)]) (rest := [.ref (α.1 1)]) hP hK hD hE hS hA ⟨hx, hb, hml, hown, hts⟩ hl.1 (c_X1_look l D H.size t0 σ α ((σ.1 10) + 3) _ hF) (cwV 1 hts wg_X7_leaveTop_X1_look_120 rfl rfl rfl (by decide +kernel) ⟨Nat.le_of_ble_eq_true rfl, Nat.le_of_ble_eq_true rfl⟩) (va_recv hK hP (ci := 1) (q0 := 1) rfl (sm_gX1 σ α)) rfl rfl (Nat.le_of_ble_eq_true rfl) dX7_leaveTop_17 ⟨Nat.zero_le _, Nat.zero_le _⟩ (fun r2 σ1 H locs hF hP hS => ?_)
  refine lv_l2i hx hb dX7_leaveTop_20 rfl ?_
  refine va_put (D := D) (ci := 1) (v := .int r2.toInt32) (ty := .int) (C := RX1) (T := TX1) (N := 16) hx hb hts in_X1 tyX1 tyX1_ok nmX1 hown hK hP (hD.to (sm_wX_m _ _)) hS 1 (sm_gX1 σ1 α) rfl 12 (by decide) k_1 (fun _ h9 => h9) rfl (by decide +kernel) rfl rfl (Nat.le_of_ble_eq_true rfl) dX7_leaveTop_21 (fun H locs hP _ hS => ?_)
  rw [sm_iX10] at hP
  obtain ⟨σ3, eσ3⟩ : ∃ x : sm_S, x = sm_i σ1 10 r2.toInt32 := ⟨_, rfl⟩
  replace hF := hF σ3 eσ3
  rw [← eσ3] at hP
  refine lv_aload_n hx hb dX7_leaveTop_24 rfl (lv_at hl 0 rfl) ?_
  refine lv_dup hx hb dX7_leaveTop_25 rfl ?_
  refine va_get (D := D) (ci := 7) (v := .int (σ3.1 23)) (C := RX7) (T := TX7) (N := 13) hx hb hts in_X7 hown hK hP 7 (sm_gX7 σ3 α) rfl 6 (by decide) k_2 (fun _ h9 => h9) rfl dX7_leaveTop_26 ?_
  refine lv_iconst (v := 1) hx hb dX7_leaveTop_29 (by decide) ?_
  refine lv_isub hx hb dX7_leaveTop_30 ?_
  refine va_put (D := D) (ci := 7) (v := .int ((σ3.1 23) - 1)) (ty := .int) (C := RX7) (T := TX7) (N := 13) hx hb hts in_X7 tyX7 tyX7_ok nmX7 hown hK hP (hD.to (sm_wX_m _ _)) hS 7 (sm_gX7 σ3 α) rfl 6 (by decide) k_2 (fun _ h9 => h9) rfl (by decide +kernel) rfl rfl (Nat.le_of_ble_eq_true rfl) dX7_leaveTop_31 (fun H locs hP _ hS => ?_)
  rw [sm_iX23] at hP
  obtain ⟨σ4, eσ4⟩ : ∃ x : sm_S, x = sm_i σ3 23 ((σ3.1 23) - 1) := ⟨_, rfl⟩
  replace hF := hF σ4 eσ4
  rw [← eσ4] at hP
  refine lv_aload_n hx hb dX7_leaveTop_34 rfl (lv_at hl 0 rfl) ?_
  refine va_get (D := D) (ci := 7) (v := .ref (α.1 1)) (C := RX7) (T := TX7) (N := 13) hx hb hts in_X7 hown hK hP 7 (sm_gX7 σ4 α) rfl 3 (by decide) k_0 (fun _ h9 => h9) rfl dX7_leaveTop_35 ?_
  refine va_get (D := D) (ci := 1) (v := .int (σ4.1 10)) (C := RX1) (T := TX1) (N := 16) hx hb hts in_X1 hown hK hP 1 (sm_gX1 σ4 α) rfl 12 (by decide) k_1 (fun _ h9 => h9) rfl dX7_leaveTop_38 ?_
  refine lv_if_ne (tgt := 46) hx hb dX7_leaveTop_41 (by decide) (fun h5 => ?_) (fun h5 => ?_)
  · replace hF := hF.1 h5
    refine lv_aload_n hx hb dX7_leaveTop_46 rfl (lv_at hl 0 rfl) ?_
    refine va_get (D := D) (ci := 7) (v := .ref (α.1 1)) (C := RX7) (T := TX7) (N := 13) hx hb hts in_X7 hown hK hP 7 (sm_gX7 σ4 α) rfl 3 (by decide) k_0 (fun _ h9 => h9) rfl dX7_leaveTop_47 ?_
    refine lv_aload_n hx hb dX7_leaveTop_50 rfl (lv_at hl 0 rfl) ?_
    refine va_get (D := D) (ci := 7) (v := .ref (α.1 1)) (C := RX7) (T := TX7) (N := 13) hx hb hts in_X7 hown hK hP 7 (sm_gX7 σ4 α) rfl 3 (by decide) k_0 (fun _ h9 => h9) rfl dX7_leaveTop_51 ?_
    refine va_get (D := D) (ci := 1) (v := .int (σ4.1 10)) (C := RX1) (T := TX1) (N := 16) hx hb hts in_X1 hown hK hP 1 (sm_gX1 σ4 α) rfl 12 (by decide) k_1 (fun _ h9 => h9) rfl dX7_leaveTop_54 ?_
    refine sm_vv (As := [.int (σ4.1 10)]) (rest := []) hP hK hD hE hS hA ⟨hx, hb, hml, hown, hts⟩ hl.1 (c_X1_settle l D H.size t0 σ4 α (σ4.1 10) _ hF) (cwV 1 hts wg_X7_leaveTop_X1_settle_260 rfl rfl rfl (by decide +kernel) ⟨Nat.le_of_ble_eq_true rfl, Nat.le_of_ble_eq_true rfl⟩) (va_recv hK hP (ci := 1) (q0 := 1) rfl (sm_gX1 σ4 α)) rfl rfl (Nat.le_of_ble_eq_true rfl) dX7_leaveTop_57 ⟨Nat.zero_le _, Nat.zero_le _⟩ (fun σ6 H locs hF hP hS => ?_)
    refine lv_iconst (v := 1) hx hb dX7_leaveTop_60 (by decide) ?_
    exact W.zret (v := 1) hx hb hr sm_z1.1 (fun t ht hW => ⟨⟨1, σ6, rfl, hF, (by unfold sm_B; rw [ht]; exact hP)⟩, hS.F ht⟩) hS.2.2 dX7_leaveTop_61
  · replace hF := hF.2 h5
    refine lv_iconst (v := 0) hx hb dX7_leaveTop_44 (by decide) ?_
    exact W.zret (v := 0) hx hb hr sm_z0.1 (fun t ht hW => ⟨⟨0, σ4, rfl, hF, (by unfold sm_B; rw [ht]; exact hP)⟩, hS.F ht⟩) hS.2.2 dX7_leaveTop_45
theorem dX7_loadTop_0 : decode cX7_loadTop 0 = .ok (.aload_n 0, 1) := by decide +kernel
theorem dX7_loadTop_1 : decode cX7_loadTop 1 = .ok (.aload_n 0, 1) := by decide +kernel
theorem dX7_loadTop_2 : decode cX7_loadTop 2 = .ok (.getfield 27, 3) := by decide +kernel
theorem dX7_loadTop_5 : decode cX7_loadTop 5 = .ok (.aload_n 0, 1) := by decide +kernel
theorem dX7_loadTop_6 : decode cX7_loadTop 6 = .ok (.getfield 27, 3) := by decide +kernel
theorem dX7_loadTop_9 : decode cX7_loadTop 9 = .ok (.getfield 107, 3) := by decide +kernel
theorem dX7_loadTop_12 : decode cX7_loadTop 12 = .ok (.invokevirtual 120, 3) := by decide +kernel
theorem dX7_loadTop_15 : decode cX7_loadTop 15 = .ok (.l2i, 1) := by decide +kernel
theorem dX7_loadTop_16 : decode cX7_loadTop 16 = .ok (.putfield 124, 3) := by decide +kernel
theorem dX7_loadTop_19 : decode cX7_loadTop 19 = .ok (.aload_n 0, 1) := by decide +kernel
theorem dX7_loadTop_20 : decode cX7_loadTop 20 = .ok (.aload_n 0, 1) := by decide +kernel
theorem dX7_loadTop_21 : decode cX7_loadTop 21 = .ok (.getfield 27, 3) := by decide +kernel
theorem dX7_loadTop_24 : decode cX7_loadTop 24 = .ok (.aload_n 0, 1) := by decide +kernel
theorem dX7_loadTop_25 : decode cX7_loadTop 25 = .ok (.getfield 27, 3) := by decide +kernel
theorem dX7_loadTop_28 : decode cX7_loadTop 28 = .ok (.getfield 107, 3) := by decide +kernel
theorem dX7_loadTop_31 : decode cX7_loadTop 31 = .ok (.iconst 1, 1) := by decide +kernel
theorem dX7_loadTop_32 : decode cX7_loadTop 32 = .ok (.iadd, 1) := by decide +kernel
theorem dX7_loadTop_33 : decode cX7_loadTop 33 = .ok (.invokevirtual 120, 3) := by decide +kernel
theorem dX7_loadTop_36 : decode cX7_loadTop 36 = .ok (.l2i, 1) := by decide +kernel
theorem dX7_loadTop_37 : decode cX7_loadTop 37 = .ok (.putfield 75, 3) := by decide +kernel
theorem dX7_loadTop_40 : decode cX7_loadTop 40 = .ok (.aload_n 0, 1) := by decide +kernel
theorem dX7_loadTop_41 : decode cX7_loadTop 41 = .ok (.aload_n 0, 1) := by decide +kernel
theorem dX7_loadTop_42 : decode cX7_loadTop 42 = .ok (.getfield 27, 3) := by decide +kernel
theorem dX7_loadTop_45 : decode cX7_loadTop 45 = .ok (.aload_n 0, 1) := by decide +kernel
theorem dX7_loadTop_46 : decode cX7_loadTop 46 = .ok (.getfield 27, 3) := by decide +kernel
theorem dX7_loadTop_49 : decode cX7_loadTop 49 = .ok (.getfield 107, 3) := by decide +kernel
theorem dX7_loadTop_52 : decode cX7_loadTop 52 = .ok (.iconst 2, 1) := by decide +kernel
theorem dX7_loadTop_53 : decode cX7_loadTop 53 = .ok (.iadd, 1) := by decide +kernel
theorem dX7_loadTop_54 : decode cX7_loadTop 54 = .ok (.invokevirtual 120, 3) := by decide +kernel
theorem dX7_loadTop_57 : decode cX7_loadTop 57 = .ok (.l2i, 1) := by decide +kernel
theorem dX7_loadTop_58 : decode cX7_loadTop 58 = .ok (.putfield 46, 3) := by decide +kernel
theorem dX7_loadTop_61 : decode cX7_loadTop 61 = .ok (.return_, 1) := by decide +kernel
def wp_X7_loadTop : List Cond := .code yX7_loadTop cX7_loadTop 1 none :: ((([.fieldLink RX7 27 "SteadyMachine$Runner" "heap" "LSteadyMachine$Heap;", .fieldLink RX7 107 "SteadyMachine$Heap" "top" "I", .fieldLink RX7 124 "SteadyMachine$Runner" "method" "I", .fieldLink RX7 75 "SteadyMachine$Runner" "place" "I", .fieldLink RX7 46 "SteadyMachine$Runner" "height" "I"] ++ (wsV RX7 120 RX1 yX1_look wp_X1_look)) ++ wsX10) ++ wsX70)
theorem wq_X7_loadTop : wp_X7_loadTop.all goodWord = true := wa_c rfl (wa_a (wa_a (wa_a (by decide +kernel) (wa_V wq_X1_look)) uq_X1) uq_X7)
theorem wt_X7_loadTop : GoodIn lw_tbl wp_X7_loadTop := wm_c (List.mem_of_getElem? (i := 956) (by decide +kernel)) rfl (wm_a (wm_a (wm_a (goodIn_r _ [515, 463, 523, 524, 526] (by decide +kernel) (by decide +kernel)) (wm_a (goodIn_r _ [936, 911, 912, 144] (by decide +kernel) (by decide +kernel)) wt_X1_look)) ut_X1) ut_X7)
theorem wg_X7_loadTop_X1_look_120 : GoodIn wp_X7_loadTop (wsV RX7 120 RX1 yX1_look wp_X1_look) := goodIn_sub (fun w h => List.mem_cons_of_mem _ (List.mem_append_left _ (List.mem_append_left _ (List.mem_append_right _ h)))) (wa_V wq_X1_look)
theorem wi_X7_loadTop_X1 : ∀ w ∈ wsX10, w ∈ wp_X7_loadTop := fun w h => List.mem_cons_of_mem _ (List.mem_append_left _ (List.mem_append_right _ h))
theorem wi_X7_loadTop_X7 : ∀ w ∈ wsX70, w ∈ wp_X7_loadTop := fun w h => List.mem_cons_of_mem _ (List.mem_append_right _ h)
set_option maxHeartbeats 4000000 in
set_option maxRecDepth 100000 in
theorem c_X7_loadTop (l : Launch) (D : va_G) (sz t0 : Nat) (σ : sm_S) (α : sm_A) (K : sm_S → Prop) (hF : mp_X7_loadTop σ K) : Met l yX7_loadTop wp_X7_loadTop { frames := 1, cells := 0, slots := 0, locals := 21 } (sm_P sm_wX sm_tX 37 D sz t0 σ α [.ref (α.1 7)]) (va_Qv K (sm_B sm_wX D α) (sm_a α 37 sz)) 0 0 (sm_a α 37 sz) := by
  refine Met.ofW (cc := cX7_loadTop) (maxL := 1) (ret := none) (by decide) rfl ?_
  intro p e s m args below meth c s₁ B hml hv
  obtain ⟨rfl, hsz, hP, hK, hD0, hE⟩ := hv
  have hx := B.exec
  have hb := B.bytes
  have hr := B.returns
  have hts := atoms_spec (ws := wp_X7_loadTop) B.pre
  have hown : s.vm.findClass RX7 = some m.cls := findClass_of_methodNamed B.named
  have hlocks := B.notSynchronized
  subst hsz
  have hD : sm_D (sm_a α 37 s.heap.size) α 37 := hD0.own
  have hA : ∀ q : Nat, s.heap.size ≤ q → sm_a α 37 s.heap.size q := fun q h => Or.inr h
  generalize hAe : sm_a α 37 s.heap.size = A at hD hA hE ⊢
  have hS : va_S A s.heap s.heap [] := va_S.rf
  have in_X1 : ∀ w ∈ wsX10, w ∈ wp_X7_loadTop := wi_X7_loadTop_X1
  have in_X7 : ∀ w ∈ wsX70, w ∈ wp_X7_loadTop := wi_X7_loadTop_X7
  have k_0 := hts (.fieldLink RX7 27 "SteadyMachine$Runner" "heap" "LSteadyMachine$Heap;") (by decide +kernel)
  have k_1 := hts (.fieldLink RX7 107 "SteadyMachine$Heap" "top" "I") (by decide +kernel)
  have k_2 := hts (.fieldLink RX7 124 "SteadyMachine$Runner" "method" "I") (by decide +kernel)
  have k_3 := hts (.fieldLink RX7 75 "SteadyMachine$Runner" "place" "I") (by decide +kernel)
  have k_4 := hts (.fieldLink RX7 46 "SteadyMachine$Runner" "height" "I") (by decide +kernel)
  have hl := lv_entry ([.ref (α.1 7)]) (n := 1) (Nat.le_of_ble_eq_true rfl)
  rw [lg_entry_eq]
  generalize (lg_sl ([.ref (α.1 7)]) ++ List.replicate (1 - (lg_sl ([.ref (α.1 7)])).length) Slot.unset).toArray = ls at hl ⊢
  have hl : lv_has ls 1 [(0, .ref (α.1 7))] := hl
  unfold mp_X7_loadTop at hF
  revert hP hS
  generalize hLo : ([] : List Loc) = locs
  suffices h9 : ∀ (H : Heap) (locs : List Loc), va_P D vwCl (sm_wX σ α) H → va_S A s.heap H locs → W p l e (headSpec wp_X7_loadTop { frames := 1, cells := 0, slots := 0, locals := 21 }).room s m ([.ref (α.1 7)] : List Value).toArray below meth c H locs 0 0 (MQ below (va_Qv K (sm_B sm_wX D α) A) ([.ref (α.1 7)] : List Value).toArray s 0 0 A) (F0 m 0 ls []) from fun hP hS => h9 s.heap locs hP hS
  intro H locs hP hS
  refine lv_aload_n hx hb dX7_loadTop_0 rfl (lv_at hl 0 rfl) ?_
  refine lv_aload_n hx hb dX7_loadTop_1 rfl (lv_at hl 0 rfl) ?_
  refine va_get (D := D) (ci := 7) (v := .ref (α.1 1)) (C := RX7) (T := TX7) (N := 13) hx hb hts in_X7 hown hK hP 7 (sm_gX7 σ α) rfl 3 (by decide) k_0 (fun _ h9 => h9) rfl dX7_loadTop_2 ?_
  refine lv_aload_n hx hb dX7_loadTop_5 rfl (lv_at hl 0 rfl) ?_
  refine va_get (D := D) (ci := 7) (v := .ref (α.1 1)) (C := RX7) (T := TX7) (N := 13) hx hb hts in_X7 hown hK hP 7 (sm_gX7 σ α) rfl 3 (by decide) k_0 (fun _ h9 => h9) rfl dX7_loadTop_6 ?_
  refine va_get (D := D) (ci := 1) (v := .int (σ.1 10)) (C := RX1) (T := TX1) (N := 16) hx hb hts in_X1 hown hK hP 1 (sm_gX1 σ α) rfl 12 (by decide) k_1 (fun _ h9 => h9) rfl dX7_loadTop_9 ?_
  refine sm_vl (As := [.int (σ.1 10)]) (rest := [.ref (α.1 7)]) hP hK hD hE hS hA ⟨hx, hb, hml, hown, hts⟩ hl.1 (c_X1_look l D H.size t0 σ α (σ.1 10) _ hF) (cwV 1 hts wg_X7_loadTop_X1_look_120 rfl rfl rfl (by decide +kernel) ⟨Nat.le_of_ble_eq_true rfl, Nat.le_of_ble_eq_true rfl⟩) (va_recv hK hP (ci := 1) (q0 := 1) rfl (sm_gX1 σ α)) rfl rfl (Nat.le_of_ble_eq_true rfl) dX7_loadTop_12 ⟨Nat.zero_le _, Nat.zero_le _⟩ (fun r2 σ1 H locs hF hP hS => ?_)
  refine lv_l2i hx hb dX7_loadTop_15 rfl ?_
  refine va_put (D := D) (ci := 7) (v := .int r2.toInt32) (ty := .int) (C := RX7) (T := TX7) (N := 13) hx hb hts in_X7 tyX7 tyX7_ok nmX7 hown hK hP (hD.to (sm_wX_m _ _)) hS 7 (sm_gX7 σ1 α) rfl 8 (by decide) k_2 (fun _ h9 => h9) rfl (by decide +kernel) rfl rfl (Nat.le_of_ble_eq_true rfl) dX7_loadTop_16 (fun H locs hP _ hS => ?_)
  rw [sm_iX24] at hP
  obtain ⟨σ3, eσ3⟩ : ∃ x : sm_S, x = sm_i σ1 24 r2.toInt32 := ⟨_, rfl⟩
  replace hF := hF σ3 eσ3
  rw [← eσ3] at hP
  refine lv_aload_n hx hb dX7_loadTop_19 rfl (lv_at hl 0 rfl) ?_
  refine lv_aload_n hx hb dX7_loadTop_20 rfl (lv_at hl 0 rfl) ?_
  refine va_get (D := D) (ci := 7) (v := .ref (α.1 1)) (C := RX7) (T := TX7) (N := 13) hx hb hts in_X7 hown hK hP 7 (sm_gX7 σ3 α) rfl 3 (by decide) k_0 (fun _ h9 => h9) rfl dX7_loadTop_21 ?_
  refine lv_aload_n hx hb dX7_loadTop_24 rfl (lv_at hl 0 rfl) ?_
  refine va_get (D := D) (ci := 7) (v := .ref (α.1 1)) (C := RX7) (T := TX7) (N := 13) hx hb hts in_X7 hown hK hP 7 (sm_gX7 σ3 α) rfl 3 (by decide) k_0 (fun _ h9 => h9) rfl dX7_loadTop_25 ?_
  refine va_get (D := D) (ci := 1) (v := .int (σ3.1 10)) (C := RX1) (T := TX1) (N := 16) hx hb hts in_X1 hown hK hP 1 (sm_gX1 σ3 α) rfl 12 (by decide) k_1 (fun _ h9 => h9) rfl dX7_loadTop_28 ?_
  refine lv_iconst (v := 1) hx hb dX7_loadTop_31 (by decide) ?_
  refine lv_iadd hx hb dX7_loadTop_32 ?_
  refine sm_vl (As := [.int ((σ3.1 10) + 1)]) (rest := [.ref (α.1 7)]) hP hK hD hE hS hA ⟨hx, hb, hml, hown, hts⟩ hl.1 (c_X1_look l D H.size t0 σ3 α ((σ3.1 10) + 1) _ hF) (cwV 1 hts wg_X7_loadTop_X1_look_120 rfl rfl rfl (by decide +kernel) ⟨Nat.le_of_ble_eq_true rfl, Nat.le_of_ble_eq_true rfl⟩) (va_recv hK hP (ci := 1) (q0 := 1) rfl (sm_gX1 σ3 α)) rfl rfl (Nat.le_of_ble_eq_true rfl) dX7_loadTop_33 ⟨Nat.zero_le _, Nat.zero_le _⟩ (fun r5 σ4 H locs hF hP hS => ?_)
  refine lv_l2i hx hb dX7_loadTop_36 rfl ?_
  refine va_put (D := D) (ci := 7) (v := .int r5.toInt32) (ty := .int) (C := RX7) (T := TX7) (N := 13) hx hb hts in_X7 tyX7 tyX7_ok nmX7 hown hK hP (hD.to (sm_wX_m _ _)) hS 7 (sm_gX7 σ4 α) rfl 9 (by decide) k_3 (fun _ h9 => h9) rfl (by decide +kernel) rfl rfl (Nat.le_of_ble_eq_true rfl) dX7_loadTop_37 (fun H locs hP _ hS => ?_)
  rw [sm_iX25] at hP
  obtain ⟨σ6, eσ6⟩ : ∃ x : sm_S, x = sm_i σ4 25 r5.toInt32 := ⟨_, rfl⟩
  replace hF := hF σ6 eσ6
  rw [← eσ6] at hP
  refine lv_aload_n hx hb dX7_loadTop_40 rfl (lv_at hl 0 rfl) ?_
  refine lv_aload_n hx hb dX7_loadTop_41 rfl (lv_at hl 0 rfl) ?_
  refine va_get (D := D) (ci := 7) (v := .ref (α.1 1)) (C := RX7) (T := TX7) (N := 13) hx hb hts in_X7 hown hK hP 7 (sm_gX7 σ6 α) rfl 3 (by decide) k_0 (fun _ h9 => h9) rfl dX7_loadTop_42 ?_
  refine lv_aload_n hx hb dX7_loadTop_45 rfl (lv_at hl 0 rfl) ?_
  refine va_get (D := D) (ci := 7) (v := .ref (α.1 1)) (C := RX7) (T := TX7) (N := 13) hx hb hts in_X7 hown hK hP 7 (sm_gX7 σ6 α) rfl 3 (by decide) k_0 (fun _ h9 => h9) rfl dX7_loadTop_46 ?_
  refine va_get (D := D) (ci := 1) (v := .int (σ6.1 10)) (C := RX1) (T := TX1) (N := 16) hx hb hts in_X1 hown hK hP 1 (sm_gX1 σ6 α) rfl 12 (by decide) k_1 (fun _ h9 => h9) rfl dX7_loadTop_49 ?_
  refine lv_iconst (v := 2) hx hb dX7_loadTop_52 (by decide) ?_
  refine lv_iadd hx hb dX7_loadTop_53 ?_
  refine sm_vl (As := [.int ((σ6.1 10) + 2)]) (rest := [.ref (α.1 7)]) hP hK hD hE hS hA ⟨hx, hb, hml, hown, hts⟩ hl.1 (c_X1_look l D H.size t0 σ6 α ((σ6.1 10) + 2) _ hF) (cwV 1 hts wg_X7_loadTop_X1_look_120 rfl rfl rfl (by decide +kernel) ⟨Nat.le_of_ble_eq_true rfl, Nat.le_of_ble_eq_true rfl⟩) (va_recv hK hP (ci := 1) (q0 := 1) rfl (sm_gX1 σ6 α)) rfl rfl (Nat.le_of_ble_eq_true rfl) dX7_loadTop_54 ⟨Nat.zero_le _, Nat.zero_le _⟩ (fun r8 σ7 H locs hF hP hS => ?_)
  refine lv_l2i hx hb dX7_loadTop_57 rfl ?_
  refine va_put (D := D) (ci := 7) (v := .int r8.toInt32) (ty := .int) (C := RX7) (T := TX7) (N := 13) hx hb hts in_X7 tyX7 tyX7_ok nmX7 hown hK hP (hD.to (sm_wX_m _ _)) hS 7 (sm_gX7 σ7 α) rfl 11 (by decide) k_4 (fun _ h9 => h9) rfl (by decide +kernel) rfl rfl (Nat.le_of_ble_eq_true rfl) dX7_loadTop_58 (fun H locs hP _ hS => ?_)
  rw [sm_iX27] at hP
  obtain ⟨σ9, eσ9⟩ : ∃ x : sm_S, x = sm_i σ7 27 r8.toInt32 := ⟨_, rfl⟩
  replace hF := hF σ9 eσ9
  rw [← eσ9] at hP
  exact W.vret hx hb hr (fun t ht hW => ⟨⟨σ9, rfl, hF, (by unfold sm_B; rw [ht]; exact hP)⟩, hS.F ht⟩) hS.2.2 dX7_loadTop_61
theorem dX7_fly_0 : decode cX7_fly 0 = .ok (.aload_n 0, 1) := by decide +kernel
theorem dX7_fly_1 : decode cX7_fly 1 = .ok (.invokevirtual 69, 3) := by decide +kernel
theorem dX7_fly_4 : decode cX7_fly 4 = .ok (.aload_n 0, 1) := by decide +kernel
theorem dX7_fly_5 : decode cX7_fly 5 = .ok (.getfield 27, 3) := by decide +kernel
theorem dX7_fly_8 : decode cX7_fly 8 = .ok (.aload_n 0, 1) := by decide +kernel
theorem dX7_fly_9 : decode cX7_fly 9 = .ok (.getfield 27, 3) := by decide +kernel
theorem dX7_fly_12 : decode cX7_fly 12 = .ok (.getfield 63, 3) := by decide +kernel
theorem dX7_fly_15 : decode cX7_fly 15 = .ok (.invokevirtual 120, 3) := by decide +kernel
theorem dX7_fly_18 : decode cX7_fly 18 = .ok (.l2i, 1) := by decide +kernel
theorem dX7_fly_19 : decode cX7_fly 19 = .ok (.istore_n 1, 1) := by decide +kernel
theorem dX7_fly_20 : decode cX7_fly 20 = .ok (.iconst 0, 1) := by decide +kernel
theorem dX7_fly_21 : decode cX7_fly 21 = .ok (.istore_n 2, 1) := by decide +kernel
theorem dX7_fly_22 : decode cX7_fly 22 = .ok (.iload_n 2, 1) := by decide +kernel
theorem dX7_fly_23 : decode cX7_fly 23 = .ok (.aload_n 0, 1) := by decide +kernel
theorem dX7_fly_24 : decode cX7_fly 24 = .ok (.getfield 26, 3) := by decide +kernel
theorem dX7_fly_27 : decode cX7_fly 27 = .ok (.getfield 263, 3) := by decide +kernel
theorem dX7_fly_30 : decode cX7_fly 30 = .ok (.aload_n 0, 1) := by decide +kernel
theorem dX7_fly_31 : decode cX7_fly 31 = .ok (.getfield 124, 3) := by decide +kernel
theorem dX7_fly_34 : decode cX7_fly 34 = .ok (.iaload, 1) := by decide +kernel
theorem dX7_fly_35 : decode cX7_fly 35 = .ok (.if_icmp .ge 168, 3) := by decide +kernel
theorem dX7_fly_38 : decode cX7_fly 38 = .ok (.aload_n 0, 1) := by decide +kernel
theorem dX7_fly_39 : decode cX7_fly 39 = .ok (.getfield 26, 3) := by decide +kernel
theorem dX7_fly_42 : decode cX7_fly 42 = .ok (.getfield 266, 3) := by decide +kernel
theorem dX7_fly_45 : decode cX7_fly 45 = .ok (.aload_n 0, 1) := by decide +kernel
theorem dX7_fly_46 : decode cX7_fly 46 = .ok (.getfield 124, 3) := by decide +kernel
theorem dX7_fly_49 : decode cX7_fly 49 = .ok (.iaload, 1) := by decide +kernel
theorem dX7_fly_50 : decode cX7_fly 50 = .ok (.iload_n 2, 1) := by decide +kernel
theorem dX7_fly_51 : decode cX7_fly 51 = .ok (.bipush 7, 2) := by decide +kernel
theorem dX7_fly_53 : decode cX7_fly 53 = .ok (.imul, 1) := by decide +kernel
theorem dX7_fly_54 : decode cX7_fly 54 = .ok (.iadd, 1) := by decide +kernel
theorem dX7_fly_55 : decode cX7_fly 55 = .ok (.istore_n 3, 1) := by decide +kernel
theorem dX7_fly_56 : decode cX7_fly 56 = .ok (.aload_n 0, 1) := by decide +kernel
theorem dX7_fly_57 : decode cX7_fly 57 = .ok (.getfield 9, 3) := by decide +kernel
theorem dX7_fly_60 : decode cX7_fly 60 = .ok (.iload_n 3, 1) := by decide +kernel
theorem dX7_fly_61 : decode cX7_fly 61 = .ok (.invokevirtual 173, 3) := by decide +kernel
theorem dX7_fly_64 : decode cX7_fly 64 = .ok (.aload_n 0, 1) := by decide +kernel
theorem dX7_fly_65 : decode cX7_fly 65 = .ok (.getfield 75, 3) := by decide +kernel
theorem dX7_fly_68 : decode cX7_fly 68 = .ok (.if_icmp .gt 24, 3) := by decide +kernel
theorem dX7_fly_71 : decode cX7_fly 71 = .ok (.aload_n 0, 1) := by decide +kernel
theorem dX7_fly_72 : decode cX7_fly 72 = .ok (.getfield 75, 3) := by decide +kernel
theorem dX7_fly_75 : decode cX7_fly 75 = .ok (.aload_n 0, 1) := by decide +kernel
theorem dX7_fly_76 : decode cX7_fly 76 = .ok (.getfield 9, 3) := by decide +kernel
theorem dX7_fly_79 : decode cX7_fly 79 = .ok (.iload_n 3, 1) := by decide +kernel
theorem dX7_fly_80 : decode cX7_fly 80 = .ok (.iconst 2, 1) := by decide +kernel
theorem dX7_fly_81 : decode cX7_fly 81 = .ok (.iadd, 1) := by decide +kernel
theorem dX7_fly_82 : decode cX7_fly 82 = .ok (.invokevirtual 173, 3) := by decide +kernel
theorem dX7_fly_85 : decode cX7_fly 85 = .ok (.if_icmp .ge 7, 3) := by decide +kernel
theorem dX7_fly_88 : decode cX7_fly 88 = .ok (.iconst 1, 1) := by decide +kernel
theorem dX7_fly_89 : decode cX7_fly 89 = .ok (.goto 4, 3) := by decide +kernel
theorem dX7_fly_92 : decode cX7_fly 92 = .ok (.iconst 0, 1) := by decide +kernel
theorem dX7_fly_93 : decode cX7_fly 93 = .ok (.istore 4, 2) := by decide +kernel
theorem dX7_fly_95 : decode cX7_fly 95 = .ok (.iload 4, 2) := by decide +kernel
theorem dX7_fly_97 : decode cX7_fly 97 = .ok (.ifCond .eq 100, 3) := by decide +kernel
theorem dX7_fly_100 : decode cX7_fly 100 = .ok (.aload_n 0, 1) := by decide +kernel
theorem dX7_fly_101 : decode cX7_fly 101 = .ok (.getfield 21, 3) := by decide +kernel
theorem dX7_fly_104 : decode cX7_fly 104 = .ok (.iload_n 1, 1) := by decide +kernel
theorem dX7_fly_105 : decode cX7_fly 105 = .ok (.aload_n 0, 1) := by decide +kernel
theorem dX7_fly_106 : decode cX7_fly 106 = .ok (.getfield 9, 3) := by decide +kernel
theorem dX7_fly_109 : decode cX7_fly 109 = .ok (.iload_n 3, 1) := by decide +kernel
theorem dX7_fly_110 : decode cX7_fly 110 = .ok (.iconst 4, 1) := by decide +kernel
theorem dX7_fly_111 : decode cX7_fly 111 = .ok (.iadd, 1) := by decide +kernel
theorem dX7_fly_112 : decode cX7_fly 112 = .ok (.invokevirtual 130, 3) := by decide +kernel
theorem dX7_fly_115 : decode cX7_fly 115 = .ok (.invokevirtual 192, 3) := by decide +kernel
theorem dX7_fly_118 : decode cX7_fly 118 = .ok (.ifCond .eq 79, 3) := by decide +kernel
theorem dX7_fly_121 : decode cX7_fly 121 = .ok (.aload_n 0, 1) := by decide +kernel
theorem dX7_fly_122 : decode cX7_fly 122 = .ok (.getfield 27, 3) := by decide +kernel
theorem dX7_fly_125 : decode cX7_fly 125 = .ok (.aload_n 0, 1) := by decide +kernel
theorem dX7_fly_126 : decode cX7_fly 126 = .ok (.iconst 0, 1) := by decide +kernel
theorem dX7_fly_127 : decode cX7_fly 127 = .ok (.invokevirtual 136, 3) := by decide +kernel
theorem dX7_fly_130 : decode cX7_fly 130 = .ok (.iconst 1, 1) := by decide +kernel
theorem dX7_fly_131 : decode cX7_fly 131 = .ok (.aload_n 0, 1) := by decide +kernel
theorem dX7_fly_132 : decode cX7_fly 132 = .ok (.getfield 27, 3) := by decide +kernel
theorem dX7_fly_135 : decode cX7_fly 135 = .ok (.getfield 63, 3) := by decide +kernel
theorem dX7_fly_138 : decode cX7_fly 138 = .ok (.invokestatic 139, 3) := by decide +kernel
theorem dX7_fly_141 : decode cX7_fly 141 = .ok (.invokevirtual 110, 3) := by decide +kernel
theorem dX7_fly_144 : decode cX7_fly 144 = .ok (.aload_n 0, 1) := by decide +kernel
theorem dX7_fly_145 : decode cX7_fly 145 = .ok (.getfield 27, 3) := by decide +kernel
theorem dX7_fly_148 : decode cX7_fly 148 = .ok (.aload_n 0, 1) := by decide +kernel
theorem dX7_fly_149 : decode cX7_fly 149 = .ok (.getfield 27, 3) := by decide +kernel
theorem dX7_fly_152 : decode cX7_fly 152 = .ok (.getfield 107, 3) := by decide +kernel
theorem dX7_fly_155 : decode cX7_fly 155 = .ok (.iconst 1, 1) := by decide +kernel
theorem dX7_fly_156 : decode cX7_fly 156 = .ok (.iadd, 1) := by decide +kernel
theorem dX7_fly_157 : decode cX7_fly 157 = .ok (.aload_n 0, 1) := by decide +kernel
theorem dX7_fly_158 : decode cX7_fly 158 = .ok (.getfield 9, 3) := by decide +kernel
theorem dX7_fly_161 : decode cX7_fly 161 = .ok (.iload_n 3, 1) := by decide +kernel
theorem dX7_fly_162 : decode cX7_fly 162 = .ok (.iconst 5, 1) := by decide +kernel
theorem dX7_fly_163 : decode cX7_fly 163 = .ok (.iadd, 1) := by decide +kernel
theorem dX7_fly_164 : decode cX7_fly 164 = .ok (.invokevirtual 173, 3) := by decide +kernel
theorem dX7_fly_167 : decode cX7_fly 167 = .ok (.i2l, 1) := by decide +kernel
theorem dX7_fly_168 : decode cX7_fly 168 = .ok (.invokevirtual 110, 3) := by decide +kernel
theorem dX7_fly_171 : decode cX7_fly 171 = .ok (.aload_n 0, 1) := by decide +kernel
theorem dX7_fly_172 : decode cX7_fly 172 = .ok (.getfield 27, 3) := by decide +kernel
theorem dX7_fly_175 : decode cX7_fly 175 = .ok (.aload_n 0, 1) := by decide +kernel
theorem dX7_fly_176 : decode cX7_fly 176 = .ok (.getfield 27, 3) := by decide +kernel
theorem dX7_fly_179 : decode cX7_fly 179 = .ok (.getfield 107, 3) := by decide +kernel
theorem dX7_fly_182 : decode cX7_fly 182 = .ok (.iconst 2, 1) := by decide +kernel
theorem dX7_fly_183 : decode cX7_fly 183 = .ok (.iadd, 1) := by decide +kernel
theorem dX7_fly_184 : decode cX7_fly 184 = .ok (.lconst 1, 1) := by decide +kernel
theorem dX7_fly_185 : decode cX7_fly 185 = .ok (.invokevirtual 110, 3) := by decide +kernel
theorem dX7_fly_188 : decode cX7_fly 188 = .ok (.aload_n 0, 1) := by decide +kernel
theorem dX7_fly_189 : decode cX7_fly 189 = .ok (.getfield 27, 3) := by decide +kernel
theorem dX7_fly_192 : decode cX7_fly 192 = .ok (.iconst 0, 1) := by decide +kernel
theorem dX7_fly_193 : decode cX7_fly 193 = .ok (.putfield 63, 3) := by decide +kernel
theorem dX7_fly_196 : decode cX7_fly 196 = .ok (.return_, 1) := by decide +kernel
theorem dX7_fly_197 : decode cX7_fly 197 = .ok (.iinc 2 1, 3) := by decide +kernel
theorem dX7_fly_200 : decode cX7_fly 200 = .ok (.goto (-178), 3) := by decide +kernel
theorem dX7_fly_203 : decode cX7_fly 203 = .ok (.aload_n 0, 1) := by decide +kernel
theorem dX7_fly_204 : decode cX7_fly 204 = .ok (.invokevirtual 256, 3) := by decide +kernel
theorem dX7_fly_207 : decode cX7_fly 207 = .ok (.ifCond .ne 8, 3) := by decide +kernel
theorem dX7_fly_210 : decode cX7_fly 210 = .ok (.aload_n 0, 1) := by decide +kernel
theorem dX7_fly_211 : decode cX7_fly 211 = .ok (.iconst 3, 1) := by decide +kernel
theorem dX7_fly_212 : decode cX7_fly 212 = .ok (.putfield 35, 3) := by decide +kernel
theorem dX7_fly_215 : decode cX7_fly 215 = .ok (.return_, 1) := by decide +kernel
def wp_X7_fly : List Cond := .code yX7_fly cX7_fly 5 none :: (((((((((((([.fieldLink RX7 21 "SteadyMachine$Runner" "classes" "LSteadyMachine$Classes;", .fieldLink RX7 9 "SteadyMachine$Runner" "image" "LSteadyMachine$Image;", .fieldLink RX7 27 "SteadyMachine$Runner" "heap" "LSteadyMachine$Heap;", .fieldLink RX7 63 "SteadyMachine$Heap" "flies" "I", .fieldLink RX7 107 "SteadyMachine$Heap" "top" "I", .fieldLink RX7 26 "SteadyMachine$Runner" "methods" "LSteadyMachine$Methods;", .fieldLink RX7 263 "SteadyMachine$Methods" "handlers" "[I", .fieldLink RX7 124 "SteadyMachine$Runner" "method" "I", .fieldLink RX7 35 "SteadyMachine$Runner" "state" "I", .fieldLink RX7 266 "SteadyMachine$Methods" "handlerPlace" "[I", .fieldLink RX7 75 "SteadyMachine$Runner" "place" "I"] ++ (wsV RX7 130 RX2 yX2_at wp_X2_at)) ++ (wsV RX7 192 RX0 yX0_isOrBelow wp_X0_isOrBelow)) ++ (wsV RX7 136 RX7 yX7_slot wp_X7_slot)) ++ (va_wsS RX7 139 yX1_cell wp_X1_cell)) ++ (wsV RX7 110 RX1 yX1_put wp_X1_put)) ++ (wsV RX7 173 RX2 yX2_pair wp_X2_pair)) ++ (wsV RX7 256 RX7 yX7_leaveTop wp_X7_leaveTop)) ++ (wsV RX7 69 RX7 yX7_loadTop wp_X7_loadTop)) ++ (wsV RX7 120 RX1 yX1_look wp_X1_look)) ++ wsX10) ++ wsX40) ++ wsX70)
theorem wq_X7_fly : wp_X7_fly.all goodWord = true := wa_c rfl (wa_a (wa_a (wa_a (wa_a (wa_a (wa_a (wa_a (wa_a (wa_a (wa_a (wa_a (wa_a (by decide +kernel) (wa_V wq_X2_at)) (wa_V wq_X0_isOrBelow)) (wa_V wq_X7_slot)) (wa_S wq_X1_cell)) (wa_V wq_X1_put)) (wa_V wq_X2_pair)) (wa_V wq_X7_leaveTop)) (wa_V wq_X7_loadTop)) (wa_V wq_X1_look)) uq_X1) uq_X4) uq_X7)
theorem wt_X7_fly : GoodIn lw_tbl wp_X7_fly := wm_c (List.mem_of_getElem? (i := 952) (by decide +kernel)) rfl (wm_a (wm_a (wm_a (wm_a (wm_a (wm_a (wm_a (wm_a (wm_a (wm_a (wm_a (wm_a (goodIn_r _ [513, 512, 515, 465, 463, 514, 262, 523, 517, 267, 524] (by decide +kernel) (by decide +kernel)) (wm_a (goodIn_r _ [958, 654, 655, 137] (by decide +kernel) (by decide +kernel)) wt_X2_at)) (wm_a (goodIn_r _ [959, 809, 810, 138] (by decide +kernel) (by decide +kernel)) wt_X0_isOrBelow)) (wm_a (goodIn_r _ [932, 934, 40, 145] (by decide +kernel) (by decide +kernel)) wt_X7_slot)) (wm_a (goodIn_r _ [930, 919, 144] (by decide +kernel) (by decide +kernel)) wt_X1_cell)) (wm_a (goodIn_r _ [931, 923, 924, 144] (by decide +kernel) (by decide +kernel)) wt_X1_put)) (wm_a (goodIn_r _ [957, 730, 731, 137] (by decide +kernel) (by decide +kernel)) wt_X2_pair)) (wm_a (goodIn_r _ [960, 962, 43, 145] (by decide +kernel) (by decide +kernel)) wt_X7_leaveTop)) (wm_a (goodIn_r _ [953, 955, 42, 145] (by decide +kernel) (by decide +kernel)) wt_X7_loadTop)) (wm_a (goodIn_r _ [936, 911, 912, 144] (by decide +kernel) (by decide +kernel)) wt_X1_look)) ut_X1) ut_X4) ut_X7)
theorem wg_X7_fly_X2_at_130 : GoodIn wp_X7_fly (wsV RX7 130 RX2 yX2_at wp_X2_at) := goodIn_sub (fun w h => List.mem_cons_of_mem _ (List.mem_append_left _ (List.mem_append_left _ (List.mem_append_left _ (List.mem_append_left _ (List.mem_append_left _ (List.mem_append_left _ (List.mem_append_left _ (List.mem_append_left _ (List.mem_append_left _ (List.mem_append_left _ (List.mem_append_left _ (List.mem_append_right _ h))))))))))))) (wa_V wq_X2_at)
theorem wg_X7_fly_X0_isOrBelow_192 : GoodIn wp_X7_fly (wsV RX7 192 RX0 yX0_isOrBelow wp_X0_isOrBelow) := goodIn_sub (fun w h => List.mem_cons_of_mem _ (List.mem_append_left _ (List.mem_append_left _ (List.mem_append_left _ (List.mem_append_left _ (List.mem_append_left _ (List.mem_append_left _ (List.mem_append_left _ (List.mem_append_left _ (List.mem_append_left _ (List.mem_append_left _ (List.mem_append_right _ h)))))))))))) (wa_V wq_X0_isOrBelow)
theorem wg_X7_fly_X7_slot_136 : GoodIn wp_X7_fly (wsV RX7 136 RX7 yX7_slot wp_X7_slot) := goodIn_sub (fun w h => List.mem_cons_of_mem _ (List.mem_append_left _ (List.mem_append_left _ (List.mem_append_left _ (List.mem_append_left _ (List.mem_append_left _ (List.mem_append_left _ (List.mem_append_left _ (List.mem_append_left _ (List.mem_append_left _ (List.mem_append_right _ h))))))))))) (wa_V wq_X7_slot)
theorem wg_X7_fly_X1_cell_139 : GoodIn wp_X7_fly (va_wsS RX7 139 yX1_cell wp_X1_cell) := goodIn_sub (fun w h => List.mem_cons_of_mem _ (List.mem_append_left _ (List.mem_append_left _ (List.mem_append_left _ (List.mem_append_left _ (List.mem_append_left _ (List.mem_append_left _ (List.mem_append_left _ (List.mem_append_left _ (List.mem_append_right _ h)))))))))) (wa_S wq_X1_cell)
theorem wg_X7_fly_X1_put_110 : GoodIn wp_X7_fly (wsV RX7 110 RX1 yX1_put wp_X1_put) := goodIn_sub (fun w h => List.mem_cons_of_mem _ (List.mem_append_left _ (List.mem_append_left _ (List.mem_append_left _ (List.mem_append_left _ (List.mem_append_left _ (List.mem_append_left _ (List.mem_append_left _ (List.mem_append_right _ h))))))))) (wa_V wq_X1_put)
theorem wg_X7_fly_X2_pair_173 : GoodIn wp_X7_fly (wsV RX7 173 RX2 yX2_pair wp_X2_pair) := goodIn_sub (fun w h => List.mem_cons_of_mem _ (List.mem_append_left _ (List.mem_append_left _ (List.mem_append_left _ (List.mem_append_left _ (List.mem_append_left _ (List.mem_append_left _ (List.mem_append_right _ h)))))))) (wa_V wq_X2_pair)
theorem wg_X7_fly_X7_leaveTop_256 : GoodIn wp_X7_fly (wsV RX7 256 RX7 yX7_leaveTop wp_X7_leaveTop) := goodIn_sub (fun w h => List.mem_cons_of_mem _ (List.mem_append_left _ (List.mem_append_left _ (List.mem_append_left _ (List.mem_append_left _ (List.mem_append_left _ (List.mem_append_right _ h))))))) (wa_V wq_X7_leaveTop)
theorem wg_X7_fly_X7_loadTop_69 : GoodIn wp_X7_fly (wsV RX7 69 RX7 yX7_loadTop wp_X7_loadTop) := goodIn_sub (fun w h => List.mem_cons_of_mem _ (List.mem_append_left _ (List.mem_append_left _ (List.mem_append_left _ (List.mem_append_left _ (List.mem_append_right _ h)))))) (wa_V wq_X7_loadTop)
theorem wg_X7_fly_X1_look_120 : GoodIn wp_X7_fly (wsV RX7 120 RX1 yX1_look wp_X1_look) := goodIn_sub (fun w h => List.mem_cons_of_mem _ (List.mem_append_left _ (List.mem_append_left _ (List.mem_append_left _ (List.mem_append_right _ h))))) (wa_V wq_X1_look)
theorem wi_X7_fly_X1 : ∀ w ∈ wsX10, w ∈ wp_X7_fly := fun w h => List.mem_cons_of_mem _ (List.mem_append_left _ (List.mem_append_left _ (List.mem_append_right _ h)))
theorem wi_X7_fly_X4 : ∀ w ∈ wsX40, w ∈ wp_X7_fly := fun w h => List.mem_cons_of_mem _ (List.mem_append_left _ (List.mem_append_right _ h))
theorem wi_X7_fly_X7 : ∀ w ∈ wsX70, w ∈ wp_X7_fly := fun w h => List.mem_cons_of_mem _ (List.mem_append_right _ h)
set_option maxHeartbeats 4000000 in
set_option maxRecDepth 100000 in
theorem c_X7_fly (l : Launch) (D : va_G) (sz t0 : Nat) (σ : sm_S) (α : sm_A) (K : sm_S → Prop) (hF : mp_X7_fly σ K) : Met l yX7_fly wp_X7_fly { frames := 4, cells := 0, slots := 0, locals := 92 } (sm_P sm_wX sm_tX 37 D sz t0 σ α [.ref (α.1 7)]) (va_Qv K (sm_B sm_wX D α) (sm_a α 37 sz)) 0 0 (sm_a α 37 sz) := by
  refine Met.ofW (cc := cX7_fly) (maxL := 5) (ret := none) (by decide) rfl ?_
  intro p e s m args below meth c s₁ B hml hv
  obtain ⟨rfl, hsz, hP, hK, hD0, hE⟩ := hv
  have hx := B.exec
  have hb := B.bytes
  have hr := B.returns
  have hts := atoms_spec (ws := wp_X7_fly) B.pre
  have hown : s.vm.findClass RX7 = some m.cls := findClass_of_methodNamed B.named
  have hlocks := B.notSynchronized
  subst hsz
  have hD : sm_D (sm_a α 37 s.heap.size) α 37 := hD0.own
  have hA : ∀ q : Nat, s.heap.size ≤ q → sm_a α 37 s.heap.size q := fun q h => Or.inr h
  generalize hAe : sm_a α 37 s.heap.size = A at hD hA hE ⊢
  have hS : va_S A s.heap s.heap [] := va_S.rf
  have in_X1 : ∀ w ∈ wsX10, w ∈ wp_X7_fly := wi_X7_fly_X1
  have in_X4 : ∀ w ∈ wsX40, w ∈ wp_X7_fly := wi_X7_fly_X4
  have in_X7 : ∀ w ∈ wsX70, w ∈ wp_X7_fly := wi_X7_fly_X7
  have k_0 := hts (.fieldLink RX7 21 "SteadyMachine$Runner" "classes" "LSteadyMachine$Classes;") (by decide +kernel)
  have k_1 := hts (.fieldLink RX7 9 "SteadyMachine$Runner" "image" "LSteadyMachine$Image;") (by decide +kernel)
  have k_2 := hts (.fieldLink RX7 27 "SteadyMachine$Runner" "heap" "LSteadyMachine$Heap;") (by decide +kernel)
  have k_3 := hts (.fieldLink RX7 63 "SteadyMachine$Heap" "flies" "I") (by decide +kernel)
  have k_4 := hts (.fieldLink RX7 107 "SteadyMachine$Heap" "top" "I") (by decide +kernel)
  have k_5 := hts (.fieldLink RX7 26 "SteadyMachine$Runner" "methods" "LSteadyMachine$Methods;") (by decide +kernel)
  have k_6 := hts (.fieldLink RX7 263 "SteadyMachine$Methods" "handlers" "[I") (by decide +kernel)
  have k_7 := hts (.fieldLink RX7 124 "SteadyMachine$Runner" "method" "I") (by decide +kernel)
  have k_8 := hts (.fieldLink RX7 35 "SteadyMachine$Runner" "state" "I") (by decide +kernel)
  have k_9 := hts (.fieldLink RX7 266 "SteadyMachine$Methods" "handlerPlace" "[I") (by decide +kernel)
  have k_10 := hts (.fieldLink RX7 75 "SteadyMachine$Runner" "place" "I") (by decide +kernel)
  have hl := lv_entry ([.ref (α.1 7)]) (n := 5) (Nat.le_of_ble_eq_true rfl)
  rw [lg_entry_eq]
  generalize (lg_sl ([.ref (α.1 7)]) ++ List.replicate (5 - (lg_sl ([.ref (α.1 7)])).length) Slot.unset).toArray = ls at hl ⊢
  have hl : lv_has ls 5 [(0, .ref (α.1 7))] := hl
  have B215 : ∀ (σ : sm_S), mp_X7_fly_215 K σ → sm_J p l e (headSpec wp_X7_fly { frames := 4, cells := 0, slots := 0, locals := 92 }).room s m ([.ref (α.1 7)] : List Value).toArray below meth c (MQ below (va_Qv K (sm_B sm_wX D α) A) ([.ref (α.1 7)] : List Value).toArray s 0 0 A) D A 5 (sm_wX σ α) 215 [] [] := by
    intro σ hF H locs ls hP hS hl
    unfold mp_X7_fly_215 at hF
    exact W.vret hx hb hr (fun t ht hW => ⟨⟨σ, rfl, hF, (by unfold sm_B; rw [ht]; exact hP)⟩, hS.F ht⟩) hS.2.2 dX7_fly_215
  have B197 : ∀ (L22 : sm_S → Int32 → Int32 → Prop) (hL22 : ∀ (σ : sm_S) (x1 : Int32) (x2 : Int32), L22 σ x1 x2 → sm_J p l e (headSpec wp_X7_fly { frames := 4, cells := 0, slots := 0, locals := 92 }).room s m ([.ref (α.1 7)] : List Value).toArray below meth c (MQ below (va_Qv K (sm_B sm_wX D α) A) ([.ref (α.1 7)] : List Value).toArray s 0 0 A) D A 5 (sm_wX σ α) 22 [(0, .ref (α.1 7)), (1, .int x1), (2, .int x2)] []) (σ : sm_S) (x1 : Int32) (x2 : Int32), mp_X7_fly_197 L22 K σ x1 x2 → sm_J p l e (headSpec wp_X7_fly { frames := 4, cells := 0, slots := 0, locals := 92 }).room s m ([.ref (α.1 7)] : List Value).toArray below meth c (MQ below (va_Qv K (sm_B sm_wX D α) A) ([.ref (α.1 7)] : List Value).toArray s 0 0 A) D A 5 (sm_wX σ α) 197 [(0, .ref (α.1 7)), (1, .int x1), (2, .int x2)] [] := by
    intro L22 hL22 σ x1 x2 hF H locs ls hP hS hl
    unfold mp_X7_fly_197 at hF
    obtain ⟨v1, ev1⟩ : ∃ y : Int32, y = x2 + 1 := ⟨_, rfl⟩
    replace hF := hF v1 ev1
    refine lv_iinc (v := v1) (lv' := [(2, .int v1), (0, .ref (α.1 7)), (1, .int x1)]) hx hb dX7_fly_197 hl (k := 2) rfl (by rw [ev1]; rfl) (by decide) rfl (fun ls hl => ?_)
    refine lv_goto (tgt := 22) hx hb dX7_fly_200 (by decide) ?_
    exact hL22 σ x1 v1 hF H locs ls hP hS (lv_sub hl [1, 2, 0] rfl)
  have B93 : ∀ (L22 : sm_S → Int32 → Int32 → Prop) (hL22 : ∀ (σ : sm_S) (x1 : Int32) (x2 : Int32), L22 σ x1 x2 → sm_J p l e (headSpec wp_X7_fly { frames := 4, cells := 0, slots := 0, locals := 92 }).room s m ([.ref (α.1 7)] : List Value).toArray below meth c (MQ below (va_Qv K (sm_B sm_wX D α) A) ([.ref (α.1 7)] : List Value).toArray s 0 0 A) D A 5 (sm_wX σ α) 22 [(0, .ref (α.1 7)), (1, .int x1), (2, .int x2)] []) (σ : sm_S) (x1 : Int32) (x2 : Int32) (x3 : Int32) (y0 : Int32), mp_X7_fly_93 L22 K σ x1 x2 x3 y0 → sm_J p l e (headSpec wp_X7_fly { frames := 4, cells := 0, slots := 0, locals := 92 }).room s m ([.ref (α.1 7)] : List Value).toArray below meth c (MQ below (va_Qv K (sm_B sm_wX D α) A) ([.ref (α.1 7)] : List Value).toArray s 0 0 A) D A 5 (sm_wX σ α) 93 [(0, .ref (α.1 7)), (1, .int x1), (2, .int x2), (3, .int x3)] [.int y0] := by
    intro L22 hL22 σ x1 x2 x3 y0 hF H locs ls hP hS hl
    unfold mp_X7_fly_93 at hF
    refine lv_istore (lv' := [(4, .int y0), (0, .ref (α.1 7)), (1, .int x1), (2, .int x2), (3, .int x3)]) hx hb dX7_fly_93 hl (by decide) rfl (fun ls hl => ?_)
    refine lv_iload hx hb dX7_fly_95 (lv_at hl 0 rfl) ?_
    refine lv_if_eq (tgt := 197) hx hb dX7_fly_97 (by decide) (fun h2 => ?_) (fun h2 => ?_)
    · replace hF := hF.1 h2
      exact B197 L22 hL22 σ x1 x2 hF H locs ls hP hS (lv_sub hl [1, 2, 3] rfl)
    · replace hF := hF.2 h2
      refine lv_aload_n hx hb dX7_fly_100 rfl (lv_at hl 1 rfl) ?_
      refine va_get (D := D) (ci := 7) (v := .ref (α.1 0)) (C := RX7) (T := TX7) (N := 13) hx hb hts in_X7 hown hK hP 7 (sm_gX7 σ α) rfl 1 (by decide) k_0 (fun _ h9 => h9) rfl dX7_fly_101 ?_
      refine lv_iload_n hx hb dX7_fly_104 rfl (lv_at hl 2 rfl) ?_
      refine lv_aload_n hx hb dX7_fly_105 rfl (lv_at hl 1 rfl) ?_
      refine va_get (D := D) (ci := 7) (v := .ref (α.1 2)) (C := RX7) (T := TX7) (N := 13) hx hb hts in_X7 hown hK hP 7 (sm_gX7 σ α) rfl 0 (by decide) k_1 (fun _ h9 => h9) rfl dX7_fly_106 ?_
      refine lv_iload_n hx hb dX7_fly_109 rfl (lv_at hl 4 rfl) ?_
      refine lv_iconst (v := 4) hx hb dX7_fly_110 (by decide) ?_
      refine lv_iadd hx hb dX7_fly_111 ?_
      refine sm_vi (As := [.int (x3 + 4)]) (rest := [.int x1, .ref (α.1 0)]) hP hK hD hE hS hA ⟨hx, hb, hml, hown, hts⟩ hl.1 (c_X2_at l D H.size t0 σ α (x3 + 4) _ hF) (cwV 1 hts wg_X7_fly_X2_at_130 rfl rfl rfl (by decide +kernel) ⟨Nat.le_of_ble_eq_true rfl, Nat.le_of_ble_eq_true rfl⟩) (va_recv hK hP (ci := 2) (q0 := 2) rfl (sm_gX2 σ α)) rfl rfl (Nat.le_of_ble_eq_true rfl) dX7_fly_112 ⟨Nat.zero_le _, Nat.zero_le _⟩ (fun r4 σ3 H locs hF hP hS => ?_)
      refine sm_vi (As := [.int x1, .int r4]) (rest := []) hP hK hD hE hS hA ⟨hx, hb, hml, hown, hts⟩ hl.1 (c_X0_isOrBelow l D H.size t0 σ3 α x1 r4 _ hF) (cwV 2 hts wg_X7_fly_X0_isOrBelow_192 rfl rfl rfl (by decide +kernel) ⟨Nat.le_of_ble_eq_true rfl, Nat.le_of_ble_eq_true rfl⟩) (va_recv hK hP (ci := 0) (q0 := 0) rfl (sm_gX0 σ3 α)) rfl rfl (Nat.le_of_ble_eq_true rfl) dX7_fly_115 ⟨Nat.zero_le _, Nat.zero_le _⟩ (fun r6 σ5 H locs hF hP hS => ?_)
      refine lv_if_eq (tgt := 197) hx hb dX7_fly_118 (by decide) (fun h7 => ?_) (fun h7 => ?_)
      · replace hF := hF.1 h7
        exact B197 L22 hL22 σ5 x1 x2 hF H locs ls hP hS (lv_sub hl [1, 2, 3] rfl)
      · replace hF := hF.2 h7
        refine lv_aload_n hx hb dX7_fly_121 rfl (lv_at hl 1 rfl) ?_
        refine va_get (D := D) (ci := 7) (v := .ref (α.1 1)) (C := RX7) (T := TX7) (N := 13) hx hb hts in_X7 hown hK hP 7 (sm_gX7 σ5 α) rfl 3 (by decide) k_2 (fun _ h9 => h9) rfl dX7_fly_122 ?_
        refine lv_aload_n hx hb dX7_fly_125 rfl (lv_at hl 1 rfl) ?_
        refine lv_iconst (v := 0) hx hb dX7_fly_126 (by decide) ?_
        refine sm_vi (As := [.int 0]) (rest := [.ref (α.1 1)]) hP hK hD hE hS hA ⟨hx, hb, hml, hown, hts⟩ hl.1 (c_X7_slot l D H.size t0 σ5 α 0 _ hF) (cwV 1 hts wg_X7_fly_X7_slot_136 rfl rfl rfl (by decide +kernel) ⟨Nat.le_of_ble_eq_true rfl, Nat.le_of_ble_eq_true rfl⟩) (va_recv hK hP (ci := 7) (q0 := 7) rfl (sm_gX7 σ5 α)) rfl rfl (Nat.le_of_ble_eq_true rfl) dX7_fly_127 ⟨Nat.zero_le _, Nat.zero_le _⟩ (fun r9 σ8 H locs hF hP hS => ?_)
        refine lv_iconst (v := 1) hx hb dX7_fly_130 (by decide) ?_
        refine lv_aload_n hx hb dX7_fly_131 rfl (lv_at hl 1 rfl) ?_
        refine va_get (D := D) (ci := 7) (v := .ref (α.1 1)) (C := RX7) (T := TX7) (N := 13) hx hb hts in_X7 hown hK hP 7 (sm_gX7 σ8 α) rfl 3 (by decide) k_2 (fun _ h9 => h9) rfl dX7_fly_132 ?_
        refine va_get (D := D) (ci := 1) (v := .int (σ8.1 11)) (C := RX1) (T := TX1) (N := 16) hx hb hts in_X1 hown hK hP 1 (sm_gX1 σ8 α) rfl 13 (by decide) k_3 (fun _ h9 => h9) rfl dX7_fly_135 ?_
        refine sm_sl (As := [.int 1, .int (σ8.1 11)]) (rest := [.int r9, .ref (α.1 1)]) hP hK hD hE hS hA ⟨hx, hb, hml, hown, hts⟩ hl.1 (c_X1_cell l D H.size t0 σ8 α 1 (σ8.1 11) _ hF) (va_cwS 2 hts wg_X7_fly_X1_cell_139 rfl rfl rfl (by decide +kernel) ⟨Nat.le_of_ble_eq_true rfl, Nat.le_of_ble_eq_true rfl⟩) rfl rfl (Nat.le_of_ble_eq_true rfl) dX7_fly_138 ⟨Nat.zero_le _, Nat.zero_le _⟩ (fun r11 σ10 H locs hF hP hS => ?_)
        refine sm_vv (As := [.int r9, .long r11]) (rest := []) hP hK hD hE hS hA ⟨hx, hb, hml, hown, hts⟩ hl.1 (c_X1_put l D H.size t0 σ10 α r9 r11 _ hF) (cwV 2 hts wg_X7_fly_X1_put_110 rfl rfl rfl (by decide +kernel) ⟨Nat.le_of_ble_eq_true rfl, Nat.le_of_ble_eq_true rfl⟩) (va_recv hK hP (ci := 1) (q0 := 1) rfl (sm_gX1 σ10 α)) rfl rfl (Nat.le_of_ble_eq_true rfl) dX7_fly_141 ⟨Nat.zero_le _, Nat.zero_le _⟩ (fun σ12 H locs hF hP hS => ?_)
        refine lv_aload_n hx hb dX7_fly_144 rfl (lv_at hl 1 rfl) ?_
        refine va_get (D := D) (ci := 7) (v := .ref (α.1 1)) (C := RX7) (T := TX7) (N := 13) hx hb hts in_X7 hown hK hP 7 (sm_gX7 σ12 α) rfl 3 (by decide) k_2 (fun _ h9 => h9) rfl dX7_fly_145 ?_
        refine lv_aload_n hx hb dX7_fly_148 rfl (lv_at hl 1 rfl) ?_
        refine va_get (D := D) (ci := 7) (v := .ref (α.1 1)) (C := RX7) (T := TX7) (N := 13) hx hb hts in_X7 hown hK hP 7 (sm_gX7 σ12 α) rfl 3 (by decide) k_2 (fun _ h9 => h9) rfl dX7_fly_149 ?_
        refine va_get (D := D) (ci := 1) (v := .int (σ12.1 10)) (C := RX1) (T := TX1) (N := 16) hx hb hts in_X1 hown hK hP 1 (sm_gX1 σ12 α) rfl 12 (by decide) k_4 (fun _ h9 => h9) rfl dX7_fly_152 ?_
        refine lv_iconst (v := 1) hx hb dX7_fly_155 (by decide) ?_
        refine lv_iadd hx hb dX7_fly_156 ?_
        refine lv_aload_n hx hb dX7_fly_157 rfl (lv_at hl 1 rfl) ?_
        refine va_get (D := D) (ci := 7) (v := .ref (α.1 2)) (C := RX7) (T := TX7) (N := 13) hx hb hts in_X7 hown hK hP 7 (sm_gX7 σ12 α) rfl 0 (by decide) k_1 (fun _ h9 => h9) rfl dX7_fly_158 ?_
        refine lv_iload_n hx hb dX7_fly_161 rfl (lv_at hl 4 rfl) ?_
        refine lv_iconst (v := 5) hx hb dX7_fly_162 (by decide) ?_
        refine lv_iadd hx hb dX7_fly_163 ?_
        refine sm_vi (As := [.int (x3 + 5)]) (rest := [.int ((σ12.1 10) + 1), .ref (α.1 1)]) hP hK hD hE hS hA ⟨hx, hb, hml, hown, hts⟩ hl.1 (c_X2_pair l D H.size t0 σ12 α (x3 + 5) _ hF) (cwV 1 hts wg_X7_fly_X2_pair_173 rfl rfl rfl (by decide +kernel) ⟨Nat.le_of_ble_eq_true rfl, Nat.le_of_ble_eq_true rfl⟩) (va_recv hK hP (ci := 2) (q0 := 2) rfl (sm_gX2 σ12 α)) rfl rfl (Nat.le_of_ble_eq_true rfl) dX7_fly_164 ⟨Nat.zero_le _, Nat.zero_le _⟩ (fun r14 σ13 H locs hF hP hS => ?_)
        refine lv_i2l hx hb dX7_fly_167 rfl ?_
        refine sm_vv (As := [.int ((σ12.1 10) + 1), .long r14.toInt64]) (rest := []) hP hK hD hE hS hA ⟨hx, hb, hml, hown, hts⟩ hl.1 (c_X1_put l D H.size t0 σ13 α ((σ12.1 10) + 1) r14.toInt64 _ hF) (cwV 2 hts wg_X7_fly_X1_put_110 rfl rfl rfl (by decide +kernel) ⟨Nat.le_of_ble_eq_true rfl, Nat.le_of_ble_eq_true rfl⟩) (va_recv hK hP (ci := 1) (q0 := 1) rfl (sm_gX1 σ13 α)) rfl rfl (Nat.le_of_ble_eq_true rfl) dX7_fly_168 ⟨Nat.zero_le _, Nat.zero_le _⟩ (fun σ15 H locs hF hP hS => ?_)
        refine lv_aload_n hx hb dX7_fly_171 rfl (lv_at hl 1 rfl) ?_
        refine va_get (D := D) (ci := 7) (v := .ref (α.1 1)) (C := RX7) (T := TX7) (N := 13) hx hb hts in_X7 hown hK hP 7 (sm_gX7 σ15 α) rfl 3 (by decide) k_2 (fun _ h9 => h9) rfl dX7_fly_172 ?_
        refine lv_aload_n hx hb dX7_fly_175 rfl (lv_at hl 1 rfl) ?_
        refine va_get (D := D) (ci := 7) (v := .ref (α.1 1)) (C := RX7) (T := TX7) (N := 13) hx hb hts in_X7 hown hK hP 7 (sm_gX7 σ15 α) rfl 3 (by decide) k_2 (fun _ h9 => h9) rfl dX7_fly_176 ?_
        refine va_get (D := D) (ci := 1) (v := .int (σ15.1 10)) (C := RX1) (T := TX1) (N := 16) hx hb hts in_X1 hown hK hP 1 (sm_gX1 σ15 α) rfl 12 (by decide) k_4 (fun _ h9 => h9) rfl dX7_fly_179 ?_
        refine lv_iconst (v := 2) hx hb dX7_fly_182 (by decide) ?_
        refine lv_iadd hx hb dX7_fly_183 ?_
        refine lv_lconst (v := 1) hx hb dX7_fly_184 (by decide) ?_
        refine sm_vv (As := [.int ((σ15.1 10) + 2), .long 1]) (rest := []) hP hK hD hE hS hA ⟨hx, hb, hml, hown, hts⟩ hl.1 (c_X1_put l D H.size t0 σ15 α ((σ15.1 10) + 2) 1 _ hF) (cwV 2 hts wg_X7_fly_X1_put_110 rfl rfl rfl (by decide +kernel) ⟨Nat.le_of_ble_eq_true rfl, Nat.le_of_ble_eq_true rfl⟩) (va_recv hK hP (ci := 1) (q0 := 1) rfl (sm_gX1 σ15 α)) rfl rfl (Nat.le_of_ble_eq_true rfl) dX7_fly_185 ⟨Nat.zero_le _, Nat.zero_le _⟩ (fun σ16 H locs hF hP hS => ?_)
        refine lv_aload_n hx hb dX7_fly_188 rfl (lv_at hl 1 rfl) ?_
        refine va_get (D := D) (ci := 7) (v := .ref (α.1 1)) (C := RX7) (T := TX7) (N := 13) hx hb hts in_X7 hown hK hP 7 (sm_gX7 σ16 α) rfl 3 (by decide) k_2 (fun _ h9 => h9) rfl dX7_fly_189 ?_
        refine lv_iconst (v := 0) hx hb dX7_fly_192 (by decide) ?_
        refine va_put (D := D) (ci := 1) (v := .int 0) (ty := .int) (C := RX1) (T := TX1) (N := 16) hx hb hts in_X1 tyX1 tyX1_ok nmX1 hown hK hP (hD.to (sm_wX_m _ _)) hS 1 (sm_gX1 σ16 α) rfl 13 (by decide) k_3 (fun _ h9 => h9) rfl (by decide +kernel) rfl rfl (Nat.le_of_ble_eq_true rfl) dX7_fly_193 (fun H locs hP _ hS => ?_)
        rw [sm_iX11] at hP
        obtain ⟨σ17, eσ17⟩ : ∃ x : sm_S, x = sm_i σ16 11 0 := ⟨_, rfl⟩
        replace hF := hF σ17 eσ17
        rw [← eσ17] at hP
        exact W.vret hx hb hr (fun t ht hW => ⟨⟨σ17, rfl, hF, (by unfold sm_B; rw [ht]; exact hP)⟩, hS.F ht⟩) hS.2.2 dX7_fly_196
  have B92 : ∀ (L22 : sm_S → Int32 → Int32 → Prop) (hL22 : ∀ (σ : sm_S) (x1 : Int32) (x2 : Int32), L22 σ x1 x2 → sm_J p l e (headSpec wp_X7_fly { frames := 4, cells := 0, slots := 0, locals := 92 }).room s m ([.ref (α.1 7)] : List Value).toArray below meth c (MQ below (va_Qv K (sm_B sm_wX D α) A) ([.ref (α.1 7)] : List Value).toArray s 0 0 A) D A 5 (sm_wX σ α) 22 [(0, .ref (α.1 7)), (1, .int x1), (2, .int x2)] []) (σ : sm_S) (x1 : Int32) (x2 : Int32) (x3 : Int32), mp_X7_fly_92 L22 K σ x1 x2 x3 → sm_J p l e (headSpec wp_X7_fly { frames := 4, cells := 0, slots := 0, locals := 92 }).room s m ([.ref (α.1 7)] : List Value).toArray below meth c (MQ below (va_Qv K (sm_B sm_wX D α) A) ([.ref (α.1 7)] : List Value).toArray s 0 0 A) D A 5 (sm_wX σ α) 92 [(0, .ref (α.1 7)), (1, .int x1), (2, .int x2), (3, .int x3)] [] := by
    intro L22 hL22 σ x1 x2 x3 hF H locs ls hP hS hl
    unfold mp_X7_fly_92 at hF
    refine lv_iconst (v := 0) hx hb dX7_fly_92 (by decide) ?_
    exact B93 L22 hL22 σ x1 x2 x3 0 hF H locs ls hP hS (lv_sub hl [0, 1, 2, 3] rfl)
  have B22 : ∀ (n : Nat) (σ : sm_S) (x1 : Int32) (x2 : Int32), mp_X7_fly_22 K n σ x1 x2 → sm_J p l e (headSpec wp_X7_fly { frames := 4, cells := 0, slots := 0, locals := 92 }).room s m ([.ref (α.1 7)] : List Value).toArray below meth c (MQ below (va_Qv K (sm_B sm_wX D α) A) ([.ref (α.1 7)] : List Value).toArray s 0 0 A) D A 5 (sm_wX σ α) 22 [(0, .ref (α.1 7)), (1, .int x1), (2, .int x2)] [] := by
    intro n22
    induction n22 with
    | zero =>
      intro σ x1 x2 hF
      exact hF.elim
    | succ n22 ih22 =>
      intro σ x1 x2 hF H locs ls hP hS hl
      unfold mp_X7_fly_22 at hF
      refine lv_iload_n hx hb dX7_fly_22 rfl (lv_at hl 2 rfl) ?_
      refine lv_aload_n hx hb dX7_fly_23 rfl (lv_at hl 0 rfl) ?_
      refine va_get (D := D) (ci := 7) (v := .ref (α.1 4)) (C := RX7) (T := TX7) (N := 13) hx hb hts in_X7 hown hK hP 7 (sm_gX7 σ α) rfl 2 (by decide) k_5 (fun _ h9 => h9) rfl dX7_fly_24 ?_
      refine va_get (D := D) (ci := 4) (v := .ref (α.1 28)) (C := RX4) (T := TX4) (N := 12) hx hb hts in_X4 hown hK hP 4 (sm_gX4 σ α) rfl 10 (by decide) k_6 (fun _ h9 => h9) rfl dX7_fly_27 ?_
      refine lv_aload_n hx hb dX7_fly_30 rfl (lv_at hl 0 rfl) ?_
      refine va_get (D := D) (ci := 7) (v := .int (σ.1 24)) (C := RX7) (T := TX7) (N := 13) hx hb hts in_X7 hown hK hP 7 (sm_gX7 σ α) rfl 8 (by decide) k_7 (fun _ h9 => h9) rfl dX7_fly_31 ?_
      obtain ⟨h18, hF⟩ := hF
      refine va_iald (n := (σ.2.2.1 28)) (f := (σ.2.2.2.1 28)) hx hb hK hP 28 17 (sm_aX28 σ α) (sm_yX28 α) h18 dX7_fly_34 ?_
      refine lv_icmp_ge (tgt := 203) hx hb dX7_fly_35 (by decide) (fun h19 => ?_) (fun h19 => ?_)
      · replace hF := hF.1 h19
        refine lv_aload_n hx hb dX7_fly_203 rfl (lv_at hl 0 rfl) ?_
        refine sm_vi (As := []) (rest := []) hP hK hD hE hS hA ⟨hx, hb, hml, hown, hts⟩ hl.1 (c_X7_leaveTop l D H.size t0 σ α _ hF) (cwV 0 hts wg_X7_fly_X7_leaveTop_256 rfl rfl rfl (by decide +kernel) ⟨Nat.le_of_ble_eq_true rfl, Nat.le_of_ble_eq_true rfl⟩) (va_recv hK hP (ci := 7) (q0 := 7) rfl (sm_gX7 σ α)) rfl rfl (Nat.le_of_ble_eq_true rfl) dX7_fly_204 ⟨Nat.zero_le _, Nat.zero_le _⟩ (fun r21 σ20 H locs hF hP hS => ?_)
        refine lv_if_ne (tgt := 215) hx hb dX7_fly_207 (by decide) (fun h22 => ?_) (fun h22 => ?_)
        · replace hF := hF.1 h22
          exact B215 σ20 hF H locs ls hP hS (lv_sub hl [] rfl)
        · replace hF := hF.2 h22
          refine lv_aload_n hx hb dX7_fly_210 rfl (lv_at hl 0 rfl) ?_
          refine lv_iconst (v := 3) hx hb dX7_fly_211 (by decide) ?_
          refine va_put (D := D) (ci := 7) (v := .int 3) (ty := .int) (C := RX7) (T := TX7) (N := 13) hx hb hts in_X7 tyX7 tyX7_ok nmX7 hown hK hP (hD.to (sm_wX_m _ _)) hS 7 (sm_gX7 σ20 α) rfl 5 (by decide) k_8 (fun _ h9 => h9) rfl (by decide +kernel) rfl rfl (Nat.le_of_ble_eq_true rfl) dX7_fly_212 (fun H locs hP _ hS => ?_)
          rw [sm_iX22] at hP
          obtain ⟨σ23, eσ23⟩ : ∃ x : sm_S, x = sm_i σ20 22 3 := ⟨_, rfl⟩
          replace hF := hF σ23 eσ23
          rw [← eσ23] at hP
          exact B215 σ23 hF H locs ls hP hS (lv_sub hl [] rfl)
      · replace hF := hF.2 h19
        refine lv_aload_n hx hb dX7_fly_38 rfl (lv_at hl 0 rfl) ?_
        refine va_get (D := D) (ci := 7) (v := .ref (α.1 4)) (C := RX7) (T := TX7) (N := 13) hx hb hts in_X7 hown hK hP 7 (sm_gX7 σ α) rfl 2 (by decide) k_5 (fun _ h9 => h9) rfl dX7_fly_39 ?_
        refine va_get (D := D) (ci := 4) (v := .ref (α.1 29)) (C := RX4) (T := TX4) (N := 12) hx hb hts in_X4 hown hK hP 4 (sm_gX4 σ α) rfl 11 (by decide) k_9 (fun _ h9 => h9) rfl dX7_fly_42 ?_
        refine lv_aload_n hx hb dX7_fly_45 rfl (lv_at hl 0 rfl) ?_
        refine va_get (D := D) (ci := 7) (v := .int (σ.1 24)) (C := RX7) (T := TX7) (N := 13) hx hb hts in_X7 hown hK hP 7 (sm_gX7 σ α) rfl 8 (by decide) k_7 (fun _ h9 => h9) rfl dX7_fly_46 ?_
        obtain ⟨h24, hF⟩ := hF
        refine va_iald (n := (σ.2.2.1 29)) (f := (σ.2.2.2.1 29)) hx hb hK hP 29 18 (sm_aX29 σ α) (sm_yX29 α) h24 dX7_fly_49 ?_
        refine lv_iload_n hx hb dX7_fly_50 rfl (lv_at hl 2 rfl) ?_
        refine lv_bipush (v := 7) hx hb dX7_fly_51 (by decide) ?_
        refine lv_imul hx hb dX7_fly_53 ?_
        refine lv_iadd hx hb dX7_fly_54 ?_
        refine lv_topi (fun v25 ev25 => ?_)
        replace hF := hF v25 ev25
        refine lv_istore_n (lv' := [(3, .int v25), (0, .ref (α.1 7)), (1, .int x1), (2, .int x2)]) hx hb dX7_fly_55 rfl hl (by decide) rfl (fun ls hl => ?_)
        refine lv_aload_n hx hb dX7_fly_56 rfl (lv_at hl 1 rfl) ?_
        refine va_get (D := D) (ci := 7) (v := .ref (α.1 2)) (C := RX7) (T := TX7) (N := 13) hx hb hts in_X7 hown hK hP 7 (sm_gX7 σ α) rfl 0 (by decide) k_1 (fun _ h9 => h9) rfl dX7_fly_57 ?_
        refine lv_iload_n hx hb dX7_fly_60 rfl (lv_at hl 0 rfl) ?_
        refine sm_vi (As := [.int v25]) (rest := []) hP hK hD hE hS hA ⟨hx, hb, hml, hown, hts⟩ hl.1 (c_X2_pair l D H.size t0 σ α v25 _ hF) (cwV 1 hts wg_X7_fly_X2_pair_173 rfl rfl rfl (by decide +kernel) ⟨Nat.le_of_ble_eq_true rfl, Nat.le_of_ble_eq_true rfl⟩) (va_recv hK hP (ci := 2) (q0 := 2) rfl (sm_gX2 σ α)) rfl rfl (Nat.le_of_ble_eq_true rfl) dX7_fly_61 ⟨Nat.zero_le _, Nat.zero_le _⟩ (fun r27 σ26 H locs hF hP hS => ?_)
        refine lv_aload_n hx hb dX7_fly_64 rfl (lv_at hl 1 rfl) ?_
        refine va_get (D := D) (ci := 7) (v := .int (σ26.1 25)) (C := RX7) (T := TX7) (N := 13) hx hb hts in_X7 hown hK hP 7 (sm_gX7 σ26 α) rfl 9 (by decide) k_10 (fun _ h9 => h9) rfl dX7_fly_65 ?_
        refine lv_icmp_gt (tgt := 92) hx hb dX7_fly_68 (by decide) (fun h28 => ?_) (fun h28 => ?_)
        · replace hF := hF.1 h28
          exact B92 (mp_X7_fly_22 K n22) ih22 σ26 x1 x2 v25 hF H locs ls hP hS (lv_sub hl [1, 2, 3, 0] rfl)
        · replace hF := hF.2 h28
          refine lv_aload_n hx hb dX7_fly_71 rfl (lv_at hl 1 rfl) ?_
          refine va_get (D := D) (ci := 7) (v := .int (σ26.1 25)) (C := RX7) (T := TX7) (N := 13) hx hb hts in_X7 hown hK hP 7 (sm_gX7 σ26 α) rfl 9 (by decide) k_10 (fun _ h9 => h9) rfl dX7_fly_72 ?_
          refine lv_aload_n hx hb dX7_fly_75 rfl (lv_at hl 1 rfl) ?_
          refine va_get (D := D) (ci := 7) (v := .ref (α.1 2)) (C := RX7) (T := TX7) (N := 13) hx hb hts in_X7 hown hK hP 7 (sm_gX7 σ26 α) rfl 0 (by decide) k_1 (fun _ h9 => h9) rfl dX7_fly_76 ?_
          refine lv_iload_n hx hb dX7_fly_79 rfl (lv_at hl 0 rfl) ?_
          refine lv_iconst (v := 2) hx hb dX7_fly_80 (by decide) ?_
          refine lv_iadd hx hb dX7_fly_81 ?_
          refine sm_vi (As := [.int (v25 + 2)]) (rest := [.int (σ26.1 25)]) hP hK hD hE hS hA ⟨hx, hb, hml, hown, hts⟩ hl.1 (c_X2_pair l D H.size t0 σ26 α (v25 + 2) _ hF) (cwV 1 hts wg_X7_fly_X2_pair_173 rfl rfl rfl (by decide +kernel) ⟨Nat.le_of_ble_eq_true rfl, Nat.le_of_ble_eq_true rfl⟩) (va_recv hK hP (ci := 2) (q0 := 2) rfl (sm_gX2 σ26 α)) rfl rfl (Nat.le_of_ble_eq_true rfl) dX7_fly_82 ⟨Nat.zero_le _, Nat.zero_le _⟩ (fun r30 σ29 H locs hF hP hS => ?_)
          refine lv_icmp_ge (tgt := 92) hx hb dX7_fly_85 (by decide) (fun h31 => ?_) (fun h31 => ?_)
          · replace hF := hF.1 h31
            exact B92 (mp_X7_fly_22 K n22) ih22 σ29 x1 x2 v25 hF H locs ls hP hS (lv_sub hl [1, 2, 3, 0] rfl)
          · replace hF := hF.2 h31
            refine lv_iconst (v := 1) hx hb dX7_fly_88 (by decide) ?_
            refine lv_goto (tgt := 93) hx hb dX7_fly_89 (by decide) ?_
            exact B93 (mp_X7_fly_22 K n22) ih22 σ29 x1 x2 v25 1 hF H locs ls hP hS (lv_sub hl [1, 2, 3, 0] rfl)
  unfold mp_X7_fly at hF
  revert hP hS
  generalize hLo : ([] : List Loc) = locs
  suffices h9 : ∀ (H : Heap) (locs : List Loc), va_P D vwCl (sm_wX σ α) H → va_S A s.heap H locs → W p l e (headSpec wp_X7_fly { frames := 4, cells := 0, slots := 0, locals := 92 }).room s m ([.ref (α.1 7)] : List Value).toArray below meth c H locs 0 0 (MQ below (va_Qv K (sm_B sm_wX D α) A) ([.ref (α.1 7)] : List Value).toArray s 0 0 A) (F0 m 0 ls []) from fun hP hS => h9 s.heap locs hP hS
  intro H locs hP hS
  refine lv_aload_n hx hb dX7_fly_0 rfl (lv_at hl 0 rfl) ?_
  refine sm_vv (As := []) (rest := []) hP hK hD hE hS hA ⟨hx, hb, hml, hown, hts⟩ hl.1 (c_X7_loadTop l D H.size t0 σ α _ hF) (cwV 0 hts wg_X7_fly_X7_loadTop_69 rfl rfl rfl (by decide +kernel) ⟨Nat.le_of_ble_eq_true rfl, Nat.le_of_ble_eq_true rfl⟩) (va_recv hK hP (ci := 7) (q0 := 7) rfl (sm_gX7 σ α)) rfl rfl (Nat.le_of_ble_eq_true rfl) dX7_fly_1 ⟨Nat.zero_le _, Nat.zero_le _⟩ (fun σ32 H locs hF hP hS => ?_)
  refine lv_aload_n hx hb dX7_fly_4 rfl (lv_at hl 0 rfl) ?_
  refine va_get (D := D) (ci := 7) (v := .ref (α.1 1)) (C := RX7) (T := TX7) (N := 13) hx hb hts in_X7 hown hK hP 7 (sm_gX7 σ32 α) rfl 3 (by decide) k_2 (fun _ h9 => h9) rfl dX7_fly_5 ?_
  refine lv_aload_n hx hb dX7_fly_8 rfl (lv_at hl 0 rfl) ?_
  refine va_get (D := D) (ci := 7) (v := .ref (α.1 1)) (C := RX7) (T := TX7) (N := 13) hx hb hts in_X7 hown hK hP 7 (sm_gX7 σ32 α) rfl 3 (by decide) k_2 (fun _ h9 => h9) rfl dX7_fly_9 ?_
  refine va_get (D := D) (ci := 1) (v := .int (σ32.1 11)) (C := RX1) (T := TX1) (N := 16) hx hb hts in_X1 hown hK hP 1 (sm_gX1 σ32 α) rfl 13 (by decide) k_3 (fun _ h9 => h9) rfl dX7_fly_12 ?_
  refine sm_vl (As := [.int (σ32.1 11)]) (rest := []) hP hK hD hE hS hA ⟨hx, hb, hml, hown, hts⟩ hl.1 (c_X1_look l D H.size t0 σ32 α (σ32.1 11) _ hF) (cwV 1 hts wg_X7_fly_X1_look_120 rfl rfl rfl (by decide +kernel) ⟨Nat.le_of_ble_eq_true rfl, Nat.le_of_ble_eq_true rfl⟩) (va_recv hK hP (ci := 1) (q0 := 1) rfl (sm_gX1 σ32 α)) rfl rfl (Nat.le_of_ble_eq_true rfl) dX7_fly_15 ⟨Nat.zero_le _, Nat.zero_le _⟩ (fun r34 σ33 H locs hF hP hS => ?_)
  refine lv_l2i hx hb dX7_fly_18 rfl ?_
  refine lv_istore_n (lv' := [(1, .int r34.toInt32), (0, .ref (α.1 7))]) hx hb dX7_fly_19 rfl hl (by decide) rfl (fun ls hl => ?_)
  refine lv_iconst (v := 0) hx hb dX7_fly_20 (by decide) ?_
  refine lv_istore_n (lv' := [(2, .int 0), (1, .int r34.toInt32), (0, .ref (α.1 7))]) hx hb dX7_fly_21 rfl hl (by decide) rfl (fun ls hl => ?_)
  obtain ⟨n22, hF⟩ := hF
  exact B22 n22 σ33 r34.toInt32 0 hF H locs ls hP hS (lv_sub hl [2, 1, 0] rfl)
theorem dX7_holds_0 : decode cX7_holds 0 = .ok (.iload_n 0, 1) := by decide +kernel
theorem dX7_holds_1 : decode cX7_holds 1 = .ok (.tableswitch 90 0 4 #[35, 46, 57, 68, 79], 35) := by decide +kernel
theorem dX7_holds_36 : decode cX7_holds 36 = .ok (.iload_n 1, 1) := by decide +kernel
theorem dX7_holds_37 : decode cX7_holds 37 = .ok (.iload_n 2, 1) := by decide +kernel
theorem dX7_holds_38 : decode cX7_holds 38 = .ok (.if_icmp .ne 7, 3) := by decide +kernel
theorem dX7_holds_41 : decode cX7_holds 41 = .ok (.iconst 1, 1) := by decide +kernel
theorem dX7_holds_42 : decode cX7_holds 42 = .ok (.goto 4, 3) := by decide +kernel
theorem dX7_holds_45 : decode cX7_holds 45 = .ok (.iconst 0, 1) := by decide +kernel
theorem dX7_holds_46 : decode cX7_holds 46 = .ok (.ireturn, 1) := by decide +kernel
theorem dX7_holds_47 : decode cX7_holds 47 = .ok (.iload_n 1, 1) := by decide +kernel
theorem dX7_holds_48 : decode cX7_holds 48 = .ok (.iload_n 2, 1) := by decide +kernel
theorem dX7_holds_49 : decode cX7_holds 49 = .ok (.if_icmp .eq 7, 3) := by decide +kernel
theorem dX7_holds_52 : decode cX7_holds 52 = .ok (.iconst 1, 1) := by decide +kernel
theorem dX7_holds_53 : decode cX7_holds 53 = .ok (.goto 4, 3) := by decide +kernel
theorem dX7_holds_56 : decode cX7_holds 56 = .ok (.iconst 0, 1) := by decide +kernel
theorem dX7_holds_57 : decode cX7_holds 57 = .ok (.ireturn, 1) := by decide +kernel
theorem dX7_holds_58 : decode cX7_holds 58 = .ok (.iload_n 1, 1) := by decide +kernel
theorem dX7_holds_59 : decode cX7_holds 59 = .ok (.iload_n 2, 1) := by decide +kernel
theorem dX7_holds_60 : decode cX7_holds 60 = .ok (.if_icmp .ge 7, 3) := by decide +kernel
theorem dX7_holds_63 : decode cX7_holds 63 = .ok (.iconst 1, 1) := by decide +kernel
theorem dX7_holds_64 : decode cX7_holds 64 = .ok (.goto 4, 3) := by decide +kernel
theorem dX7_holds_67 : decode cX7_holds 67 = .ok (.iconst 0, 1) := by decide +kernel
theorem dX7_holds_68 : decode cX7_holds 68 = .ok (.ireturn, 1) := by decide +kernel
theorem dX7_holds_69 : decode cX7_holds 69 = .ok (.iload_n 1, 1) := by decide +kernel
theorem dX7_holds_70 : decode cX7_holds 70 = .ok (.iload_n 2, 1) := by decide +kernel
theorem dX7_holds_71 : decode cX7_holds 71 = .ok (.if_icmp .lt 7, 3) := by decide +kernel
theorem dX7_holds_74 : decode cX7_holds 74 = .ok (.iconst 1, 1) := by decide +kernel
theorem dX7_holds_75 : decode cX7_holds 75 = .ok (.goto 4, 3) := by decide +kernel
theorem dX7_holds_78 : decode cX7_holds 78 = .ok (.iconst 0, 1) := by decide +kernel
theorem dX7_holds_79 : decode cX7_holds 79 = .ok (.ireturn, 1) := by decide +kernel
theorem dX7_holds_80 : decode cX7_holds 80 = .ok (.iload_n 1, 1) := by decide +kernel
theorem dX7_holds_81 : decode cX7_holds 81 = .ok (.iload_n 2, 1) := by decide +kernel
theorem dX7_holds_82 : decode cX7_holds 82 = .ok (.if_icmp .le 7, 3) := by decide +kernel
theorem dX7_holds_85 : decode cX7_holds 85 = .ok (.iconst 1, 1) := by decide +kernel
theorem dX7_holds_86 : decode cX7_holds 86 = .ok (.goto 4, 3) := by decide +kernel
theorem dX7_holds_89 : decode cX7_holds 89 = .ok (.iconst 0, 1) := by decide +kernel
theorem dX7_holds_90 : decode cX7_holds 90 = .ok (.ireturn, 1) := by decide +kernel
theorem dX7_holds_91 : decode cX7_holds 91 = .ok (.iload_n 1, 1) := by decide +kernel
theorem dX7_holds_92 : decode cX7_holds 92 = .ok (.iload_n 2, 1) := by decide +kernel
theorem dX7_holds_93 : decode cX7_holds 93 = .ok (.if_icmp .gt 7, 3) := by decide +kernel
theorem dX7_holds_96 : decode cX7_holds 96 = .ok (.iconst 1, 1) := by decide +kernel
theorem dX7_holds_97 : decode cX7_holds 97 = .ok (.goto 4, 3) := by decide +kernel
theorem dX7_holds_100 : decode cX7_holds 100 = .ok (.iconst 0, 1) := by decide +kernel
theorem dX7_holds_101 : decode cX7_holds 101 = .ok (.ireturn, 1) := by decide +kernel
def wp_X7_holds : List Cond := .code yX7_holds cX7_holds 3 (some .boolean) :: []
theorem wq_X7_holds : wp_X7_holds.all goodWord = true := wa_c rfl (by decide +kernel)
theorem wt_X7_holds : GoodIn lw_tbl wp_X7_holds := wm_c (List.mem_of_getElem? (i := 1009) (by decide +kernel)) rfl (goodIn_r _ [] (by decide +kernel) (by decide +kernel))
set_option maxHeartbeats 4000000 in
set_option maxRecDepth 100000 in
theorem c_X7_holds (l : Launch) (D : va_G) (sz t0 : Nat) (σ : sm_S) (α : sm_A) (p1 : Int32) (p2 : Int32) (p3 : Int32) (K : Int32 → sm_S → Prop) (hF : mp_X7_holds σ p1 p2 p3 K) : Met l yX7_holds wp_X7_holds { frames := 0, cells := 0, slots := 0, locals := 0 } (sm_P sm_wX sm_tX 37 D sz t0 σ α [.int p1, .int p2, .int p3]) (va_Qi K (sm_B sm_wX D α) (sm_a α 37 sz)) 0 0 (sm_a α 37 sz) := by
  refine Met.ofW (cc := cX7_holds) (maxL := 3) (ret := (some .boolean)) (by decide) rfl ?_
  intro p e s m args below meth c s₁ B hml hv
  obtain ⟨rfl, hsz, hP, hK, hD0, hE⟩ := hv
  have hx := B.exec
  have hb := B.bytes
  have hr := B.returns
  have hts := atoms_spec (ws := wp_X7_holds) B.pre
  have hown : s.vm.findClass RX7 = some m.cls := findClass_of_methodNamed B.named
  have hlocks := B.notSynchronized
  subst hsz
  have hD : sm_D (sm_a α 37 s.heap.size) α 37 := hD0.own
  have hA : ∀ q : Nat, s.heap.size ≤ q → sm_a α 37 s.heap.size q := fun q h => Or.inr h
  generalize hAe : sm_a α 37 s.heap.size = A at hD hA hE ⊢
  have hS : va_S A s.heap s.heap [] := va_S.rf
  have hl := lv_entry ([.int p1, .int p2, .int p3]) (n := 3) (Nat.le_of_ble_eq_true rfl)
  rw [lg_entry_eq]
  generalize (lg_sl ([.int p1, .int p2, .int p3]) ++ List.replicate (3 - (lg_sl ([.int p1, .int p2, .int p3])).length) Slot.unset).toArray = ls at hl ⊢
  have hl : lv_has ls 3 [(0, .int p1), (1, .int p2), (2, .int p3)] := hl
  have B101 : ∀ (σ : sm_S) (y0 : Int32), mp_X7_holds_101 K σ y0 → sm_J p l e (headSpec wp_X7_holds { frames := 0, cells := 0, slots := 0, locals := 0 }).room s m ([.int p1, .int p2, .int p3] : List Value).toArray below meth c (MQ below (va_Qi K (sm_B sm_wX D α) A) ([.int p1, .int p2, .int p3] : List Value).toArray s 0 0 A) D A 3 (sm_wX σ α) 101 [] [.int y0] := by
    intro σ y0 hF H locs ls hP hS hl
    unfold mp_X7_holds_101 at hF
    obtain ⟨h1, hF⟩ := hF
    exact W.zret (v := y0) hx hb hr h1.1 (fun t ht hW => ⟨⟨y0, σ, rfl, hF, (by unfold sm_B; rw [ht]; exact hP)⟩, hS.F ht⟩) hS.2.2 dX7_holds_101
  have B90 : ∀ (σ : sm_S) (y0 : Int32), mp_X7_holds_90 K σ y0 → sm_J p l e (headSpec wp_X7_holds { frames := 0, cells := 0, slots := 0, locals := 0 }).room s m ([.int p1, .int p2, .int p3] : List Value).toArray below meth c (MQ below (va_Qi K (sm_B sm_wX D α) A) ([.int p1, .int p2, .int p3] : List Value).toArray s 0 0 A) D A 3 (sm_wX σ α) 90 [] [.int y0] := by
    intro σ y0 hF H locs ls hP hS hl
    unfold mp_X7_holds_90 at hF
    obtain ⟨h2, hF⟩ := hF
    exact W.zret (v := y0) hx hb hr h2.1 (fun t ht hW => ⟨⟨y0, σ, rfl, hF, (by unfold sm_B; rw [ht]; exact hP)⟩, hS.F ht⟩) hS.2.2 dX7_holds_90
  have B79 : ∀ (σ : sm_S) (y0 : Int32), mp_X7_holds_79 K σ y0 → sm_J p l e (headSpec wp_X7_holds { frames := 0, cells := 0, slots := 0, locals := 0 }).room s m ([.int p1, .int p2, .int p3] : List Value).toArray below meth c (MQ below (va_Qi K (sm_B sm_wX D α) A) ([.int p1, .int p2, .int p3] : List Value).toArray s 0 0 A) D A 3 (sm_wX σ α) 79 [] [.int y0] := by
    intro σ y0 hF H locs ls hP hS hl
    unfold mp_X7_holds_79 at hF
    obtain ⟨h3, hF⟩ := hF
    exact W.zret (v := y0) hx hb hr h3.1 (fun t ht hW => ⟨⟨y0, σ, rfl, hF, (by unfold sm_B; rw [ht]; exact hP)⟩, hS.F ht⟩) hS.2.2 dX7_holds_79
  have B68 : ∀ (σ : sm_S) (y0 : Int32), mp_X7_holds_68 K σ y0 → sm_J p l e (headSpec wp_X7_holds { frames := 0, cells := 0, slots := 0, locals := 0 }).room s m ([.int p1, .int p2, .int p3] : List Value).toArray below meth c (MQ below (va_Qi K (sm_B sm_wX D α) A) ([.int p1, .int p2, .int p3] : List Value).toArray s 0 0 A) D A 3 (sm_wX σ α) 68 [] [.int y0] := by
    intro σ y0 hF H locs ls hP hS hl
    unfold mp_X7_holds_68 at hF
    obtain ⟨h4, hF⟩ := hF
    exact W.zret (v := y0) hx hb hr h4.1 (fun t ht hW => ⟨⟨y0, σ, rfl, hF, (by unfold sm_B; rw [ht]; exact hP)⟩, hS.F ht⟩) hS.2.2 dX7_holds_68
  have B57 : ∀ (σ : sm_S) (y0 : Int32), mp_X7_holds_57 K σ y0 → sm_J p l e (headSpec wp_X7_holds { frames := 0, cells := 0, slots := 0, locals := 0 }).room s m ([.int p1, .int p2, .int p3] : List Value).toArray below meth c (MQ below (va_Qi K (sm_B sm_wX D α) A) ([.int p1, .int p2, .int p3] : List Value).toArray s 0 0 A) D A 3 (sm_wX σ α) 57 [] [.int y0] := by
    intro σ y0 hF H locs ls hP hS hl
    unfold mp_X7_holds_57 at hF
    obtain ⟨h5, hF⟩ := hF
    exact W.zret (v := y0) hx hb hr h5.1 (fun t ht hW => ⟨⟨y0, σ, rfl, hF, (by unfold sm_B; rw [ht]; exact hP)⟩, hS.F ht⟩) hS.2.2 dX7_holds_57
  have B46 : ∀ (σ : sm_S) (y0 : Int32), mp_X7_holds_46 K σ y0 → sm_J p l e (headSpec wp_X7_holds { frames := 0, cells := 0, slots := 0, locals := 0 }).room s m ([.int p1, .int p2, .int p3] : List Value).toArray below meth c (MQ below (va_Qi K (sm_B sm_wX D α) A) ([.int p1, .int p2, .int p3] : List Value).toArray s 0 0 A) D A 3 (sm_wX σ α) 46 [] [.int y0] := by
    intro σ y0 hF H locs ls hP hS hl
    unfold mp_X7_holds_46 at hF
    obtain ⟨h6, hF⟩ := hF
    exact W.zret (v := y0) hx hb hr h6.1 (fun t ht hW => ⟨⟨y0, σ, rfl, hF, (by unfold sm_B; rw [ht]; exact hP)⟩, hS.F ht⟩) hS.2.2 dX7_holds_46
  unfold mp_X7_holds at hF
  revert hP hS
  generalize hLo : ([] : List Loc) = locs
  suffices h9 : ∀ (H : Heap) (locs : List Loc), va_P D vwCl (sm_wX σ α) H → va_S A s.heap H locs → W p l e (headSpec wp_X7_holds { frames := 0, cells := 0, slots := 0, locals := 0 }).room s m ([.int p1, .int p2, .int p3] : List Value).toArray below meth c H locs 0 0 (MQ below (va_Qi K (sm_B sm_wX D α) A) ([.int p1, .int p2, .int p3] : List Value).toArray s 0 0 A) (F0 m 0 ls []) from fun hP hS => h9 s.heap locs hP hS
  intro H locs hP hS
  refine lv_iload_n hx hb dX7_holds_0 rfl (lv_at hl 0 rfl) ?_
  by_cases h7 : p1 = 0
  · refine lv_tableIn (tgt := 36) hx hb dX7_holds_1 (by rw [h7]; decide) (by rw [h7]; decide) (by rw [h7]; rfl) (by decide) ?_
    replace hF := hF.1 h7
    refine lv_iload_n hx hb dX7_holds_36 rfl (lv_at hl 1 rfl) ?_
    refine lv_iload_n hx hb dX7_holds_37 rfl (lv_at hl 2 rfl) ?_
    refine lv_icmp_ne (tgt := 45) hx hb dX7_holds_38 (by decide) (fun h8 => ?_) (fun h8 => ?_)
    · replace hF := hF.1 h8
      refine lv_iconst (v := 0) hx hb dX7_holds_45 (by decide) ?_
      exact B46 σ 0 hF H locs ls hP hS (lv_sub hl [] rfl)
    · replace hF := hF.2 h8
      refine lv_iconst (v := 1) hx hb dX7_holds_41 (by decide) ?_
      refine lv_goto (tgt := 46) hx hb dX7_holds_42 (by decide) ?_
      exact B46 σ 1 hF H locs ls hP hS (lv_sub hl [] rfl)
  by_cases h9 : p1 = 1
  · refine lv_tableIn (tgt := 47) hx hb dX7_holds_1 (by rw [h9]; decide) (by rw [h9]; decide) (by rw [h9]; rfl) (by decide) ?_
    replace hF := hF.2.1 h9
    refine lv_iload_n hx hb dX7_holds_47 rfl (lv_at hl 1 rfl) ?_
    refine lv_iload_n hx hb dX7_holds_48 rfl (lv_at hl 2 rfl) ?_
    refine lv_icmp_eq (tgt := 56) hx hb dX7_holds_49 (by decide) (fun h10 => ?_) (fun h10 => ?_)
    · replace hF := hF.1 h10
      refine lv_iconst (v := 0) hx hb dX7_holds_56 (by decide) ?_
      exact B57 σ 0 hF H locs ls hP hS (lv_sub hl [] rfl)
    · replace hF := hF.2 h10
      refine lv_iconst (v := 1) hx hb dX7_holds_52 (by decide) ?_
      refine lv_goto (tgt := 57) hx hb dX7_holds_53 (by decide) ?_
      exact B57 σ 1 hF H locs ls hP hS (lv_sub hl [] rfl)
  by_cases h11 : p1 = 2
  · refine lv_tableIn (tgt := 58) hx hb dX7_holds_1 (by rw [h11]; decide) (by rw [h11]; decide) (by rw [h11]; rfl) (by decide) ?_
    replace hF := hF.2.2.1 h11
    refine lv_iload_n hx hb dX7_holds_58 rfl (lv_at hl 1 rfl) ?_
    refine lv_iload_n hx hb dX7_holds_59 rfl (lv_at hl 2 rfl) ?_
    refine lv_icmp_ge (tgt := 67) hx hb dX7_holds_60 (by decide) (fun h12 => ?_) (fun h12 => ?_)
    · replace hF := hF.1 h12
      refine lv_iconst (v := 0) hx hb dX7_holds_67 (by decide) ?_
      exact B68 σ 0 hF H locs ls hP hS (lv_sub hl [] rfl)
    · replace hF := hF.2 h12
      refine lv_iconst (v := 1) hx hb dX7_holds_63 (by decide) ?_
      refine lv_goto (tgt := 68) hx hb dX7_holds_64 (by decide) ?_
      exact B68 σ 1 hF H locs ls hP hS (lv_sub hl [] rfl)
  by_cases h13 : p1 = 3
  · refine lv_tableIn (tgt := 69) hx hb dX7_holds_1 (by rw [h13]; decide) (by rw [h13]; decide) (by rw [h13]; rfl) (by decide) ?_
    replace hF := hF.2.2.2.1 h13
    refine lv_iload_n hx hb dX7_holds_69 rfl (lv_at hl 1 rfl) ?_
    refine lv_iload_n hx hb dX7_holds_70 rfl (lv_at hl 2 rfl) ?_
    refine lv_icmp_lt (tgt := 78) hx hb dX7_holds_71 (by decide) (fun h14 => ?_) (fun h14 => ?_)
    · replace hF := hF.1 h14
      refine lv_iconst (v := 0) hx hb dX7_holds_78 (by decide) ?_
      exact B79 σ 0 hF H locs ls hP hS (lv_sub hl [] rfl)
    · replace hF := hF.2 h14
      refine lv_iconst (v := 1) hx hb dX7_holds_74 (by decide) ?_
      refine lv_goto (tgt := 79) hx hb dX7_holds_75 (by decide) ?_
      exact B79 σ 1 hF H locs ls hP hS (lv_sub hl [] rfl)
  by_cases h15 : p1 = 4
  · refine lv_tableIn (tgt := 80) hx hb dX7_holds_1 (by rw [h15]; decide) (by rw [h15]; decide) (by rw [h15]; rfl) (by decide) ?_
    replace hF := hF.2.2.2.2.1 h15
    refine lv_iload_n hx hb dX7_holds_80 rfl (lv_at hl 1 rfl) ?_
    refine lv_iload_n hx hb dX7_holds_81 rfl (lv_at hl 2 rfl) ?_
    refine lv_icmp_le (tgt := 89) hx hb dX7_holds_82 (by decide) (fun h16 => ?_) (fun h16 => ?_)
    · replace hF := hF.1 h16
      refine lv_iconst (v := 0) hx hb dX7_holds_89 (by decide) ?_
      exact B90 σ 0 hF H locs ls hP hS (lv_sub hl [] rfl)
    · replace hF := hF.2 h16
      refine lv_iconst (v := 1) hx hb dX7_holds_85 (by decide) ?_
      refine lv_goto (tgt := 90) hx hb dX7_holds_86 (by decide) ?_
      exact B90 σ 1 hF H locs ls hP hS (lv_sub hl [] rfl)
  refine lv_tableOut (tgt := 91) hx hb dX7_holds_1 (by have q0 := lv_neT h7 (show Int32.toInt 0 = 0 by decide); have q1 := lv_neT h9 (show Int32.toInt 1 = 1 by decide); have q2 := lv_neT h11 (show Int32.toInt 2 = 2 by decide); have q3 := lv_neT h13 (show Int32.toInt 3 = 3 by decide); have q4 := lv_neT h15 (show Int32.toInt 4 = 4 by decide); omega) (by decide) ?_
  replace hF := hF.2.2.2.2.2 h7 h9 h11 h13 h15
  refine lv_iload_n hx hb dX7_holds_91 rfl (lv_at hl 1 rfl) ?_
  refine lv_iload_n hx hb dX7_holds_92 rfl (lv_at hl 2 rfl) ?_
  refine lv_icmp_gt (tgt := 100) hx hb dX7_holds_93 (by decide) (fun h17 => ?_) (fun h17 => ?_)
  · replace hF := hF.1 h17
    refine lv_iconst (v := 0) hx hb dX7_holds_100 (by decide) ?_
    exact B101 σ 0 hF H locs ls hP hS (lv_sub hl [] rfl)
  · replace hF := hF.2 h17
    refine lv_iconst (v := 1) hx hb dX7_holds_96 (by decide) ?_
    refine lv_goto (tgt := 101) hx hb dX7_holds_97 (by decide) ?_
    exact B101 σ 1 hF H locs ls hP hS (lv_sub hl [] rfl)
theorem dX7_operand_0 : decode cX7_operand 0 = .ok (.aload_n 0, 1) := by decide +kernel
theorem dX7_operand_1 : decode cX7_operand 1 = .ok (.getfield 9, 3) := by decide +kernel
theorem dX7_operand_4 : decode cX7_operand 4 = .ok (.aload_n 0, 1) := by decide +kernel
theorem dX7_operand_5 : decode cX7_operand 5 = .ok (.getfield 26, 3) := by decide +kernel
theorem dX7_operand_8 : decode cX7_operand 8 = .ok (.getfield 127, 3) := by decide +kernel
theorem dX7_operand_11 : decode cX7_operand 11 = .ok (.aload_n 0, 1) := by decide +kernel
theorem dX7_operand_12 : decode cX7_operand 12 = .ok (.getfield 124, 3) := by decide +kernel
theorem dX7_operand_15 : decode cX7_operand 15 = .ok (.iaload, 1) := by decide +kernel
theorem dX7_operand_16 : decode cX7_operand 16 = .ok (.aload_n 0, 1) := by decide +kernel
theorem dX7_operand_17 : decode cX7_operand 17 = .ok (.getfield 75, 3) := by decide +kernel
theorem dX7_operand_20 : decode cX7_operand 20 = .ok (.iadd, 1) := by decide +kernel
theorem dX7_operand_21 : decode cX7_operand 21 = .ok (.iload_n 1, 1) := by decide +kernel
theorem dX7_operand_22 : decode cX7_operand 22 = .ok (.iadd, 1) := by decide +kernel
theorem dX7_operand_23 : decode cX7_operand 23 = .ok (.invokevirtual 130, 3) := by decide +kernel
theorem dX7_operand_26 : decode cX7_operand 26 = .ok (.ireturn, 1) := by decide +kernel
def wp_X7_operand : List Cond := .code yX7_operand cX7_operand 2 (some .int) :: ((([.fieldLink RX7 9 "SteadyMachine$Runner" "image" "LSteadyMachine$Image;", .fieldLink RX7 26 "SteadyMachine$Runner" "methods" "LSteadyMachine$Methods;", .fieldLink RX7 127 "SteadyMachine$Methods" "code" "[I", .fieldLink RX7 124 "SteadyMachine$Runner" "method" "I", .fieldLink RX7 75 "SteadyMachine$Runner" "place" "I"] ++ (wsV RX7 130 RX2 yX2_at wp_X2_at)) ++ wsX40) ++ wsX70)
theorem wq_X7_operand : wp_X7_operand.all goodWord = true := wa_c rfl (wa_a (wa_a (wa_a (by decide +kernel) (wa_V wq_X2_at)) uq_X4) uq_X7)
theorem wt_X7_operand : GoodIn lw_tbl wp_X7_operand := wm_c (List.mem_of_getElem? (i := 968) (by decide +kernel)) rfl (wm_a (wm_a (wm_a (goodIn_r _ [512, 514, 250, 523, 524] (by decide +kernel) (by decide +kernel)) (wm_a (goodIn_r _ [958, 654, 655, 137] (by decide +kernel) (by decide +kernel)) wt_X2_at)) ut_X4) ut_X7)
theorem wg_X7_operand_X2_at_130 : GoodIn wp_X7_operand (wsV RX7 130 RX2 yX2_at wp_X2_at) := goodIn_sub (fun w h => List.mem_cons_of_mem _ (List.mem_append_left _ (List.mem_append_left _ (List.mem_append_right _ h)))) (wa_V wq_X2_at)
theorem wi_X7_operand_X4 : ∀ w ∈ wsX40, w ∈ wp_X7_operand := fun w h => List.mem_cons_of_mem _ (List.mem_append_left _ (List.mem_append_right _ h))
theorem wi_X7_operand_X7 : ∀ w ∈ wsX70, w ∈ wp_X7_operand := fun w h => List.mem_cons_of_mem _ (List.mem_append_right _ h)
set_option maxHeartbeats 4000000 in
set_option maxRecDepth 100000 in
theorem c_X7_operand (l : Launch) (D : va_G) (sz t0 : Nat) (σ : sm_S) (α : sm_A) (p1 : Int32) (K : Int32 → sm_S → Prop) (hF : mp_X7_operand σ p1 K) : Met l yX7_operand wp_X7_operand { frames := 1, cells := 0, slots := 0, locals := 21 } (sm_P sm_wX sm_tX 37 D sz t0 σ α [.ref (α.1 7), .int p1]) (va_Qi K (sm_B sm_wX D α) (sm_a α 37 sz)) 0 0 (sm_a α 37 sz) := by
  refine Met.ofW (cc := cX7_operand) (maxL := 2) (ret := (some .int)) (by decide) rfl ?_
  intro p e s m args below meth c s₁ B hml hv
  obtain ⟨rfl, hsz, hP, hK, hD0, hE⟩ := hv
  have hx := B.exec
  have hb := B.bytes
  have hr := B.returns
  have hts := atoms_spec (ws := wp_X7_operand) B.pre
  have hown : s.vm.findClass RX7 = some m.cls := findClass_of_methodNamed B.named
  have hlocks := B.notSynchronized
  subst hsz
  have hD : sm_D (sm_a α 37 s.heap.size) α 37 := hD0.own
  have hA : ∀ q : Nat, s.heap.size ≤ q → sm_a α 37 s.heap.size q := fun q h => Or.inr h
  generalize hAe : sm_a α 37 s.heap.size = A at hD hA hE ⊢
  have hS : va_S A s.heap s.heap [] := va_S.rf
  have in_X4 : ∀ w ∈ wsX40, w ∈ wp_X7_operand := wi_X7_operand_X4
  have in_X7 : ∀ w ∈ wsX70, w ∈ wp_X7_operand := wi_X7_operand_X7
  have k_0 := hts (.fieldLink RX7 9 "SteadyMachine$Runner" "image" "LSteadyMachine$Image;") (by decide +kernel)
  have k_1 := hts (.fieldLink RX7 26 "SteadyMachine$Runner" "methods" "LSteadyMachine$Methods;") (by decide +kernel)
  have k_2 := hts (.fieldLink RX7 127 "SteadyMachine$Methods" "code" "[I") (by decide +kernel)
  have k_3 := hts (.fieldLink RX7 124 "SteadyMachine$Runner" "method" "I") (by decide +kernel)
  have k_4 := hts (.fieldLink RX7 75 "SteadyMachine$Runner" "place" "I") (by decide +kernel)
  have hl := lv_entry ([.ref (α.1 7), .int p1]) (n := 2) (Nat.le_of_ble_eq_true rfl)
  rw [lg_entry_eq]
  generalize (lg_sl ([.ref (α.1 7), .int p1]) ++ List.replicate (2 - (lg_sl ([.ref (α.1 7), .int p1])).length) Slot.unset).toArray = ls at hl ⊢
  have hl : lv_has ls 2 [(0, .ref (α.1 7)), (1, .int p1)] := hl
  unfold mp_X7_operand at hF
  revert hP hS
  generalize hLo : ([] : List Loc) = locs
  suffices h9 : ∀ (H : Heap) (locs : List Loc), va_P D vwCl (sm_wX σ α) H → va_S A s.heap H locs → W p l e (headSpec wp_X7_operand { frames := 1, cells := 0, slots := 0, locals := 21 }).room s m ([.ref (α.1 7), .int p1] : List Value).toArray below meth c H locs 0 0 (MQ below (va_Qi K (sm_B sm_wX D α) A) ([.ref (α.1 7), .int p1] : List Value).toArray s 0 0 A) (F0 m 0 ls []) from fun hP hS => h9 s.heap locs hP hS
  intro H locs hP hS
  refine lv_aload_n hx hb dX7_operand_0 rfl (lv_at hl 0 rfl) ?_
  refine va_get (D := D) (ci := 7) (v := .ref (α.1 2)) (C := RX7) (T := TX7) (N := 13) hx hb hts in_X7 hown hK hP 7 (sm_gX7 σ α) rfl 0 (by decide) k_0 (fun _ h9 => h9) rfl dX7_operand_1 ?_
  refine lv_aload_n hx hb dX7_operand_4 rfl (lv_at hl 0 rfl) ?_
  refine va_get (D := D) (ci := 7) (v := .ref (α.1 4)) (C := RX7) (T := TX7) (N := 13) hx hb hts in_X7 hown hK hP 7 (sm_gX7 σ α) rfl 2 (by decide) k_1 (fun _ h9 => h9) rfl dX7_operand_5 ?_
  refine va_get (D := D) (ci := 4) (v := .ref (α.1 26)) (C := RX4) (T := TX4) (N := 12) hx hb hts in_X4 hown hK hP 4 (sm_gX4 σ α) rfl 8 (by decide) k_2 (fun _ h9 => h9) rfl dX7_operand_8 ?_
  refine lv_aload_n hx hb dX7_operand_11 rfl (lv_at hl 0 rfl) ?_
  refine va_get (D := D) (ci := 7) (v := .int (σ.1 24)) (C := RX7) (T := TX7) (N := 13) hx hb hts in_X7 hown hK hP 7 (sm_gX7 σ α) rfl 8 (by decide) k_3 (fun _ h9 => h9) rfl dX7_operand_12 ?_
  obtain ⟨h1, hF⟩ := hF
  refine va_iald (n := (σ.2.2.1 26)) (f := (σ.2.2.2.1 26)) hx hb hK hP 26 15 (sm_aX26 σ α) (sm_yX26 α) h1 dX7_operand_15 ?_
  refine lv_aload_n hx hb dX7_operand_16 rfl (lv_at hl 0 rfl) ?_
  refine va_get (D := D) (ci := 7) (v := .int (σ.1 25)) (C := RX7) (T := TX7) (N := 13) hx hb hts in_X7 hown hK hP 7 (sm_gX7 σ α) rfl 9 (by decide) k_4 (fun _ h9 => h9) rfl dX7_operand_17 ?_
  refine lv_iadd hx hb dX7_operand_20 ?_
  refine lv_iload_n hx hb dX7_operand_21 rfl (lv_at hl 1 rfl) ?_
  refine lv_iadd hx hb dX7_operand_22 ?_
  refine sm_vi (As := [.int ((((σ.2.2.2.1 26) (σ.1 24).toNatClampNeg) + (σ.1 25)) + p1)]) (rest := []) hP hK hD hE hS hA ⟨hx, hb, hml, hown, hts⟩ hl.1 (c_X2_at l D H.size t0 σ α ((((σ.2.2.2.1 26) (σ.1 24).toNatClampNeg) + (σ.1 25)) + p1) _ hF) (cwV 1 hts wg_X7_operand_X2_at_130 rfl rfl rfl (by decide +kernel) ⟨Nat.le_of_ble_eq_true rfl, Nat.le_of_ble_eq_true rfl⟩) (va_recv hK hP (ci := 2) (q0 := 2) rfl (sm_gX2 σ α)) rfl rfl (Nat.le_of_ble_eq_true rfl) dX7_operand_23 ⟨Nat.zero_le _, Nat.zero_le _⟩ (fun r3 σ2 H locs hF hP hS => ?_)
  exact W.iret (v := r3) hx hb hr (fun t ht hW => ⟨⟨r3, σ2, rfl, hF, (by unfold sm_B; rw [ht]; exact hP)⟩, hS.F ht⟩) hS.2.2 dX7_operand_26
theorem dX7_pop_0 : decode cX7_pop 0 = .ok (.aload_n 0, 1) := by decide +kernel
theorem dX7_pop_1 : decode cX7_pop 1 = .ok (.dup, 1) := by decide +kernel
theorem dX7_pop_2 : decode cX7_pop 2 = .ok (.getfield 46, 3) := by decide +kernel
theorem dX7_pop_5 : decode cX7_pop 5 = .ok (.iconst 1, 1) := by decide +kernel
theorem dX7_pop_6 : decode cX7_pop 6 = .ok (.isub, 1) := by decide +kernel
theorem dX7_pop_7 : decode cX7_pop 7 = .ok (.putfield 46, 3) := by decide +kernel
theorem dX7_pop_10 : decode cX7_pop 10 = .ok (.aload_n 0, 1) := by decide +kernel
theorem dX7_pop_11 : decode cX7_pop 11 = .ok (.getfield 27, 3) := by decide +kernel
theorem dX7_pop_14 : decode cX7_pop 14 = .ok (.aload_n 0, 1) := by decide +kernel
theorem dX7_pop_15 : decode cX7_pop 15 = .ok (.aload_n 0, 1) := by decide +kernel
theorem dX7_pop_16 : decode cX7_pop 16 = .ok (.getfield 46, 3) := by decide +kernel
theorem dX7_pop_19 : decode cX7_pop 19 = .ok (.invokevirtual 136, 3) := by decide +kernel
theorem dX7_pop_22 : decode cX7_pop 22 = .ok (.invokevirtual 120, 3) := by decide +kernel
theorem dX7_pop_25 : decode cX7_pop 25 = .ok (.lreturn, 1) := by decide +kernel
def wp_X7_pop : List Cond := .code yX7_pop cX7_pop 1 (some .long) :: ((([.fieldLink RX7 46 "SteadyMachine$Runner" "height" "I", .fieldLink RX7 27 "SteadyMachine$Runner" "heap" "LSteadyMachine$Heap;"] ++ (wsV RX7 136 RX7 yX7_slot wp_X7_slot)) ++ (wsV RX7 120 RX1 yX1_look wp_X1_look)) ++ wsX70)
theorem wq_X7_pop : wp_X7_pop.all goodWord = true := wa_c rfl (wa_a (wa_a (wa_a (by decide +kernel) (wa_V wq_X7_slot)) (wa_V wq_X1_look)) uq_X7)
theorem wt_X7_pop : GoodIn lw_tbl wp_X7_pop := wm_c (List.mem_of_getElem? (i := 991) (by decide +kernel)) rfl (wm_a (wm_a (wm_a (goodIn_r _ [526, 515] (by decide +kernel) (by decide +kernel)) (wm_a (goodIn_r _ [932, 934, 40, 145] (by decide +kernel) (by decide +kernel)) wt_X7_slot)) (wm_a (goodIn_r _ [936, 911, 912, 144] (by decide +kernel) (by decide +kernel)) wt_X1_look)) ut_X7)
theorem wg_X7_pop_X7_slot_136 : GoodIn wp_X7_pop (wsV RX7 136 RX7 yX7_slot wp_X7_slot) := goodIn_sub (fun w h => List.mem_cons_of_mem _ (List.mem_append_left _ (List.mem_append_left _ (List.mem_append_right _ h)))) (wa_V wq_X7_slot)
theorem wg_X7_pop_X1_look_120 : GoodIn wp_X7_pop (wsV RX7 120 RX1 yX1_look wp_X1_look) := goodIn_sub (fun w h => List.mem_cons_of_mem _ (List.mem_append_left _ (List.mem_append_right _ h))) (wa_V wq_X1_look)
theorem wi_X7_pop_X7 : ∀ w ∈ wsX70, w ∈ wp_X7_pop := fun w h => List.mem_cons_of_mem _ (List.mem_append_right _ h)
set_option maxHeartbeats 4000000 in
set_option maxRecDepth 100000 in
theorem c_X7_pop (l : Launch) (D : va_G) (sz t0 : Nat) (σ : sm_S) (α : sm_A) (K : Int64 → sm_S → Prop) (hF : mp_X7_pop σ K) : Met l yX7_pop wp_X7_pop { frames := 1, cells := 0, slots := 0, locals := 21 } (sm_P sm_wX sm_tX 37 D sz t0 σ α [.ref (α.1 7)]) (va_Ql K (sm_B sm_wX D α) (sm_a α 37 sz)) 0 0 (sm_a α 37 sz) := by
  refine Met.ofW (cc := cX7_pop) (maxL := 1) (ret := (some .long)) (by decide) rfl ?_
  intro p e s m args below meth c s₁ B hml hv
  obtain ⟨rfl, hsz, hP, hK, hD0, hE⟩ := hv
  have hx := B.exec
  have hb := B.bytes
  have hr := B.returns
  have hts := atoms_spec (ws := wp_X7_pop) B.pre
  have hown : s.vm.findClass RX7 = some m.cls := findClass_of_methodNamed B.named
  have hlocks := B.notSynchronized
  subst hsz
  have hD : sm_D (sm_a α 37 s.heap.size) α 37 := hD0.own
  have hA : ∀ q : Nat, s.heap.size ≤ q → sm_a α 37 s.heap.size q := fun q h => Or.inr h
  generalize hAe : sm_a α 37 s.heap.size = A at hD hA hE ⊢
  have hS : va_S A s.heap s.heap [] := va_S.rf
  have in_X7 : ∀ w ∈ wsX70, w ∈ wp_X7_pop := wi_X7_pop_X7
  have k_0 := hts (.fieldLink RX7 46 "SteadyMachine$Runner" "height" "I") (by decide +kernel)
  have k_1 := hts (.fieldLink RX7 27 "SteadyMachine$Runner" "heap" "LSteadyMachine$Heap;") (by decide +kernel)
  have hl := lv_entry ([.ref (α.1 7)]) (n := 1) (Nat.le_of_ble_eq_true rfl)
  rw [lg_entry_eq]
  generalize (lg_sl ([.ref (α.1 7)]) ++ List.replicate (1 - (lg_sl ([.ref (α.1 7)])).length) Slot.unset).toArray = ls at hl ⊢
  have hl : lv_has ls 1 [(0, .ref (α.1 7))] := hl
  unfold mp_X7_pop at hF
  revert hP hS
  generalize hLo : ([] : List Loc) = locs
  suffices h9 : ∀ (H : Heap) (locs : List Loc), va_P D vwCl (sm_wX σ α) H → va_S A s.heap H locs → W p l e (headSpec wp_X7_pop { frames := 1, cells := 0, slots := 0, locals := 21 }).room s m ([.ref (α.1 7)] : List Value).toArray below meth c H locs 0 0 (MQ below (va_Ql K (sm_B sm_wX D α) A) ([.ref (α.1 7)] : List Value).toArray s 0 0 A) (F0 m 0 ls []) from fun hP hS => h9 s.heap locs hP hS
  intro H locs hP hS
  refine lv_aload_n hx hb dX7_pop_0 rfl (lv_at hl 0 rfl) ?_
  refine lv_dup hx hb dX7_pop_1 rfl ?_
  refine va_get (D := D) (ci := 7) (v := .int (σ.1 27)) (C := RX7) (T := TX7) (N := 13) hx hb hts in_X7 hown hK hP 7 (sm_gX7 σ α) rfl 11 (by decide) k_0 (fun _ h9 => h9) rfl dX7_pop_2 ?_
  refine lv_iconst (v := 1) hx hb dX7_pop_5 (by decide) ?_
  refine lv_isub hx hb dX7_pop_6 ?_
  refine va_put (D := D) (ci := 7) (v := .int ((σ.1 27) - 1)) (ty := .int) (C := RX7) (T := TX7) (N := 13) hx hb hts in_X7 tyX7 tyX7_ok nmX7 hown hK hP (hD.to (sm_wX_m _ _)) hS 7 (sm_gX7 σ α) rfl 11 (by decide) k_0 (fun _ h9 => h9) rfl (by decide +kernel) rfl rfl (Nat.le_of_ble_eq_true rfl) dX7_pop_7 (fun H locs hP _ hS => ?_)
  rw [sm_iX27] at hP
  obtain ⟨σ1, eσ1⟩ : ∃ x : sm_S, x = sm_i σ 27 ((σ.1 27) - 1) := ⟨_, rfl⟩
  replace hF := hF σ1 eσ1
  rw [← eσ1] at hP
  refine lv_aload_n hx hb dX7_pop_10 rfl (lv_at hl 0 rfl) ?_
  refine va_get (D := D) (ci := 7) (v := .ref (α.1 1)) (C := RX7) (T := TX7) (N := 13) hx hb hts in_X7 hown hK hP 7 (sm_gX7 σ1 α) rfl 3 (by decide) k_1 (fun _ h9 => h9) rfl dX7_pop_11 ?_
  refine lv_aload_n hx hb dX7_pop_14 rfl (lv_at hl 0 rfl) ?_
  refine lv_aload_n hx hb dX7_pop_15 rfl (lv_at hl 0 rfl) ?_
  refine va_get (D := D) (ci := 7) (v := .int (σ1.1 27)) (C := RX7) (T := TX7) (N := 13) hx hb hts in_X7 hown hK hP 7 (sm_gX7 σ1 α) rfl 11 (by decide) k_0 (fun _ h9 => h9) rfl dX7_pop_16 ?_
  refine sm_vi (As := [.int (σ1.1 27)]) (rest := [.ref (α.1 1)]) hP hK hD hE hS hA ⟨hx, hb, hml, hown, hts⟩ hl.1 (c_X7_slot l D H.size t0 σ1 α (σ1.1 27) _ hF) (cwV 1 hts wg_X7_pop_X7_slot_136 rfl rfl rfl (by decide +kernel) ⟨Nat.le_of_ble_eq_true rfl, Nat.le_of_ble_eq_true rfl⟩) (va_recv hK hP (ci := 7) (q0 := 7) rfl (sm_gX7 σ1 α)) rfl rfl (Nat.le_of_ble_eq_true rfl) dX7_pop_19 ⟨Nat.zero_le _, Nat.zero_le _⟩ (fun r3 σ2 H locs hF hP hS => ?_)
  refine sm_vl (As := [.int r3]) (rest := []) hP hK hD hE hS hA ⟨hx, hb, hml, hown, hts⟩ hl.1 (c_X1_look l D H.size t0 σ2 α r3 _ hF) (cwV 1 hts wg_X7_pop_X1_look_120 rfl rfl rfl (by decide +kernel) ⟨Nat.le_of_ble_eq_true rfl, Nat.le_of_ble_eq_true rfl⟩) (va_recv hK hP (ci := 1) (q0 := 1) rfl (sm_gX1 σ2 α)) rfl rfl (Nat.le_of_ble_eq_true rfl) dX7_pop_22 ⟨Nat.zero_le _, Nat.zero_le _⟩ (fun r5 σ4 H locs hF hP hS => ?_)
  exact W.lret (v := r5) hx hb hr (fun t ht hW => ⟨⟨r5, σ4, rfl, hF, (by unfold sm_B; rw [ht]; exact hP)⟩, hS.F ht⟩) hS.2.2 dX7_pop_25
theorem dX7_jump_0 : decode cX7_jump 0 = .ok (.iload_n 1, 1) := by decide +kernel
theorem dX7_jump_1 : decode cX7_jump 1 = .ok (.tableswitch 163 19 24 #[39, 57, 81, 101, 121, 142], 39) := by decide +kernel
theorem dX7_jump_40 : decode cX7_jump 40 = .ok (.aload_n 0, 1) := by decide +kernel
theorem dX7_jump_41 : decode cX7_jump 41 = .ok (.iconst 1, 1) := by decide +kernel
theorem dX7_jump_42 : decode cX7_jump 42 = .ok (.invokevirtual 72, 3) := by decide +kernel
theorem dX7_jump_45 : decode cX7_jump 45 = .ok (.aload_n 0, 1) := by decide +kernel
theorem dX7_jump_46 : decode cX7_jump 46 = .ok (.invokevirtual 155, 3) := by decide +kernel
theorem dX7_jump_49 : decode cX7_jump 49 = .ok (.l2i, 1) := by decide +kernel
theorem dX7_jump_50 : decode cX7_jump 50 = .ok (.iconst 0, 1) := by decide +kernel
theorem dX7_jump_51 : decode cX7_jump 51 = .ok (.invokestatic 166, 3) := by decide +kernel
theorem dX7_jump_54 : decode cX7_jump 54 = .ok (.istore_n 2, 1) := by decide +kernel
theorem dX7_jump_55 : decode cX7_jump 55 = .ok (.goto 111, 3) := by decide +kernel
theorem dX7_jump_58 : decode cX7_jump 58 = .ok (.aload_n 0, 1) := by decide +kernel
theorem dX7_jump_59 : decode cX7_jump 59 = .ok (.invokevirtual 155, 3) := by decide +kernel
theorem dX7_jump_62 : decode cX7_jump 62 = .ok (.l2i, 1) := by decide +kernel
theorem dX7_jump_63 : decode cX7_jump 63 = .ok (.istore_n 3, 1) := by decide +kernel
theorem dX7_jump_64 : decode cX7_jump 64 = .ok (.aload_n 0, 1) := by decide +kernel
theorem dX7_jump_65 : decode cX7_jump 65 = .ok (.iconst 1, 1) := by decide +kernel
theorem dX7_jump_66 : decode cX7_jump 66 = .ok (.invokevirtual 72, 3) := by decide +kernel
theorem dX7_jump_69 : decode cX7_jump 69 = .ok (.aload_n 0, 1) := by decide +kernel
theorem dX7_jump_70 : decode cX7_jump 70 = .ok (.invokevirtual 155, 3) := by decide +kernel
theorem dX7_jump_73 : decode cX7_jump 73 = .ok (.l2i, 1) := by decide +kernel
theorem dX7_jump_74 : decode cX7_jump 74 = .ok (.iload_n 3, 1) := by decide +kernel
theorem dX7_jump_75 : decode cX7_jump 75 = .ok (.invokestatic 166, 3) := by decide +kernel
theorem dX7_jump_78 : decode cX7_jump 78 = .ok (.istore_n 2, 1) := by decide +kernel
theorem dX7_jump_79 : decode cX7_jump 79 = .ok (.goto 87, 3) := by decide +kernel
theorem dX7_jump_82 : decode cX7_jump 82 = .ok (.aload_n 0, 1) := by decide +kernel
theorem dX7_jump_83 : decode cX7_jump 83 = .ok (.invokevirtual 155, 3) := by decide +kernel
theorem dX7_jump_86 : decode cX7_jump 86 = .ok (.ldc2_w 153, 3) := by decide +kernel
theorem dX7_jump_89 : decode cX7_jump 89 = .ok (.lcmp, 1) := by decide +kernel
theorem dX7_jump_90 : decode cX7_jump 90 = .ok (.ifCond .ne 7, 3) := by decide +kernel
theorem dX7_jump_93 : decode cX7_jump 93 = .ok (.iconst 1, 1) := by decide +kernel
theorem dX7_jump_94 : decode cX7_jump 94 = .ok (.goto 4, 3) := by decide +kernel
theorem dX7_jump_97 : decode cX7_jump 97 = .ok (.iconst 0, 1) := by decide +kernel
theorem dX7_jump_98 : decode cX7_jump 98 = .ok (.istore_n 2, 1) := by decide +kernel
theorem dX7_jump_99 : decode cX7_jump 99 = .ok (.goto 67, 3) := by decide +kernel
theorem dX7_jump_102 : decode cX7_jump 102 = .ok (.aload_n 0, 1) := by decide +kernel
theorem dX7_jump_103 : decode cX7_jump 103 = .ok (.invokevirtual 155, 3) := by decide +kernel
theorem dX7_jump_106 : decode cX7_jump 106 = .ok (.ldc2_w 153, 3) := by decide +kernel
theorem dX7_jump_109 : decode cX7_jump 109 = .ok (.lcmp, 1) := by decide +kernel
theorem dX7_jump_110 : decode cX7_jump 110 = .ok (.ifCond .eq 7, 3) := by decide +kernel
theorem dX7_jump_113 : decode cX7_jump 113 = .ok (.iconst 1, 1) := by decide +kernel
theorem dX7_jump_114 : decode cX7_jump 114 = .ok (.goto 4, 3) := by decide +kernel
theorem dX7_jump_117 : decode cX7_jump 117 = .ok (.iconst 0, 1) := by decide +kernel
theorem dX7_jump_118 : decode cX7_jump 118 = .ok (.istore_n 2, 1) := by decide +kernel
theorem dX7_jump_119 : decode cX7_jump 119 = .ok (.goto 47, 3) := by decide +kernel
theorem dX7_jump_122 : decode cX7_jump 122 = .ok (.aload_n 0, 1) := by decide +kernel
theorem dX7_jump_123 : decode cX7_jump 123 = .ok (.invokevirtual 155, 3) := by decide +kernel
theorem dX7_jump_126 : decode cX7_jump 126 = .ok (.aload_n 0, 1) := by decide +kernel
theorem dX7_jump_127 : decode cX7_jump 127 = .ok (.invokevirtual 155, 3) := by decide +kernel
theorem dX7_jump_130 : decode cX7_jump 130 = .ok (.lcmp, 1) := by decide +kernel
theorem dX7_jump_131 : decode cX7_jump 131 = .ok (.ifCond .ne 7, 3) := by decide +kernel
theorem dX7_jump_134 : decode cX7_jump 134 = .ok (.iconst 1, 1) := by decide +kernel
theorem dX7_jump_135 : decode cX7_jump 135 = .ok (.goto 4, 3) := by decide +kernel
theorem dX7_jump_138 : decode cX7_jump 138 = .ok (.iconst 0, 1) := by decide +kernel
theorem dX7_jump_139 : decode cX7_jump 139 = .ok (.istore_n 2, 1) := by decide +kernel
theorem dX7_jump_140 : decode cX7_jump 140 = .ok (.goto 26, 3) := by decide +kernel
theorem dX7_jump_143 : decode cX7_jump 143 = .ok (.aload_n 0, 1) := by decide +kernel
theorem dX7_jump_144 : decode cX7_jump 144 = .ok (.invokevirtual 155, 3) := by decide +kernel
theorem dX7_jump_147 : decode cX7_jump 147 = .ok (.aload_n 0, 1) := by decide +kernel
theorem dX7_jump_148 : decode cX7_jump 148 = .ok (.invokevirtual 155, 3) := by decide +kernel
theorem dX7_jump_151 : decode cX7_jump 151 = .ok (.lcmp, 1) := by decide +kernel
theorem dX7_jump_152 : decode cX7_jump 152 = .ok (.ifCond .eq 7, 3) := by decide +kernel
theorem dX7_jump_155 : decode cX7_jump 155 = .ok (.iconst 1, 1) := by decide +kernel
theorem dX7_jump_156 : decode cX7_jump 156 = .ok (.goto 4, 3) := by decide +kernel
theorem dX7_jump_159 : decode cX7_jump 159 = .ok (.iconst 0, 1) := by decide +kernel
theorem dX7_jump_160 : decode cX7_jump 160 = .ok (.istore_n 2, 1) := by decide +kernel
theorem dX7_jump_161 : decode cX7_jump 161 = .ok (.goto 5, 3) := by decide +kernel
theorem dX7_jump_164 : decode cX7_jump 164 = .ok (.iconst 1, 1) := by decide +kernel
theorem dX7_jump_165 : decode cX7_jump 165 = .ok (.istore_n 2, 1) := by decide +kernel
theorem dX7_jump_166 : decode cX7_jump 166 = .ok (.iload_n 2, 1) := by decide +kernel
theorem dX7_jump_167 : decode cX7_jump 167 = .ok (.ifCond .eq 38, 3) := by decide +kernel
theorem dX7_jump_170 : decode cX7_jump 170 = .ok (.aload_n 0, 1) := by decide +kernel
theorem dX7_jump_171 : decode cX7_jump 171 = .ok (.aload_n 0, 1) := by decide +kernel
theorem dX7_jump_172 : decode cX7_jump 172 = .ok (.getfield 9, 3) := by decide +kernel
theorem dX7_jump_175 : decode cX7_jump 175 = .ok (.aload_n 0, 1) := by decide +kernel
theorem dX7_jump_176 : decode cX7_jump 176 = .ok (.getfield 9, 3) := by decide +kernel
theorem dX7_jump_179 : decode cX7_jump 179 = .ok (.aload_n 0, 1) := by decide +kernel
theorem dX7_jump_180 : decode cX7_jump 180 = .ok (.getfield 26, 3) := by decide +kernel
theorem dX7_jump_183 : decode cX7_jump 183 = .ok (.getfield 127, 3) := by decide +kernel
theorem dX7_jump_186 : decode cX7_jump 186 = .ok (.aload_n 0, 1) := by decide +kernel
theorem dX7_jump_187 : decode cX7_jump 187 = .ok (.getfield 124, 3) := by decide +kernel
theorem dX7_jump_190 : decode cX7_jump 190 = .ok (.iaload, 1) := by decide +kernel
theorem dX7_jump_191 : decode cX7_jump 191 = .ok (.aload_n 0, 1) := by decide +kernel
theorem dX7_jump_192 : decode cX7_jump 192 = .ok (.getfield 75, 3) := by decide +kernel
theorem dX7_jump_195 : decode cX7_jump 195 = .ok (.iadd, 1) := by decide +kernel
theorem dX7_jump_196 : decode cX7_jump 196 = .ok (.invokevirtual 170, 3) := by decide +kernel
theorem dX7_jump_199 : decode cX7_jump 199 = .ok (.invokevirtual 173, 3) := by decide +kernel
theorem dX7_jump_202 : decode cX7_jump 202 = .ok (.putfield 82, 3) := by decide +kernel
theorem dX7_jump_205 : decode cX7_jump 205 = .ok (.iconst (-1), 1) := by decide +kernel
theorem dX7_jump_206 : decode cX7_jump 206 = .ok (.ireturn, 1) := by decide +kernel
def wp_X7_jump : List Cond := .code yX7_jump cX7_jump 4 (some .int) :: ((((((([.fieldLink RX7 9 "SteadyMachine$Runner" "image" "LSteadyMachine$Image;", .fieldLink RX7 26 "SteadyMachine$Runner" "methods" "LSteadyMachine$Methods;", .fieldLink RX7 127 "SteadyMachine$Methods" "code" "[I", .fieldLink RX7 124 "SteadyMachine$Runner" "method" "I", .fieldLink RX7 75 "SteadyMachine$Runner" "place" "I", .fieldLink RX7 82 "SteadyMachine$Runner" "next" "I", .constantLong RX7 153 (4294967296)] ++ (wsV RX7 170 RX2 yX2_jumpPlace wp_X2_jumpPlace)) ++ (wsV RX7 173 RX2 yX2_pair wp_X2_pair)) ++ (wsV RX7 72 RX7 yX7_operand wp_X7_operand)) ++ (wsV RX7 155 RX7 yX7_pop wp_X7_pop)) ++ (va_wsS RX7 166 yX7_holds wp_X7_holds)) ++ wsX40) ++ wsX70)
theorem wq_X7_jump : wp_X7_jump.all goodWord = true := wa_c rfl (wa_a (wa_a (wa_a (wa_a (wa_a (wa_a (wa_a (by decide +kernel) (wa_V wq_X2_jumpPlace)) (wa_V wq_X2_pair)) (wa_V wq_X7_operand)) (wa_V wq_X7_pop)) (wa_S wq_X7_holds)) uq_X4) uq_X7)
theorem wt_X7_jump : GoodIn lw_tbl wp_X7_jump := wm_c (List.mem_of_getElem? (i := 1006) (by decide +kernel)) rfl (wm_a (wm_a (wm_a (wm_a (wm_a (wm_a (wm_a (goodIn_r _ [512, 514, 250, 523, 524, 525, 987] (by decide +kernel) (by decide +kernel)) (wm_a (goodIn_r _ [1010, 725, 726, 137] (by decide +kernel) (by decide +kernel)) wt_X2_jumpPlace)) (wm_a (goodIn_r _ [957, 730, 731, 137] (by decide +kernel) (by decide +kernel)) wt_X2_pair)) (wm_a (goodIn_r _ [965, 967, 44, 145] (by decide +kernel) (by decide +kernel)) wt_X7_operand)) (wm_a (goodIn_r _ [988, 990, 48, 145] (by decide +kernel) (by decide +kernel)) wt_X7_pop)) (wm_a (goodIn_r _ [1007, 1008, 145] (by decide +kernel) (by decide +kernel)) wt_X7_holds)) ut_X4) ut_X7)
theorem wg_X7_jump_X2_jumpPlace_170 : GoodIn wp_X7_jump (wsV RX7 170 RX2 yX2_jumpPlace wp_X2_jumpPlace) := goodIn_sub (fun w h => List.mem_cons_of_mem _ (List.mem_append_left _ (List.mem_append_left _ (List.mem_append_left _ (List.mem_append_left _ (List.mem_append_left _ (List.mem_append_left _ (List.mem_append_right _ h)))))))) (wa_V wq_X2_jumpPlace)
theorem wg_X7_jump_X2_pair_173 : GoodIn wp_X7_jump (wsV RX7 173 RX2 yX2_pair wp_X2_pair) := goodIn_sub (fun w h => List.mem_cons_of_mem _ (List.mem_append_left _ (List.mem_append_left _ (List.mem_append_left _ (List.mem_append_left _ (List.mem_append_left _ (List.mem_append_right _ h))))))) (wa_V wq_X2_pair)
theorem wg_X7_jump_X7_operand_72 : GoodIn wp_X7_jump (wsV RX7 72 RX7 yX7_operand wp_X7_operand) := goodIn_sub (fun w h => List.mem_cons_of_mem _ (List.mem_append_left _ (List.mem_append_left _ (List.mem_append_left _ (List.mem_append_left _ (List.mem_append_right _ h)))))) (wa_V wq_X7_operand)
theorem wg_X7_jump_X7_pop_155 : GoodIn wp_X7_jump (wsV RX7 155 RX7 yX7_pop wp_X7_pop) := goodIn_sub (fun w h => List.mem_cons_of_mem _ (List.mem_append_left _ (List.mem_append_left _ (List.mem_append_left _ (List.mem_append_right _ h))))) (wa_V wq_X7_pop)
theorem wg_X7_jump_X7_holds_166 : GoodIn wp_X7_jump (va_wsS RX7 166 yX7_holds wp_X7_holds) := goodIn_sub (fun w h => List.mem_cons_of_mem _ (List.mem_append_left _ (List.mem_append_left _ (List.mem_append_right _ h)))) (wa_S wq_X7_holds)
theorem wi_X7_jump_X4 : ∀ w ∈ wsX40, w ∈ wp_X7_jump := fun w h => List.mem_cons_of_mem _ (List.mem_append_left _ (List.mem_append_right _ h))
theorem wi_X7_jump_X7 : ∀ w ∈ wsX70, w ∈ wp_X7_jump := fun w h => List.mem_cons_of_mem _ (List.mem_append_right _ h)
set_option maxHeartbeats 4000000 in
set_option maxRecDepth 100000 in
theorem c_X7_jump (l : Launch) (D : va_G) (sz t0 : Nat) (σ : sm_S) (α : sm_A) (p1 : Int32) (K : Int32 → sm_S → Prop) (hF : mp_X7_jump σ p1 K) : Met l yX7_jump wp_X7_jump { frames := 2, cells := 0, slots := 0, locals := 43 } (sm_P sm_wX sm_tX 37 D sz t0 σ α [.ref (α.1 7), .int p1]) (va_Qi K (sm_B sm_wX D α) (sm_a α 37 sz)) 0 0 (sm_a α 37 sz) := by
  refine Met.ofW (cc := cX7_jump) (maxL := 4) (ret := (some .int)) (by decide) rfl ?_
  intro p e s m args below meth c s₁ B hml hv
  obtain ⟨rfl, hsz, hP, hK, hD0, hE⟩ := hv
  have hx := B.exec
  have hb := B.bytes
  have hr := B.returns
  have hts := atoms_spec (ws := wp_X7_jump) B.pre
  have hown : s.vm.findClass RX7 = some m.cls := findClass_of_methodNamed B.named
  have hlocks := B.notSynchronized
  subst hsz
  have hD : sm_D (sm_a α 37 s.heap.size) α 37 := hD0.own
  have hA : ∀ q : Nat, s.heap.size ≤ q → sm_a α 37 s.heap.size q := fun q h => Or.inr h
  generalize hAe : sm_a α 37 s.heap.size = A at hD hA hE ⊢
  have hS : va_S A s.heap s.heap [] := va_S.rf
  have in_X4 : ∀ w ∈ wsX40, w ∈ wp_X7_jump := wi_X7_jump_X4
  have in_X7 : ∀ w ∈ wsX70, w ∈ wp_X7_jump := wi_X7_jump_X7
  have k_0 := hts (.fieldLink RX7 9 "SteadyMachine$Runner" "image" "LSteadyMachine$Image;") (by decide +kernel)
  have k_1 := hts (.fieldLink RX7 26 "SteadyMachine$Runner" "methods" "LSteadyMachine$Methods;") (by decide +kernel)
  have k_2 := hts (.fieldLink RX7 127 "SteadyMachine$Methods" "code" "[I") (by decide +kernel)
  have k_3 := hts (.fieldLink RX7 124 "SteadyMachine$Runner" "method" "I") (by decide +kernel)
  have k_4 := hts (.fieldLink RX7 75 "SteadyMachine$Runner" "place" "I") (by decide +kernel)
  have k_5 := hts (.fieldLink RX7 82 "SteadyMachine$Runner" "next" "I") (by decide +kernel)
  have k_6 := hts (.constantLong RX7 153 (4294967296)) (by decide +kernel)
  have hl := lv_entry ([.ref (α.1 7), .int p1]) (n := 4) (Nat.le_of_ble_eq_true rfl)
  rw [lg_entry_eq]
  generalize (lg_sl ([.ref (α.1 7), .int p1]) ++ List.replicate (4 - (lg_sl ([.ref (α.1 7), .int p1])).length) Slot.unset).toArray = ls at hl ⊢
  have hl : lv_has ls 4 [(0, .ref (α.1 7)), (1, .int p1)] := hl
  have B205 : ∀ (σ : sm_S), mp_X7_jump_205 K σ → sm_J p l e (headSpec wp_X7_jump { frames := 2, cells := 0, slots := 0, locals := 43 }).room s m ([.ref (α.1 7), .int p1] : List Value).toArray below meth c (MQ below (va_Qi K (sm_B sm_wX D α) A) ([.ref (α.1 7), .int p1] : List Value).toArray s 0 0 A) D A 4 (sm_wX σ α) 205 [] [] := by
    intro σ hF H locs ls hP hS hl
    unfold mp_X7_jump_205 at hF
    refine lv_iconst (v := -1) hx hb dX7_jump_205 (by decide) ?_
    exact W.iret (v := (-1)) hx hb hr (fun t ht hW => ⟨⟨(-1), σ, rfl, hF, (by unfold sm_B; rw [ht]; exact hP)⟩, hS.F ht⟩) hS.2.2 dX7_jump_206
  have B166 : ∀ (σ : sm_S) (x2 : Int32), mp_X7_jump_166 K σ x2 → sm_J p l e (headSpec wp_X7_jump { frames := 2, cells := 0, slots := 0, locals := 43 }).room s m ([.ref (α.1 7), .int p1] : List Value).toArray below meth c (MQ below (va_Qi K (sm_B sm_wX D α) A) ([.ref (α.1 7), .int p1] : List Value).toArray s 0 0 A) D A 4 (sm_wX σ α) 166 [(0, .ref (α.1 7)), (2, .int x2)] [] := by
    intro σ x2 hF H locs ls hP hS hl
    unfold mp_X7_jump_166 at hF
    refine lv_iload_n hx hb dX7_jump_166 rfl (lv_at hl 1 rfl) ?_
    refine lv_if_eq (tgt := 205) hx hb dX7_jump_167 (by decide) (fun h1 => ?_) (fun h1 => ?_)
    · replace hF := hF.1 h1
      exact B205 σ hF H locs ls hP hS (lv_sub hl [] rfl)
    · replace hF := hF.2 h1
      refine lv_aload_n hx hb dX7_jump_170 rfl (lv_at hl 0 rfl) ?_
      refine lv_aload_n hx hb dX7_jump_171 rfl (lv_at hl 0 rfl) ?_
      refine va_get (D := D) (ci := 7) (v := .ref (α.1 2)) (C := RX7) (T := TX7) (N := 13) hx hb hts in_X7 hown hK hP 7 (sm_gX7 σ α) rfl 0 (by decide) k_0 (fun _ h9 => h9) rfl dX7_jump_172 ?_
      refine lv_aload_n hx hb dX7_jump_175 rfl (lv_at hl 0 rfl) ?_
      refine va_get (D := D) (ci := 7) (v := .ref (α.1 2)) (C := RX7) (T := TX7) (N := 13) hx hb hts in_X7 hown hK hP 7 (sm_gX7 σ α) rfl 0 (by decide) k_0 (fun _ h9 => h9) rfl dX7_jump_176 ?_
      refine lv_aload_n hx hb dX7_jump_179 rfl (lv_at hl 0 rfl) ?_
      refine va_get (D := D) (ci := 7) (v := .ref (α.1 4)) (C := RX7) (T := TX7) (N := 13) hx hb hts in_X7 hown hK hP 7 (sm_gX7 σ α) rfl 2 (by decide) k_1 (fun _ h9 => h9) rfl dX7_jump_180 ?_
      refine va_get (D := D) (ci := 4) (v := .ref (α.1 26)) (C := RX4) (T := TX4) (N := 12) hx hb hts in_X4 hown hK hP 4 (sm_gX4 σ α) rfl 8 (by decide) k_2 (fun _ h9 => h9) rfl dX7_jump_183 ?_
      refine lv_aload_n hx hb dX7_jump_186 rfl (lv_at hl 0 rfl) ?_
      refine va_get (D := D) (ci := 7) (v := .int (σ.1 24)) (C := RX7) (T := TX7) (N := 13) hx hb hts in_X7 hown hK hP 7 (sm_gX7 σ α) rfl 8 (by decide) k_3 (fun _ h9 => h9) rfl dX7_jump_187 ?_
      obtain ⟨h2, hF⟩ := hF
      refine va_iald (n := (σ.2.2.1 26)) (f := (σ.2.2.2.1 26)) hx hb hK hP 26 15 (sm_aX26 σ α) (sm_yX26 α) h2 dX7_jump_190 ?_
      refine lv_aload_n hx hb dX7_jump_191 rfl (lv_at hl 0 rfl) ?_
      refine va_get (D := D) (ci := 7) (v := .int (σ.1 25)) (C := RX7) (T := TX7) (N := 13) hx hb hts in_X7 hown hK hP 7 (sm_gX7 σ α) rfl 9 (by decide) k_4 (fun _ h9 => h9) rfl dX7_jump_192 ?_
      refine lv_iadd hx hb dX7_jump_195 ?_
      refine sm_vi (As := [.int (((σ.2.2.2.1 26) (σ.1 24).toNatClampNeg) + (σ.1 25))]) (rest := [.ref (α.1 2), .ref (α.1 7)]) hP hK hD hE hS hA ⟨hx, hb, hml, hown, hts⟩ hl.1 (c_X2_jumpPlace l D H.size t0 σ α (((σ.2.2.2.1 26) (σ.1 24).toNatClampNeg) + (σ.1 25)) _ hF) (cwV 1 hts wg_X7_jump_X2_jumpPlace_170 rfl rfl rfl (by decide +kernel) ⟨Nat.le_of_ble_eq_true rfl, Nat.le_of_ble_eq_true rfl⟩) (va_recv hK hP (ci := 2) (q0 := 2) rfl (sm_gX2 σ α)) rfl rfl (Nat.le_of_ble_eq_true rfl) dX7_jump_196 ⟨Nat.zero_le _, Nat.zero_le _⟩ (fun r4 σ3 H locs hF hP hS => ?_)
      refine sm_vi (As := [.int r4]) (rest := [.ref (α.1 7)]) hP hK hD hE hS hA ⟨hx, hb, hml, hown, hts⟩ hl.1 (c_X2_pair l D H.size t0 σ3 α r4 _ hF) (cwV 1 hts wg_X7_jump_X2_pair_173 rfl rfl rfl (by decide +kernel) ⟨Nat.le_of_ble_eq_true rfl, Nat.le_of_ble_eq_true rfl⟩) (va_recv hK hP (ci := 2) (q0 := 2) rfl (sm_gX2 σ3 α)) rfl rfl (Nat.le_of_ble_eq_true rfl) dX7_jump_199 ⟨Nat.zero_le _, Nat.zero_le _⟩ (fun r6 σ5 H locs hF hP hS => ?_)
      refine va_put (D := D) (ci := 7) (v := .int r6) (ty := .int) (C := RX7) (T := TX7) (N := 13) hx hb hts in_X7 tyX7 tyX7_ok nmX7 hown hK hP (hD.to (sm_wX_m _ _)) hS 7 (sm_gX7 σ5 α) rfl 10 (by decide) k_5 (fun _ h9 => h9) rfl (by decide +kernel) rfl rfl (Nat.le_of_ble_eq_true rfl) dX7_jump_202 (fun H locs hP _ hS => ?_)
      rw [sm_iX26] at hP
      obtain ⟨σ7, eσ7⟩ : ∃ x : sm_S, x = sm_i σ5 26 r6 := ⟨_, rfl⟩
      replace hF := hF σ7 eσ7
      rw [← eσ7] at hP
      exact B205 σ7 hF H locs ls hP hS (lv_sub hl [] rfl)
  have B160 : ∀ (σ : sm_S) (y0 : Int32), mp_X7_jump_160 K σ y0 → sm_J p l e (headSpec wp_X7_jump { frames := 2, cells := 0, slots := 0, locals := 43 }).room s m ([.ref (α.1 7), .int p1] : List Value).toArray below meth c (MQ below (va_Qi K (sm_B sm_wX D α) A) ([.ref (α.1 7), .int p1] : List Value).toArray s 0 0 A) D A 4 (sm_wX σ α) 160 [(0, .ref (α.1 7))] [.int y0] := by
    intro σ y0 hF H locs ls hP hS hl
    unfold mp_X7_jump_160 at hF
    refine lv_istore_n (lv' := [(2, .int y0), (0, .ref (α.1 7))]) hx hb dX7_jump_160 rfl hl (by decide) rfl (fun ls hl => ?_)
    refine lv_goto (tgt := 166) hx hb dX7_jump_161 (by decide) ?_
    exact B166 σ y0 hF H locs ls hP hS (lv_sub hl [1, 0] rfl)
  have B139 : ∀ (σ : sm_S) (y0 : Int32), mp_X7_jump_139 K σ y0 → sm_J p l e (headSpec wp_X7_jump { frames := 2, cells := 0, slots := 0, locals := 43 }).room s m ([.ref (α.1 7), .int p1] : List Value).toArray below meth c (MQ below (va_Qi K (sm_B sm_wX D α) A) ([.ref (α.1 7), .int p1] : List Value).toArray s 0 0 A) D A 4 (sm_wX σ α) 139 [(0, .ref (α.1 7))] [.int y0] := by
    intro σ y0 hF H locs ls hP hS hl
    unfold mp_X7_jump_139 at hF
    refine lv_istore_n (lv' := [(2, .int y0), (0, .ref (α.1 7))]) hx hb dX7_jump_139 rfl hl (by decide) rfl (fun ls hl => ?_)
    refine lv_goto (tgt := 166) hx hb dX7_jump_140 (by decide) ?_
    exact B166 σ y0 hF H locs ls hP hS (lv_sub hl [1, 0] rfl)
  have B118 : ∀ (σ : sm_S) (y0 : Int32), mp_X7_jump_118 K σ y0 → sm_J p l e (headSpec wp_X7_jump { frames := 2, cells := 0, slots := 0, locals := 43 }).room s m ([.ref (α.1 7), .int p1] : List Value).toArray below meth c (MQ below (va_Qi K (sm_B sm_wX D α) A) ([.ref (α.1 7), .int p1] : List Value).toArray s 0 0 A) D A 4 (sm_wX σ α) 118 [(0, .ref (α.1 7))] [.int y0] := by
    intro σ y0 hF H locs ls hP hS hl
    unfold mp_X7_jump_118 at hF
    refine lv_istore_n (lv' := [(2, .int y0), (0, .ref (α.1 7))]) hx hb dX7_jump_118 rfl hl (by decide) rfl (fun ls hl => ?_)
    refine lv_goto (tgt := 166) hx hb dX7_jump_119 (by decide) ?_
    exact B166 σ y0 hF H locs ls hP hS (lv_sub hl [1, 0] rfl)
  have B98 : ∀ (σ : sm_S) (y0 : Int32), mp_X7_jump_98 K σ y0 → sm_J p l e (headSpec wp_X7_jump { frames := 2, cells := 0, slots := 0, locals := 43 }).room s m ([.ref (α.1 7), .int p1] : List Value).toArray below meth c (MQ below (va_Qi K (sm_B sm_wX D α) A) ([.ref (α.1 7), .int p1] : List Value).toArray s 0 0 A) D A 4 (sm_wX σ α) 98 [(0, .ref (α.1 7))] [.int y0] := by
    intro σ y0 hF H locs ls hP hS hl
    unfold mp_X7_jump_98 at hF
    refine lv_istore_n (lv' := [(2, .int y0), (0, .ref (α.1 7))]) hx hb dX7_jump_98 rfl hl (by decide) rfl (fun ls hl => ?_)
    refine lv_goto (tgt := 166) hx hb dX7_jump_99 (by decide) ?_
    exact B166 σ y0 hF H locs ls hP hS (lv_sub hl [1, 0] rfl)
  unfold mp_X7_jump at hF
  revert hP hS
  generalize hLo : ([] : List Loc) = locs
  suffices h9 : ∀ (H : Heap) (locs : List Loc), va_P D vwCl (sm_wX σ α) H → va_S A s.heap H locs → W p l e (headSpec wp_X7_jump { frames := 2, cells := 0, slots := 0, locals := 43 }).room s m ([.ref (α.1 7), .int p1] : List Value).toArray below meth c H locs 0 0 (MQ below (va_Qi K (sm_B sm_wX D α) A) ([.ref (α.1 7), .int p1] : List Value).toArray s 0 0 A) (F0 m 0 ls []) from fun hP hS => h9 s.heap locs hP hS
  intro H locs hP hS
  refine lv_iload_n hx hb dX7_jump_0 rfl (lv_at hl 1 rfl) ?_
  by_cases h8 : p1 = 19
  · refine lv_tableIn (tgt := 40) hx hb dX7_jump_1 (by rw [h8]; decide) (by rw [h8]; decide) (by rw [h8]; rfl) (by decide) ?_
    replace hF := hF.1 h8
    refine lv_aload_n hx hb dX7_jump_40 rfl (lv_at hl 0 rfl) ?_
    refine lv_iconst (v := 1) hx hb dX7_jump_41 (by decide) ?_
    refine sm_vi (As := [.int 1]) (rest := []) hP hK hD hE hS hA ⟨hx, hb, hml, hown, hts⟩ hl.1 (c_X7_operand l D H.size t0 σ α 1 _ hF) (cwV 1 hts wg_X7_jump_X7_operand_72 rfl rfl rfl (by decide +kernel) ⟨Nat.le_of_ble_eq_true rfl, Nat.le_of_ble_eq_true rfl⟩) (va_recv hK hP (ci := 7) (q0 := 7) rfl (sm_gX7 σ α)) rfl rfl (Nat.le_of_ble_eq_true rfl) dX7_jump_42 ⟨Nat.zero_le _, Nat.zero_le _⟩ (fun r10 σ9 H locs hF hP hS => ?_)
    refine lv_aload_n hx hb dX7_jump_45 rfl (lv_at hl 0 rfl) ?_
    refine sm_vl (As := []) (rest := [.int r10]) hP hK hD hE hS hA ⟨hx, hb, hml, hown, hts⟩ hl.1 (c_X7_pop l D H.size t0 σ9 α _ hF) (cwV 0 hts wg_X7_jump_X7_pop_155 rfl rfl rfl (by decide +kernel) ⟨Nat.le_of_ble_eq_true rfl, Nat.le_of_ble_eq_true rfl⟩) (va_recv hK hP (ci := 7) (q0 := 7) rfl (sm_gX7 σ9 α)) rfl rfl (Nat.le_of_ble_eq_true rfl) dX7_jump_46 ⟨Nat.zero_le _, Nat.zero_le _⟩ (fun r12 σ11 H locs hF hP hS => ?_)
    refine lv_l2i hx hb dX7_jump_49 rfl ?_
    refine lv_iconst (v := 0) hx hb dX7_jump_50 (by decide) ?_
    refine sm_si (As := [.int r10, .int r12.toInt32, .int 0]) (rest := []) hP hK hD hE hS hA ⟨hx, hb, hml, hown, hts⟩ hl.1 (c_X7_holds l D H.size t0 σ11 α r10 r12.toInt32 0 _ hF) (va_cwS 3 hts wg_X7_jump_X7_holds_166 rfl rfl rfl (by decide +kernel) ⟨Nat.le_of_ble_eq_true rfl, Nat.le_of_ble_eq_true rfl⟩) rfl rfl (Nat.le_of_ble_eq_true rfl) dX7_jump_51 ⟨Nat.zero_le _, Nat.zero_le _⟩ (fun r14 σ13 H locs hF hP hS => ?_)
    refine lv_istore_n (lv' := [(2, .int r14), (0, .ref (α.1 7)), (1, .int p1)]) hx hb dX7_jump_54 rfl hl (by decide) rfl (fun ls hl => ?_)
    refine lv_goto (tgt := 166) hx hb dX7_jump_55 (by decide) ?_
    exact B166 σ13 r14 hF H locs ls hP hS (lv_sub hl [1, 0] rfl)
  by_cases h15 : p1 = 20
  · refine lv_tableIn (tgt := 58) hx hb dX7_jump_1 (by rw [h15]; decide) (by rw [h15]; decide) (by rw [h15]; rfl) (by decide) ?_
    replace hF := hF.2.1 h15
    refine lv_aload_n hx hb dX7_jump_58 rfl (lv_at hl 0 rfl) ?_
    refine sm_vl (As := []) (rest := []) hP hK hD hE hS hA ⟨hx, hb, hml, hown, hts⟩ hl.1 (c_X7_pop l D H.size t0 σ α _ hF) (cwV 0 hts wg_X7_jump_X7_pop_155 rfl rfl rfl (by decide +kernel) ⟨Nat.le_of_ble_eq_true rfl, Nat.le_of_ble_eq_true rfl⟩) (va_recv hK hP (ci := 7) (q0 := 7) rfl (sm_gX7 σ α)) rfl rfl (Nat.le_of_ble_eq_true rfl) dX7_jump_59 ⟨Nat.zero_le _, Nat.zero_le _⟩ (fun r17 σ16 H locs hF hP hS => ?_)
    refine lv_l2i hx hb dX7_jump_62 rfl ?_
    refine lv_istore_n (lv' := [(3, .int r17.toInt32), (0, .ref (α.1 7)), (1, .int p1)]) hx hb dX7_jump_63 rfl hl (by decide) rfl (fun ls hl => ?_)
    refine lv_aload_n hx hb dX7_jump_64 rfl (lv_at hl 1 rfl) ?_
    refine lv_iconst (v := 1) hx hb dX7_jump_65 (by decide) ?_
    refine sm_vi (As := [.int 1]) (rest := []) hP hK hD hE hS hA ⟨hx, hb, hml, hown, hts⟩ hl.1 (c_X7_operand l D H.size t0 σ16 α 1 _ hF) (cwV 1 hts wg_X7_jump_X7_operand_72 rfl rfl rfl (by decide +kernel) ⟨Nat.le_of_ble_eq_true rfl, Nat.le_of_ble_eq_true rfl⟩) (va_recv hK hP (ci := 7) (q0 := 7) rfl (sm_gX7 σ16 α)) rfl rfl (Nat.le_of_ble_eq_true rfl) dX7_jump_66 ⟨Nat.zero_le _, Nat.zero_le _⟩ (fun r19 σ18 H locs hF hP hS => ?_)
    refine lv_aload_n hx hb dX7_jump_69 rfl (lv_at hl 1 rfl) ?_
    refine sm_vl (As := []) (rest := [.int r19]) hP hK hD hE hS hA ⟨hx, hb, hml, hown, hts⟩ hl.1 (c_X7_pop l D H.size t0 σ18 α _ hF) (cwV 0 hts wg_X7_jump_X7_pop_155 rfl rfl rfl (by decide +kernel) ⟨Nat.le_of_ble_eq_true rfl, Nat.le_of_ble_eq_true rfl⟩) (va_recv hK hP (ci := 7) (q0 := 7) rfl (sm_gX7 σ18 α)) rfl rfl (Nat.le_of_ble_eq_true rfl) dX7_jump_70 ⟨Nat.zero_le _, Nat.zero_le _⟩ (fun r21 σ20 H locs hF hP hS => ?_)
    refine lv_l2i hx hb dX7_jump_73 rfl ?_
    refine lv_iload_n hx hb dX7_jump_74 rfl (lv_at hl 0 rfl) ?_
    refine sm_si (As := [.int r19, .int r21.toInt32, .int r17.toInt32]) (rest := []) hP hK hD hE hS hA ⟨hx, hb, hml, hown, hts⟩ hl.1 (c_X7_holds l D H.size t0 σ20 α r19 r21.toInt32 r17.toInt32 _ hF) (va_cwS 3 hts wg_X7_jump_X7_holds_166 rfl rfl rfl (by decide +kernel) ⟨Nat.le_of_ble_eq_true rfl, Nat.le_of_ble_eq_true rfl⟩) rfl rfl (Nat.le_of_ble_eq_true rfl) dX7_jump_75 ⟨Nat.zero_le _, Nat.zero_le _⟩ (fun r23 σ22 H locs hF hP hS => ?_)
    refine lv_istore_n (lv' := [(2, .int r23), (3, .int r17.toInt32), (0, .ref (α.1 7)), (1, .int p1)]) hx hb dX7_jump_78 rfl hl (by decide) rfl (fun ls hl => ?_)
    refine lv_goto (tgt := 166) hx hb dX7_jump_79 (by decide) ?_
    exact B166 σ22 r23 hF H locs ls hP hS (lv_sub hl [2, 0] rfl)
  by_cases h24 : p1 = 21
  · refine lv_tableIn (tgt := 82) hx hb dX7_jump_1 (by rw [h24]; decide) (by rw [h24]; decide) (by rw [h24]; rfl) (by decide) ?_
    replace hF := hF.2.2.1 h24
    refine lv_aload_n hx hb dX7_jump_82 rfl (lv_at hl 0 rfl) ?_
    refine sm_vl (As := []) (rest := []) hP hK hD hE hS hA ⟨hx, hb, hml, hown, hts⟩ hl.1 (c_X7_pop l D H.size t0 σ α _ hF) (cwV 0 hts wg_X7_jump_X7_pop_155 rfl rfl rfl (by decide +kernel) ⟨Nat.le_of_ble_eq_true rfl, Nat.le_of_ble_eq_true rfl⟩) (va_recv hK hP (ci := 7) (q0 := 7) rfl (sm_gX7 σ α)) rfl rfl (Nat.le_of_ble_eq_true rfl) dX7_jump_83 ⟨Nat.zero_le _, Nat.zero_le _⟩ (fun r26 σ25 H locs hF hP hS => ?_)
    refine lv_ldc2 (v := 4294967296) hx hb hown k_6 dX7_jump_86 ?_
    refine W.lcmp hx hb dX7_jump_89 ?_
    refine lv_if_ne (tgt := 97) hx hb dX7_jump_90 (by decide) (fun h27 => ?_) (fun h27 => ?_)
    · replace hF := hF.1 h27
      refine lv_iconst (v := 0) hx hb dX7_jump_97 (by decide) ?_
      exact B98 σ25 0 hF H locs ls hP hS (lv_sub hl [0] rfl)
    · replace hF := hF.2 h27
      refine lv_iconst (v := 1) hx hb dX7_jump_93 (by decide) ?_
      refine lv_goto (tgt := 98) hx hb dX7_jump_94 (by decide) ?_
      exact B98 σ25 1 hF H locs ls hP hS (lv_sub hl [0] rfl)
  by_cases h28 : p1 = 22
  · refine lv_tableIn (tgt := 102) hx hb dX7_jump_1 (by rw [h28]; decide) (by rw [h28]; decide) (by rw [h28]; rfl) (by decide) ?_
    replace hF := hF.2.2.2.1 h28
    refine lv_aload_n hx hb dX7_jump_102 rfl (lv_at hl 0 rfl) ?_
    refine sm_vl (As := []) (rest := []) hP hK hD hE hS hA ⟨hx, hb, hml, hown, hts⟩ hl.1 (c_X7_pop l D H.size t0 σ α _ hF) (cwV 0 hts wg_X7_jump_X7_pop_155 rfl rfl rfl (by decide +kernel) ⟨Nat.le_of_ble_eq_true rfl, Nat.le_of_ble_eq_true rfl⟩) (va_recv hK hP (ci := 7) (q0 := 7) rfl (sm_gX7 σ α)) rfl rfl (Nat.le_of_ble_eq_true rfl) dX7_jump_103 ⟨Nat.zero_le _, Nat.zero_le _⟩ (fun r30 σ29 H locs hF hP hS => ?_)
    refine lv_ldc2 (v := 4294967296) hx hb hown k_6 dX7_jump_106 ?_
    refine W.lcmp hx hb dX7_jump_109 ?_
    refine lv_if_eq (tgt := 117) hx hb dX7_jump_110 (by decide) (fun h31 => ?_) (fun h31 => ?_)
    · replace hF := hF.1 h31
      refine lv_iconst (v := 0) hx hb dX7_jump_117 (by decide) ?_
      exact B118 σ29 0 hF H locs ls hP hS (lv_sub hl [0] rfl)
    · replace hF := hF.2 h31
      refine lv_iconst (v := 1) hx hb dX7_jump_113 (by decide) ?_
      refine lv_goto (tgt := 118) hx hb dX7_jump_114 (by decide) ?_
      exact B118 σ29 1 hF H locs ls hP hS (lv_sub hl [0] rfl)
  by_cases h32 : p1 = 23
  · refine lv_tableIn (tgt := 122) hx hb dX7_jump_1 (by rw [h32]; decide) (by rw [h32]; decide) (by rw [h32]; rfl) (by decide) ?_
    replace hF := hF.2.2.2.2.1 h32
    refine lv_aload_n hx hb dX7_jump_122 rfl (lv_at hl 0 rfl) ?_
    refine sm_vl (As := []) (rest := []) hP hK hD hE hS hA ⟨hx, hb, hml, hown, hts⟩ hl.1 (c_X7_pop l D H.size t0 σ α _ hF) (cwV 0 hts wg_X7_jump_X7_pop_155 rfl rfl rfl (by decide +kernel) ⟨Nat.le_of_ble_eq_true rfl, Nat.le_of_ble_eq_true rfl⟩) (va_recv hK hP (ci := 7) (q0 := 7) rfl (sm_gX7 σ α)) rfl rfl (Nat.le_of_ble_eq_true rfl) dX7_jump_123 ⟨Nat.zero_le _, Nat.zero_le _⟩ (fun r34 σ33 H locs hF hP hS => ?_)
    refine lv_aload_n hx hb dX7_jump_126 rfl (lv_at hl 0 rfl) ?_
    refine sm_vl (As := []) (rest := [.long r34]) hP hK hD hE hS hA ⟨hx, hb, hml, hown, hts⟩ hl.1 (c_X7_pop l D H.size t0 σ33 α _ hF) (cwV 0 hts wg_X7_jump_X7_pop_155 rfl rfl rfl (by decide +kernel) ⟨Nat.le_of_ble_eq_true rfl, Nat.le_of_ble_eq_true rfl⟩) (va_recv hK hP (ci := 7) (q0 := 7) rfl (sm_gX7 σ33 α)) rfl rfl (Nat.le_of_ble_eq_true rfl) dX7_jump_127 ⟨Nat.zero_le _, Nat.zero_le _⟩ (fun r36 σ35 H locs hF hP hS => ?_)
    refine W.lcmp hx hb dX7_jump_130 ?_
    refine lv_if_ne (tgt := 138) hx hb dX7_jump_131 (by decide) (fun h37 => ?_) (fun h37 => ?_)
    · replace hF := hF.1 h37
      refine lv_iconst (v := 0) hx hb dX7_jump_138 (by decide) ?_
      exact B139 σ35 0 hF H locs ls hP hS (lv_sub hl [0] rfl)
    · replace hF := hF.2 h37
      refine lv_iconst (v := 1) hx hb dX7_jump_134 (by decide) ?_
      refine lv_goto (tgt := 139) hx hb dX7_jump_135 (by decide) ?_
      exact B139 σ35 1 hF H locs ls hP hS (lv_sub hl [0] rfl)
  by_cases h38 : p1 = 24
  · refine lv_tableIn (tgt := 143) hx hb dX7_jump_1 (by rw [h38]; decide) (by rw [h38]; decide) (by rw [h38]; rfl) (by decide) ?_
    replace hF := hF.2.2.2.2.2.1 h38
    refine lv_aload_n hx hb dX7_jump_143 rfl (lv_at hl 0 rfl) ?_
    refine sm_vl (As := []) (rest := []) hP hK hD hE hS hA ⟨hx, hb, hml, hown, hts⟩ hl.1 (c_X7_pop l D H.size t0 σ α _ hF) (cwV 0 hts wg_X7_jump_X7_pop_155 rfl rfl rfl (by decide +kernel) ⟨Nat.le_of_ble_eq_true rfl, Nat.le_of_ble_eq_true rfl⟩) (va_recv hK hP (ci := 7) (q0 := 7) rfl (sm_gX7 σ α)) rfl rfl (Nat.le_of_ble_eq_true rfl) dX7_jump_144 ⟨Nat.zero_le _, Nat.zero_le _⟩ (fun r40 σ39 H locs hF hP hS => ?_)
    refine lv_aload_n hx hb dX7_jump_147 rfl (lv_at hl 0 rfl) ?_
    refine sm_vl (As := []) (rest := [.long r40]) hP hK hD hE hS hA ⟨hx, hb, hml, hown, hts⟩ hl.1 (c_X7_pop l D H.size t0 σ39 α _ hF) (cwV 0 hts wg_X7_jump_X7_pop_155 rfl rfl rfl (by decide +kernel) ⟨Nat.le_of_ble_eq_true rfl, Nat.le_of_ble_eq_true rfl⟩) (va_recv hK hP (ci := 7) (q0 := 7) rfl (sm_gX7 σ39 α)) rfl rfl (Nat.le_of_ble_eq_true rfl) dX7_jump_148 ⟨Nat.zero_le _, Nat.zero_le _⟩ (fun r42 σ41 H locs hF hP hS => ?_)
    refine W.lcmp hx hb dX7_jump_151 ?_
    refine lv_if_eq (tgt := 159) hx hb dX7_jump_152 (by decide) (fun h43 => ?_) (fun h43 => ?_)
    · replace hF := hF.1 h43
      refine lv_iconst (v := 0) hx hb dX7_jump_159 (by decide) ?_
      exact B160 σ41 0 hF H locs ls hP hS (lv_sub hl [0] rfl)
    · replace hF := hF.2 h43
      refine lv_iconst (v := 1) hx hb dX7_jump_155 (by decide) ?_
      refine lv_goto (tgt := 160) hx hb dX7_jump_156 (by decide) ?_
      exact B160 σ41 1 hF H locs ls hP hS (lv_sub hl [0] rfl)
  refine lv_tableOut (tgt := 164) hx hb dX7_jump_1 (by have q0 := lv_neT h8 (show Int32.toInt 19 = 19 by decide); have q1 := lv_neT h15 (show Int32.toInt 20 = 20 by decide); have q2 := lv_neT h24 (show Int32.toInt 21 = 21 by decide); have q3 := lv_neT h28 (show Int32.toInt 22 = 22 by decide); have q4 := lv_neT h32 (show Int32.toInt 23 = 23 by decide); have q5 := lv_neT h38 (show Int32.toInt 24 = 24 by decide); omega) (by decide) ?_
  replace hF := hF.2.2.2.2.2.2 h8 h15 h24 h28 h32 h38
  refine lv_iconst (v := 1) hx hb dX7_jump_164 (by decide) ?_
  refine lv_istore_n (lv' := [(2, .int 1), (0, .ref (α.1 7)), (1, .int p1)]) hx hb dX7_jump_165 rfl hl (by decide) rfl (fun ls hl => ?_)
  exact B166 σ 1 hF H locs ls hP hS (lv_sub hl [1, 0] rfl)
theorem dX7_below_0 : decode cX7_below 0 = .ok (.aload_n 0, 1) := by decide +kernel
theorem dX7_below_1 : decode cX7_below 1 = .ok (.getfield 27, 3) := by decide +kernel
theorem dX7_below_4 : decode cX7_below 4 = .ok (.aload_n 0, 1) := by decide +kernel
theorem dX7_below_5 : decode cX7_below 5 = .ok (.aload_n 0, 1) := by decide +kernel
theorem dX7_below_6 : decode cX7_below 6 = .ok (.getfield 46, 3) := by decide +kernel
theorem dX7_below_9 : decode cX7_below 9 = .ok (.iconst 1, 1) := by decide +kernel
theorem dX7_below_10 : decode cX7_below 10 = .ok (.isub, 1) := by decide +kernel
theorem dX7_below_11 : decode cX7_below 11 = .ok (.iload_n 1, 1) := by decide +kernel
theorem dX7_below_12 : decode cX7_below 12 = .ok (.isub, 1) := by decide +kernel
theorem dX7_below_13 : decode cX7_below 13 = .ok (.invokevirtual 136, 3) := by decide +kernel
theorem dX7_below_16 : decode cX7_below 16 = .ok (.invokevirtual 120, 3) := by decide +kernel
theorem dX7_below_19 : decode cX7_below 19 = .ok (.lreturn, 1) := by decide +kernel
def wp_X7_below : List Cond := .code yX7_below cX7_below 2 (some .long) :: ((([.fieldLink RX7 27 "SteadyMachine$Runner" "heap" "LSteadyMachine$Heap;", .fieldLink RX7 46 "SteadyMachine$Runner" "height" "I"] ++ (wsV RX7 136 RX7 yX7_slot wp_X7_slot)) ++ (wsV RX7 120 RX1 yX1_look wp_X1_look)) ++ wsX70)
theorem wq_X7_below : wp_X7_below.all goodWord = true := wa_c rfl (wa_a (wa_a (wa_a (by decide +kernel) (wa_V wq_X7_slot)) (wa_V wq_X1_look)) uq_X7)
theorem wt_X7_below : GoodIn lw_tbl wp_X7_below := wm_c (List.mem_of_getElem? (i := 995) (by decide +kernel)) rfl (wm_a (wm_a (wm_a (goodIn_r _ [515, 526] (by decide +kernel) (by decide +kernel)) (wm_a (goodIn_r _ [932, 934, 40, 145] (by decide +kernel) (by decide +kernel)) wt_X7_slot)) (wm_a (goodIn_r _ [936, 911, 912, 144] (by decide +kernel) (by decide +kernel)) wt_X1_look)) ut_X7)
theorem wg_X7_below_X7_slot_136 : GoodIn wp_X7_below (wsV RX7 136 RX7 yX7_slot wp_X7_slot) := goodIn_sub (fun w h => List.mem_cons_of_mem _ (List.mem_append_left _ (List.mem_append_left _ (List.mem_append_right _ h)))) (wa_V wq_X7_slot)
theorem wg_X7_below_X1_look_120 : GoodIn wp_X7_below (wsV RX7 120 RX1 yX1_look wp_X1_look) := goodIn_sub (fun w h => List.mem_cons_of_mem _ (List.mem_append_left _ (List.mem_append_right _ h))) (wa_V wq_X1_look)
theorem wi_X7_below_X7 : ∀ w ∈ wsX70, w ∈ wp_X7_below := fun w h => List.mem_cons_of_mem _ (List.mem_append_right _ h)
set_option maxHeartbeats 4000000 in
set_option maxRecDepth 100000 in
theorem c_X7_below (l : Launch) (D : va_G) (sz t0 : Nat) (σ : sm_S) (α : sm_A) (p1 : Int32) (K : Int64 → sm_S → Prop) (hF : mp_X7_below σ p1 K) : Met l yX7_below wp_X7_below { frames := 1, cells := 0, slots := 0, locals := 21 } (sm_P sm_wX sm_tX 37 D sz t0 σ α [.ref (α.1 7), .int p1]) (va_Ql K (sm_B sm_wX D α) (sm_a α 37 sz)) 0 0 (sm_a α 37 sz) := by
  refine Met.ofW (cc := cX7_below) (maxL := 2) (ret := (some .long)) (by decide) rfl ?_
  intro p e s m args below meth c s₁ B hml hv
  obtain ⟨rfl, hsz, hP, hK, hD0, hE⟩ := hv
  have hx := B.exec
  have hb := B.bytes
  have hr := B.returns
  have hts := atoms_spec (ws := wp_X7_below) B.pre
  have hown : s.vm.findClass RX7 = some m.cls := findClass_of_methodNamed B.named
  have hlocks := B.notSynchronized
  subst hsz
  have hD : sm_D (sm_a α 37 s.heap.size) α 37 := hD0.own
  have hA : ∀ q : Nat, s.heap.size ≤ q → sm_a α 37 s.heap.size q := fun q h => Or.inr h
  generalize hAe : sm_a α 37 s.heap.size = A at hD hA hE ⊢
  have hS : va_S A s.heap s.heap [] := va_S.rf
  have in_X7 : ∀ w ∈ wsX70, w ∈ wp_X7_below := wi_X7_below_X7
  have k_0 := hts (.fieldLink RX7 27 "SteadyMachine$Runner" "heap" "LSteadyMachine$Heap;") (by decide +kernel)
  have k_1 := hts (.fieldLink RX7 46 "SteadyMachine$Runner" "height" "I") (by decide +kernel)
  have hl := lv_entry ([.ref (α.1 7), .int p1]) (n := 2) (Nat.le_of_ble_eq_true rfl)
  rw [lg_entry_eq]
  generalize (lg_sl ([.ref (α.1 7), .int p1]) ++ List.replicate (2 - (lg_sl ([.ref (α.1 7), .int p1])).length) Slot.unset).toArray = ls at hl ⊢
  have hl : lv_has ls 2 [(0, .ref (α.1 7)), (1, .int p1)] := hl
  unfold mp_X7_below at hF
  revert hP hS
  generalize hLo : ([] : List Loc) = locs
  suffices h9 : ∀ (H : Heap) (locs : List Loc), va_P D vwCl (sm_wX σ α) H → va_S A s.heap H locs → W p l e (headSpec wp_X7_below { frames := 1, cells := 0, slots := 0, locals := 21 }).room s m ([.ref (α.1 7), .int p1] : List Value).toArray below meth c H locs 0 0 (MQ below (va_Ql K (sm_B sm_wX D α) A) ([.ref (α.1 7), .int p1] : List Value).toArray s 0 0 A) (F0 m 0 ls []) from fun hP hS => h9 s.heap locs hP hS
  intro H locs hP hS
  refine lv_aload_n hx hb dX7_below_0 rfl (lv_at hl 0 rfl) ?_
  refine va_get (D := D) (ci := 7) (v := .ref (α.1 1)) (C := RX7) (T := TX7) (N := 13) hx hb hts in_X7 hown hK hP 7 (sm_gX7 σ α) rfl 3 (by decide) k_0 (fun _ h9 => h9) rfl dX7_below_1 ?_
  refine lv_aload_n hx hb dX7_below_4 rfl (lv_at hl 0 rfl) ?_
  refine lv_aload_n hx hb dX7_below_5 rfl (lv_at hl 0 rfl) ?_
  refine va_get (D := D) (ci := 7) (v := .int (σ.1 27)) (C := RX7) (T := TX7) (N := 13) hx hb hts in_X7 hown hK hP 7 (sm_gX7 σ α) rfl 11 (by decide) k_1 (fun _ h9 => h9) rfl dX7_below_6 ?_
  refine lv_iconst (v := 1) hx hb dX7_below_9 (by decide) ?_
  refine lv_isub hx hb dX7_below_10 ?_
  refine lv_iload_n hx hb dX7_below_11 rfl (lv_at hl 1 rfl) ?_
  refine lv_isub hx hb dX7_below_12 ?_
  refine sm_vi (As := [.int (((σ.1 27) - 1) - p1)]) (rest := [.ref (α.1 1)]) hP hK hD hE hS hA ⟨hx, hb, hml, hown, hts⟩ hl.1 (c_X7_slot l D H.size t0 σ α (((σ.1 27) - 1) - p1) _ hF) (cwV 1 hts wg_X7_below_X7_slot_136 rfl rfl rfl (by decide +kernel) ⟨Nat.le_of_ble_eq_true rfl, Nat.le_of_ble_eq_true rfl⟩) (va_recv hK hP (ci := 7) (q0 := 7) rfl (sm_gX7 σ α)) rfl rfl (Nat.le_of_ble_eq_true rfl) dX7_below_13 ⟨Nat.zero_le _, Nat.zero_le _⟩ (fun r2 σ1 H locs hF hP hS => ?_)
  refine sm_vl (As := [.int r2]) (rest := []) hP hK hD hE hS hA ⟨hx, hb, hml, hown, hts⟩ hl.1 (c_X1_look l D H.size t0 σ1 α r2 _ hF) (cwV 1 hts wg_X7_below_X1_look_120 rfl rfl rfl (by decide +kernel) ⟨Nat.le_of_ble_eq_true rfl, Nat.le_of_ble_eq_true rfl⟩) (va_recv hK hP (ci := 1) (q0 := 1) rfl (sm_gX1 σ1 α)) rfl rfl (Nat.le_of_ble_eq_true rfl) dX7_below_16 ⟨Nat.zero_le _, Nat.zero_le _⟩ (fun r4 σ3 H locs hF hP hS => ?_)
  exact W.lret (v := r4) hx hb hr (fun t ht hW => ⟨⟨r4, σ3, rfl, hF, (by unfold sm_B; rw [ht]; exact hP)⟩, hS.F ht⟩) hS.2.2 dX7_below_19
theorem dX7_push_0 : decode cX7_push 0 = .ok (.aload_n 0, 1) := by decide +kernel
theorem dX7_push_1 : decode cX7_push 1 = .ok (.getfield 27, 3) := by decide +kernel
theorem dX7_push_4 : decode cX7_push 4 = .ok (.aload_n 0, 1) := by decide +kernel
theorem dX7_push_5 : decode cX7_push 5 = .ok (.aload_n 0, 1) := by decide +kernel
theorem dX7_push_6 : decode cX7_push 6 = .ok (.getfield 46, 3) := by decide +kernel
theorem dX7_push_9 : decode cX7_push 9 = .ok (.invokevirtual 136, 3) := by decide +kernel
theorem dX7_push_12 : decode cX7_push 12 = .ok (.lload_n 1, 1) := by decide +kernel
theorem dX7_push_13 : decode cX7_push 13 = .ok (.invokevirtual 110, 3) := by decide +kernel
theorem dX7_push_16 : decode cX7_push 16 = .ok (.aload_n 0, 1) := by decide +kernel
theorem dX7_push_17 : decode cX7_push 17 = .ok (.dup, 1) := by decide +kernel
theorem dX7_push_18 : decode cX7_push 18 = .ok (.getfield 46, 3) := by decide +kernel
theorem dX7_push_21 : decode cX7_push 21 = .ok (.iconst 1, 1) := by decide +kernel
theorem dX7_push_22 : decode cX7_push 22 = .ok (.iadd, 1) := by decide +kernel
theorem dX7_push_23 : decode cX7_push 23 = .ok (.putfield 46, 3) := by decide +kernel
theorem dX7_push_26 : decode cX7_push 26 = .ok (.iconst (-1), 1) := by decide +kernel
theorem dX7_push_27 : decode cX7_push 27 = .ok (.ireturn, 1) := by decide +kernel
def wp_X7_push : List Cond := .code yX7_push cX7_push 3 (some .int) :: ((([.fieldLink RX7 27 "SteadyMachine$Runner" "heap" "LSteadyMachine$Heap;", .fieldLink RX7 46 "SteadyMachine$Runner" "height" "I"] ++ (wsV RX7 136 RX7 yX7_slot wp_X7_slot)) ++ (wsV RX7 110 RX1 yX1_put wp_X1_put)) ++ wsX70)
theorem wq_X7_push : wp_X7_push.all goodWord = true := wa_c rfl (wa_a (wa_a (wa_a (by decide +kernel) (wa_V wq_X7_slot)) (wa_V wq_X1_put)) uq_X7)
theorem wt_X7_push : GoodIn lw_tbl wp_X7_push := wm_c (List.mem_of_getElem? (i := 986) (by decide +kernel)) rfl (wm_a (wm_a (wm_a (goodIn_r _ [515, 526] (by decide +kernel) (by decide +kernel)) (wm_a (goodIn_r _ [932, 934, 40, 145] (by decide +kernel) (by decide +kernel)) wt_X7_slot)) (wm_a (goodIn_r _ [931, 923, 924, 144] (by decide +kernel) (by decide +kernel)) wt_X1_put)) ut_X7)
theorem wg_X7_push_X7_slot_136 : GoodIn wp_X7_push (wsV RX7 136 RX7 yX7_slot wp_X7_slot) := goodIn_sub (fun w h => List.mem_cons_of_mem _ (List.mem_append_left _ (List.mem_append_left _ (List.mem_append_right _ h)))) (wa_V wq_X7_slot)
theorem wg_X7_push_X1_put_110 : GoodIn wp_X7_push (wsV RX7 110 RX1 yX1_put wp_X1_put) := goodIn_sub (fun w h => List.mem_cons_of_mem _ (List.mem_append_left _ (List.mem_append_right _ h))) (wa_V wq_X1_put)
theorem wi_X7_push_X7 : ∀ w ∈ wsX70, w ∈ wp_X7_push := fun w h => List.mem_cons_of_mem _ (List.mem_append_right _ h)
set_option maxHeartbeats 4000000 in
set_option maxRecDepth 100000 in
theorem c_X7_push (l : Launch) (D : va_G) (sz t0 : Nat) (σ : sm_S) (α : sm_A) (p1 : Int64) (K : Int32 → sm_S → Prop) (hF : mp_X7_push σ p1 K) : Met l yX7_push wp_X7_push { frames := 1, cells := 0, slots := 0, locals := 23 } (sm_P sm_wX sm_tX 37 D sz t0 σ α [.ref (α.1 7), .long p1]) (va_Qi K (sm_B sm_wX D α) (sm_a α 37 sz)) 0 0 (sm_a α 37 sz) := by
  refine Met.ofW (cc := cX7_push) (maxL := 3) (ret := (some .int)) (by decide) rfl ?_
  intro p e s m args below meth c s₁ B hml hv
  obtain ⟨rfl, hsz, hP, hK, hD0, hE⟩ := hv
  have hx := B.exec
  have hb := B.bytes
  have hr := B.returns
  have hts := atoms_spec (ws := wp_X7_push) B.pre
  have hown : s.vm.findClass RX7 = some m.cls := findClass_of_methodNamed B.named
  have hlocks := B.notSynchronized
  subst hsz
  have hD : sm_D (sm_a α 37 s.heap.size) α 37 := hD0.own
  have hA : ∀ q : Nat, s.heap.size ≤ q → sm_a α 37 s.heap.size q := fun q h => Or.inr h
  generalize hAe : sm_a α 37 s.heap.size = A at hD hA hE ⊢
  have hS : va_S A s.heap s.heap [] := va_S.rf
  have in_X7 : ∀ w ∈ wsX70, w ∈ wp_X7_push := wi_X7_push_X7
  have k_0 := hts (.fieldLink RX7 27 "SteadyMachine$Runner" "heap" "LSteadyMachine$Heap;") (by decide +kernel)
  have k_1 := hts (.fieldLink RX7 46 "SteadyMachine$Runner" "height" "I") (by decide +kernel)
  have hl := lv_entry ([.ref (α.1 7), .long p1]) (n := 3) (Nat.le_of_ble_eq_true rfl)
  rw [lg_entry_eq]
  generalize (lg_sl ([.ref (α.1 7), .long p1]) ++ List.replicate (3 - (lg_sl ([.ref (α.1 7), .long p1])).length) Slot.unset).toArray = ls at hl ⊢
  have hl : lv_has ls 3 [(0, .ref (α.1 7)), (1, .long p1)] := hl
  unfold mp_X7_push at hF
  revert hP hS
  generalize hLo : ([] : List Loc) = locs
  suffices h9 : ∀ (H : Heap) (locs : List Loc), va_P D vwCl (sm_wX σ α) H → va_S A s.heap H locs → W p l e (headSpec wp_X7_push { frames := 1, cells := 0, slots := 0, locals := 23 }).room s m ([.ref (α.1 7), .long p1] : List Value).toArray below meth c H locs 0 0 (MQ below (va_Qi K (sm_B sm_wX D α) A) ([.ref (α.1 7), .long p1] : List Value).toArray s 0 0 A) (F0 m 0 ls []) from fun hP hS => h9 s.heap locs hP hS
  intro H locs hP hS
  refine lv_aload_n hx hb dX7_push_0 rfl (lv_at hl 0 rfl) ?_
  refine va_get (D := D) (ci := 7) (v := .ref (α.1 1)) (C := RX7) (T := TX7) (N := 13) hx hb hts in_X7 hown hK hP 7 (sm_gX7 σ α) rfl 3 (by decide) k_0 (fun _ h9 => h9) rfl dX7_push_1 ?_
  refine lv_aload_n hx hb dX7_push_4 rfl (lv_at hl 0 rfl) ?_
  refine lv_aload_n hx hb dX7_push_5 rfl (lv_at hl 0 rfl) ?_
  refine va_get (D := D) (ci := 7) (v := .int (σ.1 27)) (C := RX7) (T := TX7) (N := 13) hx hb hts in_X7 hown hK hP 7 (sm_gX7 σ α) rfl 11 (by decide) k_1 (fun _ h9 => h9) rfl dX7_push_6 ?_
  refine sm_vi (As := [.int (σ.1 27)]) (rest := [.ref (α.1 1)]) hP hK hD hE hS hA ⟨hx, hb, hml, hown, hts⟩ hl.1 (c_X7_slot l D H.size t0 σ α (σ.1 27) _ hF) (cwV 1 hts wg_X7_push_X7_slot_136 rfl rfl rfl (by decide +kernel) ⟨Nat.le_of_ble_eq_true rfl, Nat.le_of_ble_eq_true rfl⟩) (va_recv hK hP (ci := 7) (q0 := 7) rfl (sm_gX7 σ α)) rfl rfl (Nat.le_of_ble_eq_true rfl) dX7_push_9 ⟨Nat.zero_le _, Nat.zero_le _⟩ (fun r2 σ1 H locs hF hP hS => ?_)
  refine lv_lload_n hx hb dX7_push_12 rfl (lv_at hl 1 rfl) ?_
  refine sm_vv (As := [.int r2, .long p1]) (rest := []) hP hK hD hE hS hA ⟨hx, hb, hml, hown, hts⟩ hl.1 (c_X1_put l D H.size t0 σ1 α r2 p1 _ hF) (cwV 2 hts wg_X7_push_X1_put_110 rfl rfl rfl (by decide +kernel) ⟨Nat.le_of_ble_eq_true rfl, Nat.le_of_ble_eq_true rfl⟩) (va_recv hK hP (ci := 1) (q0 := 1) rfl (sm_gX1 σ1 α)) rfl rfl (Nat.le_of_ble_eq_true rfl) dX7_push_13 ⟨Nat.zero_le _, Nat.zero_le _⟩ (fun σ3 H locs hF hP hS => ?_)
  refine lv_aload_n hx hb dX7_push_16 rfl (lv_at hl 0 rfl) ?_
  refine lv_dup hx hb dX7_push_17 rfl ?_
  refine va_get (D := D) (ci := 7) (v := .int (σ3.1 27)) (C := RX7) (T := TX7) (N := 13) hx hb hts in_X7 hown hK hP 7 (sm_gX7 σ3 α) rfl 11 (by decide) k_1 (fun _ h9 => h9) rfl dX7_push_18 ?_
  refine lv_iconst (v := 1) hx hb dX7_push_21 (by decide) ?_
  refine lv_iadd hx hb dX7_push_22 ?_
  refine va_put (D := D) (ci := 7) (v := .int ((σ3.1 27) + 1)) (ty := .int) (C := RX7) (T := TX7) (N := 13) hx hb hts in_X7 tyX7 tyX7_ok nmX7 hown hK hP (hD.to (sm_wX_m _ _)) hS 7 (sm_gX7 σ3 α) rfl 11 (by decide) k_1 (fun _ h9 => h9) rfl (by decide +kernel) rfl rfl (Nat.le_of_ble_eq_true rfl) dX7_push_23 (fun H locs hP _ hS => ?_)
  rw [sm_iX27] at hP
  obtain ⟨σ4, eσ4⟩ : ∃ x : sm_S, x = sm_i σ3 27 ((σ3.1 27) + 1) := ⟨_, rfl⟩
  replace hF := hF σ4 eσ4
  rw [← eσ4] at hP
  refine lv_iconst (v := -1) hx hb dX7_push_26 (by decide) ?_
  exact W.iret (v := (-1)) hx hb hr (fun t ht hW => ⟨⟨(-1), σ4, rfl, hF, (by unfold sm_B; rw [ht]; exact hP)⟩, hS.F ht⟩) hS.2.2 dX7_push_27
theorem dX7_giveBack_0 : decode cX7_giveBack 0 = .ok (.aload_n 0, 1) := by decide +kernel
theorem dX7_giveBack_1 : decode cX7_giveBack 1 = .ok (.invokevirtual 256, 3) := by decide +kernel
theorem dX7_giveBack_4 : decode cX7_giveBack 4 = .ok (.ifCond .ne 9, 3) := by decide +kernel
theorem dX7_giveBack_7 : decode cX7_giveBack 7 = .ok (.aload_n 0, 1) := by decide +kernel
theorem dX7_giveBack_8 : decode cX7_giveBack 8 = .ok (.iconst 2, 1) := by decide +kernel
theorem dX7_giveBack_9 : decode cX7_giveBack 9 = .ok (.putfield 35, 3) := by decide +kernel
theorem dX7_giveBack_12 : decode cX7_giveBack 12 = .ok (.return_, 1) := by decide +kernel
theorem dX7_giveBack_13 : decode cX7_giveBack 13 = .ok (.aload_n 0, 1) := by decide +kernel
theorem dX7_giveBack_14 : decode cX7_giveBack 14 = .ok (.invokevirtual 69, 3) := by decide +kernel
theorem dX7_giveBack_17 : decode cX7_giveBack 17 = .ok (.iload_n 1, 1) := by decide +kernel
theorem dX7_giveBack_18 : decode cX7_giveBack 18 = .ok (.ifCond .eq 9, 3) := by decide +kernel
theorem dX7_giveBack_21 : decode cX7_giveBack 21 = .ok (.aload_n 0, 1) := by decide +kernel
theorem dX7_giveBack_22 : decode cX7_giveBack 22 = .ok (.lload_n 2, 1) := by decide +kernel
theorem dX7_giveBack_23 : decode cX7_giveBack 23 = .ok (.invokevirtual 143, 3) := by decide +kernel
theorem dX7_giveBack_26 : decode cX7_giveBack 26 = .ok (.pop, 1) := by decide +kernel
theorem dX7_giveBack_27 : decode cX7_giveBack 27 = .ok (.aload_n 0, 1) := by decide +kernel
theorem dX7_giveBack_28 : decode cX7_giveBack 28 = .ok (.getfield 27, 3) := by decide +kernel
theorem dX7_giveBack_31 : decode cX7_giveBack 31 = .ok (.aload_n 0, 1) := by decide +kernel
theorem dX7_giveBack_32 : decode cX7_giveBack 32 = .ok (.getfield 27, 3) := by decide +kernel
theorem dX7_giveBack_35 : decode cX7_giveBack 35 = .ok (.getfield 107, 3) := by decide +kernel
theorem dX7_giveBack_38 : decode cX7_giveBack 38 = .ok (.iconst 1, 1) := by decide +kernel
theorem dX7_giveBack_39 : decode cX7_giveBack 39 = .ok (.iadd, 1) := by decide +kernel
theorem dX7_giveBack_40 : decode cX7_giveBack 40 = .ok (.aload_n 0, 1) := by decide +kernel
theorem dX7_giveBack_41 : decode cX7_giveBack 41 = .ok (.getfield 75, 3) := by decide +kernel
theorem dX7_giveBack_44 : decode cX7_giveBack 44 = .ok (.getstatic 78, 3) := by decide +kernel
theorem dX7_giveBack_47 : decode cX7_giveBack 47 = .ok (.aload_n 0, 1) := by decide +kernel
theorem dX7_giveBack_48 : decode cX7_giveBack 48 = .ok (.iconst 0, 1) := by decide +kernel
theorem dX7_giveBack_49 : decode cX7_giveBack 49 = .ok (.invokevirtual 72, 3) := by decide +kernel
theorem dX7_giveBack_52 : decode cX7_giveBack 52 = .ok (.iaload, 1) := by decide +kernel
theorem dX7_giveBack_53 : decode cX7_giveBack 53 = .ok (.iadd, 1) := by decide +kernel
theorem dX7_giveBack_54 : decode cX7_giveBack 54 = .ok (.i2l, 1) := by decide +kernel
theorem dX7_giveBack_55 : decode cX7_giveBack 55 = .ok (.invokevirtual 110, 3) := by decide +kernel
theorem dX7_giveBack_58 : decode cX7_giveBack 58 = .ok (.aload_n 0, 1) := by decide +kernel
theorem dX7_giveBack_59 : decode cX7_giveBack 59 = .ok (.getfield 27, 3) := by decide +kernel
theorem dX7_giveBack_62 : decode cX7_giveBack 62 = .ok (.aload_n 0, 1) := by decide +kernel
theorem dX7_giveBack_63 : decode cX7_giveBack 63 = .ok (.getfield 27, 3) := by decide +kernel
theorem dX7_giveBack_66 : decode cX7_giveBack 66 = .ok (.getfield 107, 3) := by decide +kernel
theorem dX7_giveBack_69 : decode cX7_giveBack 69 = .ok (.iconst 2, 1) := by decide +kernel
theorem dX7_giveBack_70 : decode cX7_giveBack 70 = .ok (.iadd, 1) := by decide +kernel
theorem dX7_giveBack_71 : decode cX7_giveBack 71 = .ok (.aload_n 0, 1) := by decide +kernel
theorem dX7_giveBack_72 : decode cX7_giveBack 72 = .ok (.getfield 46, 3) := by decide +kernel
theorem dX7_giveBack_75 : decode cX7_giveBack 75 = .ok (.i2l, 1) := by decide +kernel
theorem dX7_giveBack_76 : decode cX7_giveBack 76 = .ok (.invokevirtual 110, 3) := by decide +kernel
theorem dX7_giveBack_79 : decode cX7_giveBack 79 = .ok (.return_, 1) := by decide +kernel
def wp_X7_giveBack : List Cond := .code yX7_giveBack cX7_giveBack 4 none :: ((((((([.fieldLink RX7 27 "SteadyMachine$Runner" "heap" "LSteadyMachine$Heap;", .fieldLink RX7 107 "SteadyMachine$Heap" "top" "I", .fieldLink RX7 75 "SteadyMachine$Runner" "place" "I", .fieldLink RX7 46 "SteadyMachine$Runner" "height" "I", .fieldLink RX7 35 "SteadyMachine$Runner" "state" "I"] ++ (wsV RX7 72 RX7 yX7_operand wp_X7_operand)) ++ (wsV RX7 110 RX1 yX1_put wp_X1_put)) ++ (wsV RX7 256 RX7 yX7_leaveTop wp_X7_leaveTop)) ++ (wsV RX7 69 RX7 yX7_loadTop wp_X7_loadTop)) ++ (wsV RX7 143 RX7 yX7_push wp_X7_push)) ++ wsX10) ++ wsX70)
theorem wq_X7_giveBack : wp_X7_giveBack.all goodWord = true := wa_c rfl (wa_a (wa_a (wa_a (wa_a (wa_a (wa_a (wa_a (by decide +kernel) (wa_V wq_X7_operand)) (wa_V wq_X1_put)) (wa_V wq_X7_leaveTop)) (wa_V wq_X7_loadTop)) (wa_V wq_X7_push)) uq_X1) uq_X7)
theorem wt_X7_giveBack : GoodIn lw_tbl wp_X7_giveBack := wm_c (List.mem_of_getElem? (i := 1075) (by decide +kernel)) rfl (wm_a (wm_a (wm_a (wm_a (wm_a (wm_a (wm_a (goodIn_r _ [515, 463, 524, 526, 517] (by decide +kernel) (by decide +kernel)) (wm_a (goodIn_r _ [965, 967, 44, 145] (by decide +kernel) (by decide +kernel)) wt_X7_operand)) (wm_a (goodIn_r _ [931, 923, 924, 144] (by decide +kernel) (by decide +kernel)) wt_X1_put)) (wm_a (goodIn_r _ [960, 962, 43, 145] (by decide +kernel) (by decide +kernel)) wt_X7_leaveTop)) (wm_a (goodIn_r _ [953, 955, 42, 145] (by decide +kernel) (by decide +kernel)) wt_X7_loadTop)) (wm_a (goodIn_r _ [983, 985, 47, 145] (by decide +kernel) (by decide +kernel)) wt_X7_push)) ut_X1) ut_X7)
theorem wg_X7_giveBack_X7_operand_72 : GoodIn wp_X7_giveBack (wsV RX7 72 RX7 yX7_operand wp_X7_operand) := goodIn_sub (fun w h => List.mem_cons_of_mem _ (List.mem_append_left _ (List.mem_append_left _ (List.mem_append_left _ (List.mem_append_left _ (List.mem_append_left _ (List.mem_append_left _ (List.mem_append_right _ h)))))))) (wa_V wq_X7_operand)
theorem wg_X7_giveBack_X1_put_110 : GoodIn wp_X7_giveBack (wsV RX7 110 RX1 yX1_put wp_X1_put) := goodIn_sub (fun w h => List.mem_cons_of_mem _ (List.mem_append_left _ (List.mem_append_left _ (List.mem_append_left _ (List.mem_append_left _ (List.mem_append_left _ (List.mem_append_right _ h))))))) (wa_V wq_X1_put)
theorem wg_X7_giveBack_X7_leaveTop_256 : GoodIn wp_X7_giveBack (wsV RX7 256 RX7 yX7_leaveTop wp_X7_leaveTop) := goodIn_sub (fun w h => List.mem_cons_of_mem _ (List.mem_append_left _ (List.mem_append_left _ (List.mem_append_left _ (List.mem_append_left _ (List.mem_append_right _ h)))))) (wa_V wq_X7_leaveTop)
theorem wg_X7_giveBack_X7_loadTop_69 : GoodIn wp_X7_giveBack (wsV RX7 69 RX7 yX7_loadTop wp_X7_loadTop) := goodIn_sub (fun w h => List.mem_cons_of_mem _ (List.mem_append_left _ (List.mem_append_left _ (List.mem_append_left _ (List.mem_append_right _ h))))) (wa_V wq_X7_loadTop)
theorem wg_X7_giveBack_X7_push_143 : GoodIn wp_X7_giveBack (wsV RX7 143 RX7 yX7_push wp_X7_push) := goodIn_sub (fun w h => List.mem_cons_of_mem _ (List.mem_append_left _ (List.mem_append_left _ (List.mem_append_right _ h)))) (wa_V wq_X7_push)
theorem wi_X7_giveBack_X1 : ∀ w ∈ wsX10, w ∈ wp_X7_giveBack := fun w h => List.mem_cons_of_mem _ (List.mem_append_left _ (List.mem_append_right _ h))
theorem wi_X7_giveBack_X7 : ∀ w ∈ wsX70, w ∈ wp_X7_giveBack := fun w h => List.mem_cons_of_mem _ (List.mem_append_right _ h)
set_option maxHeartbeats 4000000 in
set_option maxRecDepth 100000 in
theorem c_X7_giveBack (l : Launch) (D : va_G) (sz t0 : Nat) (σ : sm_S) (α : sm_A) (p1 : Int32) (p2 : Int64) (K : sm_S → Prop) (hF : mp_X7_giveBack σ p1 p2 K) : Met l yX7_giveBack wp_X7_giveBack { frames := 4, cells := 0, slots := 0, locals := 92 } (sm_P sm_wX sm_tX 37 D sz t0 σ α [.ref (α.1 7), .int p1, .long p2]) (va_Qv K (sm_B sm_wX D α) (sm_a α 37 sz)) 0 0 (sm_a α 37 sz) := by
  refine Met.ofW (cc := cX7_giveBack) (maxL := 4) (ret := none) (by decide) rfl ?_
  intro p e s m args below meth c s₁ B hml hv
  obtain ⟨rfl, hsz, hP, hK, hD0, hE⟩ := hv
  have hx := B.exec
  have hb := B.bytes
  have hr := B.returns
  have hts := atoms_spec (ws := wp_X7_giveBack) B.pre
  have hown : s.vm.findClass RX7 = some m.cls := findClass_of_methodNamed B.named
  have hlocks := B.notSynchronized
  subst hsz
  have hD : sm_D (sm_a α 37 s.heap.size) α 37 := hD0.own
  have hA : ∀ q : Nat, s.heap.size ≤ q → sm_a α 37 s.heap.size q := fun q h => Or.inr h
  generalize hAe : sm_a α 37 s.heap.size = A at hD hA hE ⊢
  have hS : va_S A s.heap s.heap [] := va_S.rf
  have in_X1 : ∀ w ∈ wsX10, w ∈ wp_X7_giveBack := wi_X7_giveBack_X1
  have in_X7 : ∀ w ∈ wsX70, w ∈ wp_X7_giveBack := wi_X7_giveBack_X7
  have k_0 := hts (.fieldLink RX7 27 "SteadyMachine$Runner" "heap" "LSteadyMachine$Heap;") (by decide +kernel)
  have k_1 := hts (.fieldLink RX7 107 "SteadyMachine$Heap" "top" "I") (by decide +kernel)
  have k_2 := hts (.fieldLink RX7 75 "SteadyMachine$Runner" "place" "I") (by decide +kernel)
  have k_3 := hts (.fieldLink RX7 46 "SteadyMachine$Runner" "height" "I") (by decide +kernel)
  have k_4 := hts (.fieldLink RX7 35 "SteadyMachine$Runner" "state" "I") (by decide +kernel)
  have hl := lv_entry ([.ref (α.1 7), .int p1, .long p2]) (n := 4) (Nat.le_of_ble_eq_true rfl)
  rw [lg_entry_eq]
  generalize (lg_sl ([.ref (α.1 7), .int p1, .long p2]) ++ List.replicate (4 - (lg_sl ([.ref (α.1 7), .int p1, .long p2])).length) Slot.unset).toArray = ls at hl ⊢
  have hl : lv_has ls 4 [(0, .ref (α.1 7)), (1, .int p1), (2, .long p2)] := hl
  have B27 : ∀ (σ : sm_S), mp_X7_giveBack_27 K σ → sm_J p l e (headSpec wp_X7_giveBack { frames := 4, cells := 0, slots := 0, locals := 92 }).room s m ([.ref (α.1 7), .int p1, .long p2] : List Value).toArray below meth c (MQ below (va_Qv K (sm_B sm_wX D α) A) ([.ref (α.1 7), .int p1, .long p2] : List Value).toArray s 0 0 A) D A 4 (sm_wX σ α) 27 [(0, .ref (α.1 7))] [] := by
    intro σ hF H locs ls hP hS hl
    unfold mp_X7_giveBack_27 at hF
    refine lv_aload_n hx hb dX7_giveBack_27 rfl (lv_at hl 0 rfl) ?_
    refine va_get (D := D) (ci := 7) (v := .ref (α.1 1)) (C := RX7) (T := TX7) (N := 13) hx hb hts in_X7 hown hK hP 7 (sm_gX7 σ α) rfl 3 (by decide) k_0 (fun _ h9 => h9) rfl dX7_giveBack_28 ?_
    refine lv_aload_n hx hb dX7_giveBack_31 rfl (lv_at hl 0 rfl) ?_
    refine va_get (D := D) (ci := 7) (v := .ref (α.1 1)) (C := RX7) (T := TX7) (N := 13) hx hb hts in_X7 hown hK hP 7 (sm_gX7 σ α) rfl 3 (by decide) k_0 (fun _ h9 => h9) rfl dX7_giveBack_32 ?_
    refine va_get (D := D) (ci := 1) (v := .int (σ.1 10)) (C := RX1) (T := TX1) (N := 16) hx hb hts in_X1 hown hK hP 1 (sm_gX1 σ α) rfl 12 (by decide) k_1 (fun _ h9 => h9) rfl dX7_giveBack_35 ?_
    refine lv_iconst (v := 1) hx hb dX7_giveBack_38 (by decide) ?_
    refine lv_iadd hx hb dX7_giveBack_39 ?_
    refine lv_aload_n hx hb dX7_giveBack_40 rfl (lv_at hl 0 rfl) ?_
    refine va_get (D := D) (ci := 7) (v := .int (σ.1 25)) (C := RX7) (T := TX7) (N := 13) hx hb hts in_X7 hown hK hP 7 (sm_gX7 σ α) rfl 9 (by decide) k_2 (fun _ h9 => h9) rfl dX7_giveBack_41 ?_
    refine va_getsN hx hb hE.2.1 hS hown (va_Nw.use rfl (hE.1 (.fieldLinkNest "SteadyMachine$Runner" 78 "SteadyMachine" "SIZE" "[I" "SteadyMachine") (by decide +kernel))) (fun _ h9 => h9) dX7_giveBack_44 ?_
    refine lv_aload_n hx hb dX7_giveBack_47 rfl (lv_at hl 0 rfl) ?_
    refine lv_iconst (v := 0) hx hb dX7_giveBack_48 (by decide) ?_
    refine sm_vi (As := [.int 0]) (rest := [.ref t0, .int (σ.1 25), .int ((σ.1 10) + 1), .ref (α.1 1)]) hP hK hD hE hS hA ⟨hx, hb, hml, hown, hts⟩ hl.1 (c_X7_operand l D H.size t0 σ α 0 _ hF) (cwV 1 hts wg_X7_giveBack_X7_operand_72 rfl rfl rfl (by decide +kernel) ⟨Nat.le_of_ble_eq_true rfl, Nat.le_of_ble_eq_true rfl⟩) (va_recv hK hP (ci := 7) (q0 := 7) rfl (sm_gX7 σ α)) rfl rfl (Nat.le_of_ble_eq_true rfl) dX7_giveBack_49 ⟨Nat.zero_le _, Nat.zero_le _⟩ (fun r2 σ1 H locs hF hP hS => ?_)
    obtain ⟨h3, hF⟩ := hF
    refine va_ti hx hb hE.2.2 hS h3 (v := .int (sm_sz r2.toNatClampNeg)) rfl dX7_giveBack_52 ?_
    refine lv_iadd hx hb dX7_giveBack_53 ?_
    refine lv_i2l hx hb dX7_giveBack_54 rfl ?_
    refine sm_vv (As := [.int ((σ.1 10) + 1), .long (((σ.1 25) + (sm_sz r2.toNatClampNeg)).toInt64)]) (rest := []) hP hK hD hE hS hA ⟨hx, hb, hml, hown, hts⟩ hl.1 (c_X1_put l D H.size t0 σ1 α ((σ.1 10) + 1) (((σ.1 25) + (sm_sz r2.toNatClampNeg)).toInt64) _ hF) (cwV 2 hts wg_X7_giveBack_X1_put_110 rfl rfl rfl (by decide +kernel) ⟨Nat.le_of_ble_eq_true rfl, Nat.le_of_ble_eq_true rfl⟩) (va_recv hK hP (ci := 1) (q0 := 1) rfl (sm_gX1 σ1 α)) rfl rfl (Nat.le_of_ble_eq_true rfl) dX7_giveBack_55 ⟨Nat.zero_le _, Nat.zero_le _⟩ (fun σ4 H locs hF hP hS => ?_)
    refine lv_aload_n hx hb dX7_giveBack_58 rfl (lv_at hl 0 rfl) ?_
    refine va_get (D := D) (ci := 7) (v := .ref (α.1 1)) (C := RX7) (T := TX7) (N := 13) hx hb hts in_X7 hown hK hP 7 (sm_gX7 σ4 α) rfl 3 (by decide) k_0 (fun _ h9 => h9) rfl dX7_giveBack_59 ?_
    refine lv_aload_n hx hb dX7_giveBack_62 rfl (lv_at hl 0 rfl) ?_
    refine va_get (D := D) (ci := 7) (v := .ref (α.1 1)) (C := RX7) (T := TX7) (N := 13) hx hb hts in_X7 hown hK hP 7 (sm_gX7 σ4 α) rfl 3 (by decide) k_0 (fun _ h9 => h9) rfl dX7_giveBack_63 ?_
    refine va_get (D := D) (ci := 1) (v := .int (σ4.1 10)) (C := RX1) (T := TX1) (N := 16) hx hb hts in_X1 hown hK hP 1 (sm_gX1 σ4 α) rfl 12 (by decide) k_1 (fun _ h9 => h9) rfl dX7_giveBack_66 ?_
    refine lv_iconst (v := 2) hx hb dX7_giveBack_69 (by decide) ?_
    refine lv_iadd hx hb dX7_giveBack_70 ?_
    refine lv_aload_n hx hb dX7_giveBack_71 rfl (lv_at hl 0 rfl) ?_
    refine va_get (D := D) (ci := 7) (v := .int (σ4.1 27)) (C := RX7) (T := TX7) (N := 13) hx hb hts in_X7 hown hK hP 7 (sm_gX7 σ4 α) rfl 11 (by decide) k_3 (fun _ h9 => h9) rfl dX7_giveBack_72 ?_
    refine lv_i2l hx hb dX7_giveBack_75 rfl ?_
    refine sm_vv (As := [.int ((σ4.1 10) + 2), .long ((σ4.1 27).toInt64)]) (rest := []) hP hK hD hE hS hA ⟨hx, hb, hml, hown, hts⟩ hl.1 (c_X1_put l D H.size t0 σ4 α ((σ4.1 10) + 2) ((σ4.1 27).toInt64) _ hF) (cwV 2 hts wg_X7_giveBack_X1_put_110 rfl rfl rfl (by decide +kernel) ⟨Nat.le_of_ble_eq_true rfl, Nat.le_of_ble_eq_true rfl⟩) (va_recv hK hP (ci := 1) (q0 := 1) rfl (sm_gX1 σ4 α)) rfl rfl (Nat.le_of_ble_eq_true rfl) dX7_giveBack_76 ⟨Nat.zero_le _, Nat.zero_le _⟩ (fun σ5 H locs hF hP hS => ?_)
    exact W.vret hx hb hr (fun t ht hW => ⟨⟨σ5, rfl, hF, (by unfold sm_B; rw [ht]; exact hP)⟩, hS.F ht⟩) hS.2.2 dX7_giveBack_79
  unfold mp_X7_giveBack at hF
  revert hP hS
  generalize hLo : ([] : List Loc) = locs
  suffices h9 : ∀ (H : Heap) (locs : List Loc), va_P D vwCl (sm_wX σ α) H → va_S A s.heap H locs → W p l e (headSpec wp_X7_giveBack { frames := 4, cells := 0, slots := 0, locals := 92 }).room s m ([.ref (α.1 7), .int p1, .long p2] : List Value).toArray below meth c H locs 0 0 (MQ below (va_Qv K (sm_B sm_wX D α) A) ([.ref (α.1 7), .int p1, .long p2] : List Value).toArray s 0 0 A) (F0 m 0 ls []) from fun hP hS => h9 s.heap locs hP hS
  intro H locs hP hS
  refine lv_aload_n hx hb dX7_giveBack_0 rfl (lv_at hl 0 rfl) ?_
  refine sm_vi (As := []) (rest := []) hP hK hD hE hS hA ⟨hx, hb, hml, hown, hts⟩ hl.1 (c_X7_leaveTop l D H.size t0 σ α _ hF) (cwV 0 hts wg_X7_giveBack_X7_leaveTop_256 rfl rfl rfl (by decide +kernel) ⟨Nat.le_of_ble_eq_true rfl, Nat.le_of_ble_eq_true rfl⟩) (va_recv hK hP (ci := 7) (q0 := 7) rfl (sm_gX7 σ α)) rfl rfl (Nat.le_of_ble_eq_true rfl) dX7_giveBack_1 ⟨Nat.zero_le _, Nat.zero_le _⟩ (fun r7 σ6 H locs hF hP hS => ?_)
  refine lv_if_ne (tgt := 13) hx hb dX7_giveBack_4 (by decide) (fun h8 => ?_) (fun h8 => ?_)
  · replace hF := hF.1 h8
    refine lv_aload_n hx hb dX7_giveBack_13 rfl (lv_at hl 0 rfl) ?_
    refine sm_vv (As := []) (rest := []) hP hK hD hE hS hA ⟨hx, hb, hml, hown, hts⟩ hl.1 (c_X7_loadTop l D H.size t0 σ6 α _ hF) (cwV 0 hts wg_X7_giveBack_X7_loadTop_69 rfl rfl rfl (by decide +kernel) ⟨Nat.le_of_ble_eq_true rfl, Nat.le_of_ble_eq_true rfl⟩) (va_recv hK hP (ci := 7) (q0 := 7) rfl (sm_gX7 σ6 α)) rfl rfl (Nat.le_of_ble_eq_true rfl) dX7_giveBack_14 ⟨Nat.zero_le _, Nat.zero_le _⟩ (fun σ9 H locs hF hP hS => ?_)
    refine lv_iload_n hx hb dX7_giveBack_17 rfl (lv_at hl 1 rfl) ?_
    refine lv_if_eq (tgt := 27) hx hb dX7_giveBack_18 (by decide) (fun h10 => ?_) (fun h10 => ?_)
    · replace hF := hF.1 h10
      exact B27 σ9 hF H locs ls hP hS (lv_sub hl [0] rfl)
    · replace hF := hF.2 h10
      refine lv_aload_n hx hb dX7_giveBack_21 rfl (lv_at hl 0 rfl) ?_
      refine lv_lload_n hx hb dX7_giveBack_22 rfl (lv_at hl 2 rfl) ?_
      refine sm_vi (As := [.long p2]) (rest := []) hP hK hD hE hS hA ⟨hx, hb, hml, hown, hts⟩ hl.1 (c_X7_push l D H.size t0 σ9 α p2 _ hF) (cwV 1 hts wg_X7_giveBack_X7_push_143 rfl rfl rfl (by decide +kernel) ⟨Nat.le_of_ble_eq_true rfl, Nat.le_of_ble_eq_true rfl⟩) (va_recv hK hP (ci := 7) (q0 := 7) rfl (sm_gX7 σ9 α)) rfl rfl (Nat.le_of_ble_eq_true rfl) dX7_giveBack_23 ⟨Nat.zero_le _, Nat.zero_le _⟩ (fun r12 σ11 H locs hF hP hS => ?_)
      refine lv_pop hx hb dX7_giveBack_26 rfl ?_
      exact B27 σ11 hF H locs ls hP hS (lv_sub hl [0] rfl)
  · replace hF := hF.2 h8
    refine lv_aload_n hx hb dX7_giveBack_7 rfl (lv_at hl 0 rfl) ?_
    refine lv_iconst (v := 2) hx hb dX7_giveBack_8 (by decide) ?_
    refine va_put (D := D) (ci := 7) (v := .int 2) (ty := .int) (C := RX7) (T := TX7) (N := 13) hx hb hts in_X7 tyX7 tyX7_ok nmX7 hown hK hP (hD.to (sm_wX_m _ _)) hS 7 (sm_gX7 σ6 α) rfl 5 (by decide) k_4 (fun _ h9 => h9) rfl (by decide +kernel) rfl rfl (Nat.le_of_ble_eq_true rfl) dX7_giveBack_9 (fun H locs hP _ hS => ?_)
    rw [sm_iX22] at hP
    obtain ⟨σ13, eσ13⟩ : ∃ x : sm_S, x = sm_i σ6 22 2 := ⟨_, rfl⟩
    replace hF := hF σ13 eσ13
    rw [← eσ13] at hP
    exact W.vret hx hb hr (fun t ht hW => ⟨⟨σ13, rfl, hF, (by unfold sm_B; rw [ht]; exact hP)⟩, hS.F ht⟩) hS.2.2 dX7_giveBack_12
theorem dX7_pushInt_0 : decode cX7_pushInt 0 = .ok (.aload_n 0, 1) := by decide +kernel
theorem dX7_pushInt_1 : decode cX7_pushInt 1 = .ok (.iconst 0, 1) := by decide +kernel
theorem dX7_pushInt_2 : decode cX7_pushInt 2 = .ok (.iload_n 1, 1) := by decide +kernel
theorem dX7_pushInt_3 : decode cX7_pushInt 3 = .ok (.invokestatic 139, 3) := by decide +kernel
theorem dX7_pushInt_6 : decode cX7_pushInt 6 = .ok (.invokevirtual 143, 3) := by decide +kernel
theorem dX7_pushInt_9 : decode cX7_pushInt 9 = .ok (.ireturn, 1) := by decide +kernel
def wp_X7_pushInt : List Cond := .code yX7_pushInt cX7_pushInt 2 (some .int) :: (([] ++ (va_wsS RX7 139 yX1_cell wp_X1_cell)) ++ (wsV RX7 143 RX7 yX7_push wp_X7_push))
theorem wq_X7_pushInt : wp_X7_pushInt.all goodWord = true := wa_c rfl (wa_a (wa_a (by decide +kernel) (wa_S wq_X1_cell)) (wa_V wq_X7_push))
theorem wt_X7_pushInt : GoodIn lw_tbl wp_X7_pushInt := wm_c (List.mem_of_getElem? (i := 982) (by decide +kernel)) rfl (wm_a (wm_a (goodIn_r _ [] (by decide +kernel) (by decide +kernel)) (wm_a (goodIn_r _ [930, 919, 144] (by decide +kernel) (by decide +kernel)) wt_X1_cell)) (wm_a (goodIn_r _ [983, 985, 47, 145] (by decide +kernel) (by decide +kernel)) wt_X7_push))
theorem wg_X7_pushInt_X1_cell_139 : GoodIn wp_X7_pushInt (va_wsS RX7 139 yX1_cell wp_X1_cell) := goodIn_sub (fun w h => List.mem_cons_of_mem _ (List.mem_append_left _ (List.mem_append_right _ h))) (wa_S wq_X1_cell)
theorem wg_X7_pushInt_X7_push_143 : GoodIn wp_X7_pushInt (wsV RX7 143 RX7 yX7_push wp_X7_push) := goodIn_sub (fun w h => List.mem_cons_of_mem _ (List.mem_append_right _ h)) (wa_V wq_X7_push)
set_option maxHeartbeats 4000000 in
set_option maxRecDepth 100000 in
theorem c_X7_pushInt (l : Launch) (D : va_G) (sz t0 : Nat) (σ : sm_S) (α : sm_A) (p1 : Int32) (K : Int32 → sm_S → Prop) (hF : mp_X7_pushInt σ p1 K) : Met l yX7_pushInt wp_X7_pushInt { frames := 2, cells := 0, slots := 0, locals := 45 } (sm_P sm_wX sm_tX 37 D sz t0 σ α [.ref (α.1 7), .int p1]) (va_Qi K (sm_B sm_wX D α) (sm_a α 37 sz)) 0 0 (sm_a α 37 sz) := by
  refine Met.ofW (cc := cX7_pushInt) (maxL := 2) (ret := (some .int)) (by decide) rfl ?_
  intro p e s m args below meth c s₁ B hml hv
  obtain ⟨rfl, hsz, hP, hK, hD0, hE⟩ := hv
  have hx := B.exec
  have hb := B.bytes
  have hr := B.returns
  have hts := atoms_spec (ws := wp_X7_pushInt) B.pre
  have hown : s.vm.findClass RX7 = some m.cls := findClass_of_methodNamed B.named
  have hlocks := B.notSynchronized
  subst hsz
  have hD : sm_D (sm_a α 37 s.heap.size) α 37 := hD0.own
  have hA : ∀ q : Nat, s.heap.size ≤ q → sm_a α 37 s.heap.size q := fun q h => Or.inr h
  generalize hAe : sm_a α 37 s.heap.size = A at hD hA hE ⊢
  have hS : va_S A s.heap s.heap [] := va_S.rf
  have hl := lv_entry ([.ref (α.1 7), .int p1]) (n := 2) (Nat.le_of_ble_eq_true rfl)
  rw [lg_entry_eq]
  generalize (lg_sl ([.ref (α.1 7), .int p1]) ++ List.replicate (2 - (lg_sl ([.ref (α.1 7), .int p1])).length) Slot.unset).toArray = ls at hl ⊢
  have hl : lv_has ls 2 [(0, .ref (α.1 7)), (1, .int p1)] := hl
  unfold mp_X7_pushInt at hF
  revert hP hS
  generalize hLo : ([] : List Loc) = locs
  suffices h9 : ∀ (H : Heap) (locs : List Loc), va_P D vwCl (sm_wX σ α) H → va_S A s.heap H locs → W p l e (headSpec wp_X7_pushInt { frames := 2, cells := 0, slots := 0, locals := 45 }).room s m ([.ref (α.1 7), .int p1] : List Value).toArray below meth c H locs 0 0 (MQ below (va_Qi K (sm_B sm_wX D α) A) ([.ref (α.1 7), .int p1] : List Value).toArray s 0 0 A) (F0 m 0 ls []) from fun hP hS => h9 s.heap locs hP hS
  intro H locs hP hS
  refine lv_aload_n hx hb dX7_pushInt_0 rfl (lv_at hl 0 rfl) ?_
  refine lv_iconst (v := 0) hx hb dX7_pushInt_1 (by decide) ?_
  refine lv_iload_n hx hb dX7_pushInt_2 rfl (lv_at hl 1 rfl) ?_
  refine sm_sl (As := [.int 0, .int p1]) (rest := [.ref (α.1 7)]) hP hK hD hE hS hA ⟨hx, hb, hml, hown, hts⟩ hl.1 (c_X1_cell l D H.size t0 σ α 0 p1 _ hF) (va_cwS 2 hts wg_X7_pushInt_X1_cell_139 rfl rfl rfl (by decide +kernel) ⟨Nat.le_of_ble_eq_true rfl, Nat.le_of_ble_eq_true rfl⟩) rfl rfl (Nat.le_of_ble_eq_true rfl) dX7_pushInt_3 ⟨Nat.zero_le _, Nat.zero_le _⟩ (fun r2 σ1 H locs hF hP hS => ?_)
  refine sm_vi (As := [.long r2]) (rest := []) hP hK hD hE hS hA ⟨hx, hb, hml, hown, hts⟩ hl.1 (c_X7_push l D H.size t0 σ1 α r2 _ hF) (cwV 1 hts wg_X7_pushInt_X7_push_143 rfl rfl rfl (by decide +kernel) ⟨Nat.le_of_ble_eq_true rfl, Nat.le_of_ble_eq_true rfl⟩) (va_recv hK hP (ci := 7) (q0 := 7) rfl (sm_gX7 σ1 α)) rfl rfl (Nat.le_of_ble_eq_true rfl) dX7_pushInt_6 ⟨Nat.zero_le _, Nat.zero_le _⟩ (fun r4 σ3 H locs hF hP hS => ?_)
  exact W.iret (v := r4) hx hb hr (fun t ht hW => ⟨⟨r4, σ3, rfl, hF, (by unfold sm_B; rw [ht]; exact hP)⟩, hS.F ht⟩) hS.2.2 dX7_pushInt_9
theorem dX7_leaveOrPort_0 : decode cX7_leaveOrPort 0 = .ok (.iload_n 1, 1) := by decide +kernel
theorem dX7_leaveOrPort_1 : decode cX7_leaveOrPort 1 = .ok (.tableswitch 95 37 40 #[31, 40, 53, 83], 31) := by decide +kernel
theorem dX7_leaveOrPort_32 : decode cX7_leaveOrPort 32 = .ok (.aload_n 0, 1) := by decide +kernel
theorem dX7_leaveOrPort_33 : decode cX7_leaveOrPort 33 = .ok (.iconst 0, 1) := by decide +kernel
theorem dX7_leaveOrPort_34 : decode cX7_leaveOrPort 34 = .ok (.lconst 0, 1) := by decide +kernel
theorem dX7_leaveOrPort_35 : decode cX7_leaveOrPort 35 = .ok (.invokevirtual 243, 3) := by decide +kernel
theorem dX7_leaveOrPort_38 : decode cX7_leaveOrPort 38 = .ok (.bipush (-2), 2) := by decide +kernel
theorem dX7_leaveOrPort_40 : decode cX7_leaveOrPort 40 = .ok (.ireturn, 1) := by decide +kernel
theorem dX7_leaveOrPort_41 : decode cX7_leaveOrPort 41 = .ok (.aload_n 0, 1) := by decide +kernel
theorem dX7_leaveOrPort_42 : decode cX7_leaveOrPort 42 = .ok (.iconst 1, 1) := by decide +kernel
theorem dX7_leaveOrPort_43 : decode cX7_leaveOrPort 43 = .ok (.aload_n 0, 1) := by decide +kernel
theorem dX7_leaveOrPort_44 : decode cX7_leaveOrPort 44 = .ok (.iconst 0, 1) := by decide +kernel
theorem dX7_leaveOrPort_45 : decode cX7_leaveOrPort 45 = .ok (.invokevirtual 159, 3) := by decide +kernel
theorem dX7_leaveOrPort_48 : decode cX7_leaveOrPort 48 = .ok (.invokevirtual 243, 3) := by decide +kernel
theorem dX7_leaveOrPort_51 : decode cX7_leaveOrPort 51 = .ok (.bipush (-2), 2) := by decide +kernel
theorem dX7_leaveOrPort_53 : decode cX7_leaveOrPort 53 = .ok (.ireturn, 1) := by decide +kernel
theorem dX7_leaveOrPort_54 : decode cX7_leaveOrPort 54 = .ok (.aload_n 0, 1) := by decide +kernel
theorem dX7_leaveOrPort_55 : decode cX7_leaveOrPort 55 = .ok (.getfield 27, 3) := by decide +kernel
theorem dX7_leaveOrPort_58 : decode cX7_leaveOrPort 58 = .ok (.aload_n 0, 1) := by decide +kernel
theorem dX7_leaveOrPort_59 : decode cX7_leaveOrPort 59 = .ok (.iconst 0, 1) := by decide +kernel
theorem dX7_leaveOrPort_60 : decode cX7_leaveOrPort 60 = .ok (.invokevirtual 159, 3) := by decide +kernel
theorem dX7_leaveOrPort_63 : decode cX7_leaveOrPort 63 = .ok (.l2i, 1) := by decide +kernel
theorem dX7_leaveOrPort_64 : decode cX7_leaveOrPort 64 = .ok (.putfield 63, 3) := by decide +kernel
theorem dX7_leaveOrPort_67 : decode cX7_leaveOrPort 67 = .ok (.aload_n 0, 1) := by decide +kernel
theorem dX7_leaveOrPort_68 : decode cX7_leaveOrPort 68 = .ok (.getfield 27, 3) := by decide +kernel
theorem dX7_leaveOrPort_71 : decode cX7_leaveOrPort 71 = .ok (.getfield 63, 3) := by decide +kernel
theorem dX7_leaveOrPort_74 : decode cX7_leaveOrPort 74 = .ok (.ifCond .ne 7, 3) := by decide +kernel
theorem dX7_leaveOrPort_77 : decode cX7_leaveOrPort 77 = .ok (.iconst 0, 1) := by decide +kernel
theorem dX7_leaveOrPort_78 : decode cX7_leaveOrPort 78 = .ok (.goto 5, 3) := by decide +kernel
theorem dX7_leaveOrPort_81 : decode cX7_leaveOrPort 81 = .ok (.bipush (-2), 2) := by decide +kernel
theorem dX7_leaveOrPort_83 : decode cX7_leaveOrPort 83 = .ok (.ireturn, 1) := by decide +kernel
theorem dX7_leaveOrPort_84 : decode cX7_leaveOrPort 84 = .ok (.aload_n 0, 1) := by decide +kernel
theorem dX7_leaveOrPort_85 : decode cX7_leaveOrPort 85 = .ok (.aload_n 0, 1) := by decide +kernel
theorem dX7_leaveOrPort_86 : decode cX7_leaveOrPort 86 = .ok (.getfield 31, 3) := by decide +kernel
theorem dX7_leaveOrPort_89 : decode cX7_leaveOrPort 89 = .ok (.invokevirtual 247, 3) := by decide +kernel
theorem dX7_leaveOrPort_92 : decode cX7_leaveOrPort 92 = .ok (.invokevirtual 150, 3) := by decide +kernel
theorem dX7_leaveOrPort_95 : decode cX7_leaveOrPort 95 = .ok (.ireturn, 1) := by decide +kernel
theorem dX7_leaveOrPort_96 : decode cX7_leaveOrPort 96 = .ok (.aload_n 0, 1) := by decide +kernel
theorem dX7_leaveOrPort_97 : decode cX7_leaveOrPort 97 = .ok (.getfield 31, 3) := by decide +kernel
theorem dX7_leaveOrPort_100 : decode cX7_leaveOrPort 100 = .ok (.aload_n 0, 1) := by decide +kernel
theorem dX7_leaveOrPort_101 : decode cX7_leaveOrPort 101 = .ok (.invokevirtual 155, 3) := by decide +kernel
theorem dX7_leaveOrPort_104 : decode cX7_leaveOrPort 104 = .ok (.l2i, 1) := by decide +kernel
theorem dX7_leaveOrPort_105 : decode cX7_leaveOrPort 105 = .ok (.invokevirtual 252, 3) := by decide +kernel
theorem dX7_leaveOrPort_108 : decode cX7_leaveOrPort 108 = .ok (.iconst (-1), 1) := by decide +kernel
theorem dX7_leaveOrPort_109 : decode cX7_leaveOrPort 109 = .ok (.ireturn, 1) := by decide +kernel
def wp_X7_leaveOrPort : List Cond := .code yX7_leaveOrPort cX7_leaveOrPort 2 (some .int) :: (((((((([.fieldLink RX7 27 "SteadyMachine$Runner" "heap" "LSteadyMachine$Heap;", .fieldLink RX7 63 "SteadyMachine$Heap" "flies" "I", .fieldLink RX7 31 "SteadyMachine$Runner" "ports" "LSteadyMachine$Ports;"] ++ (wsV RX7 243 RX7 yX7_giveBack wp_X7_giveBack)) ++ (wsV RX7 159 RX7 yX7_below wp_X7_below)) ++ (wsV RX7 247 RX5 yX5_take wp_X5_take)) ++ (wsV RX7 150 RX7 yX7_pushInt wp_X7_pushInt)) ++ (wsV RX7 155 RX7 yX7_pop wp_X7_pop)) ++ (wsV RX7 252 RX5 yX5_give wp_X5_give)) ++ wsX10) ++ wsX70)
theorem wq_X7_leaveOrPort : wp_X7_leaveOrPort.all goodWord = true := wa_c rfl (wa_a (wa_a (wa_a (wa_a (wa_a (wa_a (wa_a (wa_a (by decide +kernel) (wa_V wq_X7_giveBack)) (wa_V wq_X7_below)) (wa_V wq_X5_take)) (wa_V wq_X7_pushInt)) (wa_V wq_X7_pop)) (wa_V wq_X5_give)) uq_X1) uq_X7)
theorem wt_X7_leaveOrPort : GoodIn lw_tbl wp_X7_leaveOrPort := wm_c (List.mem_of_getElem? (i := 1071) (by decide +kernel)) rfl (wm_a (wm_a (wm_a (wm_a (wm_a (wm_a (wm_a (wm_a (goodIn_r _ [515, 465, 516] (by decide +kernel) (by decide +kernel)) (wm_a (goodIn_r _ [1072, 1074, 63, 145] (by decide +kernel) (by decide +kernel)) wt_X7_giveBack)) (wm_a (goodIn_r _ [992, 994, 49, 145] (by decide +kernel) (by decide +kernel)) wt_X7_below)) (wm_a (goodIn_r _ [1076, 1077, 1078, 143] (by decide +kernel) (by decide +kernel)) wt_X5_take)) (wm_a (goodIn_r _ [979, 981, 46, 145] (by decide +kernel) (by decide +kernel)) wt_X7_pushInt)) (wm_a (goodIn_r _ [988, 990, 48, 145] (by decide +kernel) (by decide +kernel)) wt_X7_pop)) (wm_a (goodIn_r _ [1080, 1081, 1082, 143] (by decide +kernel) (by decide +kernel)) wt_X5_give)) ut_X1) ut_X7)
theorem wg_X7_leaveOrPort_X7_giveBack_243 : GoodIn wp_X7_leaveOrPort (wsV RX7 243 RX7 yX7_giveBack wp_X7_giveBack) := goodIn_sub (fun w h => List.mem_cons_of_mem _ (List.mem_append_left _ (List.mem_append_left _ (List.mem_append_left _ (List.mem_append_left _ (List.mem_append_left _ (List.mem_append_left _ (List.mem_append_left _ (List.mem_append_right _ h))))))))) (wa_V wq_X7_giveBack)
theorem wg_X7_leaveOrPort_X7_below_159 : GoodIn wp_X7_leaveOrPort (wsV RX7 159 RX7 yX7_below wp_X7_below) := goodIn_sub (fun w h => List.mem_cons_of_mem _ (List.mem_append_left _ (List.mem_append_left _ (List.mem_append_left _ (List.mem_append_left _ (List.mem_append_left _ (List.mem_append_left _ (List.mem_append_right _ h)))))))) (wa_V wq_X7_below)
theorem wg_X7_leaveOrPort_X5_take_247 : GoodIn wp_X7_leaveOrPort (wsV RX7 247 RX5 yX5_take wp_X5_take) := goodIn_sub (fun w h => List.mem_cons_of_mem _ (List.mem_append_left _ (List.mem_append_left _ (List.mem_append_left _ (List.mem_append_left _ (List.mem_append_left _ (List.mem_append_right _ h))))))) (wa_V wq_X5_take)
theorem wg_X7_leaveOrPort_X7_pushInt_150 : GoodIn wp_X7_leaveOrPort (wsV RX7 150 RX7 yX7_pushInt wp_X7_pushInt) := goodIn_sub (fun w h => List.mem_cons_of_mem _ (List.mem_append_left _ (List.mem_append_left _ (List.mem_append_left _ (List.mem_append_left _ (List.mem_append_right _ h)))))) (wa_V wq_X7_pushInt)
theorem wg_X7_leaveOrPort_X7_pop_155 : GoodIn wp_X7_leaveOrPort (wsV RX7 155 RX7 yX7_pop wp_X7_pop) := goodIn_sub (fun w h => List.mem_cons_of_mem _ (List.mem_append_left _ (List.mem_append_left _ (List.mem_append_left _ (List.mem_append_right _ h))))) (wa_V wq_X7_pop)
theorem wg_X7_leaveOrPort_X5_give_252 : GoodIn wp_X7_leaveOrPort (wsV RX7 252 RX5 yX5_give wp_X5_give) := goodIn_sub (fun w h => List.mem_cons_of_mem _ (List.mem_append_left _ (List.mem_append_left _ (List.mem_append_right _ h)))) (wa_V wq_X5_give)
theorem wi_X7_leaveOrPort_X1 : ∀ w ∈ wsX10, w ∈ wp_X7_leaveOrPort := fun w h => List.mem_cons_of_mem _ (List.mem_append_left _ (List.mem_append_right _ h))
theorem wi_X7_leaveOrPort_X7 : ∀ w ∈ wsX70, w ∈ wp_X7_leaveOrPort := fun w h => List.mem_cons_of_mem _ (List.mem_append_right _ h)
set_option maxHeartbeats 4000000 in
set_option maxRecDepth 100000 in
theorem c_X7_leaveOrPort (l : Launch) (D : va_G) (sz t0 : Nat) (σ : sm_S) (α : sm_A) (p1 : Int32) (K : Int32 → sm_S → Prop) (hF : mp_X7_leaveOrPort σ p1 K) : Met l yX7_leaveOrPort wp_X7_leaveOrPort { frames := 5, cells := 0, slots := 0, locals := 115 } (sm_P sm_wX sm_tX 37 D sz t0 σ α [.ref (α.1 7), .int p1]) (va_Qi K (sm_B sm_wX D α) (sm_a α 37 sz)) 0 0 (sm_a α 37 sz) := by
  refine Met.ofW (cc := cX7_leaveOrPort) (maxL := 2) (ret := (some .int)) (by decide) rfl ?_
  intro p e s m args below meth c s₁ B hml hv
  obtain ⟨rfl, hsz, hP, hK, hD0, hE⟩ := hv
  have hx := B.exec
  have hb := B.bytes
  have hr := B.returns
  have hts := atoms_spec (ws := wp_X7_leaveOrPort) B.pre
  have hown : s.vm.findClass RX7 = some m.cls := findClass_of_methodNamed B.named
  have hlocks := B.notSynchronized
  subst hsz
  have hD : sm_D (sm_a α 37 s.heap.size) α 37 := hD0.own
  have hA : ∀ q : Nat, s.heap.size ≤ q → sm_a α 37 s.heap.size q := fun q h => Or.inr h
  generalize hAe : sm_a α 37 s.heap.size = A at hD hA hE ⊢
  have hS : va_S A s.heap s.heap [] := va_S.rf
  have in_X1 : ∀ w ∈ wsX10, w ∈ wp_X7_leaveOrPort := wi_X7_leaveOrPort_X1
  have in_X7 : ∀ w ∈ wsX70, w ∈ wp_X7_leaveOrPort := wi_X7_leaveOrPort_X7
  have k_0 := hts (.fieldLink RX7 27 "SteadyMachine$Runner" "heap" "LSteadyMachine$Heap;") (by decide +kernel)
  have k_1 := hts (.fieldLink RX7 63 "SteadyMachine$Heap" "flies" "I") (by decide +kernel)
  have k_2 := hts (.fieldLink RX7 31 "SteadyMachine$Runner" "ports" "LSteadyMachine$Ports;") (by decide +kernel)
  have hl := lv_entry ([.ref (α.1 7), .int p1]) (n := 2) (Nat.le_of_ble_eq_true rfl)
  rw [lg_entry_eq]
  generalize (lg_sl ([.ref (α.1 7), .int p1]) ++ List.replicate (2 - (lg_sl ([.ref (α.1 7), .int p1])).length) Slot.unset).toArray = ls at hl ⊢
  have hl : lv_has ls 2 [(0, .ref (α.1 7)), (1, .int p1)] := hl
  have B83 : ∀ (σ : sm_S) (y0 : Int32), mp_X7_leaveOrPort_83 K σ y0 → sm_J p l e (headSpec wp_X7_leaveOrPort { frames := 5, cells := 0, slots := 0, locals := 115 }).room s m ([.ref (α.1 7), .int p1] : List Value).toArray below meth c (MQ below (va_Qi K (sm_B sm_wX D α) A) ([.ref (α.1 7), .int p1] : List Value).toArray s 0 0 A) D A 2 (sm_wX σ α) 83 [] [.int y0] := by
    intro σ y0 hF H locs ls hP hS hl
    unfold mp_X7_leaveOrPort_83 at hF
    exact W.iret (v := y0) hx hb hr (fun t ht hW => ⟨⟨y0, σ, rfl, hF, (by unfold sm_B; rw [ht]; exact hP)⟩, hS.F ht⟩) hS.2.2 dX7_leaveOrPort_83
  unfold mp_X7_leaveOrPort at hF
  revert hP hS
  generalize hLo : ([] : List Loc) = locs
  suffices h9 : ∀ (H : Heap) (locs : List Loc), va_P D vwCl (sm_wX σ α) H → va_S A s.heap H locs → W p l e (headSpec wp_X7_leaveOrPort { frames := 5, cells := 0, slots := 0, locals := 115 }).room s m ([.ref (α.1 7), .int p1] : List Value).toArray below meth c H locs 0 0 (MQ below (va_Qi K (sm_B sm_wX D α) A) ([.ref (α.1 7), .int p1] : List Value).toArray s 0 0 A) (F0 m 0 ls []) from fun hP hS => h9 s.heap locs hP hS
  intro H locs hP hS
  refine lv_iload_n hx hb dX7_leaveOrPort_0 rfl (lv_at hl 1 rfl) ?_
  by_cases h1 : p1 = 37
  · refine lv_tableIn (tgt := 32) hx hb dX7_leaveOrPort_1 (by rw [h1]; decide) (by rw [h1]; decide) (by rw [h1]; rfl) (by decide) ?_
    replace hF := hF.1 h1
    refine lv_aload_n hx hb dX7_leaveOrPort_32 rfl (lv_at hl 0 rfl) ?_
    refine lv_iconst (v := 0) hx hb dX7_leaveOrPort_33 (by decide) ?_
    refine lv_lconst (v := 0) hx hb dX7_leaveOrPort_34 (by decide) ?_
    refine sm_vv (As := [.int 0, .long 0]) (rest := []) hP hK hD hE hS hA ⟨hx, hb, hml, hown, hts⟩ hl.1 (c_X7_giveBack l D H.size t0 σ α 0 0 _ hF) (cwV 2 hts wg_X7_leaveOrPort_X7_giveBack_243 rfl rfl rfl (by decide +kernel) ⟨Nat.le_of_ble_eq_true rfl, Nat.le_of_ble_eq_true rfl⟩) (va_recv hK hP (ci := 7) (q0 := 7) rfl (sm_gX7 σ α)) rfl rfl (Nat.le_of_ble_eq_true rfl) dX7_leaveOrPort_35 ⟨Nat.zero_le _, Nat.zero_le _⟩ (fun σ2 H locs hF hP hS => ?_)
    refine lv_bipush (v := -2) hx hb dX7_leaveOrPort_38 (by decide) ?_
    exact W.iret (v := (-2)) hx hb hr (fun t ht hW => ⟨⟨(-2), σ2, rfl, hF, (by unfold sm_B; rw [ht]; exact hP)⟩, hS.F ht⟩) hS.2.2 dX7_leaveOrPort_40
  by_cases h3 : p1 = 38
  · refine lv_tableIn (tgt := 41) hx hb dX7_leaveOrPort_1 (by rw [h3]; decide) (by rw [h3]; decide) (by rw [h3]; rfl) (by decide) ?_
    replace hF := hF.2.1 h3
    refine lv_aload_n hx hb dX7_leaveOrPort_41 rfl (lv_at hl 0 rfl) ?_
    refine lv_iconst (v := 1) hx hb dX7_leaveOrPort_42 (by decide) ?_
    refine lv_aload_n hx hb dX7_leaveOrPort_43 rfl (lv_at hl 0 rfl) ?_
    refine lv_iconst (v := 0) hx hb dX7_leaveOrPort_44 (by decide) ?_
    refine sm_vl (As := [.int 0]) (rest := [.int 1, .ref (α.1 7)]) hP hK hD hE hS hA ⟨hx, hb, hml, hown, hts⟩ hl.1 (c_X7_below l D H.size t0 σ α 0 _ hF) (cwV 1 hts wg_X7_leaveOrPort_X7_below_159 rfl rfl rfl (by decide +kernel) ⟨Nat.le_of_ble_eq_true rfl, Nat.le_of_ble_eq_true rfl⟩) (va_recv hK hP (ci := 7) (q0 := 7) rfl (sm_gX7 σ α)) rfl rfl (Nat.le_of_ble_eq_true rfl) dX7_leaveOrPort_45 ⟨Nat.zero_le _, Nat.zero_le _⟩ (fun r5 σ4 H locs hF hP hS => ?_)
    refine sm_vv (As := [.int 1, .long r5]) (rest := []) hP hK hD hE hS hA ⟨hx, hb, hml, hown, hts⟩ hl.1 (c_X7_giveBack l D H.size t0 σ4 α 1 r5 _ hF) (cwV 2 hts wg_X7_leaveOrPort_X7_giveBack_243 rfl rfl rfl (by decide +kernel) ⟨Nat.le_of_ble_eq_true rfl, Nat.le_of_ble_eq_true rfl⟩) (va_recv hK hP (ci := 7) (q0 := 7) rfl (sm_gX7 σ4 α)) rfl rfl (Nat.le_of_ble_eq_true rfl) dX7_leaveOrPort_48 ⟨Nat.zero_le _, Nat.zero_le _⟩ (fun σ6 H locs hF hP hS => ?_)
    refine lv_bipush (v := -2) hx hb dX7_leaveOrPort_51 (by decide) ?_
    exact W.iret (v := (-2)) hx hb hr (fun t ht hW => ⟨⟨(-2), σ6, rfl, hF, (by unfold sm_B; rw [ht]; exact hP)⟩, hS.F ht⟩) hS.2.2 dX7_leaveOrPort_53
  by_cases h7 : p1 = 39
  · refine lv_tableIn (tgt := 54) hx hb dX7_leaveOrPort_1 (by rw [h7]; decide) (by rw [h7]; decide) (by rw [h7]; rfl) (by decide) ?_
    replace hF := hF.2.2.1 h7
    refine lv_aload_n hx hb dX7_leaveOrPort_54 rfl (lv_at hl 0 rfl) ?_
    refine va_get (D := D) (ci := 7) (v := .ref (α.1 1)) (C := RX7) (T := TX7) (N := 13) hx hb hts in_X7 hown hK hP 7 (sm_gX7 σ α) rfl 3 (by decide) k_0 (fun _ h9 => h9) rfl dX7_leaveOrPort_55 ?_
    refine lv_aload_n hx hb dX7_leaveOrPort_58 rfl (lv_at hl 0 rfl) ?_
    refine lv_iconst (v := 0) hx hb dX7_leaveOrPort_59 (by decide) ?_
    refine sm_vl (As := [.int 0]) (rest := [.ref (α.1 1)]) hP hK hD hE hS hA ⟨hx, hb, hml, hown, hts⟩ hl.1 (c_X7_below l D H.size t0 σ α 0 _ hF) (cwV 1 hts wg_X7_leaveOrPort_X7_below_159 rfl rfl rfl (by decide +kernel) ⟨Nat.le_of_ble_eq_true rfl, Nat.le_of_ble_eq_true rfl⟩) (va_recv hK hP (ci := 7) (q0 := 7) rfl (sm_gX7 σ α)) rfl rfl (Nat.le_of_ble_eq_true rfl) dX7_leaveOrPort_60 ⟨Nat.zero_le _, Nat.zero_le _⟩ (fun r9 σ8 H locs hF hP hS => ?_)
    refine lv_l2i hx hb dX7_leaveOrPort_63 rfl ?_
    refine va_put (D := D) (ci := 1) (v := .int r9.toInt32) (ty := .int) (C := RX1) (T := TX1) (N := 16) hx hb hts in_X1 tyX1 tyX1_ok nmX1 hown hK hP (hD.to (sm_wX_m _ _)) hS 1 (sm_gX1 σ8 α) rfl 13 (by decide) k_1 (fun _ h9 => h9) rfl (by decide +kernel) rfl rfl (Nat.le_of_ble_eq_true rfl) dX7_leaveOrPort_64 (fun H locs hP _ hS => ?_)
    rw [sm_iX11] at hP
    obtain ⟨σ10, eσ10⟩ : ∃ x : sm_S, x = sm_i σ8 11 r9.toInt32 := ⟨_, rfl⟩
    replace hF := hF σ10 eσ10
    rw [← eσ10] at hP
    refine lv_aload_n hx hb dX7_leaveOrPort_67 rfl (lv_at hl 0 rfl) ?_
    refine va_get (D := D) (ci := 7) (v := .ref (α.1 1)) (C := RX7) (T := TX7) (N := 13) hx hb hts in_X7 hown hK hP 7 (sm_gX7 σ10 α) rfl 3 (by decide) k_0 (fun _ h9 => h9) rfl dX7_leaveOrPort_68 ?_
    refine va_get (D := D) (ci := 1) (v := .int (σ10.1 11)) (C := RX1) (T := TX1) (N := 16) hx hb hts in_X1 hown hK hP 1 (sm_gX1 σ10 α) rfl 13 (by decide) k_1 (fun _ h9 => h9) rfl dX7_leaveOrPort_71 ?_
    refine lv_if_ne (tgt := 81) hx hb dX7_leaveOrPort_74 (by decide) (fun h11 => ?_) (fun h11 => ?_)
    · replace hF := hF.1 h11
      refine lv_bipush (v := -2) hx hb dX7_leaveOrPort_81 (by decide) ?_
      exact B83 σ10 (-2) hF H locs ls hP hS (lv_sub hl [] rfl)
    · replace hF := hF.2 h11
      refine lv_iconst (v := 0) hx hb dX7_leaveOrPort_77 (by decide) ?_
      refine lv_goto (tgt := 83) hx hb dX7_leaveOrPort_78 (by decide) ?_
      exact B83 σ10 0 hF H locs ls hP hS (lv_sub hl [] rfl)
  by_cases h12 : p1 = 40
  · refine lv_tableIn (tgt := 84) hx hb dX7_leaveOrPort_1 (by rw [h12]; decide) (by rw [h12]; decide) (by rw [h12]; rfl) (by decide) ?_
    replace hF := hF.2.2.2.1 h12
    refine lv_aload_n hx hb dX7_leaveOrPort_84 rfl (lv_at hl 0 rfl) ?_
    refine lv_aload_n hx hb dX7_leaveOrPort_85 rfl (lv_at hl 0 rfl) ?_
    refine va_get (D := D) (ci := 7) (v := .ref (α.1 5)) (C := RX7) (T := TX7) (N := 13) hx hb hts in_X7 hown hK hP 7 (sm_gX7 σ α) rfl 4 (by decide) k_2 (fun _ h9 => h9) rfl dX7_leaveOrPort_86 ?_
    refine sm_vi (As := []) (rest := [.ref (α.1 7)]) hP hK hD hE hS hA ⟨hx, hb, hml, hown, hts⟩ hl.1 (c_X5_take l D H.size t0 σ α _ hF) (cwV 0 hts wg_X7_leaveOrPort_X5_take_247 rfl rfl rfl (by decide +kernel) ⟨Nat.le_of_ble_eq_true rfl, Nat.le_of_ble_eq_true rfl⟩) (va_recv hK hP (ci := 5) (q0 := 5) rfl (sm_gX5 σ α)) rfl rfl (Nat.le_of_ble_eq_true rfl) dX7_leaveOrPort_89 ⟨Nat.zero_le _, Nat.zero_le _⟩ (fun r14 σ13 H locs hF hP hS => ?_)
    refine sm_vi (As := [.int r14]) (rest := []) hP hK hD hE hS hA ⟨hx, hb, hml, hown, hts⟩ hl.1 (c_X7_pushInt l D H.size t0 σ13 α r14 _ hF) (cwV 1 hts wg_X7_leaveOrPort_X7_pushInt_150 rfl rfl rfl (by decide +kernel) ⟨Nat.le_of_ble_eq_true rfl, Nat.le_of_ble_eq_true rfl⟩) (va_recv hK hP (ci := 7) (q0 := 7) rfl (sm_gX7 σ13 α)) rfl rfl (Nat.le_of_ble_eq_true rfl) dX7_leaveOrPort_92 ⟨Nat.zero_le _, Nat.zero_le _⟩ (fun r16 σ15 H locs hF hP hS => ?_)
    exact W.iret (v := r16) hx hb hr (fun t ht hW => ⟨⟨r16, σ15, rfl, hF, (by unfold sm_B; rw [ht]; exact hP)⟩, hS.F ht⟩) hS.2.2 dX7_leaveOrPort_95
  refine lv_tableOut (tgt := 96) hx hb dX7_leaveOrPort_1 (by have q0 := lv_neT h1 (show Int32.toInt 37 = 37 by decide); have q1 := lv_neT h3 (show Int32.toInt 38 = 38 by decide); have q2 := lv_neT h7 (show Int32.toInt 39 = 39 by decide); have q3 := lv_neT h12 (show Int32.toInt 40 = 40 by decide); omega) (by decide) ?_
  replace hF := hF.2.2.2.2 h1 h3 h7 h12
  refine lv_aload_n hx hb dX7_leaveOrPort_96 rfl (lv_at hl 0 rfl) ?_
  refine va_get (D := D) (ci := 7) (v := .ref (α.1 5)) (C := RX7) (T := TX7) (N := 13) hx hb hts in_X7 hown hK hP 7 (sm_gX7 σ α) rfl 4 (by decide) k_2 (fun _ h9 => h9) rfl dX7_leaveOrPort_97 ?_
  refine lv_aload_n hx hb dX7_leaveOrPort_100 rfl (lv_at hl 0 rfl) ?_
  refine sm_vl (As := []) (rest := [.ref (α.1 5)]) hP hK hD hE hS hA ⟨hx, hb, hml, hown, hts⟩ hl.1 (c_X7_pop l D H.size t0 σ α _ hF) (cwV 0 hts wg_X7_leaveOrPort_X7_pop_155 rfl rfl rfl (by decide +kernel) ⟨Nat.le_of_ble_eq_true rfl, Nat.le_of_ble_eq_true rfl⟩) (va_recv hK hP (ci := 7) (q0 := 7) rfl (sm_gX7 σ α)) rfl rfl (Nat.le_of_ble_eq_true rfl) dX7_leaveOrPort_101 ⟨Nat.zero_le _, Nat.zero_le _⟩ (fun r18 σ17 H locs hF hP hS => ?_)
  refine lv_l2i hx hb dX7_leaveOrPort_104 rfl ?_
  refine sm_vv (As := [.int r18.toInt32]) (rest := []) hP hK hD hE hS hA ⟨hx, hb, hml, hown, hts⟩ hl.1 (c_X5_give l D H.size t0 σ17 α r18.toInt32 _ hF) (cwV 1 hts wg_X7_leaveOrPort_X5_give_252 rfl rfl rfl (by decide +kernel) ⟨Nat.le_of_ble_eq_true rfl, Nat.le_of_ble_eq_true rfl⟩) (va_recv hK hP (ci := 5) (q0 := 5) rfl (sm_gX5 σ17 α)) rfl rfl (Nat.le_of_ble_eq_true rfl) dX7_leaveOrPort_105 ⟨Nat.zero_le _, Nat.zero_le _⟩ (fun σ19 H locs hF hP hS => ?_)
  refine lv_iconst (v := -1) hx hb dX7_leaveOrPort_108 (by decide) ?_
  exact W.iret (v := (-1)) hx hb hr (fun t ht hW => ⟨⟨(-1), σ19, rfl, hF, (by unfold sm_B; rw [ht]; exact hP)⟩, hS.F ht⟩) hS.2.2 dX7_leaveOrPort_109
theorem dX7_moveValues_0 : decode cX7_moveValues 0 = .ok (.aload_n 0, 1) := by decide +kernel
theorem dX7_moveValues_1 : decode cX7_moveValues 1 = .ok (.getfield 27, 3) := by decide +kernel
theorem dX7_moveValues_4 : decode cX7_moveValues 4 = .ok (.getfield 107, 3) := by decide +kernel
theorem dX7_moveValues_7 : decode cX7_moveValues 7 = .ok (.iconst 4, 1) := by decide +kernel
theorem dX7_moveValues_8 : decode cX7_moveValues 8 = .ok (.iadd, 1) := by decide +kernel
theorem dX7_moveValues_9 : decode cX7_moveValues 9 = .ok (.aload_n 0, 1) := by decide +kernel
theorem dX7_moveValues_10 : decode cX7_moveValues 10 = .ok (.iconst 1, 1) := by decide +kernel
theorem dX7_moveValues_11 : decode cX7_moveValues 11 = .ok (.invokevirtual 72, 3) := by decide +kernel
theorem dX7_moveValues_14 : decode cX7_moveValues 14 = .ok (.iadd, 1) := by decide +kernel
theorem dX7_moveValues_15 : decode cX7_moveValues 15 = .ok (.istore_n 2, 1) := by decide +kernel
theorem dX7_moveValues_16 : decode cX7_moveValues 16 = .ok (.iload_n 1, 1) := by decide +kernel
theorem dX7_moveValues_17 : decode cX7_moveValues 17 = .ok (.tableswitch 127 0 5 #[39, 70, 78, 91, 105, 117], 39) := by decide +kernel
theorem dX7_moveValues_56 : decode cX7_moveValues 56 = .ok (.aload_n 0, 1) := by decide +kernel
theorem dX7_moveValues_57 : decode cX7_moveValues 57 = .ok (.aload_n 0, 1) := by decide +kernel
theorem dX7_moveValues_58 : decode cX7_moveValues 58 = .ok (.getfield 9, 3) := by decide +kernel
theorem dX7_moveValues_61 : decode cX7_moveValues 61 = .ok (.aload_n 0, 1) := by decide +kernel
theorem dX7_moveValues_62 : decode cX7_moveValues 62 = .ok (.getfield 26, 3) := by decide +kernel
theorem dX7_moveValues_65 : decode cX7_moveValues 65 = .ok (.getfield 127, 3) := by decide +kernel
theorem dX7_moveValues_68 : decode cX7_moveValues 68 = .ok (.aload_n 0, 1) := by decide +kernel
theorem dX7_moveValues_69 : decode cX7_moveValues 69 = .ok (.getfield 124, 3) := by decide +kernel
theorem dX7_moveValues_72 : decode cX7_moveValues 72 = .ok (.iaload, 1) := by decide +kernel
theorem dX7_moveValues_73 : decode cX7_moveValues 73 = .ok (.aload_n 0, 1) := by decide +kernel
theorem dX7_moveValues_74 : decode cX7_moveValues 74 = .ok (.getfield 75, 3) := by decide +kernel
theorem dX7_moveValues_77 : decode cX7_moveValues 77 = .ok (.iadd, 1) := by decide +kernel
theorem dX7_moveValues_78 : decode cX7_moveValues 78 = .ok (.iconst 1, 1) := by decide +kernel
theorem dX7_moveValues_79 : decode cX7_moveValues 79 = .ok (.iadd, 1) := by decide +kernel
theorem dX7_moveValues_80 : decode cX7_moveValues 80 = .ok (.invokevirtual 147, 3) := by decide +kernel
theorem dX7_moveValues_83 : decode cX7_moveValues 83 = .ok (.invokevirtual 150, 3) := by decide +kernel
theorem dX7_moveValues_86 : decode cX7_moveValues 86 = .ok (.ireturn, 1) := by decide +kernel
theorem dX7_moveValues_87 : decode cX7_moveValues 87 = .ok (.aload_n 0, 1) := by decide +kernel
theorem dX7_moveValues_88 : decode cX7_moveValues 88 = .ok (.ldc2_w 153, 3) := by decide +kernel
theorem dX7_moveValues_91 : decode cX7_moveValues 91 = .ok (.invokevirtual 143, 3) := by decide +kernel
theorem dX7_moveValues_94 : decode cX7_moveValues 94 = .ok (.ireturn, 1) := by decide +kernel
theorem dX7_moveValues_95 : decode cX7_moveValues 95 = .ok (.aload_n 0, 1) := by decide +kernel
theorem dX7_moveValues_96 : decode cX7_moveValues 96 = .ok (.aload_n 0, 1) := by decide +kernel
theorem dX7_moveValues_97 : decode cX7_moveValues 97 = .ok (.getfield 27, 3) := by decide +kernel
theorem dX7_moveValues_100 : decode cX7_moveValues 100 = .ok (.iload_n 2, 1) := by decide +kernel
theorem dX7_moveValues_101 : decode cX7_moveValues 101 = .ok (.invokevirtual 120, 3) := by decide +kernel
theorem dX7_moveValues_104 : decode cX7_moveValues 104 = .ok (.invokevirtual 143, 3) := by decide +kernel
theorem dX7_moveValues_107 : decode cX7_moveValues 107 = .ok (.ireturn, 1) := by decide +kernel
theorem dX7_moveValues_108 : decode cX7_moveValues 108 = .ok (.aload_n 0, 1) := by decide +kernel
theorem dX7_moveValues_109 : decode cX7_moveValues 109 = .ok (.getfield 27, 3) := by decide +kernel
theorem dX7_moveValues_112 : decode cX7_moveValues 112 = .ok (.iload_n 2, 1) := by decide +kernel
theorem dX7_moveValues_113 : decode cX7_moveValues 113 = .ok (.aload_n 0, 1) := by decide +kernel
theorem dX7_moveValues_114 : decode cX7_moveValues 114 = .ok (.invokevirtual 155, 3) := by decide +kernel
theorem dX7_moveValues_117 : decode cX7_moveValues 117 = .ok (.invokevirtual 110, 3) := by decide +kernel
theorem dX7_moveValues_120 : decode cX7_moveValues 120 = .ok (.iconst (-1), 1) := by decide +kernel
theorem dX7_moveValues_121 : decode cX7_moveValues 121 = .ok (.ireturn, 1) := by decide +kernel
theorem dX7_moveValues_122 : decode cX7_moveValues 122 = .ok (.aload_n 0, 1) := by decide +kernel
theorem dX7_moveValues_123 : decode cX7_moveValues 123 = .ok (.dup, 1) := by decide +kernel
theorem dX7_moveValues_124 : decode cX7_moveValues 124 = .ok (.getfield 46, 3) := by decide +kernel
theorem dX7_moveValues_127 : decode cX7_moveValues 127 = .ok (.iconst 1, 1) := by decide +kernel
theorem dX7_moveValues_128 : decode cX7_moveValues 128 = .ok (.isub, 1) := by decide +kernel
theorem dX7_moveValues_129 : decode cX7_moveValues 129 = .ok (.putfield 46, 3) := by decide +kernel
theorem dX7_moveValues_132 : decode cX7_moveValues 132 = .ok (.iconst (-1), 1) := by decide +kernel
theorem dX7_moveValues_133 : decode cX7_moveValues 133 = .ok (.ireturn, 1) := by decide +kernel
theorem dX7_moveValues_134 : decode cX7_moveValues 134 = .ok (.aload_n 0, 1) := by decide +kernel
theorem dX7_moveValues_135 : decode cX7_moveValues 135 = .ok (.aload_n 0, 1) := by decide +kernel
theorem dX7_moveValues_136 : decode cX7_moveValues 136 = .ok (.iconst 0, 1) := by decide +kernel
theorem dX7_moveValues_137 : decode cX7_moveValues 137 = .ok (.invokevirtual 159, 3) := by decide +kernel
theorem dX7_moveValues_140 : decode cX7_moveValues 140 = .ok (.invokevirtual 143, 3) := by decide +kernel
theorem dX7_moveValues_143 : decode cX7_moveValues 143 = .ok (.ireturn, 1) := by decide +kernel
theorem dX7_moveValues_144 : decode cX7_moveValues 144 = .ok (.aload_n 0, 1) := by decide +kernel
theorem dX7_moveValues_145 : decode cX7_moveValues 145 = .ok (.invokevirtual 155, 3) := by decide +kernel
theorem dX7_moveValues_148 : decode cX7_moveValues 148 = .ok (.lstore_n 3, 1) := by decide +kernel
theorem dX7_moveValues_149 : decode cX7_moveValues 149 = .ok (.aload_n 0, 1) := by decide +kernel
theorem dX7_moveValues_150 : decode cX7_moveValues 150 = .ok (.invokevirtual 155, 3) := by decide +kernel
theorem dX7_moveValues_153 : decode cX7_moveValues 153 = .ok (.lstore 5, 2) := by decide +kernel
theorem dX7_moveValues_155 : decode cX7_moveValues 155 = .ok (.aload_n 0, 1) := by decide +kernel
theorem dX7_moveValues_156 : decode cX7_moveValues 156 = .ok (.lload_n 3, 1) := by decide +kernel
theorem dX7_moveValues_157 : decode cX7_moveValues 157 = .ok (.invokevirtual 143, 3) := by decide +kernel
theorem dX7_moveValues_160 : decode cX7_moveValues 160 = .ok (.pop, 1) := by decide +kernel
theorem dX7_moveValues_161 : decode cX7_moveValues 161 = .ok (.aload_n 0, 1) := by decide +kernel
theorem dX7_moveValues_162 : decode cX7_moveValues 162 = .ok (.lload 5, 2) := by decide +kernel
theorem dX7_moveValues_164 : decode cX7_moveValues 164 = .ok (.invokevirtual 143, 3) := by decide +kernel
theorem dX7_moveValues_167 : decode cX7_moveValues 167 = .ok (.ireturn, 1) := by decide +kernel
def wp_X7_moveValues : List Cond := .code yX7_moveValues cX7_moveValues 7 (some .int) :: ((((((((((([.fieldLink RX7 27 "SteadyMachine$Runner" "heap" "LSteadyMachine$Heap;", .fieldLink RX7 107 "SteadyMachine$Heap" "top" "I", .fieldLink RX7 9 "SteadyMachine$Runner" "image" "LSteadyMachine$Image;", .fieldLink RX7 26 "SteadyMachine$Runner" "methods" "LSteadyMachine$Methods;", .fieldLink RX7 127 "SteadyMachine$Methods" "code" "[I", .fieldLink RX7 124 "SteadyMachine$Runner" "method" "I", .fieldLink RX7 75 "SteadyMachine$Runner" "place" "I", .constantLong RX7 153 (4294967296), .fieldLink RX7 46 "SteadyMachine$Runner" "height" "I"] ++ (wsV RX7 72 RX7 yX7_operand wp_X7_operand)) ++ (wsV RX7 147 RX2 yX2_four wp_X2_four)) ++ (wsV RX7 150 RX7 yX7_pushInt wp_X7_pushInt)) ++ (wsV RX7 143 RX7 yX7_push wp_X7_push)) ++ (wsV RX7 120 RX1 yX1_look wp_X1_look)) ++ (wsV RX7 155 RX7 yX7_pop wp_X7_pop)) ++ (wsV RX7 110 RX1 yX1_put wp_X1_put)) ++ (wsV RX7 159 RX7 yX7_below wp_X7_below)) ++ wsX10) ++ wsX40) ++ wsX70)
theorem wq_X7_moveValues : wp_X7_moveValues.all goodWord = true := wa_c rfl (wa_a (wa_a (wa_a (wa_a (wa_a (wa_a (wa_a (wa_a (wa_a (wa_a (wa_a (by decide +kernel) (wa_V wq_X7_operand)) (wa_V wq_X2_four)) (wa_V wq_X7_pushInt)) (wa_V wq_X7_push)) (wa_V wq_X1_look)) (wa_V wq_X7_pop)) (wa_V wq_X1_put)) (wa_V wq_X7_below)) uq_X1) uq_X4) uq_X7)
theorem wt_X7_moveValues : GoodIn lw_tbl wp_X7_moveValues := wm_c (List.mem_of_getElem? (i := 973) (by decide +kernel)) rfl (wm_a (wm_a (wm_a (wm_a (wm_a (wm_a (wm_a (wm_a (wm_a (wm_a (wm_a (goodIn_r _ [515, 463, 512, 514, 250, 523, 524, 987, 526] (by decide +kernel) (by decide +kernel)) (wm_a (goodIn_r _ [965, 967, 44, 145] (by decide +kernel) (by decide +kernel)) wt_X7_operand)) (wm_a (goodIn_r _ [974, 975, 976, 137] (by decide +kernel) (by decide +kernel)) wt_X2_four)) (wm_a (goodIn_r _ [979, 981, 46, 145] (by decide +kernel) (by decide +kernel)) wt_X7_pushInt)) (wm_a (goodIn_r _ [983, 985, 47, 145] (by decide +kernel) (by decide +kernel)) wt_X7_push)) (wm_a (goodIn_r _ [936, 911, 912, 144] (by decide +kernel) (by decide +kernel)) wt_X1_look)) (wm_a (goodIn_r _ [988, 990, 48, 145] (by decide +kernel) (by decide +kernel)) wt_X7_pop)) (wm_a (goodIn_r _ [931, 923, 924, 144] (by decide +kernel) (by decide +kernel)) wt_X1_put)) (wm_a (goodIn_r _ [992, 994, 49, 145] (by decide +kernel) (by decide +kernel)) wt_X7_below)) ut_X1) ut_X4) ut_X7)
theorem wg_X7_moveValues_X7_operand_72 : GoodIn wp_X7_moveValues (wsV RX7 72 RX7 yX7_operand wp_X7_operand) := goodIn_sub (fun w h => List.mem_cons_of_mem _ (List.mem_append_left _ (List.mem_append_left _ (List.mem_append_left _ (List.mem_append_left _ (List.mem_append_left _ (List.mem_append_left _ (List.mem_append_left _ (List.mem_append_left _ (List.mem_append_left _ (List.mem_append_left _ (List.mem_append_right _ h)))))))))))) (wa_V wq_X7_operand)
theorem wg_X7_moveValues_X2_four_147 : GoodIn wp_X7_moveValues (wsV RX7 147 RX2 yX2_four wp_X2_four) := goodIn_sub (fun w h => List.mem_cons_of_mem _ (List.mem_append_left _ (List.mem_append_left _ (List.mem_append_left _ (List.mem_append_left _ (List.mem_append_left _ (List.mem_append_left _ (List.mem_append_left _ (List.mem_append_left _ (List.mem_append_left _ (List.mem_append_right _ h))))))))))) (wa_V wq_X2_four)
theorem wg_X7_moveValues_X7_pushInt_150 : GoodIn wp_X7_moveValues (wsV RX7 150 RX7 yX7_pushInt wp_X7_pushInt) := goodIn_sub (fun w h => List.mem_cons_of_mem _ (List.mem_append_left _ (List.mem_append_left _ (List.mem_append_left _ (List.mem_append_left _ (List.mem_append_left _ (List.mem_append_left _ (List.mem_append_left _ (List.mem_append_left _ (List.mem_append_right _ h)))))))))) (wa_V wq_X7_pushInt)
theorem wg_X7_moveValues_X7_push_143 : GoodIn wp_X7_moveValues (wsV RX7 143 RX7 yX7_push wp_X7_push) := goodIn_sub (fun w h => List.mem_cons_of_mem _ (List.mem_append_left _ (List.mem_append_left _ (List.mem_append_left _ (List.mem_append_left _ (List.mem_append_left _ (List.mem_append_left _ (List.mem_append_left _ (List.mem_append_right _ h))))))))) (wa_V wq_X7_push)
theorem wg_X7_moveValues_X1_look_120 : GoodIn wp_X7_moveValues (wsV RX7 120 RX1 yX1_look wp_X1_look) := goodIn_sub (fun w h => List.mem_cons_of_mem _ (List.mem_append_left _ (List.mem_append_left _ (List.mem_append_left _ (List.mem_append_left _ (List.mem_append_left _ (List.mem_append_left _ (List.mem_append_right _ h)))))))) (wa_V wq_X1_look)
theorem wg_X7_moveValues_X7_pop_155 : GoodIn wp_X7_moveValues (wsV RX7 155 RX7 yX7_pop wp_X7_pop) := goodIn_sub (fun w h => List.mem_cons_of_mem _ (List.mem_append_left _ (List.mem_append_left _ (List.mem_append_left _ (List.mem_append_left _ (List.mem_append_left _ (List.mem_append_right _ h))))))) (wa_V wq_X7_pop)
theorem wg_X7_moveValues_X1_put_110 : GoodIn wp_X7_moveValues (wsV RX7 110 RX1 yX1_put wp_X1_put) := goodIn_sub (fun w h => List.mem_cons_of_mem _ (List.mem_append_left _ (List.mem_append_left _ (List.mem_append_left _ (List.mem_append_left _ (List.mem_append_right _ h)))))) (wa_V wq_X1_put)
theorem wg_X7_moveValues_X7_below_159 : GoodIn wp_X7_moveValues (wsV RX7 159 RX7 yX7_below wp_X7_below) := goodIn_sub (fun w h => List.mem_cons_of_mem _ (List.mem_append_left _ (List.mem_append_left _ (List.mem_append_left _ (List.mem_append_right _ h))))) (wa_V wq_X7_below)
theorem wi_X7_moveValues_X1 : ∀ w ∈ wsX10, w ∈ wp_X7_moveValues := fun w h => List.mem_cons_of_mem _ (List.mem_append_left _ (List.mem_append_left _ (List.mem_append_right _ h)))
theorem wi_X7_moveValues_X4 : ∀ w ∈ wsX40, w ∈ wp_X7_moveValues := fun w h => List.mem_cons_of_mem _ (List.mem_append_left _ (List.mem_append_right _ h))
theorem wi_X7_moveValues_X7 : ∀ w ∈ wsX70, w ∈ wp_X7_moveValues := fun w h => List.mem_cons_of_mem _ (List.mem_append_right _ h)
set_option maxHeartbeats 4000000 in
set_option maxRecDepth 100000 in
theorem c_X7_moveValues (l : Launch) (D : va_G) (sz t0 : Nat) (σ : sm_S) (α : sm_A) (p1 : Int32) (K : Int32 → sm_S → Prop) (hF : mp_X7_moveValues σ p1 K) : Met l yX7_moveValues wp_X7_moveValues { frames := 3, cells := 0, slots := 0, locals := 66 } (sm_P sm_wX sm_tX 37 D sz t0 σ α [.ref (α.1 7), .int p1]) (va_Qi K (sm_B sm_wX D α) (sm_a α 37 sz)) 0 0 (sm_a α 37 sz) := by
  refine Met.ofW (cc := cX7_moveValues) (maxL := 7) (ret := (some .int)) (by decide) rfl ?_
  intro p e s m args below meth c s₁ B hml hv
  obtain ⟨rfl, hsz, hP, hK, hD0, hE⟩ := hv
  have hx := B.exec
  have hb := B.bytes
  have hr := B.returns
  have hts := atoms_spec (ws := wp_X7_moveValues) B.pre
  have hown : s.vm.findClass RX7 = some m.cls := findClass_of_methodNamed B.named
  have hlocks := B.notSynchronized
  subst hsz
  have hD : sm_D (sm_a α 37 s.heap.size) α 37 := hD0.own
  have hA : ∀ q : Nat, s.heap.size ≤ q → sm_a α 37 s.heap.size q := fun q h => Or.inr h
  generalize hAe : sm_a α 37 s.heap.size = A at hD hA hE ⊢
  have hS : va_S A s.heap s.heap [] := va_S.rf
  have in_X1 : ∀ w ∈ wsX10, w ∈ wp_X7_moveValues := wi_X7_moveValues_X1
  have in_X4 : ∀ w ∈ wsX40, w ∈ wp_X7_moveValues := wi_X7_moveValues_X4
  have in_X7 : ∀ w ∈ wsX70, w ∈ wp_X7_moveValues := wi_X7_moveValues_X7
  have k_0 := hts (.fieldLink RX7 27 "SteadyMachine$Runner" "heap" "LSteadyMachine$Heap;") (by decide +kernel)
  have k_1 := hts (.fieldLink RX7 107 "SteadyMachine$Heap" "top" "I") (by decide +kernel)
  have k_2 := hts (.fieldLink RX7 9 "SteadyMachine$Runner" "image" "LSteadyMachine$Image;") (by decide +kernel)
  have k_3 := hts (.fieldLink RX7 26 "SteadyMachine$Runner" "methods" "LSteadyMachine$Methods;") (by decide +kernel)
  have k_4 := hts (.fieldLink RX7 127 "SteadyMachine$Methods" "code" "[I") (by decide +kernel)
  have k_5 := hts (.fieldLink RX7 124 "SteadyMachine$Runner" "method" "I") (by decide +kernel)
  have k_6 := hts (.fieldLink RX7 75 "SteadyMachine$Runner" "place" "I") (by decide +kernel)
  have k_7 := hts (.constantLong RX7 153 (4294967296)) (by decide +kernel)
  have k_8 := hts (.fieldLink RX7 46 "SteadyMachine$Runner" "height" "I") (by decide +kernel)
  have hl := lv_entry ([.ref (α.1 7), .int p1]) (n := 7) (Nat.le_of_ble_eq_true rfl)
  rw [lg_entry_eq]
  generalize (lg_sl ([.ref (α.1 7), .int p1]) ++ List.replicate (7 - (lg_sl ([.ref (α.1 7), .int p1])).length) Slot.unset).toArray = ls at hl ⊢
  have hl : lv_has ls 7 [(0, .ref (α.1 7)), (1, .int p1)] := hl
  unfold mp_X7_moveValues at hF
  revert hP hS
  generalize hLo : ([] : List Loc) = locs
  suffices h9 : ∀ (H : Heap) (locs : List Loc), va_P D vwCl (sm_wX σ α) H → va_S A s.heap H locs → W p l e (headSpec wp_X7_moveValues { frames := 3, cells := 0, slots := 0, locals := 66 }).room s m ([.ref (α.1 7), .int p1] : List Value).toArray below meth c H locs 0 0 (MQ below (va_Qi K (sm_B sm_wX D α) A) ([.ref (α.1 7), .int p1] : List Value).toArray s 0 0 A) (F0 m 0 ls []) from fun hP hS => h9 s.heap locs hP hS
  intro H locs hP hS
  refine lv_aload_n hx hb dX7_moveValues_0 rfl (lv_at hl 0 rfl) ?_
  refine va_get (D := D) (ci := 7) (v := .ref (α.1 1)) (C := RX7) (T := TX7) (N := 13) hx hb hts in_X7 hown hK hP 7 (sm_gX7 σ α) rfl 3 (by decide) k_0 (fun _ h9 => h9) rfl dX7_moveValues_1 ?_
  refine va_get (D := D) (ci := 1) (v := .int (σ.1 10)) (C := RX1) (T := TX1) (N := 16) hx hb hts in_X1 hown hK hP 1 (sm_gX1 σ α) rfl 12 (by decide) k_1 (fun _ h9 => h9) rfl dX7_moveValues_4 ?_
  refine lv_iconst (v := 4) hx hb dX7_moveValues_7 (by decide) ?_
  refine lv_iadd hx hb dX7_moveValues_8 ?_
  refine lv_aload_n hx hb dX7_moveValues_9 rfl (lv_at hl 0 rfl) ?_
  refine lv_iconst (v := 1) hx hb dX7_moveValues_10 (by decide) ?_
  refine sm_vi (As := [.int 1]) (rest := [.int ((σ.1 10) + 4)]) hP hK hD hE hS hA ⟨hx, hb, hml, hown, hts⟩ hl.1 (c_X7_operand l D H.size t0 σ α 1 _ hF) (cwV 1 hts wg_X7_moveValues_X7_operand_72 rfl rfl rfl (by decide +kernel) ⟨Nat.le_of_ble_eq_true rfl, Nat.le_of_ble_eq_true rfl⟩) (va_recv hK hP (ci := 7) (q0 := 7) rfl (sm_gX7 σ α)) rfl rfl (Nat.le_of_ble_eq_true rfl) dX7_moveValues_11 ⟨Nat.zero_le _, Nat.zero_le _⟩ (fun r2 σ1 H locs hF hP hS => ?_)
  refine lv_iadd hx hb dX7_moveValues_14 ?_
  refine lv_topi (fun v3 ev3 => ?_)
  replace hF := hF v3 ev3
  refine lv_istore_n (lv' := [(2, .int v3), (0, .ref (α.1 7)), (1, .int p1)]) hx hb dX7_moveValues_15 rfl hl (by decide) rfl (fun ls hl => ?_)
  refine lv_iload_n hx hb dX7_moveValues_16 rfl (lv_at hl 2 rfl) ?_
  by_cases h4 : p1 = 0
  · refine lv_tableIn (tgt := 56) hx hb dX7_moveValues_17 (by rw [h4]; decide) (by rw [h4]; decide) (by rw [h4]; rfl) (by decide) ?_
    replace hF := hF.1 h4
    refine lv_aload_n hx hb dX7_moveValues_56 rfl (lv_at hl 1 rfl) ?_
    refine lv_aload_n hx hb dX7_moveValues_57 rfl (lv_at hl 1 rfl) ?_
    refine va_get (D := D) (ci := 7) (v := .ref (α.1 2)) (C := RX7) (T := TX7) (N := 13) hx hb hts in_X7 hown hK hP 7 (sm_gX7 σ1 α) rfl 0 (by decide) k_2 (fun _ h9 => h9) rfl dX7_moveValues_58 ?_
    refine lv_aload_n hx hb dX7_moveValues_61 rfl (lv_at hl 1 rfl) ?_
    refine va_get (D := D) (ci := 7) (v := .ref (α.1 4)) (C := RX7) (T := TX7) (N := 13) hx hb hts in_X7 hown hK hP 7 (sm_gX7 σ1 α) rfl 2 (by decide) k_3 (fun _ h9 => h9) rfl dX7_moveValues_62 ?_
    refine va_get (D := D) (ci := 4) (v := .ref (α.1 26)) (C := RX4) (T := TX4) (N := 12) hx hb hts in_X4 hown hK hP 4 (sm_gX4 σ1 α) rfl 8 (by decide) k_4 (fun _ h9 => h9) rfl dX7_moveValues_65 ?_
    refine lv_aload_n hx hb dX7_moveValues_68 rfl (lv_at hl 1 rfl) ?_
    refine va_get (D := D) (ci := 7) (v := .int (σ1.1 24)) (C := RX7) (T := TX7) (N := 13) hx hb hts in_X7 hown hK hP 7 (sm_gX7 σ1 α) rfl 8 (by decide) k_5 (fun _ h9 => h9) rfl dX7_moveValues_69 ?_
    obtain ⟨h5, hF⟩ := hF
    refine va_iald (n := (σ1.2.2.1 26)) (f := (σ1.2.2.2.1 26)) hx hb hK hP 26 15 (sm_aX26 σ1 α) (sm_yX26 α) h5 dX7_moveValues_72 ?_
    refine lv_aload_n hx hb dX7_moveValues_73 rfl (lv_at hl 1 rfl) ?_
    refine va_get (D := D) (ci := 7) (v := .int (σ1.1 25)) (C := RX7) (T := TX7) (N := 13) hx hb hts in_X7 hown hK hP 7 (sm_gX7 σ1 α) rfl 9 (by decide) k_6 (fun _ h9 => h9) rfl dX7_moveValues_74 ?_
    refine lv_iadd hx hb dX7_moveValues_77 ?_
    refine lv_iconst (v := 1) hx hb dX7_moveValues_78 (by decide) ?_
    refine lv_iadd hx hb dX7_moveValues_79 ?_
    refine sm_vi (As := [.int ((((σ1.2.2.2.1 26) (σ1.1 24).toNatClampNeg) + (σ1.1 25)) + 1)]) (rest := [.ref (α.1 7)]) hP hK hD hE hS hA ⟨hx, hb, hml, hown, hts⟩ hl.1 (c_X2_four l D H.size t0 σ1 α ((((σ1.2.2.2.1 26) (σ1.1 24).toNatClampNeg) + (σ1.1 25)) + 1) _ hF) (cwV 1 hts wg_X7_moveValues_X2_four_147 rfl rfl rfl (by decide +kernel) ⟨Nat.le_of_ble_eq_true rfl, Nat.le_of_ble_eq_true rfl⟩) (va_recv hK hP (ci := 2) (q0 := 2) rfl (sm_gX2 σ1 α)) rfl rfl (Nat.le_of_ble_eq_true rfl) dX7_moveValues_80 ⟨Nat.zero_le _, Nat.zero_le _⟩ (fun r7 σ6 H locs hF hP hS => ?_)
    refine sm_vi (As := [.int r7]) (rest := []) hP hK hD hE hS hA ⟨hx, hb, hml, hown, hts⟩ hl.1 (c_X7_pushInt l D H.size t0 σ6 α r7 _ hF) (cwV 1 hts wg_X7_moveValues_X7_pushInt_150 rfl rfl rfl (by decide +kernel) ⟨Nat.le_of_ble_eq_true rfl, Nat.le_of_ble_eq_true rfl⟩) (va_recv hK hP (ci := 7) (q0 := 7) rfl (sm_gX7 σ6 α)) rfl rfl (Nat.le_of_ble_eq_true rfl) dX7_moveValues_83 ⟨Nat.zero_le _, Nat.zero_le _⟩ (fun r9 σ8 H locs hF hP hS => ?_)
    exact W.iret (v := r9) hx hb hr (fun t ht hW => ⟨⟨r9, σ8, rfl, hF, (by unfold sm_B; rw [ht]; exact hP)⟩, hS.F ht⟩) hS.2.2 dX7_moveValues_86
  by_cases h10 : p1 = 1
  · refine lv_tableIn (tgt := 87) hx hb dX7_moveValues_17 (by rw [h10]; decide) (by rw [h10]; decide) (by rw [h10]; rfl) (by decide) ?_
    replace hF := hF.2.1 h10
    refine lv_aload_n hx hb dX7_moveValues_87 rfl (lv_at hl 1 rfl) ?_
    refine lv_ldc2 (v := 4294967296) hx hb hown k_7 dX7_moveValues_88 ?_
    refine sm_vi (As := [.long 4294967296]) (rest := []) hP hK hD hE hS hA ⟨hx, hb, hml, hown, hts⟩ hl.1 (c_X7_push l D H.size t0 σ1 α 4294967296 _ hF) (cwV 1 hts wg_X7_moveValues_X7_push_143 rfl rfl rfl (by decide +kernel) ⟨Nat.le_of_ble_eq_true rfl, Nat.le_of_ble_eq_true rfl⟩) (va_recv hK hP (ci := 7) (q0 := 7) rfl (sm_gX7 σ1 α)) rfl rfl (Nat.le_of_ble_eq_true rfl) dX7_moveValues_91 ⟨Nat.zero_le _, Nat.zero_le _⟩ (fun r12 σ11 H locs hF hP hS => ?_)
    exact W.iret (v := r12) hx hb hr (fun t ht hW => ⟨⟨r12, σ11, rfl, hF, (by unfold sm_B; rw [ht]; exact hP)⟩, hS.F ht⟩) hS.2.2 dX7_moveValues_94
  by_cases h13 : p1 = 2
  · refine lv_tableIn (tgt := 95) hx hb dX7_moveValues_17 (by rw [h13]; decide) (by rw [h13]; decide) (by rw [h13]; rfl) (by decide) ?_
    replace hF := hF.2.2.1 h13
    refine lv_aload_n hx hb dX7_moveValues_95 rfl (lv_at hl 1 rfl) ?_
    refine lv_aload_n hx hb dX7_moveValues_96 rfl (lv_at hl 1 rfl) ?_
    refine va_get (D := D) (ci := 7) (v := .ref (α.1 1)) (C := RX7) (T := TX7) (N := 13) hx hb hts in_X7 hown hK hP 7 (sm_gX7 σ1 α) rfl 3 (by decide) k_0 (fun _ h9 => h9) rfl dX7_moveValues_97 ?_
    refine lv_iload_n hx hb dX7_moveValues_100 rfl (lv_at hl 0 rfl) ?_
    refine sm_vl (As := [.int v3]) (rest := [.ref (α.1 7)]) hP hK hD hE hS hA ⟨hx, hb, hml, hown, hts⟩ hl.1 (c_X1_look l D H.size t0 σ1 α v3 _ hF) (cwV 1 hts wg_X7_moveValues_X1_look_120 rfl rfl rfl (by decide +kernel) ⟨Nat.le_of_ble_eq_true rfl, Nat.le_of_ble_eq_true rfl⟩) (va_recv hK hP (ci := 1) (q0 := 1) rfl (sm_gX1 σ1 α)) rfl rfl (Nat.le_of_ble_eq_true rfl) dX7_moveValues_101 ⟨Nat.zero_le _, Nat.zero_le _⟩ (fun r15 σ14 H locs hF hP hS => ?_)
    refine sm_vi (As := [.long r15]) (rest := []) hP hK hD hE hS hA ⟨hx, hb, hml, hown, hts⟩ hl.1 (c_X7_push l D H.size t0 σ14 α r15 _ hF) (cwV 1 hts wg_X7_moveValues_X7_push_143 rfl rfl rfl (by decide +kernel) ⟨Nat.le_of_ble_eq_true rfl, Nat.le_of_ble_eq_true rfl⟩) (va_recv hK hP (ci := 7) (q0 := 7) rfl (sm_gX7 σ14 α)) rfl rfl (Nat.le_of_ble_eq_true rfl) dX7_moveValues_104 ⟨Nat.zero_le _, Nat.zero_le _⟩ (fun r17 σ16 H locs hF hP hS => ?_)
    exact W.iret (v := r17) hx hb hr (fun t ht hW => ⟨⟨r17, σ16, rfl, hF, (by unfold sm_B; rw [ht]; exact hP)⟩, hS.F ht⟩) hS.2.2 dX7_moveValues_107
  by_cases h18 : p1 = 3
  · refine lv_tableIn (tgt := 108) hx hb dX7_moveValues_17 (by rw [h18]; decide) (by rw [h18]; decide) (by rw [h18]; rfl) (by decide) ?_
    replace hF := hF.2.2.2.1 h18
    refine lv_aload_n hx hb dX7_moveValues_108 rfl (lv_at hl 1 rfl) ?_
    refine va_get (D := D) (ci := 7) (v := .ref (α.1 1)) (C := RX7) (T := TX7) (N := 13) hx hb hts in_X7 hown hK hP 7 (sm_gX7 σ1 α) rfl 3 (by decide) k_0 (fun _ h9 => h9) rfl dX7_moveValues_109 ?_
    refine lv_iload_n hx hb dX7_moveValues_112 rfl (lv_at hl 0 rfl) ?_
    refine lv_aload_n hx hb dX7_moveValues_113 rfl (lv_at hl 1 rfl) ?_
    refine sm_vl (As := []) (rest := [.int v3, .ref (α.1 1)]) hP hK hD hE hS hA ⟨hx, hb, hml, hown, hts⟩ hl.1 (c_X7_pop l D H.size t0 σ1 α _ hF) (cwV 0 hts wg_X7_moveValues_X7_pop_155 rfl rfl rfl (by decide +kernel) ⟨Nat.le_of_ble_eq_true rfl, Nat.le_of_ble_eq_true rfl⟩) (va_recv hK hP (ci := 7) (q0 := 7) rfl (sm_gX7 σ1 α)) rfl rfl (Nat.le_of_ble_eq_true rfl) dX7_moveValues_114 ⟨Nat.zero_le _, Nat.zero_le _⟩ (fun r20 σ19 H locs hF hP hS => ?_)
    refine sm_vv (As := [.int v3, .long r20]) (rest := []) hP hK hD hE hS hA ⟨hx, hb, hml, hown, hts⟩ hl.1 (c_X1_put l D H.size t0 σ19 α v3 r20 _ hF) (cwV 2 hts wg_X7_moveValues_X1_put_110 rfl rfl rfl (by decide +kernel) ⟨Nat.le_of_ble_eq_true rfl, Nat.le_of_ble_eq_true rfl⟩) (va_recv hK hP (ci := 1) (q0 := 1) rfl (sm_gX1 σ19 α)) rfl rfl (Nat.le_of_ble_eq_true rfl) dX7_moveValues_117 ⟨Nat.zero_le _, Nat.zero_le _⟩ (fun σ21 H locs hF hP hS => ?_)
    refine lv_iconst (v := -1) hx hb dX7_moveValues_120 (by decide) ?_
    exact W.iret (v := (-1)) hx hb hr (fun t ht hW => ⟨⟨(-1), σ21, rfl, hF, (by unfold sm_B; rw [ht]; exact hP)⟩, hS.F ht⟩) hS.2.2 dX7_moveValues_121
  by_cases h22 : p1 = 4
  · refine lv_tableIn (tgt := 122) hx hb dX7_moveValues_17 (by rw [h22]; decide) (by rw [h22]; decide) (by rw [h22]; rfl) (by decide) ?_
    replace hF := hF.2.2.2.2.1 h22
    refine lv_aload_n hx hb dX7_moveValues_122 rfl (lv_at hl 1 rfl) ?_
    refine lv_dup hx hb dX7_moveValues_123 rfl ?_
    refine va_get (D := D) (ci := 7) (v := .int (σ1.1 27)) (C := RX7) (T := TX7) (N := 13) hx hb hts in_X7 hown hK hP 7 (sm_gX7 σ1 α) rfl 11 (by decide) k_8 (fun _ h9 => h9) rfl dX7_moveValues_124 ?_
    refine lv_iconst (v := 1) hx hb dX7_moveValues_127 (by decide) ?_
    refine lv_isub hx hb dX7_moveValues_128 ?_
    refine va_put (D := D) (ci := 7) (v := .int ((σ1.1 27) - 1)) (ty := .int) (C := RX7) (T := TX7) (N := 13) hx hb hts in_X7 tyX7 tyX7_ok nmX7 hown hK hP (hD.to (sm_wX_m _ _)) hS 7 (sm_gX7 σ1 α) rfl 11 (by decide) k_8 (fun _ h9 => h9) rfl (by decide +kernel) rfl rfl (Nat.le_of_ble_eq_true rfl) dX7_moveValues_129 (fun H locs hP _ hS => ?_)
    rw [sm_iX27] at hP
    obtain ⟨σ23, eσ23⟩ : ∃ x : sm_S, x = sm_i σ1 27 ((σ1.1 27) - 1) := ⟨_, rfl⟩
    replace hF := hF σ23 eσ23
    rw [← eσ23] at hP
    refine lv_iconst (v := -1) hx hb dX7_moveValues_132 (by decide) ?_
    exact W.iret (v := (-1)) hx hb hr (fun t ht hW => ⟨⟨(-1), σ23, rfl, hF, (by unfold sm_B; rw [ht]; exact hP)⟩, hS.F ht⟩) hS.2.2 dX7_moveValues_133
  by_cases h24 : p1 = 5
  · refine lv_tableIn (tgt := 134) hx hb dX7_moveValues_17 (by rw [h24]; decide) (by rw [h24]; decide) (by rw [h24]; rfl) (by decide) ?_
    replace hF := hF.2.2.2.2.2.1 h24
    refine lv_aload_n hx hb dX7_moveValues_134 rfl (lv_at hl 1 rfl) ?_
    refine lv_aload_n hx hb dX7_moveValues_135 rfl (lv_at hl 1 rfl) ?_
    refine lv_iconst (v := 0) hx hb dX7_moveValues_136 (by decide) ?_
    refine sm_vl (As := [.int 0]) (rest := [.ref (α.1 7)]) hP hK hD hE hS hA ⟨hx, hb, hml, hown, hts⟩ hl.1 (c_X7_below l D H.size t0 σ1 α 0 _ hF) (cwV 1 hts wg_X7_moveValues_X7_below_159 rfl rfl rfl (by decide +kernel) ⟨Nat.le_of_ble_eq_true rfl, Nat.le_of_ble_eq_true rfl⟩) (va_recv hK hP (ci := 7) (q0 := 7) rfl (sm_gX7 σ1 α)) rfl rfl (Nat.le_of_ble_eq_true rfl) dX7_moveValues_137 ⟨Nat.zero_le _, Nat.zero_le _⟩ (fun r26 σ25 H locs hF hP hS => ?_)
    refine sm_vi (As := [.long r26]) (rest := []) hP hK hD hE hS hA ⟨hx, hb, hml, hown, hts⟩ hl.1 (c_X7_push l D H.size t0 σ25 α r26 _ hF) (cwV 1 hts wg_X7_moveValues_X7_push_143 rfl rfl rfl (by decide +kernel) ⟨Nat.le_of_ble_eq_true rfl, Nat.le_of_ble_eq_true rfl⟩) (va_recv hK hP (ci := 7) (q0 := 7) rfl (sm_gX7 σ25 α)) rfl rfl (Nat.le_of_ble_eq_true rfl) dX7_moveValues_140 ⟨Nat.zero_le _, Nat.zero_le _⟩ (fun r28 σ27 H locs hF hP hS => ?_)
    exact W.iret (v := r28) hx hb hr (fun t ht hW => ⟨⟨r28, σ27, rfl, hF, (by unfold sm_B; rw [ht]; exact hP)⟩, hS.F ht⟩) hS.2.2 dX7_moveValues_143
  refine lv_tableOut (tgt := 144) hx hb dX7_moveValues_17 (by have q0 := lv_neT h4 (show Int32.toInt 0 = 0 by decide); have q1 := lv_neT h10 (show Int32.toInt 1 = 1 by decide); have q2 := lv_neT h13 (show Int32.toInt 2 = 2 by decide); have q3 := lv_neT h18 (show Int32.toInt 3 = 3 by decide); have q4 := lv_neT h22 (show Int32.toInt 4 = 4 by decide); have q5 := lv_neT h24 (show Int32.toInt 5 = 5 by decide); omega) (by decide) ?_
  replace hF := hF.2.2.2.2.2.2 h4 h10 h13 h18 h22 h24
  refine lv_aload_n hx hb dX7_moveValues_144 rfl (lv_at hl 1 rfl) ?_
  refine sm_vl (As := []) (rest := []) hP hK hD hE hS hA ⟨hx, hb, hml, hown, hts⟩ hl.1 (c_X7_pop l D H.size t0 σ1 α _ hF) (cwV 0 hts wg_X7_moveValues_X7_pop_155 rfl rfl rfl (by decide +kernel) ⟨Nat.le_of_ble_eq_true rfl, Nat.le_of_ble_eq_true rfl⟩) (va_recv hK hP (ci := 7) (q0 := 7) rfl (sm_gX7 σ1 α)) rfl rfl (Nat.le_of_ble_eq_true rfl) dX7_moveValues_145 ⟨Nat.zero_le _, Nat.zero_le _⟩ (fun r30 σ29 H locs hF hP hS => ?_)
  refine lv_lstore_n (lv' := [(3, .long r30), (2, .int v3), (0, .ref (α.1 7)), (1, .int p1)]) hx hb dX7_moveValues_148 rfl hl (by decide) rfl (fun ls hl => ?_)
  refine lv_aload_n hx hb dX7_moveValues_149 rfl (lv_at hl 2 rfl) ?_
  refine sm_vl (As := []) (rest := []) hP hK hD hE hS hA ⟨hx, hb, hml, hown, hts⟩ hl.1 (c_X7_pop l D H.size t0 σ29 α _ hF) (cwV 0 hts wg_X7_moveValues_X7_pop_155 rfl rfl rfl (by decide +kernel) ⟨Nat.le_of_ble_eq_true rfl, Nat.le_of_ble_eq_true rfl⟩) (va_recv hK hP (ci := 7) (q0 := 7) rfl (sm_gX7 σ29 α)) rfl rfl (Nat.le_of_ble_eq_true rfl) dX7_moveValues_150 ⟨Nat.zero_le _, Nat.zero_le _⟩ (fun r32 σ31 H locs hF hP hS => ?_)
  refine lv_lstore (lv' := [(5, .long r32), (3, .long r30), (2, .int v3), (0, .ref (α.1 7)), (1, .int p1)]) hx hb dX7_moveValues_153 hl (by decide) rfl (fun ls hl => ?_)
  refine lv_aload_n hx hb dX7_moveValues_155 rfl (lv_at hl 3 rfl) ?_
  refine lv_lload_n hx hb dX7_moveValues_156 rfl (lv_at hl 1 rfl) ?_
  refine sm_vi (As := [.long r30]) (rest := []) hP hK hD hE hS hA ⟨hx, hb, hml, hown, hts⟩ hl.1 (c_X7_push l D H.size t0 σ31 α r30 _ hF) (cwV 1 hts wg_X7_moveValues_X7_push_143 rfl rfl rfl (by decide +kernel) ⟨Nat.le_of_ble_eq_true rfl, Nat.le_of_ble_eq_true rfl⟩) (va_recv hK hP (ci := 7) (q0 := 7) rfl (sm_gX7 σ31 α)) rfl rfl (Nat.le_of_ble_eq_true rfl) dX7_moveValues_157 ⟨Nat.zero_le _, Nat.zero_le _⟩ (fun r34 σ33 H locs hF hP hS => ?_)
  refine lv_pop hx hb dX7_moveValues_160 rfl ?_
  refine lv_aload_n hx hb dX7_moveValues_161 rfl (lv_at hl 3 rfl) ?_
  refine lv_lload hx hb dX7_moveValues_162 (lv_at hl 0 rfl) ?_
  refine sm_vi (As := [.long r32]) (rest := []) hP hK hD hE hS hA ⟨hx, hb, hml, hown, hts⟩ hl.1 (c_X7_push l D H.size t0 σ33 α r32 _ hF) (cwV 1 hts wg_X7_moveValues_X7_push_143 rfl rfl rfl (by decide +kernel) ⟨Nat.le_of_ble_eq_true rfl, Nat.le_of_ble_eq_true rfl⟩) (va_recv hK hP (ci := 7) (q0 := 7) rfl (sm_gX7 σ33 α)) rfl rfl (Nat.le_of_ble_eq_true rfl) dX7_moveValues_164 ⟨Nat.zero_le _, Nat.zero_le _⟩ (fun r36 σ35 H locs hF hP hS => ?_)
  exact W.iret (v := r36) hx hb hr (fun t ht hW => ⟨⟨r36, σ35, rfl, hF, (by unfold sm_B; rw [ht]; exact hP)⟩, hS.F ht⟩) hS.2.2 dX7_moveValues_167
