theorem dX8_apply_0 : decode cX8_apply 0 = .ok (.iload_n 1, 1) := by decide +kernel
theorem dX8_apply_1 : decode cX8_apply 1 = .ok (.bipush 6, 2) := by decide +kernel
theorem dX8_apply_3 : decode cX8_apply 3 = .ok (.if_icmp .gt 21, 3) := by decide +kernel
theorem dX8_apply_6 : decode cX8_apply 6 = .ok (.aload_n 0, 1) := by decide +kernel
theorem dX8_apply_7 : decode cX8_apply 7 = .ok (.iload_n 1, 1) := by decide +kernel
theorem dX8_apply_8 : decode cX8_apply 8 = .ok (.aload_n 0, 1) := by decide +kernel
theorem dX8_apply_9 : decode cX8_apply 9 = .ok (.getfield 26, 3) := by decide +kernel
theorem dX8_apply_12 : decode cX8_apply 12 = .ok (.iload_n 2, 1) := by decide +kernel
theorem dX8_apply_13 : decode cX8_apply 13 = .ok (.iconst 1, 1) := by decide +kernel
theorem dX8_apply_14 : decode cX8_apply 14 = .ok (.iadd, 1) := by decide +kernel
theorem dX8_apply_15 : decode cX8_apply 15 = .ok (.invokevirtual 107, 3) := by decide +kernel
theorem dX8_apply_18 : decode cX8_apply 18 = .ok (.invokevirtual 165, 3) := by decide +kernel
theorem dX8_apply_21 : decode cX8_apply 21 = .ok (.goto 191, 3) := by decide +kernel
theorem dX8_apply_24 : decode cX8_apply 24 = .ok (.iload_n 1, 1) := by decide +kernel
theorem dX8_apply_25 : decode cX8_apply 25 = .ok (.bipush 18, 2) := by decide +kernel
theorem dX8_apply_27 : decode cX8_apply 27 = .ok (.if_icmp .gt 27, 3) := by decide +kernel
theorem dX8_apply_30 : decode cX8_apply 30 = .ok (.aload_n 0, 1) := by decide +kernel
theorem dX8_apply_31 : decode cX8_apply 31 = .ok (.iconst 0, 1) := by decide +kernel
theorem dX8_apply_32 : decode cX8_apply 32 = .ok (.invokevirtual 168, 3) := by decide +kernel
theorem dX8_apply_35 : decode cX8_apply 35 = .ok (.iload_n 1, 1) := by decide +kernel
theorem dX8_apply_36 : decode cX8_apply 36 = .ok (.bipush 18, 2) := by decide +kernel
theorem dX8_apply_38 : decode cX8_apply 38 = .ok (.if_icmp .eq 8, 3) := by decide +kernel
theorem dX8_apply_41 : decode cX8_apply 41 = .ok (.aload_n 0, 1) := by decide +kernel
theorem dX8_apply_42 : decode cX8_apply 42 = .ok (.iconst 0, 1) := by decide +kernel
theorem dX8_apply_43 : decode cX8_apply 43 = .ok (.invokevirtual 168, 3) := by decide +kernel
theorem dX8_apply_46 : decode cX8_apply 46 = .ok (.aload_n 0, 1) := by decide +kernel
theorem dX8_apply_47 : decode cX8_apply 47 = .ok (.iconst 0, 1) := by decide +kernel
theorem dX8_apply_48 : decode cX8_apply 48 = .ok (.invokevirtual 171, 3) := by decide +kernel
theorem dX8_apply_51 : decode cX8_apply 51 = .ok (.goto 161, 3) := by decide +kernel
theorem dX8_apply_54 : decode cX8_apply 54 = .ok (.iload_n 1, 1) := by decide +kernel
theorem dX8_apply_55 : decode cX8_apply 55 = .ok (.bipush 25, 2) := by decide +kernel
theorem dX8_apply_57 : decode cX8_apply 57 = .ok (.if_icmp .gt 11, 3) := by decide +kernel
theorem dX8_apply_60 : decode cX8_apply 60 = .ok (.aload_n 0, 1) := by decide +kernel
theorem dX8_apply_61 : decode cX8_apply 61 = .ok (.iload_n 1, 1) := by decide +kernel
theorem dX8_apply_62 : decode cX8_apply 62 = .ok (.invokevirtual 174, 3) := by decide +kernel
theorem dX8_apply_65 : decode cX8_apply 65 = .ok (.goto 147, 3) := by decide +kernel
theorem dX8_apply_68 : decode cX8_apply 68 = .ok (.iload_n 1, 1) := by decide +kernel
theorem dX8_apply_69 : decode cX8_apply 69 = .ok (.bipush 30, 2) := by decide +kernel
theorem dX8_apply_71 : decode cX8_apply 71 = .ok (.if_icmp .gt 31, 3) := by decide +kernel
theorem dX8_apply_74 : decode cX8_apply 74 = .ok (.aload_n 0, 1) := by decide +kernel
theorem dX8_apply_75 : decode cX8_apply 75 = .ok (.iload_n 1, 1) := by decide +kernel
theorem dX8_apply_76 : decode cX8_apply 76 = .ok (.aload_n 0, 1) := by decide +kernel
theorem dX8_apply_77 : decode cX8_apply 77 = .ok (.getfield 26, 3) := by decide +kernel
theorem dX8_apply_80 : decode cX8_apply 80 = .ok (.iload_n 2, 1) := by decide +kernel
theorem dX8_apply_81 : decode cX8_apply 81 = .ok (.iconst 1, 1) := by decide +kernel
theorem dX8_apply_82 : decode cX8_apply 82 = .ok (.iadd, 1) := by decide +kernel
theorem dX8_apply_83 : decode cX8_apply 83 = .ok (.invokevirtual 107, 3) := by decide +kernel
theorem dX8_apply_86 : decode cX8_apply 86 = .ok (.aload_n 0, 1) := by decide +kernel
theorem dX8_apply_87 : decode cX8_apply 87 = .ok (.getfield 26, 3) := by decide +kernel
theorem dX8_apply_90 : decode cX8_apply 90 = .ok (.iload_n 2, 1) := by decide +kernel
theorem dX8_apply_91 : decode cX8_apply 91 = .ok (.iconst 2, 1) := by decide +kernel
theorem dX8_apply_92 : decode cX8_apply 92 = .ok (.iadd, 1) := by decide +kernel
theorem dX8_apply_93 : decode cX8_apply 93 = .ok (.invokevirtual 107, 3) := by decide +kernel
theorem dX8_apply_96 : decode cX8_apply 96 = .ok (.invokevirtual 177, 3) := by decide +kernel
theorem dX8_apply_99 : decode cX8_apply 99 = .ok (.goto 113, 3) := by decide +kernel
theorem dX8_apply_102 : decode cX8_apply 102 = .ok (.iload_n 1, 1) := by decide +kernel
theorem dX8_apply_103 : decode cX8_apply 103 = .ok (.bipush 33, 2) := by decide +kernel
theorem dX8_apply_105 : decode cX8_apply 105 = .ok (.if_icmp .gt 21, 3) := by decide +kernel
theorem dX8_apply_108 : decode cX8_apply 108 = .ok (.aload_n 0, 1) := by decide +kernel
theorem dX8_apply_109 : decode cX8_apply 109 = .ok (.iload_n 1, 1) := by decide +kernel
theorem dX8_apply_110 : decode cX8_apply 110 = .ok (.aload_n 0, 1) := by decide +kernel
theorem dX8_apply_111 : decode cX8_apply 111 = .ok (.getfield 26, 3) := by decide +kernel
theorem dX8_apply_114 : decode cX8_apply 114 = .ok (.iload_n 2, 1) := by decide +kernel
theorem dX8_apply_115 : decode cX8_apply 115 = .ok (.iconst 1, 1) := by decide +kernel
theorem dX8_apply_116 : decode cX8_apply 116 = .ok (.iadd, 1) := by decide +kernel
theorem dX8_apply_117 : decode cX8_apply 117 = .ok (.invokevirtual 107, 3) := by decide +kernel
theorem dX8_apply_120 : decode cX8_apply 120 = .ok (.invokevirtual 181, 3) := by decide +kernel
theorem dX8_apply_123 : decode cX8_apply 123 = .ok (.goto 89, 3) := by decide +kernel
theorem dX8_apply_126 : decode cX8_apply 126 = .ok (.iload_n 1, 1) := by decide +kernel
theorem dX8_apply_127 : decode cX8_apply 127 = .ok (.bipush 34, 2) := by decide +kernel
theorem dX8_apply_129 : decode cX8_apply 129 = .ok (.if_icmp .ne 10, 3) := by decide +kernel
theorem dX8_apply_132 : decode cX8_apply 132 = .ok (.aload_n 0, 1) := by decide +kernel
theorem dX8_apply_133 : decode cX8_apply 133 = .ok (.invokevirtual 184, 3) := by decide +kernel
theorem dX8_apply_136 : decode cX8_apply 136 = .ok (.goto 76, 3) := by decide +kernel
theorem dX8_apply_139 : decode cX8_apply 139 = .ok (.iload_n 1, 1) := by decide +kernel
theorem dX8_apply_140 : decode cX8_apply 140 = .ok (.bipush 36, 2) := by decide +kernel
theorem dX8_apply_142 : decode cX8_apply 142 = .ok (.if_icmp .gt 65, 3) := by decide +kernel
theorem dX8_apply_145 : decode cX8_apply 145 = .ok (.aload_n 0, 1) := by decide +kernel
theorem dX8_apply_146 : decode cX8_apply 146 = .ok (.getfield 26, 3) := by decide +kernel
theorem dX8_apply_149 : decode cX8_apply 149 = .ok (.iload_n 2, 1) := by decide +kernel
theorem dX8_apply_150 : decode cX8_apply 150 = .ok (.iconst 1, 1) := by decide +kernel
theorem dX8_apply_151 : decode cX8_apply 151 = .ok (.iadd, 1) := by decide +kernel
theorem dX8_apply_152 : decode cX8_apply 152 = .ok (.invokevirtual 107, 3) := by decide +kernel
theorem dX8_apply_155 : decode cX8_apply 155 = .ok (.istore_n 3, 1) := by decide +kernel
theorem dX8_apply_156 : decode cX8_apply 156 = .ok (.aload_n 0, 1) := by decide +kernel
theorem dX8_apply_157 : decode cX8_apply 157 = .ok (.iload_n 1, 1) := by decide +kernel
theorem dX8_apply_158 : decode cX8_apply 158 = .ok (.bipush 35, 2) := by decide +kernel
theorem dX8_apply_160 : decode cX8_apply 160 = .ok (.if_icmp .ne 7, 3) := by decide +kernel
theorem dX8_apply_163 : decode cX8_apply 163 = .ok (.iload_n 3, 1) := by decide +kernel
theorem dX8_apply_164 : decode cX8_apply 164 = .ok (.goto 26, 3) := by decide +kernel
theorem dX8_apply_167 : decode cX8_apply 167 = .ok (.aload_n 0, 1) := by decide +kernel
theorem dX8_apply_168 : decode cX8_apply 168 = .ok (.getfield 36, 3) := by decide +kernel
theorem dX8_apply_171 : decode cX8_apply 171 = .ok (.getfield 187, 3) := by decide +kernel
theorem dX8_apply_174 : decode cX8_apply 174 = .ok (.iload_n 3, 1) := by decide +kernel
theorem dX8_apply_175 : decode cX8_apply 175 = .ok (.bipush 16, 2) := by decide +kernel
theorem dX8_apply_177 : decode cX8_apply 177 = .ok (.imul, 1) := by decide +kernel
theorem dX8_apply_178 : decode cX8_apply 178 = .ok (.aload_n 0, 1) := by decide +kernel
theorem dX8_apply_179 : decode cX8_apply 179 = .ok (.getfield 26, 3) := by decide +kernel
theorem dX8_apply_182 : decode cX8_apply 182 = .ok (.iload_n 2, 1) := by decide +kernel
theorem dX8_apply_183 : decode cX8_apply 183 = .ok (.iconst 2, 1) := by decide +kernel
theorem dX8_apply_184 : decode cX8_apply 184 = .ok (.iadd, 1) := by decide +kernel
theorem dX8_apply_185 : decode cX8_apply 185 = .ok (.invokevirtual 107, 3) := by decide +kernel
theorem dX8_apply_188 : decode cX8_apply 188 = .ok (.iadd, 1) := by decide +kernel
theorem dX8_apply_189 : decode cX8_apply 189 = .ok (.iaload, 1) := by decide +kernel
theorem dX8_apply_190 : decode cX8_apply 190 = .ok (.iload_n 1, 1) := by decide +kernel
theorem dX8_apply_191 : decode cX8_apply 191 = .ok (.bipush 35, 2) := by decide +kernel
theorem dX8_apply_193 : decode cX8_apply 193 = .ok (.if_icmp .ne 7, 3) := by decide +kernel
theorem dX8_apply_196 : decode cX8_apply 196 = .ok (.iconst (-1), 1) := by decide +kernel
theorem dX8_apply_197 : decode cX8_apply 197 = .ok (.goto 4, 3) := by decide +kernel
theorem dX8_apply_200 : decode cX8_apply 200 = .ok (.iload_n 3, 1) := by decide +kernel
theorem dX8_apply_201 : decode cX8_apply 201 = .ok (.invokevirtual 190, 3) := by decide +kernel
theorem dX8_apply_204 : decode cX8_apply 204 = .ok (.goto 8, 3) := by decide +kernel
theorem dX8_apply_207 : decode cX8_apply 207 = .ok (.aload_n 0, 1) := by decide +kernel
theorem dX8_apply_208 : decode cX8_apply 208 = .ok (.iload_n 1, 1) := by decide +kernel
theorem dX8_apply_209 : decode cX8_apply 209 = .ok (.invokevirtual 193, 3) := by decide +kernel
theorem dX8_apply_212 : decode cX8_apply 212 = .ok (.return_, 1) := by decide +kernel
def wp_X8_apply : List Cond := .code yX8_apply cX8_apply 4 none :: (((((((((((([.fieldLink RX8 26 "SteadyMachine$Verifier" "image" "LSteadyMachine$Image;", .fieldLink RX8 36 "SteadyMachine$Verifier" "classes" "LSteadyMachine$Classes;", .fieldLink RX8 187 "SteadyMachine$Classes" "slot" "[I"] ++ (wsV RX8 190 RX8 yX8_applyCall wp_X8_applyCall)) ++ (wsV RX8 171 RX8 yX8_push wp_X8_push)) ++ (wsV RX8 193 RX8 yX8_applyEnd wp_X8_applyEnd)) ++ (wsV RX8 107 RX2 yX2_at wp_X2_at)) ++ (wsV RX8 184 RX8 yX8_applyTo wp_X8_applyTo)) ++ (wsV RX8 181 RX8 yX8_applyRow wp_X8_applyRow)) ++ (wsV RX8 177 RX8 yX8_applyObject wp_X8_applyObject)) ++ (wsV RX8 174 RX8 yX8_applyJump wp_X8_applyJump)) ++ (wsV RX8 168 RX8 yX8_takeFor wp_X8_takeFor)) ++ (wsV RX8 165 RX8 yX8_applyMove wp_X8_applyMove)) ++ wsX00) ++ wsX80)
theorem wq_X8_apply : wp_X8_apply.all goodWord = true := wa_c rfl (wa_a (wa_a (wa_a (wa_a (wa_a (wa_a (wa_a (wa_a (wa_a (wa_a (wa_a (wa_a (by decide +kernel) (wa_V wq_X8_applyCall)) (wa_V wq_X8_push)) (wa_V wq_X8_applyEnd)) (wa_V wq_X2_at)) (wa_V wq_X8_applyTo)) (wa_V wq_X8_applyRow)) (wa_V wq_X8_applyObject)) (wa_V wq_X8_applyJump)) (wa_V wq_X8_takeFor)) (wa_V wq_X8_applyMove)) uq_X0) uq_X8)
theorem wt_X8_apply : GoodIn lw_tbl wp_X8_apply := wm_c (List.mem_of_getElem? (i := 791) (by decide +kernel)) rfl (wm_a (wm_a (wm_a (wm_a (wm_a (wm_a (wm_a (wm_a (wm_a (wm_a (wm_a (wm_a (goodIn_r _ [375, 376, 189] (by decide +kernel) (by decide +kernel)) (wm_a (goodIn_r _ [836, 838, 33, 142] (by decide +kernel) (by decide +kernel)) wt_X8_applyCall)) (wm_a (goodIn_r _ [796, 798, 24, 142] (by decide +kernel) (by decide +kernel)) wt_X8_push)) (wm_a (goodIn_r _ [840, 842, 34, 142] (by decide +kernel) (by decide +kernel)) wt_X8_applyEnd)) (wm_a (goodIn_r _ [787, 654, 655, 137] (by decide +kernel) (by decide +kernel)) wt_X2_at)) (wm_a (goodIn_r _ [832, 834, 32, 142] (by decide +kernel) (by decide +kernel)) wt_X8_applyTo)) (wm_a (goodIn_r _ [824, 826, 30, 142] (by decide +kernel) (by decide +kernel)) wt_X8_applyRow)) (wm_a (goodIn_r _ [820, 822, 29, 142] (by decide +kernel) (by decide +kernel)) wt_X8_applyObject)) (wm_a (goodIn_r _ [812, 814, 27, 142] (by decide +kernel) (by decide +kernel)) wt_X8_applyJump)) (wm_a (goodIn_r _ [804, 806, 26, 142] (by decide +kernel) (by decide +kernel)) wt_X8_takeFor)) (wm_a (goodIn_r _ [792, 794, 23, 142] (by decide +kernel) (by decide +kernel)) wt_X8_applyMove)) ut_X0) ut_X8)
theorem wg_X8_apply_X8_applyCall_190 : GoodIn wp_X8_apply (wsV RX8 190 RX8 yX8_applyCall wp_X8_applyCall) := goodIn_sub (fun w h => List.mem_cons_of_mem _ (List.mem_append_left _ (List.mem_append_left _ (List.mem_append_left _ (List.mem_append_left _ (List.mem_append_left _ (List.mem_append_left _ (List.mem_append_left _ (List.mem_append_left _ (List.mem_append_left _ (List.mem_append_left _ (List.mem_append_left _ (List.mem_append_right _ h))))))))))))) (wa_V wq_X8_applyCall)
theorem wg_X8_apply_X8_push_171 : GoodIn wp_X8_apply (wsV RX8 171 RX8 yX8_push wp_X8_push) := goodIn_sub (fun w h => List.mem_cons_of_mem _ (List.mem_append_left _ (List.mem_append_left _ (List.mem_append_left _ (List.mem_append_left _ (List.mem_append_left _ (List.mem_append_left _ (List.mem_append_left _ (List.mem_append_left _ (List.mem_append_left _ (List.mem_append_left _ (List.mem_append_right _ h)))))))))))) (wa_V wq_X8_push)
theorem wg_X8_apply_X8_applyEnd_193 : GoodIn wp_X8_apply (wsV RX8 193 RX8 yX8_applyEnd wp_X8_applyEnd) := goodIn_sub (fun w h => List.mem_cons_of_mem _ (List.mem_append_left _ (List.mem_append_left _ (List.mem_append_left _ (List.mem_append_left _ (List.mem_append_left _ (List.mem_append_left _ (List.mem_append_left _ (List.mem_append_left _ (List.mem_append_left _ (List.mem_append_right _ h))))))))))) (wa_V wq_X8_applyEnd)
theorem wg_X8_apply_X2_at_107 : GoodIn wp_X8_apply (wsV RX8 107 RX2 yX2_at wp_X2_at) := goodIn_sub (fun w h => List.mem_cons_of_mem _ (List.mem_append_left _ (List.mem_append_left _ (List.mem_append_left _ (List.mem_append_left _ (List.mem_append_left _ (List.mem_append_left _ (List.mem_append_left _ (List.mem_append_left _ (List.mem_append_right _ h)))))))))) (wa_V wq_X2_at)
theorem wg_X8_apply_X8_applyTo_184 : GoodIn wp_X8_apply (wsV RX8 184 RX8 yX8_applyTo wp_X8_applyTo) := goodIn_sub (fun w h => List.mem_cons_of_mem _ (List.mem_append_left _ (List.mem_append_left _ (List.mem_append_left _ (List.mem_append_left _ (List.mem_append_left _ (List.mem_append_left _ (List.mem_append_left _ (List.mem_append_right _ h))))))))) (wa_V wq_X8_applyTo)
theorem wg_X8_apply_X8_applyRow_181 : GoodIn wp_X8_apply (wsV RX8 181 RX8 yX8_applyRow wp_X8_applyRow) := goodIn_sub (fun w h => List.mem_cons_of_mem _ (List.mem_append_left _ (List.mem_append_left _ (List.mem_append_left _ (List.mem_append_left _ (List.mem_append_left _ (List.mem_append_left _ (List.mem_append_right _ h)))))))) (wa_V wq_X8_applyRow)
theorem wg_X8_apply_X8_applyObject_177 : GoodIn wp_X8_apply (wsV RX8 177 RX8 yX8_applyObject wp_X8_applyObject) := goodIn_sub (fun w h => List.mem_cons_of_mem _ (List.mem_append_left _ (List.mem_append_left _ (List.mem_append_left _ (List.mem_append_left _ (List.mem_append_left _ (List.mem_append_right _ h))))))) (wa_V wq_X8_applyObject)
theorem wg_X8_apply_X8_applyJump_174 : GoodIn wp_X8_apply (wsV RX8 174 RX8 yX8_applyJump wp_X8_applyJump) := goodIn_sub (fun w h => List.mem_cons_of_mem _ (List.mem_append_left _ (List.mem_append_left _ (List.mem_append_left _ (List.mem_append_left _ (List.mem_append_right _ h)))))) (wa_V wq_X8_applyJump)
theorem wg_X8_apply_X8_takeFor_168 : GoodIn wp_X8_apply (wsV RX8 168 RX8 yX8_takeFor wp_X8_takeFor) := goodIn_sub (fun w h => List.mem_cons_of_mem _ (List.mem_append_left _ (List.mem_append_left _ (List.mem_append_left _ (List.mem_append_right _ h))))) (wa_V wq_X8_takeFor)
theorem wg_X8_apply_X8_applyMove_165 : GoodIn wp_X8_apply (wsV RX8 165 RX8 yX8_applyMove wp_X8_applyMove) := goodIn_sub (fun w h => List.mem_cons_of_mem _ (List.mem_append_left _ (List.mem_append_left _ (List.mem_append_right _ h)))) (wa_V wq_X8_applyMove)
theorem wi_X8_apply_X0 : ∀ w ∈ wsX00, w ∈ wp_X8_apply := fun w h => List.mem_cons_of_mem _ (List.mem_append_left _ (List.mem_append_right _ h))
theorem wi_X8_apply_X8 : ∀ w ∈ wsX80, w ∈ wp_X8_apply := fun w h => List.mem_cons_of_mem _ (List.mem_append_right _ h)
set_option maxHeartbeats 4000000 in
set_option maxRecDepth 100000 in
theorem c_X8_apply (l : Launch) (D : va_G) (sz t0 : Nat) (σ : sm_S) (α : sm_A) (p1 : Int32) (p2 : Int32) (K : sm_S → Prop) (hF : mp_X8_apply σ p1 p2 K) : Met l yX8_apply wp_X8_apply { frames := 3, cells := 0, slots := 0, locals := 71 } (sm_P sm_wX sm_tX 37 D sz t0 σ α [.ref (α.1 8), .int p1, .int p2]) (va_Qv K (sm_B sm_wX D α) (sm_a α 37 sz)) 0 0 (sm_a α 37 sz) := by
  refine Met.ofW (cc := cX8_apply) (maxL := 4) (ret := none) (by decide) rfl ?_
  intro p e s m args below meth c s₁ B hml hv
  obtain ⟨rfl, hsz, hP, hK, hD0, hE⟩ := hv
  have hx := B.exec
  have hb := B.bytes
  have hr := B.returns
  have hts := atoms_spec (ws := wp_X8_apply) B.pre
  have hown : s.vm.findClass RX8 = some m.cls := findClass_of_methodNamed B.named
  have hlocks := B.notSynchronized
  subst hsz
  have hD : sm_D (sm_a α 37 s.heap.size) α 37 := hD0.own
  have hA : ∀ q : Nat, s.heap.size ≤ q → sm_a α 37 s.heap.size q := fun q h => Or.inr h
  generalize hAe : sm_a α 37 s.heap.size = A at hD hA hE ⊢
  have hS : va_S A s.heap s.heap [] := va_S.rf
  have in_X0 : ∀ w ∈ wsX00, w ∈ wp_X8_apply := wi_X8_apply_X0
  have in_X8 : ∀ w ∈ wsX80, w ∈ wp_X8_apply := wi_X8_apply_X8
  have k_0 := hts (.fieldLink RX8 26 "SteadyMachine$Verifier" "image" "LSteadyMachine$Image;") (by decide +kernel)
  have k_1 := hts (.fieldLink RX8 36 "SteadyMachine$Verifier" "classes" "LSteadyMachine$Classes;") (by decide +kernel)
  have k_2 := hts (.fieldLink RX8 187 "SteadyMachine$Classes" "slot" "[I") (by decide +kernel)
  have hl := lv_entry ([.ref (α.1 8), .int p1, .int p2]) (n := 4) (Nat.le_of_ble_eq_true rfl)
  rw [lg_entry_eq]
  generalize (lg_sl ([.ref (α.1 8), .int p1, .int p2]) ++ List.replicate (4 - (lg_sl ([.ref (α.1 8), .int p1, .int p2])).length) Slot.unset).toArray = ls at hl ⊢
  have hl : lv_has ls 4 [(0, .ref (α.1 8)), (1, .int p1), (2, .int p2)] := hl
  have B212 : ∀ (σ : sm_S), mp_X8_apply_212 K σ → sm_J p l e (headSpec wp_X8_apply { frames := 3, cells := 0, slots := 0, locals := 71 }).room s m ([.ref (α.1 8), .int p1, .int p2] : List Value).toArray below meth c (MQ below (va_Qv K (sm_B sm_wX D α) A) ([.ref (α.1 8), .int p1, .int p2] : List Value).toArray s 0 0 A) D A 4 (sm_wX σ α) 212 [] [] := by
    intro σ hF H locs ls hP hS hl
    unfold mp_X8_apply_212 at hF
    exact W.vret hx hb hr (fun t ht hW => ⟨⟨σ, rfl, hF, (by unfold sm_B; rw [ht]; exact hP)⟩, hS.F ht⟩) hS.2.2 dX8_apply_212
  have B201 : ∀ (σ : sm_S) (y1 : Int32) (y2 : Int32), mp_X8_apply_201 K σ y1 y2 → sm_J p l e (headSpec wp_X8_apply { frames := 3, cells := 0, slots := 0, locals := 71 }).room s m ([.ref (α.1 8), .int p1, .int p2] : List Value).toArray below meth c (MQ below (va_Qv K (sm_B sm_wX D α) A) ([.ref (α.1 8), .int p1, .int p2] : List Value).toArray s 0 0 A) D A 4 (sm_wX σ α) 201 [] [.int y2, .int y1, .ref (α.1 8)] := by
    intro σ y1 y2 hF H locs ls hP hS hl
    unfold mp_X8_apply_201 at hF
    refine sm_vv (As := [.int y1, .int y2]) (rest := []) hP hK hD hE hS hA ⟨hx, hb, hml, hown, hts⟩ hl.1 (c_X8_applyCall l D H.size t0 σ α y1 y2 _ hF) (cwV 2 hts wg_X8_apply_X8_applyCall_190 rfl rfl rfl (by decide +kernel) ⟨Nat.le_of_ble_eq_true rfl, Nat.le_of_ble_eq_true rfl⟩) (va_recv hK hP (ci := 8) (q0 := 8) rfl (sm_gX8 σ α)) rfl rfl (Nat.le_of_ble_eq_true rfl) dX8_apply_201 ⟨Nat.zero_le _, Nat.zero_le _⟩ (fun σ1 H locs hF hP hS => ?_)
    refine lv_goto (tgt := 212) hx hb dX8_apply_204 (by decide) ?_
    exact B212 σ1 hF H locs ls hP hS (lv_sub hl [] rfl)
  have B190 : ∀ (σ : sm_S) (x1 : Int32) (x3 : Int32) (y1 : Int32), mp_X8_apply_190 K σ x1 x3 y1 → sm_J p l e (headSpec wp_X8_apply { frames := 3, cells := 0, slots := 0, locals := 71 }).room s m ([.ref (α.1 8), .int p1, .int p2] : List Value).toArray below meth c (MQ below (va_Qv K (sm_B sm_wX D α) A) ([.ref (α.1 8), .int p1, .int p2] : List Value).toArray s 0 0 A) D A 4 (sm_wX σ α) 190 [(1, .int x1), (3, .int x3)] [.int y1, .ref (α.1 8)] := by
    intro σ x1 x3 y1 hF H locs ls hP hS hl
    unfold mp_X8_apply_190 at hF
    refine lv_iload_n hx hb dX8_apply_190 rfl (lv_at hl 0 rfl) ?_
    refine lv_bipush (v := 35) hx hb dX8_apply_191 (by decide) ?_
    refine lv_icmp_ne (tgt := 200) hx hb dX8_apply_193 (by decide) (fun h2 => ?_) (fun h2 => ?_)
    · replace hF := hF.1 h2
      refine lv_iload_n hx hb dX8_apply_200 rfl (lv_at hl 1 rfl) ?_
      exact B201 σ y1 x3 hF H locs ls hP hS (lv_sub hl [] rfl)
    · replace hF := hF.2 h2
      refine lv_iconst (v := -1) hx hb dX8_apply_196 (by decide) ?_
      refine lv_goto (tgt := 201) hx hb dX8_apply_197 (by decide) ?_
      exact B201 σ y1 (-1) hF H locs ls hP hS (lv_sub hl [] rfl)
  have B46 : ∀ (σ : sm_S), mp_X8_apply_46 K σ → sm_J p l e (headSpec wp_X8_apply { frames := 3, cells := 0, slots := 0, locals := 71 }).room s m ([.ref (α.1 8), .int p1, .int p2] : List Value).toArray below meth c (MQ below (va_Qv K (sm_B sm_wX D α) A) ([.ref (α.1 8), .int p1, .int p2] : List Value).toArray s 0 0 A) D A 4 (sm_wX σ α) 46 [(0, .ref (α.1 8))] [] := by
    intro σ hF H locs ls hP hS hl
    unfold mp_X8_apply_46 at hF
    refine lv_aload_n hx hb dX8_apply_46 rfl (lv_at hl 0 rfl) ?_
    refine lv_iconst (v := 0) hx hb dX8_apply_47 (by decide) ?_
    refine sm_vv (As := [.int 0]) (rest := []) hP hK hD hE hS hA ⟨hx, hb, hml, hown, hts⟩ hl.1 (c_X8_push l D H.size t0 σ α 0 _ hF) (cwV 1 hts wg_X8_apply_X8_push_171 rfl rfl rfl (by decide +kernel) ⟨Nat.le_of_ble_eq_true rfl, Nat.le_of_ble_eq_true rfl⟩) (va_recv hK hP (ci := 8) (q0 := 8) rfl (sm_gX8 σ α)) rfl rfl (Nat.le_of_ble_eq_true rfl) dX8_apply_48 ⟨Nat.zero_le _, Nat.zero_le _⟩ (fun σ3 H locs hF hP hS => ?_)
    refine lv_goto (tgt := 212) hx hb dX8_apply_51 (by decide) ?_
    exact B212 σ3 hF H locs ls hP hS (lv_sub hl [] rfl)
  unfold mp_X8_apply at hF
  revert hP hS
  generalize hLo : ([] : List Loc) = locs
  suffices h9 : ∀ (H : Heap) (locs : List Loc), va_P D vwCl (sm_wX σ α) H → va_S A s.heap H locs → W p l e (headSpec wp_X8_apply { frames := 3, cells := 0, slots := 0, locals := 71 }).room s m ([.ref (α.1 8), .int p1, .int p2] : List Value).toArray below meth c H locs 0 0 (MQ below (va_Qv K (sm_B sm_wX D α) A) ([.ref (α.1 8), .int p1, .int p2] : List Value).toArray s 0 0 A) (F0 m 0 ls []) from fun hP hS => h9 s.heap locs hP hS
  intro H locs hP hS
  refine lv_iload_n hx hb dX8_apply_0 rfl (lv_at hl 1 rfl) ?_
  refine lv_bipush (v := 6) hx hb dX8_apply_1 (by decide) ?_
  refine lv_icmp_gt (tgt := 24) hx hb dX8_apply_3 (by decide) (fun h4 => ?_) (fun h4 => ?_)
  · replace hF := hF.1 h4
    refine lv_iload_n hx hb dX8_apply_24 rfl (lv_at hl 1 rfl) ?_
    refine lv_bipush (v := 18) hx hb dX8_apply_25 (by decide) ?_
    refine lv_icmp_gt (tgt := 54) hx hb dX8_apply_27 (by decide) (fun h5 => ?_) (fun h5 => ?_)
    · replace hF := hF.1 h5
      refine lv_iload_n hx hb dX8_apply_54 rfl (lv_at hl 1 rfl) ?_
      refine lv_bipush (v := 25) hx hb dX8_apply_55 (by decide) ?_
      refine lv_icmp_gt (tgt := 68) hx hb dX8_apply_57 (by decide) (fun h6 => ?_) (fun h6 => ?_)
      · replace hF := hF.1 h6
        refine lv_iload_n hx hb dX8_apply_68 rfl (lv_at hl 1 rfl) ?_
        refine lv_bipush (v := 30) hx hb dX8_apply_69 (by decide) ?_
        refine lv_icmp_gt (tgt := 102) hx hb dX8_apply_71 (by decide) (fun h7 => ?_) (fun h7 => ?_)
        · replace hF := hF.1 h7
          refine lv_iload_n hx hb dX8_apply_102 rfl (lv_at hl 1 rfl) ?_
          refine lv_bipush (v := 33) hx hb dX8_apply_103 (by decide) ?_
          refine lv_icmp_gt (tgt := 126) hx hb dX8_apply_105 (by decide) (fun h8 => ?_) (fun h8 => ?_)
          · replace hF := hF.1 h8
            refine lv_iload_n hx hb dX8_apply_126 rfl (lv_at hl 1 rfl) ?_
            refine lv_bipush (v := 34) hx hb dX8_apply_127 (by decide) ?_
            refine lv_icmp_ne (tgt := 139) hx hb dX8_apply_129 (by decide) (fun h9 => ?_) (fun h9 => ?_)
            · replace hF := hF.1 h9
              refine lv_iload_n hx hb dX8_apply_139 rfl (lv_at hl 1 rfl) ?_
              refine lv_bipush (v := 36) hx hb dX8_apply_140 (by decide) ?_
              refine lv_icmp_gt (tgt := 207) hx hb dX8_apply_142 (by decide) (fun h10 => ?_) (fun h10 => ?_)
              · replace hF := hF.1 h10
                refine lv_aload_n hx hb dX8_apply_207 rfl (lv_at hl 0 rfl) ?_
                refine lv_iload_n hx hb dX8_apply_208 rfl (lv_at hl 1 rfl) ?_
                refine sm_vv (As := [.int p1]) (rest := []) hP hK hD hE hS hA ⟨hx, hb, hml, hown, hts⟩ hl.1 (c_X8_applyEnd l D H.size t0 σ α p1 _ hF) (cwV 1 hts wg_X8_apply_X8_applyEnd_193 rfl rfl rfl (by decide +kernel) ⟨Nat.le_of_ble_eq_true rfl, Nat.le_of_ble_eq_true rfl⟩) (va_recv hK hP (ci := 8) (q0 := 8) rfl (sm_gX8 σ α)) rfl rfl (Nat.le_of_ble_eq_true rfl) dX8_apply_209 ⟨Nat.zero_le _, Nat.zero_le _⟩ (fun σ11 H locs hF hP hS => ?_)
                exact B212 σ11 hF H locs ls hP hS (lv_sub hl [] rfl)
              · replace hF := hF.2 h10
                refine lv_aload_n hx hb dX8_apply_145 rfl (lv_at hl 0 rfl) ?_
                refine va_get (D := D) (ci := 8) (v := .ref (α.1 2)) (C := RX8) (T := TX8) (N := 13) hx hb hts in_X8 hown hK hP 8 (sm_gX8 σ α) rfl 0 (by decide) k_0 (fun _ h9 => h9) rfl dX8_apply_146 ?_
                refine lv_iload_n hx hb dX8_apply_149 rfl (lv_at hl 2 rfl) ?_
                refine lv_iconst (v := 1) hx hb dX8_apply_150 (by decide) ?_
                refine lv_iadd hx hb dX8_apply_151 ?_
                refine sm_vi (As := [.int (p2 + 1)]) (rest := []) hP hK hD hE hS hA ⟨hx, hb, hml, hown, hts⟩ hl.1 (c_X2_at l D H.size t0 σ α (p2 + 1) _ hF) (cwV 1 hts wg_X8_apply_X2_at_107 rfl rfl rfl (by decide +kernel) ⟨Nat.le_of_ble_eq_true rfl, Nat.le_of_ble_eq_true rfl⟩) (va_recv hK hP (ci := 2) (q0 := 2) rfl (sm_gX2 σ α)) rfl rfl (Nat.le_of_ble_eq_true rfl) dX8_apply_152 ⟨Nat.zero_le _, Nat.zero_le _⟩ (fun r13 σ12 H locs hF hP hS => ?_)
                refine lv_istore_n (lv' := [(3, .int r13), (0, .ref (α.1 8)), (1, .int p1), (2, .int p2)]) hx hb dX8_apply_155 rfl hl (by decide) rfl (fun ls hl => ?_)
                refine lv_aload_n hx hb dX8_apply_156 rfl (lv_at hl 1 rfl) ?_
                refine lv_iload_n hx hb dX8_apply_157 rfl (lv_at hl 2 rfl) ?_
                refine lv_bipush (v := 35) hx hb dX8_apply_158 (by decide) ?_
                refine lv_icmp_ne (tgt := 167) hx hb dX8_apply_160 (by decide) (fun h14 => ?_) (fun h14 => ?_)
                · replace hF := hF.1 h14
                  refine lv_aload_n hx hb dX8_apply_167 rfl (lv_at hl 1 rfl) ?_
                  refine va_get (D := D) (ci := 8) (v := .ref (α.1 0)) (C := RX8) (T := TX8) (N := 13) hx hb hts in_X8 hown hK hP 8 (sm_gX8 σ12 α) rfl 1 (by decide) k_1 (fun _ h9 => h9) rfl dX8_apply_168 ?_
                  refine va_get (D := D) (ci := 0) (v := .ref (α.1 14)) (C := RX0) (T := TX0) (N := 7) hx hb hts in_X0 hown hK hP 0 (sm_gX0 σ12 α) rfl 4 (by decide) k_2 (fun _ h9 => h9) rfl dX8_apply_171 ?_
                  refine lv_iload_n hx hb dX8_apply_174 rfl (lv_at hl 0 rfl) ?_
                  refine lv_bipush (v := 16) hx hb dX8_apply_175 (by decide) ?_
                  refine lv_imul hx hb dX8_apply_177 ?_
                  refine lv_aload_n hx hb dX8_apply_178 rfl (lv_at hl 1 rfl) ?_
                  refine va_get (D := D) (ci := 8) (v := .ref (α.1 2)) (C := RX8) (T := TX8) (N := 13) hx hb hts in_X8 hown hK hP 8 (sm_gX8 σ12 α) rfl 0 (by decide) k_0 (fun _ h9 => h9) rfl dX8_apply_179 ?_
                  refine lv_iload_n hx hb dX8_apply_182 rfl (lv_at hl 3 rfl) ?_
                  refine lv_iconst (v := 2) hx hb dX8_apply_183 (by decide) ?_
                  refine lv_iadd hx hb dX8_apply_184 ?_
                  refine sm_vi (As := [.int (p2 + 2)]) (rest := [.int (r13 * 16), .ref (α.1 14), .ref (α.1 8)]) hP hK hD hE hS hA ⟨hx, hb, hml, hown, hts⟩ hl.1 (c_X2_at l D H.size t0 σ12 α (p2 + 2) _ hF) (cwV 1 hts wg_X8_apply_X2_at_107 rfl rfl rfl (by decide +kernel) ⟨Nat.le_of_ble_eq_true rfl, Nat.le_of_ble_eq_true rfl⟩) (va_recv hK hP (ci := 2) (q0 := 2) rfl (sm_gX2 σ12 α)) rfl rfl (Nat.le_of_ble_eq_true rfl) dX8_apply_185 ⟨Nat.zero_le _, Nat.zero_le _⟩ (fun r16 σ15 H locs hF hP hS => ?_)
                  refine lv_iadd hx hb dX8_apply_188 ?_
                  obtain ⟨h17, hF⟩ := hF
                  refine va_iald (n := (σ15.2.2.1 14)) (f := (σ15.2.2.2.1 14)) hx hb hK hP 14 3 (sm_aX14 σ15 α) (sm_yX14 α) h17 dX8_apply_189 ?_
                  exact B190 σ15 p1 r13 ((σ15.2.2.2.1 14) ((r13 * 16) + r16).toNatClampNeg) hF H locs ls hP hS (lv_sub hl [2, 0] rfl)
                · replace hF := hF.2 h14
                  refine lv_iload_n hx hb dX8_apply_163 rfl (lv_at hl 0 rfl) ?_
                  refine lv_goto (tgt := 190) hx hb dX8_apply_164 (by decide) ?_
                  exact B190 σ12 p1 r13 r13 hF H locs ls hP hS (lv_sub hl [2, 0] rfl)
            · replace hF := hF.2 h9
              refine lv_aload_n hx hb dX8_apply_132 rfl (lv_at hl 0 rfl) ?_
              refine sm_vv (As := []) (rest := []) hP hK hD hE hS hA ⟨hx, hb, hml, hown, hts⟩ hl.1 (c_X8_applyTo l D H.size t0 σ α _ hF) (cwV 0 hts wg_X8_apply_X8_applyTo_184 rfl rfl rfl (by decide +kernel) ⟨Nat.le_of_ble_eq_true rfl, Nat.le_of_ble_eq_true rfl⟩) (va_recv hK hP (ci := 8) (q0 := 8) rfl (sm_gX8 σ α)) rfl rfl (Nat.le_of_ble_eq_true rfl) dX8_apply_133 ⟨Nat.zero_le _, Nat.zero_le _⟩ (fun σ18 H locs hF hP hS => ?_)
              refine lv_goto (tgt := 212) hx hb dX8_apply_136 (by decide) ?_
              exact B212 σ18 hF H locs ls hP hS (lv_sub hl [] rfl)
          · replace hF := hF.2 h8
            refine lv_aload_n hx hb dX8_apply_108 rfl (lv_at hl 0 rfl) ?_
            refine lv_iload_n hx hb dX8_apply_109 rfl (lv_at hl 1 rfl) ?_
            refine lv_aload_n hx hb dX8_apply_110 rfl (lv_at hl 0 rfl) ?_
            refine va_get (D := D) (ci := 8) (v := .ref (α.1 2)) (C := RX8) (T := TX8) (N := 13) hx hb hts in_X8 hown hK hP 8 (sm_gX8 σ α) rfl 0 (by decide) k_0 (fun _ h9 => h9) rfl dX8_apply_111 ?_
            refine lv_iload_n hx hb dX8_apply_114 rfl (lv_at hl 2 rfl) ?_
            refine lv_iconst (v := 1) hx hb dX8_apply_115 (by decide) ?_
            refine lv_iadd hx hb dX8_apply_116 ?_
            refine sm_vi (As := [.int (p2 + 1)]) (rest := [.int p1, .ref (α.1 8)]) hP hK hD hE hS hA ⟨hx, hb, hml, hown, hts⟩ hl.1 (c_X2_at l D H.size t0 σ α (p2 + 1) _ hF) (cwV 1 hts wg_X8_apply_X2_at_107 rfl rfl rfl (by decide +kernel) ⟨Nat.le_of_ble_eq_true rfl, Nat.le_of_ble_eq_true rfl⟩) (va_recv hK hP (ci := 2) (q0 := 2) rfl (sm_gX2 σ α)) rfl rfl (Nat.le_of_ble_eq_true rfl) dX8_apply_117 ⟨Nat.zero_le _, Nat.zero_le _⟩ (fun r20 σ19 H locs hF hP hS => ?_)
            refine sm_vv (As := [.int p1, .int r20]) (rest := []) hP hK hD hE hS hA ⟨hx, hb, hml, hown, hts⟩ hl.1 (c_X8_applyRow l D H.size t0 σ19 α p1 r20 _ hF) (cwV 2 hts wg_X8_apply_X8_applyRow_181 rfl rfl rfl (by decide +kernel) ⟨Nat.le_of_ble_eq_true rfl, Nat.le_of_ble_eq_true rfl⟩) (va_recv hK hP (ci := 8) (q0 := 8) rfl (sm_gX8 σ19 α)) rfl rfl (Nat.le_of_ble_eq_true rfl) dX8_apply_120 ⟨Nat.zero_le _, Nat.zero_le _⟩ (fun σ21 H locs hF hP hS => ?_)
            refine lv_goto (tgt := 212) hx hb dX8_apply_123 (by decide) ?_
            exact B212 σ21 hF H locs ls hP hS (lv_sub hl [] rfl)
        · replace hF := hF.2 h7
          refine lv_aload_n hx hb dX8_apply_74 rfl (lv_at hl 0 rfl) ?_
          refine lv_iload_n hx hb dX8_apply_75 rfl (lv_at hl 1 rfl) ?_
          refine lv_aload_n hx hb dX8_apply_76 rfl (lv_at hl 0 rfl) ?_
          refine va_get (D := D) (ci := 8) (v := .ref (α.1 2)) (C := RX8) (T := TX8) (N := 13) hx hb hts in_X8 hown hK hP 8 (sm_gX8 σ α) rfl 0 (by decide) k_0 (fun _ h9 => h9) rfl dX8_apply_77 ?_
          refine lv_iload_n hx hb dX8_apply_80 rfl (lv_at hl 2 rfl) ?_
          refine lv_iconst (v := 1) hx hb dX8_apply_81 (by decide) ?_
          refine lv_iadd hx hb dX8_apply_82 ?_
          refine sm_vi (As := [.int (p2 + 1)]) (rest := [.int p1, .ref (α.1 8)]) hP hK hD hE hS hA ⟨hx, hb, hml, hown, hts⟩ hl.1 (c_X2_at l D H.size t0 σ α (p2 + 1) _ hF) (cwV 1 hts wg_X8_apply_X2_at_107 rfl rfl rfl (by decide +kernel) ⟨Nat.le_of_ble_eq_true rfl, Nat.le_of_ble_eq_true rfl⟩) (va_recv hK hP (ci := 2) (q0 := 2) rfl (sm_gX2 σ α)) rfl rfl (Nat.le_of_ble_eq_true rfl) dX8_apply_83 ⟨Nat.zero_le _, Nat.zero_le _⟩ (fun r23 σ22 H locs hF hP hS => ?_)
          refine lv_aload_n hx hb dX8_apply_86 rfl (lv_at hl 0 rfl) ?_
          refine va_get (D := D) (ci := 8) (v := .ref (α.1 2)) (C := RX8) (T := TX8) (N := 13) hx hb hts in_X8 hown hK hP 8 (sm_gX8 σ22 α) rfl 0 (by decide) k_0 (fun _ h9 => h9) rfl dX8_apply_87 ?_
          refine lv_iload_n hx hb dX8_apply_90 rfl (lv_at hl 2 rfl) ?_
          refine lv_iconst (v := 2) hx hb dX8_apply_91 (by decide) ?_
          refine lv_iadd hx hb dX8_apply_92 ?_
          refine sm_vi (As := [.int (p2 + 2)]) (rest := [.int r23, .int p1, .ref (α.1 8)]) hP hK hD hE hS hA ⟨hx, hb, hml, hown, hts⟩ hl.1 (c_X2_at l D H.size t0 σ22 α (p2 + 2) _ hF) (cwV 1 hts wg_X8_apply_X2_at_107 rfl rfl rfl (by decide +kernel) ⟨Nat.le_of_ble_eq_true rfl, Nat.le_of_ble_eq_true rfl⟩) (va_recv hK hP (ci := 2) (q0 := 2) rfl (sm_gX2 σ22 α)) rfl rfl (Nat.le_of_ble_eq_true rfl) dX8_apply_93 ⟨Nat.zero_le _, Nat.zero_le _⟩ (fun r25 σ24 H locs hF hP hS => ?_)
          refine sm_vv (As := [.int p1, .int r23, .int r25]) (rest := []) hP hK hD hE hS hA ⟨hx, hb, hml, hown, hts⟩ hl.1 (c_X8_applyObject l D H.size t0 σ24 α p1 r23 r25 _ hF) (cwV 3 hts wg_X8_apply_X8_applyObject_177 rfl rfl rfl (by decide +kernel) ⟨Nat.le_of_ble_eq_true rfl, Nat.le_of_ble_eq_true rfl⟩) (va_recv hK hP (ci := 8) (q0 := 8) rfl (sm_gX8 σ24 α)) rfl rfl (Nat.le_of_ble_eq_true rfl) dX8_apply_96 ⟨Nat.zero_le _, Nat.zero_le _⟩ (fun σ26 H locs hF hP hS => ?_)
          refine lv_goto (tgt := 212) hx hb dX8_apply_99 (by decide) ?_
          exact B212 σ26 hF H locs ls hP hS (lv_sub hl [] rfl)
      · replace hF := hF.2 h6
        refine lv_aload_n hx hb dX8_apply_60 rfl (lv_at hl 0 rfl) ?_
        refine lv_iload_n hx hb dX8_apply_61 rfl (lv_at hl 1 rfl) ?_
        refine sm_vv (As := [.int p1]) (rest := []) hP hK hD hE hS hA ⟨hx, hb, hml, hown, hts⟩ hl.1 (c_X8_applyJump l D H.size t0 σ α p1 _ hF) (cwV 1 hts wg_X8_apply_X8_applyJump_174 rfl rfl rfl (by decide +kernel) ⟨Nat.le_of_ble_eq_true rfl, Nat.le_of_ble_eq_true rfl⟩) (va_recv hK hP (ci := 8) (q0 := 8) rfl (sm_gX8 σ α)) rfl rfl (Nat.le_of_ble_eq_true rfl) dX8_apply_62 ⟨Nat.zero_le _, Nat.zero_le _⟩ (fun σ27 H locs hF hP hS => ?_)
        refine lv_goto (tgt := 212) hx hb dX8_apply_65 (by decide) ?_
        exact B212 σ27 hF H locs ls hP hS (lv_sub hl [] rfl)
    · replace hF := hF.2 h5
      refine lv_aload_n hx hb dX8_apply_30 rfl (lv_at hl 0 rfl) ?_
      refine lv_iconst (v := 0) hx hb dX8_apply_31 (by decide) ?_
      refine sm_vv (As := [.int 0]) (rest := []) hP hK hD hE hS hA ⟨hx, hb, hml, hown, hts⟩ hl.1 (c_X8_takeFor l D H.size t0 σ α 0 _ hF) (cwV 1 hts wg_X8_apply_X8_takeFor_168 rfl rfl rfl (by decide +kernel) ⟨Nat.le_of_ble_eq_true rfl, Nat.le_of_ble_eq_true rfl⟩) (va_recv hK hP (ci := 8) (q0 := 8) rfl (sm_gX8 σ α)) rfl rfl (Nat.le_of_ble_eq_true rfl) dX8_apply_32 ⟨Nat.zero_le _, Nat.zero_le _⟩ (fun σ28 H locs hF hP hS => ?_)
      refine lv_iload_n hx hb dX8_apply_35 rfl (lv_at hl 1 rfl) ?_
      refine lv_bipush (v := 18) hx hb dX8_apply_36 (by decide) ?_
      refine lv_icmp_eq (tgt := 46) hx hb dX8_apply_38 (by decide) (fun h29 => ?_) (fun h29 => ?_)
      · replace hF := hF.1 h29
        exact B46 σ28 hF H locs ls hP hS (lv_sub hl [0] rfl)
      · replace hF := hF.2 h29
        refine lv_aload_n hx hb dX8_apply_41 rfl (lv_at hl 0 rfl) ?_
        refine lv_iconst (v := 0) hx hb dX8_apply_42 (by decide) ?_
        refine sm_vv (As := [.int 0]) (rest := []) hP hK hD hE hS hA ⟨hx, hb, hml, hown, hts⟩ hl.1 (c_X8_takeFor l D H.size t0 σ28 α 0 _ hF) (cwV 1 hts wg_X8_apply_X8_takeFor_168 rfl rfl rfl (by decide +kernel) ⟨Nat.le_of_ble_eq_true rfl, Nat.le_of_ble_eq_true rfl⟩) (va_recv hK hP (ci := 8) (q0 := 8) rfl (sm_gX8 σ28 α)) rfl rfl (Nat.le_of_ble_eq_true rfl) dX8_apply_43 ⟨Nat.zero_le _, Nat.zero_le _⟩ (fun σ30 H locs hF hP hS => ?_)
        exact B46 σ30 hF H locs ls hP hS (lv_sub hl [0] rfl)
  · replace hF := hF.2 h4
    refine lv_aload_n hx hb dX8_apply_6 rfl (lv_at hl 0 rfl) ?_
    refine lv_iload_n hx hb dX8_apply_7 rfl (lv_at hl 1 rfl) ?_
    refine lv_aload_n hx hb dX8_apply_8 rfl (lv_at hl 0 rfl) ?_
    refine va_get (D := D) (ci := 8) (v := .ref (α.1 2)) (C := RX8) (T := TX8) (N := 13) hx hb hts in_X8 hown hK hP 8 (sm_gX8 σ α) rfl 0 (by decide) k_0 (fun _ h9 => h9) rfl dX8_apply_9 ?_
    refine lv_iload_n hx hb dX8_apply_12 rfl (lv_at hl 2 rfl) ?_
    refine lv_iconst (v := 1) hx hb dX8_apply_13 (by decide) ?_
    refine lv_iadd hx hb dX8_apply_14 ?_
    refine sm_vi (As := [.int (p2 + 1)]) (rest := [.int p1, .ref (α.1 8)]) hP hK hD hE hS hA ⟨hx, hb, hml, hown, hts⟩ hl.1 (c_X2_at l D H.size t0 σ α (p2 + 1) _ hF) (cwV 1 hts wg_X8_apply_X2_at_107 rfl rfl rfl (by decide +kernel) ⟨Nat.le_of_ble_eq_true rfl, Nat.le_of_ble_eq_true rfl⟩) (va_recv hK hP (ci := 2) (q0 := 2) rfl (sm_gX2 σ α)) rfl rfl (Nat.le_of_ble_eq_true rfl) dX8_apply_15 ⟨Nat.zero_le _, Nat.zero_le _⟩ (fun r32 σ31 H locs hF hP hS => ?_)
    refine sm_vv (As := [.int p1, .int r32]) (rest := []) hP hK hD hE hS hA ⟨hx, hb, hml, hown, hts⟩ hl.1 (c_X8_applyMove l D H.size t0 σ31 α p1 r32 _ hF) (cwV 2 hts wg_X8_apply_X8_applyMove_165 rfl rfl rfl (by decide +kernel) ⟨Nat.le_of_ble_eq_true rfl, Nat.le_of_ble_eq_true rfl⟩) (va_recv hK hP (ci := 8) (q0 := 8) rfl (sm_gX8 σ31 α)) rfl rfl (Nat.le_of_ble_eq_true rfl) dX8_apply_18 ⟨Nat.zero_le _, Nat.zero_le _⟩ (fun σ33 H locs hF hP hS => ?_)
    refine lv_goto (tgt := 212) hx hb dX8_apply_21 (by decide) ?_
    exact B212 σ33 hF H locs ls hP hS (lv_sub hl [] rfl)
theorem dX8_takeWhatStands_0 : decode cX8_takeWhatStands 0 = .ok (.aload_n 0, 1) := by decide +kernel
theorem dX8_takeWhatStands_1 : decode cX8_takeWhatStands 1 = .ok (.aload_n 0, 1) := by decide +kernel
theorem dX8_takeWhatStands_2 : decode cX8_takeWhatStands 2 = .ok (.getfield 9, 3) := by decide +kernel
theorem dX8_takeWhatStands_5 : decode cX8_takeWhatStands 5 = .ok (.iload_n 1, 1) := by decide +kernel
theorem dX8_takeWhatStands_6 : decode cX8_takeWhatStands 6 = .ok (.baload, 1) := by decide +kernel
theorem dX8_takeWhatStands_7 : decode cX8_takeWhatStands 7 = .ok (.putfield 121, 3) := by decide +kernel
theorem dX8_takeWhatStands_10 : decode cX8_takeWhatStands 10 = .ok (.iconst 0, 1) := by decide +kernel
theorem dX8_takeWhatStands_11 : decode cX8_takeWhatStands 11 = .ok (.istore_n 2, 1) := by decide +kernel
theorem dX8_takeWhatStands_12 : decode cX8_takeWhatStands 12 = .ok (.iload_n 2, 1) := by decide +kernel
theorem dX8_takeWhatStands_13 : decode cX8_takeWhatStands 13 = .ok (.aload_n 0, 1) := by decide +kernel
theorem dX8_takeWhatStands_14 : decode cX8_takeWhatStands 14 = .ok (.getfield 75, 3) := by decide +kernel
theorem dX8_takeWhatStands_17 : decode cX8_takeWhatStands 17 = .ok (.aload_n 0, 1) := by decide +kernel
theorem dX8_takeWhatStands_18 : decode cX8_takeWhatStands 18 = .ok (.getfield 121, 3) := by decide +kernel
theorem dX8_takeWhatStands_21 : decode cX8_takeWhatStands 21 = .ok (.iadd, 1) := by decide +kernel
theorem dX8_takeWhatStands_22 : decode cX8_takeWhatStands 22 = .ok (.if_icmp .ge 26, 3) := by decide +kernel
theorem dX8_takeWhatStands_25 : decode cX8_takeWhatStands 25 = .ok (.aload_n 0, 1) := by decide +kernel
theorem dX8_takeWhatStands_26 : decode cX8_takeWhatStands 26 = .ok (.getfield 22, 3) := by decide +kernel
theorem dX8_takeWhatStands_29 : decode cX8_takeWhatStands 29 = .ok (.iload_n 2, 1) := by decide +kernel
theorem dX8_takeWhatStands_30 : decode cX8_takeWhatStands 30 = .ok (.aload_n 0, 1) := by decide +kernel
theorem dX8_takeWhatStands_31 : decode cX8_takeWhatStands 31 = .ok (.getfield 15, 3) := by decide +kernel
theorem dX8_takeWhatStands_34 : decode cX8_takeWhatStands 34 = .ok (.iload_n 1, 1) := by decide +kernel
theorem dX8_takeWhatStands_35 : decode cX8_takeWhatStands 35 = .ok (.bipush 12, 2) := by decide +kernel
theorem dX8_takeWhatStands_37 : decode cX8_takeWhatStands 37 = .ok (.imul, 1) := by decide +kernel
theorem dX8_takeWhatStands_38 : decode cX8_takeWhatStands 38 = .ok (.iload_n 2, 1) := by decide +kernel
theorem dX8_takeWhatStands_39 : decode cX8_takeWhatStands 39 = .ok (.iadd, 1) := by decide +kernel
theorem dX8_takeWhatStands_40 : decode cX8_takeWhatStands 40 = .ok (.baload, 1) := by decide +kernel
theorem dX8_takeWhatStands_41 : decode cX8_takeWhatStands 41 = .ok (.iastore, 1) := by decide +kernel
theorem dX8_takeWhatStands_42 : decode cX8_takeWhatStands 42 = .ok (.iinc 2 1, 3) := by decide +kernel
theorem dX8_takeWhatStands_45 : decode cX8_takeWhatStands 45 = .ok (.goto (-33), 3) := by decide +kernel
theorem dX8_takeWhatStands_48 : decode cX8_takeWhatStands 48 = .ok (.return_, 1) := by decide +kernel
def wp_X8_takeWhatStands : List Cond := .code yX8_takeWhatStands cX8_takeWhatStands 3 none :: ([.fieldLink RX8 75 "SteadyMachine$Verifier" "locals" "I", .fieldLink RX8 121 "SteadyMachine$Verifier" "height" "I", .fieldLink RX8 22 "SteadyMachine$Verifier" "now" "[I", .fieldLink RX8 15 "SteadyMachine$Verifier" "types" "[B", .fieldLink RX8 9 "SteadyMachine$Verifier" "heights" "[B"] ++ wsX80)
theorem wq_X8_takeWhatStands : wp_X8_takeWhatStands.all goodWord = true := wa_c rfl (wa_a (by decide +kernel) uq_X8)
theorem wt_X8_takeWhatStands : GoodIn lw_tbl wp_X8_takeWhatStands := wm_c (List.mem_of_getElem? (i := 786) (by decide +kernel)) rfl (wm_a (goodIn_r _ [384, 382, 381, 379, 378] (by decide +kernel) (by decide +kernel)) ut_X8)
theorem wi_X8_takeWhatStands_X8 : ∀ w ∈ wsX80, w ∈ wp_X8_takeWhatStands := fun w h => List.mem_cons_of_mem _ (List.mem_append_right _ h)
set_option maxHeartbeats 4000000 in
set_option maxRecDepth 100000 in
theorem c_X8_takeWhatStands (l : Launch) (D : va_G) (sz t0 : Nat) (σ : sm_S) (α : sm_A) (p1 : Int32) (K : sm_S → Prop) (hF : mp_X8_takeWhatStands σ p1 K) : Met l yX8_takeWhatStands wp_X8_takeWhatStands { frames := 0, cells := 0, slots := 0, locals := 0 } (sm_P sm_wX sm_tX 37 D sz t0 σ α [.ref (α.1 8), .int p1]) (va_Qv K (sm_B sm_wX D α) (sm_a α 37 sz)) 0 0 (sm_a α 37 sz) := by
  refine Met.ofW (cc := cX8_takeWhatStands) (maxL := 3) (ret := none) (by decide) rfl ?_
  intro p e s m args below meth c s₁ B hml hv
  obtain ⟨rfl, hsz, hP, hK, hD0, hE⟩ := hv
  have hx := B.exec
  have hb := B.bytes
  have hr := B.returns
  have hts := atoms_spec (ws := wp_X8_takeWhatStands) B.pre
  have hown : s.vm.findClass RX8 = some m.cls := findClass_of_methodNamed B.named
  have hlocks := B.notSynchronized
  subst hsz
  have hD : sm_D (sm_a α 37 s.heap.size) α 37 := hD0.own
  have hA : ∀ q : Nat, s.heap.size ≤ q → sm_a α 37 s.heap.size q := fun q h => Or.inr h
  generalize hAe : sm_a α 37 s.heap.size = A at hD hA hE ⊢
  have hS : va_S A s.heap s.heap [] := va_S.rf
  have in_X8 : ∀ w ∈ wsX80, w ∈ wp_X8_takeWhatStands := wi_X8_takeWhatStands_X8
  have k_0 := hts (.fieldLink RX8 75 "SteadyMachine$Verifier" "locals" "I") (by decide +kernel)
  have k_1 := hts (.fieldLink RX8 121 "SteadyMachine$Verifier" "height" "I") (by decide +kernel)
  have k_2 := hts (.fieldLink RX8 22 "SteadyMachine$Verifier" "now" "[I") (by decide +kernel)
  have k_3 := hts (.fieldLink RX8 15 "SteadyMachine$Verifier" "types" "[B") (by decide +kernel)
  have k_4 := hts (.fieldLink RX8 9 "SteadyMachine$Verifier" "heights" "[B") (by decide +kernel)
  have hl := lv_entry ([.ref (α.1 8), .int p1]) (n := 3) (Nat.le_of_ble_eq_true rfl)
  rw [lg_entry_eq]
  generalize (lg_sl ([.ref (α.1 8), .int p1]) ++ List.replicate (3 - (lg_sl ([.ref (α.1 8), .int p1])).length) Slot.unset).toArray = ls at hl ⊢
  have hl : lv_has ls 3 [(0, .ref (α.1 8)), (1, .int p1)] := hl
  have B12 : ∀ (n : Nat) (σ : sm_S) (x1 : Int32) (x2 : Int32), mp_X8_takeWhatStands_12 K n σ x1 x2 → sm_J p l e (headSpec wp_X8_takeWhatStands { frames := 0, cells := 0, slots := 0, locals := 0 }).room s m ([.ref (α.1 8), .int p1] : List Value).toArray below meth c (MQ below (va_Qv K (sm_B sm_wX D α) A) ([.ref (α.1 8), .int p1] : List Value).toArray s 0 0 A) D A 3 (sm_wX σ α) 12 [(0, .ref (α.1 8)), (1, .int x1), (2, .int x2)] [] := by
    intro n12
    induction n12 with
    | zero =>
      intro σ x1 x2 hF
      exact hF.elim
    | succ n12 ih12 =>
      intro σ x1 x2 hF H locs ls hP hS hl
      unfold mp_X8_takeWhatStands_12 at hF
      refine lv_iload_n hx hb dX8_takeWhatStands_12 rfl (lv_at hl 2 rfl) ?_
      refine lv_aload_n hx hb dX8_takeWhatStands_13 rfl (lv_at hl 0 rfl) ?_
      refine va_get (D := D) (ci := 8) (v := .int (σ.1 31)) (C := RX8) (T := TX8) (N := 13) hx hb hts in_X8 hown hK hP 8 (sm_gX8 σ α) rfl 9 (by decide) k_0 (fun _ h9 => h9) rfl dX8_takeWhatStands_14 ?_
      refine lv_aload_n hx hb dX8_takeWhatStands_17 rfl (lv_at hl 0 rfl) ?_
      refine va_get (D := D) (ci := 8) (v := .int (σ.1 29)) (C := RX8) (T := TX8) (N := 13) hx hb hts in_X8 hown hK hP 8 (sm_gX8 σ α) rfl 7 (by decide) k_1 (fun _ h9 => h9) rfl dX8_takeWhatStands_18 ?_
      refine lv_iadd hx hb dX8_takeWhatStands_21 ?_
      refine lv_icmp_ge (tgt := 48) hx hb dX8_takeWhatStands_22 (by decide) (fun h1 => ?_) (fun h1 => ?_)
      · replace hF := hF.1 h1
        exact W.vret hx hb hr (fun t ht hW => ⟨⟨σ, rfl, hF, (by unfold sm_B; rw [ht]; exact hP)⟩, hS.F ht⟩) hS.2.2 dX8_takeWhatStands_48
      · replace hF := hF.2 h1
        refine lv_aload_n hx hb dX8_takeWhatStands_25 rfl (lv_at hl 0 rfl) ?_
        refine va_get (D := D) (ci := 8) (v := .ref (α.1 35)) (C := RX8) (T := TX8) (N := 13) hx hb hts in_X8 hown hK hP 8 (sm_gX8 σ α) rfl 6 (by decide) k_2 (fun _ h9 => h9) rfl dX8_takeWhatStands_26 ?_
        refine lv_iload_n hx hb dX8_takeWhatStands_29 rfl (lv_at hl 2 rfl) ?_
        refine lv_aload_n hx hb dX8_takeWhatStands_30 rfl (lv_at hl 0 rfl) ?_
        refine va_get (D := D) (ci := 8) (v := .ref (α.1 33)) (C := RX8) (T := TX8) (N := 13) hx hb hts in_X8 hown hK hP 8 (sm_gX8 σ α) rfl 4 (by decide) k_3 (fun _ h9 => h9) rfl dX8_takeWhatStands_31 ?_
        refine lv_iload_n hx hb dX8_takeWhatStands_34 rfl (lv_at hl 1 rfl) ?_
        refine lv_bipush (v := 12) hx hb dX8_takeWhatStands_35 (by decide) ?_
        refine lv_imul hx hb dX8_takeWhatStands_37 ?_
        refine lv_iload_n hx hb dX8_takeWhatStands_38 rfl (lv_at hl 2 rfl) ?_
        refine lv_iadd hx hb dX8_takeWhatStands_39 ?_
        obtain ⟨h2, hF⟩ := hF
        refine va_bald (n := (σ.2.2.1 33)) (f := (σ.2.2.2.1 33)) hx hb hK hP 33 22 (sm_aX33 σ α) (sm_yX33 α) h2 dX8_takeWhatStands_40 ?_
        obtain ⟨h3, hF⟩ := hF
        refine va_iast (n := (σ.2.2.1 35)) (f := (σ.2.2.2.1 35)) (x := ((σ.2.2.2.1 33) ((x1 * 12) + x2).toNatClampNeg)) hx hb hK hP (hD.to (sm_wX_m _ _)) hS 35 24 (sm_aX35 σ α) (sm_yX35 α) h3 dX8_takeWhatStands_41 (fun H locs hP _ hS => ?_)
        rw [sm_rX35] at hP
        obtain ⟨σ4, eσ4⟩ : ∃ x : sm_S, x = sm_r σ 35 (upd (σ.2.2.2.1 35) x2.toNatClampNeg ((σ.2.2.2.1 33) ((x1 * 12) + x2).toNatClampNeg)) := ⟨_, rfl⟩
        replace hF := hF σ4 eσ4
        rw [← eσ4] at hP
        obtain ⟨v5, ev5⟩ : ∃ y : Int32, y = x2 + 1 := ⟨_, rfl⟩
        replace hF := hF v5 ev5
        refine lv_iinc (v := v5) (lv' := [(2, .int v5), (0, .ref (α.1 8)), (1, .int x1)]) hx hb dX8_takeWhatStands_42 hl (k := 2) rfl (by rw [ev5]; rfl) (by decide) rfl (fun ls hl => ?_)
        refine lv_goto (tgt := 12) hx hb dX8_takeWhatStands_45 (by decide) ?_
        exact ih12 σ4 x1 v5 hF H locs ls hP hS (lv_sub hl [1, 2, 0] rfl)
  unfold mp_X8_takeWhatStands at hF
  revert hP hS
  generalize hLo : ([] : List Loc) = locs
  suffices h9 : ∀ (H : Heap) (locs : List Loc), va_P D vwCl (sm_wX σ α) H → va_S A s.heap H locs → W p l e (headSpec wp_X8_takeWhatStands { frames := 0, cells := 0, slots := 0, locals := 0 }).room s m ([.ref (α.1 8), .int p1] : List Value).toArray below meth c H locs 0 0 (MQ below (va_Qv K (sm_B sm_wX D α) A) ([.ref (α.1 8), .int p1] : List Value).toArray s 0 0 A) (F0 m 0 ls []) from fun hP hS => h9 s.heap locs hP hS
  intro H locs hP hS
  refine lv_aload_n hx hb dX8_takeWhatStands_0 rfl (lv_at hl 0 rfl) ?_
  refine lv_aload_n hx hb dX8_takeWhatStands_1 rfl (lv_at hl 0 rfl) ?_
  refine va_get (D := D) (ci := 8) (v := .ref (α.1 32)) (C := RX8) (T := TX8) (N := 13) hx hb hts in_X8 hown hK hP 8 (sm_gX8 σ α) rfl 3 (by decide) k_4 (fun _ h9 => h9) rfl dX8_takeWhatStands_2 ?_
  refine lv_iload_n hx hb dX8_takeWhatStands_5 rfl (lv_at hl 1 rfl) ?_
  obtain ⟨h6, hF⟩ := hF
  refine va_bald (n := (σ.2.2.1 32)) (f := (σ.2.2.2.1 32)) hx hb hK hP 32 21 (sm_aX32 σ α) (sm_yX32 α) h6 dX8_takeWhatStands_6 ?_
  refine va_put (D := D) (ci := 8) (v := .int ((σ.2.2.2.1 32) p1.toNatClampNeg)) (ty := .int) (C := RX8) (T := TX8) (N := 13) hx hb hts in_X8 tyX8 tyX8_ok nmX8 hown hK hP (hD.to (sm_wX_m _ _)) hS 8 (sm_gX8 σ α) rfl 7 (by decide) k_1 (fun _ h9 => h9) rfl (by decide +kernel) rfl rfl (Nat.le_of_ble_eq_true rfl) dX8_takeWhatStands_7 (fun H locs hP _ hS => ?_)
  rw [sm_iX29] at hP
  obtain ⟨σ7, eσ7⟩ : ∃ x : sm_S, x = sm_i σ 29 ((σ.2.2.2.1 32) p1.toNatClampNeg) := ⟨_, rfl⟩
  replace hF := hF σ7 eσ7
  rw [← eσ7] at hP
  refine lv_iconst (v := 0) hx hb dX8_takeWhatStands_10 (by decide) ?_
  refine lv_istore_n (lv' := [(2, .int 0), (0, .ref (α.1 8)), (1, .int p1)]) hx hb dX8_takeWhatStands_11 rfl hl (by decide) rfl (fun ls hl => ?_)
  obtain ⟨n12, hF⟩ := hF
  exact B12 n12 σ7 p1 0 hF H locs ls hP hS (lv_sub hl [1, 2, 0] rfl)
theorem dX8_comeToHandlers_0 : decode cX8_comeToHandlers 0 = .ok (.iload_n 1, 1) := by decide +kernel
theorem dX8_comeToHandlers_1 : decode cX8_comeToHandlers 1 = .ok (.aload_n 0, 1) := by decide +kernel
theorem dX8_comeToHandlers_2 : decode cX8_comeToHandlers 2 = .ok (.getfield 41, 3) := by decide +kernel
theorem dX8_comeToHandlers_5 : decode cX8_comeToHandlers 5 = .ok (.getfield 66, 3) := by decide +kernel
theorem dX8_comeToHandlers_8 : decode cX8_comeToHandlers 8 = .ok (.aload_n 0, 1) := by decide +kernel
theorem dX8_comeToHandlers_9 : decode cX8_comeToHandlers 9 = .ok (.getfield 72, 3) := by decide +kernel
theorem dX8_comeToHandlers_12 : decode cX8_comeToHandlers 12 = .ok (.iaload, 1) := by decide +kernel
theorem dX8_comeToHandlers_13 : decode cX8_comeToHandlers 13 = .ok (.isub, 1) := by decide +kernel
theorem dX8_comeToHandlers_14 : decode cX8_comeToHandlers 14 = .ok (.istore_n 2, 1) := by decide +kernel
theorem dX8_comeToHandlers_15 : decode cX8_comeToHandlers 15 = .ok (.iconst 0, 1) := by decide +kernel
theorem dX8_comeToHandlers_16 : decode cX8_comeToHandlers 16 = .ok (.istore_n 3, 1) := by decide +kernel
theorem dX8_comeToHandlers_17 : decode cX8_comeToHandlers 17 = .ok (.iload_n 3, 1) := by decide +kernel
theorem dX8_comeToHandlers_18 : decode cX8_comeToHandlers 18 = .ok (.aload_n 0, 1) := by decide +kernel
theorem dX8_comeToHandlers_19 : decode cX8_comeToHandlers 19 = .ok (.getfield 41, 3) := by decide +kernel
theorem dX8_comeToHandlers_22 : decode cX8_comeToHandlers 22 = .ok (.getfield 130, 3) := by decide +kernel
theorem dX8_comeToHandlers_25 : decode cX8_comeToHandlers 25 = .ok (.aload_n 0, 1) := by decide +kernel
theorem dX8_comeToHandlers_26 : decode cX8_comeToHandlers 26 = .ok (.getfield 72, 3) := by decide +kernel
theorem dX8_comeToHandlers_29 : decode cX8_comeToHandlers 29 = .ok (.iaload, 1) := by decide +kernel
theorem dX8_comeToHandlers_30 : decode cX8_comeToHandlers 30 = .ok (.if_icmp .ge 141, 3) := by decide +kernel
theorem dX8_comeToHandlers_33 : decode cX8_comeToHandlers 33 = .ok (.aload_n 0, 1) := by decide +kernel
theorem dX8_comeToHandlers_34 : decode cX8_comeToHandlers 34 = .ok (.getfield 50, 3) := by decide +kernel
theorem dX8_comeToHandlers_37 : decode cX8_comeToHandlers 37 = .ok (.iconst (-1), 1) := by decide +kernel
theorem dX8_comeToHandlers_38 : decode cX8_comeToHandlers 38 = .ok (.if_icmp .ne 133, 3) := by decide +kernel
theorem dX8_comeToHandlers_41 : decode cX8_comeToHandlers 41 = .ok (.aload_n 0, 1) := by decide +kernel
theorem dX8_comeToHandlers_42 : decode cX8_comeToHandlers 42 = .ok (.getfield 41, 3) := by decide +kernel
theorem dX8_comeToHandlers_45 : decode cX8_comeToHandlers 45 = .ok (.getfield 133, 3) := by decide +kernel
theorem dX8_comeToHandlers_48 : decode cX8_comeToHandlers 48 = .ok (.aload_n 0, 1) := by decide +kernel
theorem dX8_comeToHandlers_49 : decode cX8_comeToHandlers 49 = .ok (.getfield 72, 3) := by decide +kernel
theorem dX8_comeToHandlers_52 : decode cX8_comeToHandlers 52 = .ok (.iaload, 1) := by decide +kernel
theorem dX8_comeToHandlers_53 : decode cX8_comeToHandlers 53 = .ok (.iload_n 3, 1) := by decide +kernel
theorem dX8_comeToHandlers_54 : decode cX8_comeToHandlers 54 = .ok (.bipush 7, 2) := by decide +kernel
theorem dX8_comeToHandlers_56 : decode cX8_comeToHandlers 56 = .ok (.imul, 1) := by decide +kernel
theorem dX8_comeToHandlers_57 : decode cX8_comeToHandlers 57 = .ok (.iadd, 1) := by decide +kernel
theorem dX8_comeToHandlers_58 : decode cX8_comeToHandlers 58 = .ok (.istore 4, 2) := by decide +kernel
theorem dX8_comeToHandlers_60 : decode cX8_comeToHandlers 60 = .ok (.aload_n 0, 1) := by decide +kernel
theorem dX8_comeToHandlers_61 : decode cX8_comeToHandlers 61 = .ok (.getfield 26, 3) := by decide +kernel
theorem dX8_comeToHandlers_64 : decode cX8_comeToHandlers 64 = .ok (.iload 4, 2) := by decide +kernel
theorem dX8_comeToHandlers_66 : decode cX8_comeToHandlers 66 = .ok (.invokevirtual 127, 3) := by decide +kernel
theorem dX8_comeToHandlers_69 : decode cX8_comeToHandlers 69 = .ok (.iload_n 2, 1) := by decide +kernel
theorem dX8_comeToHandlers_70 : decode cX8_comeToHandlers 70 = .ok (.if_icmp .gt 95, 3) := by decide +kernel
theorem dX8_comeToHandlers_73 : decode cX8_comeToHandlers 73 = .ok (.iload_n 2, 1) := by decide +kernel
theorem dX8_comeToHandlers_74 : decode cX8_comeToHandlers 74 = .ok (.aload_n 0, 1) := by decide +kernel
theorem dX8_comeToHandlers_75 : decode cX8_comeToHandlers 75 = .ok (.getfield 26, 3) := by decide +kernel
theorem dX8_comeToHandlers_78 : decode cX8_comeToHandlers 78 = .ok (.iload 4, 2) := by decide +kernel
theorem dX8_comeToHandlers_80 : decode cX8_comeToHandlers 80 = .ok (.iconst 2, 1) := by decide +kernel
theorem dX8_comeToHandlers_81 : decode cX8_comeToHandlers 81 = .ok (.iadd, 1) := by decide +kernel
theorem dX8_comeToHandlers_82 : decode cX8_comeToHandlers 82 = .ok (.invokevirtual 127, 3) := by decide +kernel
theorem dX8_comeToHandlers_85 : decode cX8_comeToHandlers 85 = .ok (.if_icmp .ge 80, 3) := by decide +kernel
theorem dX8_comeToHandlers_88 : decode cX8_comeToHandlers 88 = .ok (.aload_n 0, 1) := by decide +kernel
theorem dX8_comeToHandlers_89 : decode cX8_comeToHandlers 89 = .ok (.getfield 41, 3) := by decide +kernel
theorem dX8_comeToHandlers_92 : decode cX8_comeToHandlers 92 = .ok (.getfield 136, 3) := by decide +kernel
theorem dX8_comeToHandlers_95 : decode cX8_comeToHandlers 95 = .ok (.aload_n 0, 1) := by decide +kernel
theorem dX8_comeToHandlers_96 : decode cX8_comeToHandlers 96 = .ok (.getfield 72, 3) := by decide +kernel
theorem dX8_comeToHandlers_99 : decode cX8_comeToHandlers 99 = .ok (.iaload, 1) := by decide +kernel
theorem dX8_comeToHandlers_100 : decode cX8_comeToHandlers 100 = .ok (.ifCond .ne 9, 3) := by decide +kernel
theorem dX8_comeToHandlers_103 : decode cX8_comeToHandlers 103 = .ok (.aload_n 0, 1) := by decide +kernel
theorem dX8_comeToHandlers_104 : decode cX8_comeToHandlers 104 = .ok (.iload_n 1, 1) := by decide +kernel
theorem dX8_comeToHandlers_105 : decode cX8_comeToHandlers 105 = .ok (.putfield 50, 3) := by decide +kernel
theorem dX8_comeToHandlers_108 : decode cX8_comeToHandlers 108 = .ok (.return_, 1) := by decide +kernel
theorem dX8_comeToHandlers_109 : decode cX8_comeToHandlers 109 = .ok (.aload_n 0, 1) := by decide +kernel
theorem dX8_comeToHandlers_110 : decode cX8_comeToHandlers 110 = .ok (.iload_n 1, 1) := by decide +kernel
theorem dX8_comeToHandlers_111 : decode cX8_comeToHandlers 111 = .ok (.invokevirtual 104, 3) := by decide +kernel
theorem dX8_comeToHandlers_114 : decode cX8_comeToHandlers 114 = .ok (.aload_n 0, 1) := by decide +kernel
theorem dX8_comeToHandlers_115 : decode cX8_comeToHandlers 115 = .ok (.getfield 22, 3) := by decide +kernel
theorem dX8_comeToHandlers_118 : decode cX8_comeToHandlers 118 = .ok (.aload_n 0, 1) := by decide +kernel
theorem dX8_comeToHandlers_119 : decode cX8_comeToHandlers 119 = .ok (.getfield 75, 3) := by decide +kernel
theorem dX8_comeToHandlers_122 : decode cX8_comeToHandlers 122 = .ok (.aload_n 0, 1) := by decide +kernel
theorem dX8_comeToHandlers_123 : decode cX8_comeToHandlers 123 = .ok (.getfield 26, 3) := by decide +kernel
theorem dX8_comeToHandlers_126 : decode cX8_comeToHandlers 126 = .ok (.iload 4, 2) := by decide +kernel
theorem dX8_comeToHandlers_128 : decode cX8_comeToHandlers 128 = .ok (.iconst 4, 1) := by decide +kernel
theorem dX8_comeToHandlers_129 : decode cX8_comeToHandlers 129 = .ok (.iadd, 1) := by decide +kernel
theorem dX8_comeToHandlers_130 : decode cX8_comeToHandlers 130 = .ok (.invokevirtual 107, 3) := by decide +kernel
theorem dX8_comeToHandlers_133 : decode cX8_comeToHandlers 133 = .ok (.iconst 1, 1) := by decide +kernel
theorem dX8_comeToHandlers_134 : decode cX8_comeToHandlers 134 = .ok (.iadd, 1) := by decide +kernel
theorem dX8_comeToHandlers_135 : decode cX8_comeToHandlers 135 = .ok (.iastore, 1) := by decide +kernel
theorem dX8_comeToHandlers_136 : decode cX8_comeToHandlers 136 = .ok (.aload_n 0, 1) := by decide +kernel
theorem dX8_comeToHandlers_137 : decode cX8_comeToHandlers 137 = .ok (.aload_n 0, 1) := by decide +kernel
theorem dX8_comeToHandlers_138 : decode cX8_comeToHandlers 138 = .ok (.getfield 41, 3) := by decide +kernel
theorem dX8_comeToHandlers_141 : decode cX8_comeToHandlers 141 = .ok (.getfield 66, 3) := by decide +kernel
theorem dX8_comeToHandlers_144 : decode cX8_comeToHandlers 144 = .ok (.aload_n 0, 1) := by decide +kernel
theorem dX8_comeToHandlers_145 : decode cX8_comeToHandlers 145 = .ok (.getfield 72, 3) := by decide +kernel
theorem dX8_comeToHandlers_148 : decode cX8_comeToHandlers 148 = .ok (.iaload, 1) := by decide +kernel
theorem dX8_comeToHandlers_149 : decode cX8_comeToHandlers 149 = .ok (.aload_n 0, 1) := by decide +kernel
theorem dX8_comeToHandlers_150 : decode cX8_comeToHandlers 150 = .ok (.getfield 26, 3) := by decide +kernel
theorem dX8_comeToHandlers_153 : decode cX8_comeToHandlers 153 = .ok (.iload 4, 2) := by decide +kernel
theorem dX8_comeToHandlers_155 : decode cX8_comeToHandlers 155 = .ok (.iconst 5, 1) := by decide +kernel
theorem dX8_comeToHandlers_156 : decode cX8_comeToHandlers 156 = .ok (.iadd, 1) := by decide +kernel
theorem dX8_comeToHandlers_157 : decode cX8_comeToHandlers 157 = .ok (.invokevirtual 127, 3) := by decide +kernel
theorem dX8_comeToHandlers_160 : decode cX8_comeToHandlers 160 = .ok (.iadd, 1) := by decide +kernel
theorem dX8_comeToHandlers_161 : decode cX8_comeToHandlers 161 = .ok (.iconst 1, 1) := by decide +kernel
theorem dX8_comeToHandlers_162 : decode cX8_comeToHandlers 162 = .ok (.invokevirtual 86, 3) := by decide +kernel
theorem dX8_comeToHandlers_165 : decode cX8_comeToHandlers 165 = .ok (.iinc 3 1, 3) := by decide +kernel
theorem dX8_comeToHandlers_168 : decode cX8_comeToHandlers 168 = .ok (.goto (-151), 3) := by decide +kernel
theorem dX8_comeToHandlers_171 : decode cX8_comeToHandlers 171 = .ok (.return_, 1) := by decide +kernel
def wp_X8_comeToHandlers : List Cond := .code yX8_comeToHandlers cX8_comeToHandlers 5 none :: (((((([.fieldLink RX8 41 "SteadyMachine$Verifier" "methods" "LSteadyMachine$Methods;", .fieldLink RX8 130 "SteadyMachine$Methods" "handlers" "[I", .fieldLink RX8 72 "SteadyMachine$Verifier" "method" "I", .fieldLink RX8 50 "SteadyMachine$Verifier" "bad" "I", .fieldLink RX8 133 "SteadyMachine$Methods" "handlerPlace" "[I", .fieldLink RX8 26 "SteadyMachine$Verifier" "image" "LSteadyMachine$Image;", .fieldLink RX8 136 "SteadyMachine$Methods" "stack" "[I", .fieldLink RX8 22 "SteadyMachine$Verifier" "now" "[I", .fieldLink RX8 75 "SteadyMachine$Verifier" "locals" "I", .fieldLink RX8 66 "SteadyMachine$Methods" "code" "[I"] ++ (wsV RX8 127 RX2 yX2_pair wp_X2_pair)) ++ (wsV RX8 104 RX8 yX8_takeWhatStands wp_X8_takeWhatStands)) ++ (wsV RX8 107 RX2 yX2_at wp_X2_at)) ++ (wsV RX8 86 RX8 yX8_come wp_X8_come)) ++ wsX40) ++ wsX80)
theorem wq_X8_comeToHandlers : wp_X8_comeToHandlers.all goodWord = true := wa_c rfl (wa_a (wa_a (wa_a (wa_a (wa_a (wa_a (by decide +kernel) (wa_V wq_X2_pair)) (wa_V wq_X8_takeWhatStands)) (wa_V wq_X2_at)) (wa_V wq_X8_come)) uq_X4) uq_X8)
theorem wt_X8_comeToHandlers : GoodIn lw_tbl wp_X8_comeToHandlers := wm_c (List.mem_of_getElem? (i := 781) (by decide +kernel)) rfl (wm_a (wm_a (wm_a (wm_a (wm_a (wm_a (goodIn_r _ [377, 261, 383, 387, 266, 375, 246, 381, 384, 248] (by decide +kernel) (by decide +kernel)) (wm_a (goodIn_r _ [782, 730, 731, 137] (by decide +kernel) (by decide +kernel)) wt_X2_pair)) (wm_a (goodIn_r _ [783, 785, 21, 142] (by decide +kernel) (by decide +kernel)) wt_X8_takeWhatStands)) (wm_a (goodIn_r _ [787, 654, 655, 137] (by decide +kernel) (by decide +kernel)) wt_X2_at)) (wm_a (goodIn_r _ [750, 752, 16, 142] (by decide +kernel) (by decide +kernel)) wt_X8_come)) ut_X4) ut_X8)
theorem wg_X8_comeToHandlers_X2_pair_127 : GoodIn wp_X8_comeToHandlers (wsV RX8 127 RX2 yX2_pair wp_X2_pair) := goodIn_sub (fun w h => List.mem_cons_of_mem _ (List.mem_append_left _ (List.mem_append_left _ (List.mem_append_left _ (List.mem_append_left _ (List.mem_append_left _ (List.mem_append_right _ h))))))) (wa_V wq_X2_pair)
theorem wg_X8_comeToHandlers_X8_takeWhatStands_104 : GoodIn wp_X8_comeToHandlers (wsV RX8 104 RX8 yX8_takeWhatStands wp_X8_takeWhatStands) := goodIn_sub (fun w h => List.mem_cons_of_mem _ (List.mem_append_left _ (List.mem_append_left _ (List.mem_append_left _ (List.mem_append_left _ (List.mem_append_right _ h)))))) (wa_V wq_X8_takeWhatStands)
theorem wg_X8_comeToHandlers_X2_at_107 : GoodIn wp_X8_comeToHandlers (wsV RX8 107 RX2 yX2_at wp_X2_at) := goodIn_sub (fun w h => List.mem_cons_of_mem _ (List.mem_append_left _ (List.mem_append_left _ (List.mem_append_left _ (List.mem_append_right _ h))))) (wa_V wq_X2_at)
theorem wg_X8_comeToHandlers_X8_come_86 : GoodIn wp_X8_comeToHandlers (wsV RX8 86 RX8 yX8_come wp_X8_come) := goodIn_sub (fun w h => List.mem_cons_of_mem _ (List.mem_append_left _ (List.mem_append_left _ (List.mem_append_right _ h)))) (wa_V wq_X8_come)
theorem wi_X8_comeToHandlers_X4 : ∀ w ∈ wsX40, w ∈ wp_X8_comeToHandlers := fun w h => List.mem_cons_of_mem _ (List.mem_append_left _ (List.mem_append_right _ h))
theorem wi_X8_comeToHandlers_X8 : ∀ w ∈ wsX80, w ∈ wp_X8_comeToHandlers := fun w h => List.mem_cons_of_mem _ (List.mem_append_right _ h)
set_option maxHeartbeats 4000000 in
set_option maxRecDepth 100000 in
theorem c_X8_comeToHandlers (l : Launch) (D : va_G) (sz t0 : Nat) (σ : sm_S) (α : sm_A) (p1 : Int32) (K : sm_S → Prop) (hF : mp_X8_comeToHandlers σ p1 K) : Met l yX8_comeToHandlers wp_X8_comeToHandlers { frames := 3, cells := 0, slots := 0, locals := 75 } (sm_P sm_wX sm_tX 37 D sz t0 σ α [.ref (α.1 8), .int p1]) (va_Qv K (sm_B sm_wX D α) (sm_a α 37 sz)) 0 0 (sm_a α 37 sz) := by
  refine Met.ofW (cc := cX8_comeToHandlers) (maxL := 5) (ret := none) (by decide) rfl ?_
  intro p e s m args below meth c s₁ B hml hv
  obtain ⟨rfl, hsz, hP, hK, hD0, hE⟩ := hv
  have hx := B.exec
  have hb := B.bytes
  have hr := B.returns
  have hts := atoms_spec (ws := wp_X8_comeToHandlers) B.pre
  have hown : s.vm.findClass RX8 = some m.cls := findClass_of_methodNamed B.named
  have hlocks := B.notSynchronized
  subst hsz
  have hD : sm_D (sm_a α 37 s.heap.size) α 37 := hD0.own
  have hA : ∀ q : Nat, s.heap.size ≤ q → sm_a α 37 s.heap.size q := fun q h => Or.inr h
  generalize hAe : sm_a α 37 s.heap.size = A at hD hA hE ⊢
  have hS : va_S A s.heap s.heap [] := va_S.rf
  have in_X4 : ∀ w ∈ wsX40, w ∈ wp_X8_comeToHandlers := wi_X8_comeToHandlers_X4
  have in_X8 : ∀ w ∈ wsX80, w ∈ wp_X8_comeToHandlers := wi_X8_comeToHandlers_X8
  have k_0 := hts (.fieldLink RX8 41 "SteadyMachine$Verifier" "methods" "LSteadyMachine$Methods;") (by decide +kernel)
  have k_1 := hts (.fieldLink RX8 130 "SteadyMachine$Methods" "handlers" "[I") (by decide +kernel)
  have k_2 := hts (.fieldLink RX8 72 "SteadyMachine$Verifier" "method" "I") (by decide +kernel)
  have k_3 := hts (.fieldLink RX8 50 "SteadyMachine$Verifier" "bad" "I") (by decide +kernel)
  have k_4 := hts (.fieldLink RX8 133 "SteadyMachine$Methods" "handlerPlace" "[I") (by decide +kernel)
  have k_5 := hts (.fieldLink RX8 26 "SteadyMachine$Verifier" "image" "LSteadyMachine$Image;") (by decide +kernel)
  have k_6 := hts (.fieldLink RX8 136 "SteadyMachine$Methods" "stack" "[I") (by decide +kernel)
  have k_7 := hts (.fieldLink RX8 22 "SteadyMachine$Verifier" "now" "[I") (by decide +kernel)
  have k_8 := hts (.fieldLink RX8 75 "SteadyMachine$Verifier" "locals" "I") (by decide +kernel)
  have k_9 := hts (.fieldLink RX8 66 "SteadyMachine$Methods" "code" "[I") (by decide +kernel)
  have hl := lv_entry ([.ref (α.1 8), .int p1]) (n := 5) (Nat.le_of_ble_eq_true rfl)
  rw [lg_entry_eq]
  generalize (lg_sl ([.ref (α.1 8), .int p1]) ++ List.replicate (5 - (lg_sl ([.ref (α.1 8), .int p1])).length) Slot.unset).toArray = ls at hl ⊢
  have hl : lv_has ls 5 [(0, .ref (α.1 8)), (1, .int p1)] := hl
  have B171 : ∀ (σ : sm_S), mp_X8_comeToHandlers_171 K σ → sm_J p l e (headSpec wp_X8_comeToHandlers { frames := 3, cells := 0, slots := 0, locals := 75 }).room s m ([.ref (α.1 8), .int p1] : List Value).toArray below meth c (MQ below (va_Qv K (sm_B sm_wX D α) A) ([.ref (α.1 8), .int p1] : List Value).toArray s 0 0 A) D A 5 (sm_wX σ α) 171 [] [] := by
    intro σ hF H locs ls hP hS hl
    unfold mp_X8_comeToHandlers_171 at hF
    exact W.vret hx hb hr (fun t ht hW => ⟨⟨σ, rfl, hF, (by unfold sm_B; rw [ht]; exact hP)⟩, hS.F ht⟩) hS.2.2 dX8_comeToHandlers_171
  have B165 : ∀ (L17 : sm_S → Int32 → Int32 → Int32 → Prop) (hL17 : ∀ (σ : sm_S) (x1 : Int32) (x2 : Int32) (x3 : Int32), L17 σ x1 x2 x3 → sm_J p l e (headSpec wp_X8_comeToHandlers { frames := 3, cells := 0, slots := 0, locals := 75 }).room s m ([.ref (α.1 8), .int p1] : List Value).toArray below meth c (MQ below (va_Qv K (sm_B sm_wX D α) A) ([.ref (α.1 8), .int p1] : List Value).toArray s 0 0 A) D A 5 (sm_wX σ α) 17 [(0, .ref (α.1 8)), (1, .int x1), (2, .int x2), (3, .int x3)] []) (σ : sm_S) (x1 : Int32) (x2 : Int32) (x3 : Int32), mp_X8_comeToHandlers_165 L17 K σ x1 x2 x3 → sm_J p l e (headSpec wp_X8_comeToHandlers { frames := 3, cells := 0, slots := 0, locals := 75 }).room s m ([.ref (α.1 8), .int p1] : List Value).toArray below meth c (MQ below (va_Qv K (sm_B sm_wX D α) A) ([.ref (α.1 8), .int p1] : List Value).toArray s 0 0 A) D A 5 (sm_wX σ α) 165 [(0, .ref (α.1 8)), (1, .int x1), (2, .int x2), (3, .int x3)] [] := by
    intro L17 hL17 σ x1 x2 x3 hF H locs ls hP hS hl
    unfold mp_X8_comeToHandlers_165 at hF
    obtain ⟨v1, ev1⟩ : ∃ y : Int32, y = x3 + 1 := ⟨_, rfl⟩
    replace hF := hF v1 ev1
    refine lv_iinc (v := v1) (lv' := [(3, .int v1), (0, .ref (α.1 8)), (1, .int x1), (2, .int x2)]) hx hb dX8_comeToHandlers_165 hl (k := 3) rfl (by rw [ev1]; rfl) (by decide) rfl (fun ls hl => ?_)
    refine lv_goto (tgt := 17) hx hb dX8_comeToHandlers_168 (by decide) ?_
    exact hL17 σ x1 x2 v1 hF H locs ls hP hS (lv_sub hl [1, 2, 3, 0] rfl)
  have B17 : ∀ (n : Nat) (σ : sm_S) (x1 : Int32) (x2 : Int32) (x3 : Int32), mp_X8_comeToHandlers_17 K n σ x1 x2 x3 → sm_J p l e (headSpec wp_X8_comeToHandlers { frames := 3, cells := 0, slots := 0, locals := 75 }).room s m ([.ref (α.1 8), .int p1] : List Value).toArray below meth c (MQ below (va_Qv K (sm_B sm_wX D α) A) ([.ref (α.1 8), .int p1] : List Value).toArray s 0 0 A) D A 5 (sm_wX σ α) 17 [(0, .ref (α.1 8)), (1, .int x1), (2, .int x2), (3, .int x3)] [] := by
    intro n17
    induction n17 with
    | zero =>
      intro σ x1 x2 x3 hF
      exact hF.elim
    | succ n17 ih17 =>
      intro σ x1 x2 x3 hF H locs ls hP hS hl
      unfold mp_X8_comeToHandlers_17 at hF
      refine lv_iload_n hx hb dX8_comeToHandlers_17 rfl (lv_at hl 3 rfl) ?_
      refine lv_aload_n hx hb dX8_comeToHandlers_18 rfl (lv_at hl 0 rfl) ?_
      refine va_get (D := D) (ci := 8) (v := .ref (α.1 4)) (C := RX8) (T := TX8) (N := 13) hx hb hts in_X8 hown hK hP 8 (sm_gX8 σ α) rfl 2 (by decide) k_0 (fun _ h9 => h9) rfl dX8_comeToHandlers_19 ?_
      refine va_get (D := D) (ci := 4) (v := .ref (α.1 28)) (C := RX4) (T := TX4) (N := 12) hx hb hts in_X4 hown hK hP 4 (sm_gX4 σ α) rfl 10 (by decide) k_1 (fun _ h9 => h9) rfl dX8_comeToHandlers_22 ?_
      refine lv_aload_n hx hb dX8_comeToHandlers_25 rfl (lv_at hl 0 rfl) ?_
      refine va_get (D := D) (ci := 8) (v := .int (σ.1 30)) (C := RX8) (T := TX8) (N := 13) hx hb hts in_X8 hown hK hP 8 (sm_gX8 σ α) rfl 8 (by decide) k_2 (fun _ h9 => h9) rfl dX8_comeToHandlers_26 ?_
      obtain ⟨h2, hF⟩ := hF
      refine va_iald (n := (σ.2.2.1 28)) (f := (σ.2.2.2.1 28)) hx hb hK hP 28 17 (sm_aX28 σ α) (sm_yX28 α) h2 dX8_comeToHandlers_29 ?_
      refine lv_icmp_ge (tgt := 171) hx hb dX8_comeToHandlers_30 (by decide) (fun h3 => ?_) (fun h3 => ?_)
      · replace hF := hF.1 h3
        exact B171 σ hF H locs ls hP hS (lv_sub hl [] rfl)
      · replace hF := hF.2 h3
        refine lv_aload_n hx hb dX8_comeToHandlers_33 rfl (lv_at hl 0 rfl) ?_
        refine va_get (D := D) (ci := 8) (v := .int (σ.1 34)) (C := RX8) (T := TX8) (N := 13) hx hb hts in_X8 hown hK hP 8 (sm_gX8 σ α) rfl 12 (by decide) k_3 (fun _ h9 => h9) rfl dX8_comeToHandlers_34 ?_
        refine lv_iconst (v := -1) hx hb dX8_comeToHandlers_37 (by decide) ?_
        refine lv_icmp_ne (tgt := 171) hx hb dX8_comeToHandlers_38 (by decide) (fun h4 => ?_) (fun h4 => ?_)
        · replace hF := hF.1 h4
          exact B171 σ hF H locs ls hP hS (lv_sub hl [] rfl)
        · replace hF := hF.2 h4
          refine lv_aload_n hx hb dX8_comeToHandlers_41 rfl (lv_at hl 0 rfl) ?_
          refine va_get (D := D) (ci := 8) (v := .ref (α.1 4)) (C := RX8) (T := TX8) (N := 13) hx hb hts in_X8 hown hK hP 8 (sm_gX8 σ α) rfl 2 (by decide) k_0 (fun _ h9 => h9) rfl dX8_comeToHandlers_42 ?_
          refine va_get (D := D) (ci := 4) (v := .ref (α.1 29)) (C := RX4) (T := TX4) (N := 12) hx hb hts in_X4 hown hK hP 4 (sm_gX4 σ α) rfl 11 (by decide) k_4 (fun _ h9 => h9) rfl dX8_comeToHandlers_45 ?_
          refine lv_aload_n hx hb dX8_comeToHandlers_48 rfl (lv_at hl 0 rfl) ?_
          refine va_get (D := D) (ci := 8) (v := .int (σ.1 30)) (C := RX8) (T := TX8) (N := 13) hx hb hts in_X8 hown hK hP 8 (sm_gX8 σ α) rfl 8 (by decide) k_2 (fun _ h9 => h9) rfl dX8_comeToHandlers_49 ?_
          obtain ⟨h5, hF⟩ := hF
          refine va_iald (n := (σ.2.2.1 29)) (f := (σ.2.2.2.1 29)) hx hb hK hP 29 18 (sm_aX29 σ α) (sm_yX29 α) h5 dX8_comeToHandlers_52 ?_
          refine lv_iload_n hx hb dX8_comeToHandlers_53 rfl (lv_at hl 3 rfl) ?_
          refine lv_bipush (v := 7) hx hb dX8_comeToHandlers_54 (by decide) ?_
          refine lv_imul hx hb dX8_comeToHandlers_56 ?_
          refine lv_iadd hx hb dX8_comeToHandlers_57 ?_
          refine lv_topi (fun v6 ev6 => ?_)
          replace hF := hF v6 ev6
          refine lv_istore (lv' := [(4, .int v6), (0, .ref (α.1 8)), (1, .int x1), (2, .int x2), (3, .int x3)]) hx hb dX8_comeToHandlers_58 hl (by decide) rfl (fun ls hl => ?_)
          refine lv_aload_n hx hb dX8_comeToHandlers_60 rfl (lv_at hl 1 rfl) ?_
          refine va_get (D := D) (ci := 8) (v := .ref (α.1 2)) (C := RX8) (T := TX8) (N := 13) hx hb hts in_X8 hown hK hP 8 (sm_gX8 σ α) rfl 0 (by decide) k_5 (fun _ h9 => h9) rfl dX8_comeToHandlers_61 ?_
          refine lv_iload hx hb dX8_comeToHandlers_64 (lv_at hl 0 rfl) ?_
          refine sm_vi (As := [.int v6]) (rest := []) hP hK hD hE hS hA ⟨hx, hb, hml, hown, hts⟩ hl.1 (c_X2_pair l D H.size t0 σ α v6 _ hF) (cwV 1 hts wg_X8_comeToHandlers_X2_pair_127 rfl rfl rfl (by decide +kernel) ⟨Nat.le_of_ble_eq_true rfl, Nat.le_of_ble_eq_true rfl⟩) (va_recv hK hP (ci := 2) (q0 := 2) rfl (sm_gX2 σ α)) rfl rfl (Nat.le_of_ble_eq_true rfl) dX8_comeToHandlers_66 ⟨Nat.zero_le _, Nat.zero_le _⟩ (fun r8 σ7 H locs hF hP hS => ?_)
          refine lv_iload_n hx hb dX8_comeToHandlers_69 rfl (lv_at hl 3 rfl) ?_
          refine lv_icmp_gt (tgt := 165) hx hb dX8_comeToHandlers_70 (by decide) (fun h9 => ?_) (fun h9 => ?_)
          · replace hF := hF.1 h9
            exact B165 (mp_X8_comeToHandlers_17 K n17) ih17 σ7 x1 x2 x3 hF H locs ls hP hS (lv_sub hl [1, 2, 3, 4] rfl)
          · replace hF := hF.2 h9
            refine lv_iload_n hx hb dX8_comeToHandlers_73 rfl (lv_at hl 3 rfl) ?_
            refine lv_aload_n hx hb dX8_comeToHandlers_74 rfl (lv_at hl 1 rfl) ?_
            refine va_get (D := D) (ci := 8) (v := .ref (α.1 2)) (C := RX8) (T := TX8) (N := 13) hx hb hts in_X8 hown hK hP 8 (sm_gX8 σ7 α) rfl 0 (by decide) k_5 (fun _ h9 => h9) rfl dX8_comeToHandlers_75 ?_
            refine lv_iload hx hb dX8_comeToHandlers_78 (lv_at hl 0 rfl) ?_
            refine lv_iconst (v := 2) hx hb dX8_comeToHandlers_80 (by decide) ?_
            refine lv_iadd hx hb dX8_comeToHandlers_81 ?_
            refine sm_vi (As := [.int (v6 + 2)]) (rest := [.int x2]) hP hK hD hE hS hA ⟨hx, hb, hml, hown, hts⟩ hl.1 (c_X2_pair l D H.size t0 σ7 α (v6 + 2) _ hF) (cwV 1 hts wg_X8_comeToHandlers_X2_pair_127 rfl rfl rfl (by decide +kernel) ⟨Nat.le_of_ble_eq_true rfl, Nat.le_of_ble_eq_true rfl⟩) (va_recv hK hP (ci := 2) (q0 := 2) rfl (sm_gX2 σ7 α)) rfl rfl (Nat.le_of_ble_eq_true rfl) dX8_comeToHandlers_82 ⟨Nat.zero_le _, Nat.zero_le _⟩ (fun r11 σ10 H locs hF hP hS => ?_)
            refine lv_icmp_ge (tgt := 165) hx hb dX8_comeToHandlers_85 (by decide) (fun h12 => ?_) (fun h12 => ?_)
            · replace hF := hF.1 h12
              exact B165 (mp_X8_comeToHandlers_17 K n17) ih17 σ10 x1 x2 x3 hF H locs ls hP hS (lv_sub hl [1, 2, 3, 4] rfl)
            · replace hF := hF.2 h12
              refine lv_aload_n hx hb dX8_comeToHandlers_88 rfl (lv_at hl 1 rfl) ?_
              refine va_get (D := D) (ci := 8) (v := .ref (α.1 4)) (C := RX8) (T := TX8) (N := 13) hx hb hts in_X8 hown hK hP 8 (sm_gX8 σ10 α) rfl 2 (by decide) k_0 (fun _ h9 => h9) rfl dX8_comeToHandlers_89 ?_
              refine va_get (D := D) (ci := 4) (v := .ref (α.1 25)) (C := RX4) (T := TX4) (N := 12) hx hb hts in_X4 hown hK hP 4 (sm_gX4 σ10 α) rfl 7 (by decide) k_6 (fun _ h9 => h9) rfl dX8_comeToHandlers_92 ?_
              refine lv_aload_n hx hb dX8_comeToHandlers_95 rfl (lv_at hl 1 rfl) ?_
              refine va_get (D := D) (ci := 8) (v := .int (σ10.1 30)) (C := RX8) (T := TX8) (N := 13) hx hb hts in_X8 hown hK hP 8 (sm_gX8 σ10 α) rfl 8 (by decide) k_2 (fun _ h9 => h9) rfl dX8_comeToHandlers_96 ?_
              obtain ⟨h13, hF⟩ := hF
              refine va_iald (n := (σ10.2.2.1 25)) (f := (σ10.2.2.2.1 25)) hx hb hK hP 25 14 (sm_aX25 σ10 α) (sm_yX25 α) h13 dX8_comeToHandlers_99 ?_
              refine lv_if_ne (tgt := 109) hx hb dX8_comeToHandlers_100 (by decide) (fun h14 => ?_) (fun h14 => ?_)
              · replace hF := hF.1 h14
                refine lv_aload_n hx hb dX8_comeToHandlers_109 rfl (lv_at hl 1 rfl) ?_
                refine lv_iload_n hx hb dX8_comeToHandlers_110 rfl (lv_at hl 2 rfl) ?_
                refine sm_vv (As := [.int x1]) (rest := []) hP hK hD hE hS hA ⟨hx, hb, hml, hown, hts⟩ hl.1 (c_X8_takeWhatStands l D H.size t0 σ10 α x1 _ hF) (cwV 1 hts wg_X8_comeToHandlers_X8_takeWhatStands_104 rfl rfl rfl (by decide +kernel) ⟨Nat.le_of_ble_eq_true rfl, Nat.le_of_ble_eq_true rfl⟩) (va_recv hK hP (ci := 8) (q0 := 8) rfl (sm_gX8 σ10 α)) rfl rfl (Nat.le_of_ble_eq_true rfl) dX8_comeToHandlers_111 ⟨Nat.zero_le _, Nat.zero_le _⟩ (fun σ15 H locs hF hP hS => ?_)
                refine lv_aload_n hx hb dX8_comeToHandlers_114 rfl (lv_at hl 1 rfl) ?_
                refine va_get (D := D) (ci := 8) (v := .ref (α.1 35)) (C := RX8) (T := TX8) (N := 13) hx hb hts in_X8 hown hK hP 8 (sm_gX8 σ15 α) rfl 6 (by decide) k_7 (fun _ h9 => h9) rfl dX8_comeToHandlers_115 ?_
                refine lv_aload_n hx hb dX8_comeToHandlers_118 rfl (lv_at hl 1 rfl) ?_
                refine va_get (D := D) (ci := 8) (v := .int (σ15.1 31)) (C := RX8) (T := TX8) (N := 13) hx hb hts in_X8 hown hK hP 8 (sm_gX8 σ15 α) rfl 9 (by decide) k_8 (fun _ h9 => h9) rfl dX8_comeToHandlers_119 ?_
                refine lv_aload_n hx hb dX8_comeToHandlers_122 rfl (lv_at hl 1 rfl) ?_
                refine va_get (D := D) (ci := 8) (v := .ref (α.1 2)) (C := RX8) (T := TX8) (N := 13) hx hb hts in_X8 hown hK hP 8 (sm_gX8 σ15 α) rfl 0 (by decide) k_5 (fun _ h9 => h9) rfl dX8_comeToHandlers_123 ?_
                refine lv_iload hx hb dX8_comeToHandlers_126 (lv_at hl 0 rfl) ?_
                refine lv_iconst (v := 4) hx hb dX8_comeToHandlers_128 (by decide) ?_
                refine lv_iadd hx hb dX8_comeToHandlers_129 ?_
                refine sm_vi (As := [.int (v6 + 4)]) (rest := [.int (σ15.1 31), .ref (α.1 35)]) hP hK hD hE hS hA ⟨hx, hb, hml, hown, hts⟩ hl.1 (c_X2_at l D H.size t0 σ15 α (v6 + 4) _ hF) (cwV 1 hts wg_X8_comeToHandlers_X2_at_107 rfl rfl rfl (by decide +kernel) ⟨Nat.le_of_ble_eq_true rfl, Nat.le_of_ble_eq_true rfl⟩) (va_recv hK hP (ci := 2) (q0 := 2) rfl (sm_gX2 σ15 α)) rfl rfl (Nat.le_of_ble_eq_true rfl) dX8_comeToHandlers_130 ⟨Nat.zero_le _, Nat.zero_le _⟩ (fun r17 σ16 H locs hF hP hS => ?_)
                refine lv_iconst (v := 1) hx hb dX8_comeToHandlers_133 (by decide) ?_
                refine lv_iadd hx hb dX8_comeToHandlers_134 ?_
                obtain ⟨h18, hF⟩ := hF
                refine va_iast (n := (σ16.2.2.1 35)) (f := (σ16.2.2.2.1 35)) (x := (r17 + 1)) hx hb hK hP (hD.to (sm_wX_m _ _)) hS 35 24 (sm_aX35 σ16 α) (sm_yX35 α) h18 dX8_comeToHandlers_135 (fun H locs hP _ hS => ?_)
                rw [sm_rX35] at hP
                obtain ⟨σ19, eσ19⟩ : ∃ x : sm_S, x = sm_r σ16 35 (upd (σ16.2.2.2.1 35) (σ15.1 31).toNatClampNeg (r17 + 1)) := ⟨_, rfl⟩
                replace hF := hF σ19 eσ19
                rw [← eσ19] at hP
                refine lv_aload_n hx hb dX8_comeToHandlers_136 rfl (lv_at hl 1 rfl) ?_
                refine lv_aload_n hx hb dX8_comeToHandlers_137 rfl (lv_at hl 1 rfl) ?_
                refine va_get (D := D) (ci := 8) (v := .ref (α.1 4)) (C := RX8) (T := TX8) (N := 13) hx hb hts in_X8 hown hK hP 8 (sm_gX8 σ19 α) rfl 2 (by decide) k_0 (fun _ h9 => h9) rfl dX8_comeToHandlers_138 ?_
                refine va_get (D := D) (ci := 4) (v := .ref (α.1 26)) (C := RX4) (T := TX4) (N := 12) hx hb hts in_X4 hown hK hP 4 (sm_gX4 σ19 α) rfl 8 (by decide) k_9 (fun _ h9 => h9) rfl dX8_comeToHandlers_141 ?_
                refine lv_aload_n hx hb dX8_comeToHandlers_144 rfl (lv_at hl 1 rfl) ?_
                refine va_get (D := D) (ci := 8) (v := .int (σ19.1 30)) (C := RX8) (T := TX8) (N := 13) hx hb hts in_X8 hown hK hP 8 (sm_gX8 σ19 α) rfl 8 (by decide) k_2 (fun _ h9 => h9) rfl dX8_comeToHandlers_145 ?_
                obtain ⟨h20, hF⟩ := hF
                refine va_iald (n := (σ19.2.2.1 26)) (f := (σ19.2.2.2.1 26)) hx hb hK hP 26 15 (sm_aX26 σ19 α) (sm_yX26 α) h20 dX8_comeToHandlers_148 ?_
                refine lv_aload_n hx hb dX8_comeToHandlers_149 rfl (lv_at hl 1 rfl) ?_
                refine va_get (D := D) (ci := 8) (v := .ref (α.1 2)) (C := RX8) (T := TX8) (N := 13) hx hb hts in_X8 hown hK hP 8 (sm_gX8 σ19 α) rfl 0 (by decide) k_5 (fun _ h9 => h9) rfl dX8_comeToHandlers_150 ?_
                refine lv_iload hx hb dX8_comeToHandlers_153 (lv_at hl 0 rfl) ?_
                refine lv_iconst (v := 5) hx hb dX8_comeToHandlers_155 (by decide) ?_
                refine lv_iadd hx hb dX8_comeToHandlers_156 ?_
                refine sm_vi (As := [.int (v6 + 5)]) (rest := [.int ((σ19.2.2.2.1 26) (σ19.1 30).toNatClampNeg), .ref (α.1 8)]) hP hK hD hE hS hA ⟨hx, hb, hml, hown, hts⟩ hl.1 (c_X2_pair l D H.size t0 σ19 α (v6 + 5) _ hF) (cwV 1 hts wg_X8_comeToHandlers_X2_pair_127 rfl rfl rfl (by decide +kernel) ⟨Nat.le_of_ble_eq_true rfl, Nat.le_of_ble_eq_true rfl⟩) (va_recv hK hP (ci := 2) (q0 := 2) rfl (sm_gX2 σ19 α)) rfl rfl (Nat.le_of_ble_eq_true rfl) dX8_comeToHandlers_157 ⟨Nat.zero_le _, Nat.zero_le _⟩ (fun r22 σ21 H locs hF hP hS => ?_)
                refine lv_iadd hx hb dX8_comeToHandlers_160 ?_
                refine lv_iconst (v := 1) hx hb dX8_comeToHandlers_161 (by decide) ?_
                refine sm_vv (As := [.int (((σ19.2.2.2.1 26) (σ19.1 30).toNatClampNeg) + r22), .int 1]) (rest := []) hP hK hD hE hS hA ⟨hx, hb, hml, hown, hts⟩ hl.1 (c_X8_come l D H.size t0 σ21 α (((σ19.2.2.2.1 26) (σ19.1 30).toNatClampNeg) + r22) 1 _ hF) (cwV 2 hts wg_X8_comeToHandlers_X8_come_86 rfl rfl rfl (by decide +kernel) ⟨Nat.le_of_ble_eq_true rfl, Nat.le_of_ble_eq_true rfl⟩) (va_recv hK hP (ci := 8) (q0 := 8) rfl (sm_gX8 σ21 α)) rfl rfl (Nat.le_of_ble_eq_true rfl) dX8_comeToHandlers_162 ⟨Nat.zero_le _, Nat.zero_le _⟩ (fun σ23 H locs hF hP hS => ?_)
                exact B165 (mp_X8_comeToHandlers_17 K n17) ih17 σ23 x1 x2 x3 hF H locs ls hP hS (lv_sub hl [1, 2, 3, 4] rfl)
              · replace hF := hF.2 h14
                refine lv_aload_n hx hb dX8_comeToHandlers_103 rfl (lv_at hl 1 rfl) ?_
                refine lv_iload_n hx hb dX8_comeToHandlers_104 rfl (lv_at hl 2 rfl) ?_
                refine va_put (D := D) (ci := 8) (v := .int x1) (ty := .int) (C := RX8) (T := TX8) (N := 13) hx hb hts in_X8 tyX8 tyX8_ok nmX8 hown hK hP (hD.to (sm_wX_m _ _)) hS 8 (sm_gX8 σ10 α) rfl 12 (by decide) k_3 (fun _ h9 => h9) rfl (by decide +kernel) rfl rfl (Nat.le_of_ble_eq_true rfl) dX8_comeToHandlers_105 (fun H locs hP _ hS => ?_)
                rw [sm_iX34] at hP
                obtain ⟨σ24, eσ24⟩ : ∃ x : sm_S, x = sm_i σ10 34 x1 := ⟨_, rfl⟩
                replace hF := hF σ24 eσ24
                rw [← eσ24] at hP
                exact W.vret hx hb hr (fun t ht hW => ⟨⟨σ24, rfl, hF, (by unfold sm_B; rw [ht]; exact hP)⟩, hS.F ht⟩) hS.2.2 dX8_comeToHandlers_108
  unfold mp_X8_comeToHandlers at hF
  revert hP hS
  generalize hLo : ([] : List Loc) = locs
  suffices h9 : ∀ (H : Heap) (locs : List Loc), va_P D vwCl (sm_wX σ α) H → va_S A s.heap H locs → W p l e (headSpec wp_X8_comeToHandlers { frames := 3, cells := 0, slots := 0, locals := 75 }).room s m ([.ref (α.1 8), .int p1] : List Value).toArray below meth c H locs 0 0 (MQ below (va_Qv K (sm_B sm_wX D α) A) ([.ref (α.1 8), .int p1] : List Value).toArray s 0 0 A) (F0 m 0 ls []) from fun hP hS => h9 s.heap locs hP hS
  intro H locs hP hS
  refine lv_iload_n hx hb dX8_comeToHandlers_0 rfl (lv_at hl 1 rfl) ?_
  refine lv_aload_n hx hb dX8_comeToHandlers_1 rfl (lv_at hl 0 rfl) ?_
  refine va_get (D := D) (ci := 8) (v := .ref (α.1 4)) (C := RX8) (T := TX8) (N := 13) hx hb hts in_X8 hown hK hP 8 (sm_gX8 σ α) rfl 2 (by decide) k_0 (fun _ h9 => h9) rfl dX8_comeToHandlers_2 ?_
  refine va_get (D := D) (ci := 4) (v := .ref (α.1 26)) (C := RX4) (T := TX4) (N := 12) hx hb hts in_X4 hown hK hP 4 (sm_gX4 σ α) rfl 8 (by decide) k_9 (fun _ h9 => h9) rfl dX8_comeToHandlers_5 ?_
  refine lv_aload_n hx hb dX8_comeToHandlers_8 rfl (lv_at hl 0 rfl) ?_
  refine va_get (D := D) (ci := 8) (v := .int (σ.1 30)) (C := RX8) (T := TX8) (N := 13) hx hb hts in_X8 hown hK hP 8 (sm_gX8 σ α) rfl 8 (by decide) k_2 (fun _ h9 => h9) rfl dX8_comeToHandlers_9 ?_
  obtain ⟨h25, hF⟩ := hF
  refine va_iald (n := (σ.2.2.1 26)) (f := (σ.2.2.2.1 26)) hx hb hK hP 26 15 (sm_aX26 σ α) (sm_yX26 α) h25 dX8_comeToHandlers_12 ?_
  refine lv_isub hx hb dX8_comeToHandlers_13 ?_
  refine lv_topi (fun v26 ev26 => ?_)
  replace hF := hF v26 ev26
  refine lv_istore_n (lv' := [(2, .int v26), (0, .ref (α.1 8)), (1, .int p1)]) hx hb dX8_comeToHandlers_14 rfl hl (by decide) rfl (fun ls hl => ?_)
  refine lv_iconst (v := 0) hx hb dX8_comeToHandlers_15 (by decide) ?_
  refine lv_istore_n (lv' := [(3, .int 0), (2, .int v26), (0, .ref (α.1 8)), (1, .int p1)]) hx hb dX8_comeToHandlers_16 rfl hl (by decide) rfl (fun ls hl => ?_)
  obtain ⟨n17, hF⟩ := hF
  exact B17 n17 σ p1 v26 0 hF H locs ls hP hS (lv_sub hl [2, 3, 1, 0] rfl)
theorem dX8_lookAt_0 : decode cX8_lookAt 0 = .ok (.aload_n 0, 1) := by decide +kernel
theorem dX8_lookAt_1 : decode cX8_lookAt 1 = .ok (.iload_n 1, 1) := by decide +kernel
theorem dX8_lookAt_2 : decode cX8_lookAt 2 = .ok (.invokevirtual 101, 3) := by decide +kernel
theorem dX8_lookAt_5 : decode cX8_lookAt 5 = .ok (.aload_n 0, 1) := by decide +kernel
theorem dX8_lookAt_6 : decode cX8_lookAt 6 = .ok (.getfield 50, 3) := by decide +kernel
theorem dX8_lookAt_9 : decode cX8_lookAt 9 = .ok (.iconst (-1), 1) := by decide +kernel
theorem dX8_lookAt_10 : decode cX8_lookAt 10 = .ok (.if_icmp .eq 4, 3) := by decide +kernel
theorem dX8_lookAt_13 : decode cX8_lookAt 13 = .ok (.return_, 1) := by decide +kernel
theorem dX8_lookAt_14 : decode cX8_lookAt 14 = .ok (.aload_n 0, 1) := by decide +kernel
theorem dX8_lookAt_15 : decode cX8_lookAt 15 = .ok (.iload_n 1, 1) := by decide +kernel
theorem dX8_lookAt_16 : decode cX8_lookAt 16 = .ok (.invokevirtual 104, 3) := by decide +kernel
theorem dX8_lookAt_19 : decode cX8_lookAt 19 = .ok (.aload_n 0, 1) := by decide +kernel
theorem dX8_lookAt_20 : decode cX8_lookAt 20 = .ok (.getfield 26, 3) := by decide +kernel
theorem dX8_lookAt_23 : decode cX8_lookAt 23 = .ok (.iload_n 1, 1) := by decide +kernel
theorem dX8_lookAt_24 : decode cX8_lookAt 24 = .ok (.invokevirtual 107, 3) := by decide +kernel
theorem dX8_lookAt_27 : decode cX8_lookAt 27 = .ok (.istore_n 2, 1) := by decide +kernel
theorem dX8_lookAt_28 : decode cX8_lookAt 28 = .ok (.aload_n 0, 1) := by decide +kernel
theorem dX8_lookAt_29 : decode cX8_lookAt 29 = .ok (.iconst 1, 1) := by decide +kernel
theorem dX8_lookAt_30 : decode cX8_lookAt 30 = .ok (.putfield 111, 3) := by decide +kernel
theorem dX8_lookAt_33 : decode cX8_lookAt 33 = .ok (.aload_n 0, 1) := by decide +kernel
theorem dX8_lookAt_34 : decode cX8_lookAt 34 = .ok (.iload_n 2, 1) := by decide +kernel
theorem dX8_lookAt_35 : decode cX8_lookAt 35 = .ok (.iload_n 1, 1) := by decide +kernel
theorem dX8_lookAt_36 : decode cX8_lookAt 36 = .ok (.invokevirtual 115, 3) := by decide +kernel
theorem dX8_lookAt_39 : decode cX8_lookAt 39 = .ok (.iload_n 2, 1) := by decide +kernel
theorem dX8_lookAt_40 : decode cX8_lookAt 40 = .ok (.bipush 25, 2) := by decide +kernel
theorem dX8_lookAt_42 : decode cX8_lookAt 42 = .ok (.if_icmp .eq 25, 3) := by decide +kernel
theorem dX8_lookAt_45 : decode cX8_lookAt 45 = .ok (.iload_n 2, 1) := by decide +kernel
theorem dX8_lookAt_46 : decode cX8_lookAt 46 = .ok (.bipush 37, 2) := by decide +kernel
theorem dX8_lookAt_48 : decode cX8_lookAt 48 = .ok (.if_icmp .eq 19, 3) := by decide +kernel
theorem dX8_lookAt_51 : decode cX8_lookAt 51 = .ok (.iload_n 2, 1) := by decide +kernel
theorem dX8_lookAt_52 : decode cX8_lookAt 52 = .ok (.bipush 38, 2) := by decide +kernel
theorem dX8_lookAt_54 : decode cX8_lookAt 54 = .ok (.if_icmp .eq 13, 3) := by decide +kernel
theorem dX8_lookAt_57 : decode cX8_lookAt 57 = .ok (.iload_n 2, 1) := by decide +kernel
theorem dX8_lookAt_58 : decode cX8_lookAt 58 = .ok (.bipush 39, 2) := by decide +kernel
theorem dX8_lookAt_60 : decode cX8_lookAt 60 = .ok (.if_icmp .eq 7, 3) := by decide +kernel
theorem dX8_lookAt_63 : decode cX8_lookAt 63 = .ok (.iconst 1, 1) := by decide +kernel
theorem dX8_lookAt_64 : decode cX8_lookAt 64 = .ok (.goto 4, 3) := by decide +kernel
theorem dX8_lookAt_67 : decode cX8_lookAt 67 = .ok (.iconst 0, 1) := by decide +kernel
theorem dX8_lookAt_68 : decode cX8_lookAt 68 = .ok (.istore_n 3, 1) := by decide +kernel
theorem dX8_lookAt_69 : decode cX8_lookAt 69 = .ok (.iload_n 1, 1) := by decide +kernel
theorem dX8_lookAt_70 : decode cX8_lookAt 70 = .ok (.getstatic 118, 3) := by decide +kernel
theorem dX8_lookAt_73 : decode cX8_lookAt 73 = .ok (.iload_n 2, 1) := by decide +kernel
theorem dX8_lookAt_74 : decode cX8_lookAt 74 = .ok (.iaload, 1) := by decide +kernel
theorem dX8_lookAt_75 : decode cX8_lookAt 75 = .ok (.iadd, 1) := by decide +kernel
theorem dX8_lookAt_76 : decode cX8_lookAt 76 = .ok (.istore 4, 2) := by decide +kernel
theorem dX8_lookAt_78 : decode cX8_lookAt 78 = .ok (.aload_n 0, 1) := by decide +kernel
theorem dX8_lookAt_79 : decode cX8_lookAt 79 = .ok (.getfield 111, 3) := by decide +kernel
theorem dX8_lookAt_82 : decode cX8_lookAt 82 = .ok (.ifCond .eq 37, 3) := by decide +kernel
theorem dX8_lookAt_85 : decode cX8_lookAt 85 = .ok (.iload_n 3, 1) := by decide +kernel
theorem dX8_lookAt_86 : decode cX8_lookAt 86 = .ok (.ifCond .eq 39, 3) := by decide +kernel
theorem dX8_lookAt_89 : decode cX8_lookAt 89 = .ok (.iload 4, 2) := by decide +kernel
theorem dX8_lookAt_91 : decode cX8_lookAt 91 = .ok (.aload_n 0, 1) := by decide +kernel
theorem dX8_lookAt_92 : decode cX8_lookAt 92 = .ok (.getfield 41, 3) := by decide +kernel
theorem dX8_lookAt_95 : decode cX8_lookAt 95 = .ok (.getfield 66, 3) := by decide +kernel
theorem dX8_lookAt_98 : decode cX8_lookAt 98 = .ok (.aload_n 0, 1) := by decide +kernel
theorem dX8_lookAt_99 : decode cX8_lookAt 99 = .ok (.getfield 72, 3) := by decide +kernel
theorem dX8_lookAt_102 : decode cX8_lookAt 102 = .ok (.iaload, 1) := by decide +kernel
theorem dX8_lookAt_103 : decode cX8_lookAt 103 = .ok (.aload_n 0, 1) := by decide +kernel
theorem dX8_lookAt_104 : decode cX8_lookAt 104 = .ok (.getfield 41, 3) := by decide +kernel
theorem dX8_lookAt_107 : decode cX8_lookAt 107 = .ok (.getfield 98, 3) := by decide +kernel
theorem dX8_lookAt_110 : decode cX8_lookAt 110 = .ok (.aload_n 0, 1) := by decide +kernel
theorem dX8_lookAt_111 : decode cX8_lookAt 111 = .ok (.getfield 72, 3) := by decide +kernel
theorem dX8_lookAt_114 : decode cX8_lookAt 114 = .ok (.iaload, 1) := by decide +kernel
theorem dX8_lookAt_115 : decode cX8_lookAt 115 = .ok (.iadd, 1) := by decide +kernel
theorem dX8_lookAt_116 : decode cX8_lookAt 116 = .ok (.if_icmp .lt 9, 3) := by decide +kernel
theorem dX8_lookAt_119 : decode cX8_lookAt 119 = .ok (.aload_n 0, 1) := by decide +kernel
theorem dX8_lookAt_120 : decode cX8_lookAt 120 = .ok (.iload_n 1, 1) := by decide +kernel
theorem dX8_lookAt_121 : decode cX8_lookAt 121 = .ok (.putfield 50, 3) := by decide +kernel
theorem dX8_lookAt_124 : decode cX8_lookAt 124 = .ok (.return_, 1) := by decide +kernel
theorem dX8_lookAt_125 : decode cX8_lookAt 125 = .ok (.iload_n 3, 1) := by decide +kernel
theorem dX8_lookAt_126 : decode cX8_lookAt 126 = .ok (.ifCond .eq 13, 3) := by decide +kernel
theorem dX8_lookAt_129 : decode cX8_lookAt 129 = .ok (.aload_n 0, 1) := by decide +kernel
theorem dX8_lookAt_130 : decode cX8_lookAt 130 = .ok (.iload 4, 2) := by decide +kernel
theorem dX8_lookAt_132 : decode cX8_lookAt 132 = .ok (.aload_n 0, 1) := by decide +kernel
theorem dX8_lookAt_133 : decode cX8_lookAt 133 = .ok (.getfield 121, 3) := by decide +kernel
theorem dX8_lookAt_136 : decode cX8_lookAt 136 = .ok (.invokevirtual 86, 3) := by decide +kernel
theorem dX8_lookAt_139 : decode cX8_lookAt 139 = .ok (.aload_n 0, 1) := by decide +kernel
theorem dX8_lookAt_140 : decode cX8_lookAt 140 = .ok (.getfield 26, 3) := by decide +kernel
theorem dX8_lookAt_143 : decode cX8_lookAt 143 = .ok (.iload_n 1, 1) := by decide +kernel
theorem dX8_lookAt_144 : decode cX8_lookAt 144 = .ok (.invokevirtual 124, 3) := by decide +kernel
theorem dX8_lookAt_147 : decode cX8_lookAt 147 = .ok (.istore 5, 2) := by decide +kernel
theorem dX8_lookAt_149 : decode cX8_lookAt 149 = .ok (.iload 5, 2) := by decide +kernel
theorem dX8_lookAt_151 : decode cX8_lookAt 151 = .ok (.iconst (-1), 1) := by decide +kernel
theorem dX8_lookAt_152 : decode cX8_lookAt 152 = .ok (.if_icmp .eq 41, 3) := by decide +kernel
theorem dX8_lookAt_155 : decode cX8_lookAt 155 = .ok (.aload_n 0, 1) := by decide +kernel
theorem dX8_lookAt_156 : decode cX8_lookAt 156 = .ok (.getfield 50, 3) := by decide +kernel
theorem dX8_lookAt_159 : decode cX8_lookAt 159 = .ok (.iconst (-1), 1) := by decide +kernel
theorem dX8_lookAt_160 : decode cX8_lookAt 160 = .ok (.if_icmp .ne 33, 3) := by decide +kernel
theorem dX8_lookAt_163 : decode cX8_lookAt 163 = .ok (.aload_n 0, 1) := by decide +kernel
theorem dX8_lookAt_164 : decode cX8_lookAt 164 = .ok (.aload_n 0, 1) := by decide +kernel
theorem dX8_lookAt_165 : decode cX8_lookAt 165 = .ok (.getfield 41, 3) := by decide +kernel
theorem dX8_lookAt_168 : decode cX8_lookAt 168 = .ok (.getfield 66, 3) := by decide +kernel
theorem dX8_lookAt_171 : decode cX8_lookAt 171 = .ok (.aload_n 0, 1) := by decide +kernel
theorem dX8_lookAt_172 : decode cX8_lookAt 172 = .ok (.getfield 72, 3) := by decide +kernel
theorem dX8_lookAt_175 : decode cX8_lookAt 175 = .ok (.iaload, 1) := by decide +kernel
theorem dX8_lookAt_176 : decode cX8_lookAt 176 = .ok (.aload_n 0, 1) := by decide +kernel
theorem dX8_lookAt_177 : decode cX8_lookAt 177 = .ok (.getfield 26, 3) := by decide +kernel
theorem dX8_lookAt_180 : decode cX8_lookAt 180 = .ok (.iload 5, 2) := by decide +kernel
theorem dX8_lookAt_182 : decode cX8_lookAt 182 = .ok (.invokevirtual 127, 3) := by decide +kernel
theorem dX8_lookAt_185 : decode cX8_lookAt 185 = .ok (.iadd, 1) := by decide +kernel
theorem dX8_lookAt_186 : decode cX8_lookAt 186 = .ok (.aload_n 0, 1) := by decide +kernel
theorem dX8_lookAt_187 : decode cX8_lookAt 187 = .ok (.getfield 121, 3) := by decide +kernel
theorem dX8_lookAt_190 : decode cX8_lookAt 190 = .ok (.invokevirtual 86, 3) := by decide +kernel
theorem dX8_lookAt_193 : decode cX8_lookAt 193 = .ok (.return_, 1) := by decide +kernel
def wp_X8_lookAt : List Cond := .code yX8_lookAt cX8_lookAt 6 none :: ((((((((([.fieldLink RX8 26 "SteadyMachine$Verifier" "image" "LSteadyMachine$Image;", .fieldLink RX8 50 "SteadyMachine$Verifier" "bad" "I", .fieldLink RX8 41 "SteadyMachine$Verifier" "methods" "LSteadyMachine$Methods;", .fieldLink RX8 66 "SteadyMachine$Methods" "code" "[I", .fieldLink RX8 72 "SteadyMachine$Verifier" "method" "I", .fieldLink RX8 121 "SteadyMachine$Verifier" "height" "I", .fieldLink RX8 111 "SteadyMachine$Verifier" "fits" "Z", .fieldLink RX8 98 "SteadyMachine$Methods" "length" "[I"] ++ (wsV RX8 124 RX2 yX2_jumpPlace wp_X2_jumpPlace)) ++ (wsV RX8 127 RX2 yX2_pair wp_X2_pair)) ++ (wsV RX8 86 RX8 yX8_come wp_X8_come)) ++ (wsV RX8 101 RX8 yX8_comeToHandlers wp_X8_comeToHandlers)) ++ (wsV RX8 104 RX8 yX8_takeWhatStands wp_X8_takeWhatStands)) ++ (wsV RX8 107 RX2 yX2_at wp_X2_at)) ++ (wsV RX8 115 RX8 yX8_apply wp_X8_apply)) ++ wsX40) ++ wsX80)
theorem wq_X8_lookAt : wp_X8_lookAt.all goodWord = true := wa_c rfl (wa_a (wa_a (wa_a (wa_a (wa_a (wa_a (wa_a (wa_a (wa_a (by decide +kernel) (wa_V wq_X2_jumpPlace)) (wa_V wq_X2_pair)) (wa_V wq_X8_come)) (wa_V wq_X8_comeToHandlers)) (wa_V wq_X8_takeWhatStands)) (wa_V wq_X2_at)) (wa_V wq_X8_apply)) uq_X4) uq_X8)
theorem wt_X8_lookAt : GoodIn lw_tbl wp_X8_lookAt := wm_c (List.mem_of_getElem? (i := 777) (by decide +kernel)) rfl (wm_a (wm_a (wm_a (wm_a (wm_a (wm_a (wm_a (wm_a (wm_a (goodIn_r _ [375, 387, 377, 248, 383, 382, 386, 255] (by decide +kernel) (by decide +kernel)) (wm_a (goodIn_r _ [845, 725, 726, 137] (by decide +kernel) (by decide +kernel)) wt_X2_jumpPlace)) (wm_a (goodIn_r _ [782, 730, 731, 137] (by decide +kernel) (by decide +kernel)) wt_X2_pair)) (wm_a (goodIn_r _ [750, 752, 16, 142] (by decide +kernel) (by decide +kernel)) wt_X8_come)) (wm_a (goodIn_r _ [778, 780, 20, 142] (by decide +kernel) (by decide +kernel)) wt_X8_comeToHandlers)) (wm_a (goodIn_r _ [783, 785, 21, 142] (by decide +kernel) (by decide +kernel)) wt_X8_takeWhatStands)) (wm_a (goodIn_r _ [787, 654, 655, 137] (by decide +kernel) (by decide +kernel)) wt_X2_at)) (wm_a (goodIn_r _ [788, 790, 22, 142] (by decide +kernel) (by decide +kernel)) wt_X8_apply)) ut_X4) ut_X8)
theorem wg_X8_lookAt_X2_jumpPlace_124 : GoodIn wp_X8_lookAt (wsV RX8 124 RX2 yX2_jumpPlace wp_X2_jumpPlace) := goodIn_sub (fun w h => List.mem_cons_of_mem _ (List.mem_append_left _ (List.mem_append_left _ (List.mem_append_left _ (List.mem_append_left _ (List.mem_append_left _ (List.mem_append_left _ (List.mem_append_left _ (List.mem_append_left _ (List.mem_append_right _ h)))))))))) (wa_V wq_X2_jumpPlace)
theorem wg_X8_lookAt_X2_pair_127 : GoodIn wp_X8_lookAt (wsV RX8 127 RX2 yX2_pair wp_X2_pair) := goodIn_sub (fun w h => List.mem_cons_of_mem _ (List.mem_append_left _ (List.mem_append_left _ (List.mem_append_left _ (List.mem_append_left _ (List.mem_append_left _ (List.mem_append_left _ (List.mem_append_left _ (List.mem_append_right _ h))))))))) (wa_V wq_X2_pair)
theorem wg_X8_lookAt_X8_come_86 : GoodIn wp_X8_lookAt (wsV RX8 86 RX8 yX8_come wp_X8_come) := goodIn_sub (fun w h => List.mem_cons_of_mem _ (List.mem_append_left _ (List.mem_append_left _ (List.mem_append_left _ (List.mem_append_left _ (List.mem_append_left _ (List.mem_append_left _ (List.mem_append_right _ h)))))))) (wa_V wq_X8_come)
theorem wg_X8_lookAt_X8_comeToHandlers_101 : GoodIn wp_X8_lookAt (wsV RX8 101 RX8 yX8_comeToHandlers wp_X8_comeToHandlers) := goodIn_sub (fun w h => List.mem_cons_of_mem _ (List.mem_append_left _ (List.mem_append_left _ (List.mem_append_left _ (List.mem_append_left _ (List.mem_append_left _ (List.mem_append_right _ h))))))) (wa_V wq_X8_comeToHandlers)
theorem wg_X8_lookAt_X8_takeWhatStands_104 : GoodIn wp_X8_lookAt (wsV RX8 104 RX8 yX8_takeWhatStands wp_X8_takeWhatStands) := goodIn_sub (fun w h => List.mem_cons_of_mem _ (List.mem_append_left _ (List.mem_append_left _ (List.mem_append_left _ (List.mem_append_left _ (List.mem_append_right _ h)))))) (wa_V wq_X8_takeWhatStands)
theorem wg_X8_lookAt_X2_at_107 : GoodIn wp_X8_lookAt (wsV RX8 107 RX2 yX2_at wp_X2_at) := goodIn_sub (fun w h => List.mem_cons_of_mem _ (List.mem_append_left _ (List.mem_append_left _ (List.mem_append_left _ (List.mem_append_right _ h))))) (wa_V wq_X2_at)
theorem wg_X8_lookAt_X8_apply_115 : GoodIn wp_X8_lookAt (wsV RX8 115 RX8 yX8_apply wp_X8_apply) := goodIn_sub (fun w h => List.mem_cons_of_mem _ (List.mem_append_left _ (List.mem_append_left _ (List.mem_append_right _ h)))) (wa_V wq_X8_apply)
theorem wi_X8_lookAt_X4 : ∀ w ∈ wsX40, w ∈ wp_X8_lookAt := fun w h => List.mem_cons_of_mem _ (List.mem_append_left _ (List.mem_append_right _ h))
theorem wi_X8_lookAt_X8 : ∀ w ∈ wsX80, w ∈ wp_X8_lookAt := fun w h => List.mem_cons_of_mem _ (List.mem_append_right _ h)
set_option maxHeartbeats 4000000 in
set_option maxRecDepth 100000 in
theorem c_X8_lookAt (l : Launch) (D : va_G) (sz t0 : Nat) (σ : sm_S) (α : sm_A) (p1 : Int32) (K : sm_S → Prop) (hF : mp_X8_lookAt σ p1 K) : Met l yX8_lookAt wp_X8_lookAt { frames := 4, cells := 0, slots := 0, locals := 99 } (sm_P sm_wX sm_tX 37 D sz t0 σ α [.ref (α.1 8), .int p1]) (va_Qv K (sm_B sm_wX D α) (sm_a α 37 sz)) 0 0 (sm_a α 37 sz) := by
  refine Met.ofW (cc := cX8_lookAt) (maxL := 6) (ret := none) (by decide) rfl ?_
  intro p e s m args below meth c s₁ B hml hv
  obtain ⟨rfl, hsz, hP, hK, hD0, hE⟩ := hv
  have hx := B.exec
  have hb := B.bytes
  have hr := B.returns
  have hts := atoms_spec (ws := wp_X8_lookAt) B.pre
  have hown : s.vm.findClass RX8 = some m.cls := findClass_of_methodNamed B.named
  have hlocks := B.notSynchronized
  subst hsz
  have hD : sm_D (sm_a α 37 s.heap.size) α 37 := hD0.own
  have hA : ∀ q : Nat, s.heap.size ≤ q → sm_a α 37 s.heap.size q := fun q h => Or.inr h
  generalize hAe : sm_a α 37 s.heap.size = A at hD hA hE ⊢
  have hS : va_S A s.heap s.heap [] := va_S.rf
  have in_X4 : ∀ w ∈ wsX40, w ∈ wp_X8_lookAt := wi_X8_lookAt_X4
  have in_X8 : ∀ w ∈ wsX80, w ∈ wp_X8_lookAt := wi_X8_lookAt_X8
  have k_0 := hts (.fieldLink RX8 26 "SteadyMachine$Verifier" "image" "LSteadyMachine$Image;") (by decide +kernel)
  have k_1 := hts (.fieldLink RX8 50 "SteadyMachine$Verifier" "bad" "I") (by decide +kernel)
  have k_2 := hts (.fieldLink RX8 41 "SteadyMachine$Verifier" "methods" "LSteadyMachine$Methods;") (by decide +kernel)
  have k_3 := hts (.fieldLink RX8 66 "SteadyMachine$Methods" "code" "[I") (by decide +kernel)
  have k_4 := hts (.fieldLink RX8 72 "SteadyMachine$Verifier" "method" "I") (by decide +kernel)
  have k_5 := hts (.fieldLink RX8 121 "SteadyMachine$Verifier" "height" "I") (by decide +kernel)
  have k_6 := hts (.fieldLink RX8 111 "SteadyMachine$Verifier" "fits" "Z") (by decide +kernel)
  have k_7 := hts (.fieldLink RX8 98 "SteadyMachine$Methods" "length" "[I") (by decide +kernel)
  have hl := lv_entry ([.ref (α.1 8), .int p1]) (n := 6) (Nat.le_of_ble_eq_true rfl)
  rw [lg_entry_eq]
  generalize (lg_sl ([.ref (α.1 8), .int p1]) ++ List.replicate (6 - (lg_sl ([.ref (α.1 8), .int p1])).length) Slot.unset).toArray = ls at hl ⊢
  have hl : lv_has ls 6 [(0, .ref (α.1 8)), (1, .int p1)] := hl
  have B193 : ∀ (σ : sm_S), mp_X8_lookAt_193 K σ → sm_J p l e (headSpec wp_X8_lookAt { frames := 4, cells := 0, slots := 0, locals := 99 }).room s m ([.ref (α.1 8), .int p1] : List Value).toArray below meth c (MQ below (va_Qv K (sm_B sm_wX D α) A) ([.ref (α.1 8), .int p1] : List Value).toArray s 0 0 A) D A 6 (sm_wX σ α) 193 [] [] := by
    intro σ hF H locs ls hP hS hl
    unfold mp_X8_lookAt_193 at hF
    exact W.vret hx hb hr (fun t ht hW => ⟨⟨σ, rfl, hF, (by unfold sm_B; rw [ht]; exact hP)⟩, hS.F ht⟩) hS.2.2 dX8_lookAt_193
  have B139 : ∀ (σ : sm_S) (x1 : Int32), mp_X8_lookAt_139 K σ x1 → sm_J p l e (headSpec wp_X8_lookAt { frames := 4, cells := 0, slots := 0, locals := 99 }).room s m ([.ref (α.1 8), .int p1] : List Value).toArray below meth c (MQ below (va_Qv K (sm_B sm_wX D α) A) ([.ref (α.1 8), .int p1] : List Value).toArray s 0 0 A) D A 6 (sm_wX σ α) 139 [(0, .ref (α.1 8)), (1, .int x1)] [] := by
    intro σ x1 hF H locs ls hP hS hl
    unfold mp_X8_lookAt_139 at hF
    refine lv_aload_n hx hb dX8_lookAt_139 rfl (lv_at hl 0 rfl) ?_
    refine va_get (D := D) (ci := 8) (v := .ref (α.1 2)) (C := RX8) (T := TX8) (N := 13) hx hb hts in_X8 hown hK hP 8 (sm_gX8 σ α) rfl 0 (by decide) k_0 (fun _ h9 => h9) rfl dX8_lookAt_140 ?_
    refine lv_iload_n hx hb dX8_lookAt_143 rfl (lv_at hl 1 rfl) ?_
    refine sm_vi (As := [.int x1]) (rest := []) hP hK hD hE hS hA ⟨hx, hb, hml, hown, hts⟩ hl.1 (c_X2_jumpPlace l D H.size t0 σ α x1 _ hF) (cwV 1 hts wg_X8_lookAt_X2_jumpPlace_124 rfl rfl rfl (by decide +kernel) ⟨Nat.le_of_ble_eq_true rfl, Nat.le_of_ble_eq_true rfl⟩) (va_recv hK hP (ci := 2) (q0 := 2) rfl (sm_gX2 σ α)) rfl rfl (Nat.le_of_ble_eq_true rfl) dX8_lookAt_144 ⟨Nat.zero_le _, Nat.zero_le _⟩ (fun r2 σ1 H locs hF hP hS => ?_)
    refine lv_istore (lv' := [(5, .int r2), (0, .ref (α.1 8)), (1, .int x1)]) hx hb dX8_lookAt_147 hl (by decide) rfl (fun ls hl => ?_)
    refine lv_iload hx hb dX8_lookAt_149 (lv_at hl 0 rfl) ?_
    refine lv_iconst (v := -1) hx hb dX8_lookAt_151 (by decide) ?_
    refine lv_icmp_eq (tgt := 193) hx hb dX8_lookAt_152 (by decide) (fun h3 => ?_) (fun h3 => ?_)
    · replace hF := hF.1 h3
      exact B193 σ1 hF H locs ls hP hS (lv_sub hl [] rfl)
    · replace hF := hF.2 h3
      refine lv_aload_n hx hb dX8_lookAt_155 rfl (lv_at hl 1 rfl) ?_
      refine va_get (D := D) (ci := 8) (v := .int (σ1.1 34)) (C := RX8) (T := TX8) (N := 13) hx hb hts in_X8 hown hK hP 8 (sm_gX8 σ1 α) rfl 12 (by decide) k_1 (fun _ h9 => h9) rfl dX8_lookAt_156 ?_
      refine lv_iconst (v := -1) hx hb dX8_lookAt_159 (by decide) ?_
      refine lv_icmp_ne (tgt := 193) hx hb dX8_lookAt_160 (by decide) (fun h4 => ?_) (fun h4 => ?_)
      · replace hF := hF.1 h4
        exact B193 σ1 hF H locs ls hP hS (lv_sub hl [] rfl)
      · replace hF := hF.2 h4
        refine lv_aload_n hx hb dX8_lookAt_163 rfl (lv_at hl 1 rfl) ?_
        refine lv_aload_n hx hb dX8_lookAt_164 rfl (lv_at hl 1 rfl) ?_
        refine va_get (D := D) (ci := 8) (v := .ref (α.1 4)) (C := RX8) (T := TX8) (N := 13) hx hb hts in_X8 hown hK hP 8 (sm_gX8 σ1 α) rfl 2 (by decide) k_2 (fun _ h9 => h9) rfl dX8_lookAt_165 ?_
        refine va_get (D := D) (ci := 4) (v := .ref (α.1 26)) (C := RX4) (T := TX4) (N := 12) hx hb hts in_X4 hown hK hP 4 (sm_gX4 σ1 α) rfl 8 (by decide) k_3 (fun _ h9 => h9) rfl dX8_lookAt_168 ?_
        refine lv_aload_n hx hb dX8_lookAt_171 rfl (lv_at hl 1 rfl) ?_
        refine va_get (D := D) (ci := 8) (v := .int (σ1.1 30)) (C := RX8) (T := TX8) (N := 13) hx hb hts in_X8 hown hK hP 8 (sm_gX8 σ1 α) rfl 8 (by decide) k_4 (fun _ h9 => h9) rfl dX8_lookAt_172 ?_
        obtain ⟨h5, hF⟩ := hF
        refine va_iald (n := (σ1.2.2.1 26)) (f := (σ1.2.2.2.1 26)) hx hb hK hP 26 15 (sm_aX26 σ1 α) (sm_yX26 α) h5 dX8_lookAt_175 ?_
        refine lv_aload_n hx hb dX8_lookAt_176 rfl (lv_at hl 1 rfl) ?_
        refine va_get (D := D) (ci := 8) (v := .ref (α.1 2)) (C := RX8) (T := TX8) (N := 13) hx hb hts in_X8 hown hK hP 8 (sm_gX8 σ1 α) rfl 0 (by decide) k_0 (fun _ h9 => h9) rfl dX8_lookAt_177 ?_
        refine lv_iload hx hb dX8_lookAt_180 (lv_at hl 0 rfl) ?_
        refine sm_vi (As := [.int r2]) (rest := [.int ((σ1.2.2.2.1 26) (σ1.1 30).toNatClampNeg), .ref (α.1 8)]) hP hK hD hE hS hA ⟨hx, hb, hml, hown, hts⟩ hl.1 (c_X2_pair l D H.size t0 σ1 α r2 _ hF) (cwV 1 hts wg_X8_lookAt_X2_pair_127 rfl rfl rfl (by decide +kernel) ⟨Nat.le_of_ble_eq_true rfl, Nat.le_of_ble_eq_true rfl⟩) (va_recv hK hP (ci := 2) (q0 := 2) rfl (sm_gX2 σ1 α)) rfl rfl (Nat.le_of_ble_eq_true rfl) dX8_lookAt_182 ⟨Nat.zero_le _, Nat.zero_le _⟩ (fun r7 σ6 H locs hF hP hS => ?_)
        refine lv_iadd hx hb dX8_lookAt_185 ?_
        refine lv_aload_n hx hb dX8_lookAt_186 rfl (lv_at hl 1 rfl) ?_
        refine va_get (D := D) (ci := 8) (v := .int (σ6.1 29)) (C := RX8) (T := TX8) (N := 13) hx hb hts in_X8 hown hK hP 8 (sm_gX8 σ6 α) rfl 7 (by decide) k_5 (fun _ h9 => h9) rfl dX8_lookAt_187 ?_
        refine sm_vv (As := [.int (((σ1.2.2.2.1 26) (σ1.1 30).toNatClampNeg) + r7), .int (σ6.1 29)]) (rest := []) hP hK hD hE hS hA ⟨hx, hb, hml, hown, hts⟩ hl.1 (c_X8_come l D H.size t0 σ6 α (((σ1.2.2.2.1 26) (σ1.1 30).toNatClampNeg) + r7) (σ6.1 29) _ hF) (cwV 2 hts wg_X8_lookAt_X8_come_86 rfl rfl rfl (by decide +kernel) ⟨Nat.le_of_ble_eq_true rfl, Nat.le_of_ble_eq_true rfl⟩) (va_recv hK hP (ci := 8) (q0 := 8) rfl (sm_gX8 σ6 α)) rfl rfl (Nat.le_of_ble_eq_true rfl) dX8_lookAt_190 ⟨Nat.zero_le _, Nat.zero_le _⟩ (fun σ8 H locs hF hP hS => ?_)
        exact B193 σ8 hF H locs ls hP hS (lv_sub hl [] rfl)
  have B125 : ∀ (σ : sm_S) (x1 : Int32) (x3 : Int32) (x4 : Int32), mp_X8_lookAt_125 K σ x1 x3 x4 → sm_J p l e (headSpec wp_X8_lookAt { frames := 4, cells := 0, slots := 0, locals := 99 }).room s m ([.ref (α.1 8), .int p1] : List Value).toArray below meth c (MQ below (va_Qv K (sm_B sm_wX D α) A) ([.ref (α.1 8), .int p1] : List Value).toArray s 0 0 A) D A 6 (sm_wX σ α) 125 [(0, .ref (α.1 8)), (1, .int x1), (3, .int x3), (4, .int x4)] [] := by
    intro σ x1 x3 x4 hF H locs ls hP hS hl
    unfold mp_X8_lookAt_125 at hF
    refine lv_iload_n hx hb dX8_lookAt_125 rfl (lv_at hl 2 rfl) ?_
    refine lv_if_eq (tgt := 139) hx hb dX8_lookAt_126 (by decide) (fun h9 => ?_) (fun h9 => ?_)
    · replace hF := hF.1 h9
      exact B139 σ x1 hF H locs ls hP hS (lv_sub hl [0, 1] rfl)
    · replace hF := hF.2 h9
      refine lv_aload_n hx hb dX8_lookAt_129 rfl (lv_at hl 0 rfl) ?_
      refine lv_iload hx hb dX8_lookAt_130 (lv_at hl 3 rfl) ?_
      refine lv_aload_n hx hb dX8_lookAt_132 rfl (lv_at hl 0 rfl) ?_
      refine va_get (D := D) (ci := 8) (v := .int (σ.1 29)) (C := RX8) (T := TX8) (N := 13) hx hb hts in_X8 hown hK hP 8 (sm_gX8 σ α) rfl 7 (by decide) k_5 (fun _ h9 => h9) rfl dX8_lookAt_133 ?_
      refine sm_vv (As := [.int x4, .int (σ.1 29)]) (rest := []) hP hK hD hE hS hA ⟨hx, hb, hml, hown, hts⟩ hl.1 (c_X8_come l D H.size t0 σ α x4 (σ.1 29) _ hF) (cwV 2 hts wg_X8_lookAt_X8_come_86 rfl rfl rfl (by decide +kernel) ⟨Nat.le_of_ble_eq_true rfl, Nat.le_of_ble_eq_true rfl⟩) (va_recv hK hP (ci := 8) (q0 := 8) rfl (sm_gX8 σ α)) rfl rfl (Nat.le_of_ble_eq_true rfl) dX8_lookAt_136 ⟨Nat.zero_le _, Nat.zero_le _⟩ (fun σ10 H locs hF hP hS => ?_)
      exact B139 σ10 x1 hF H locs ls hP hS (lv_sub hl [0, 1] rfl)
  have B119 : ∀ (σ : sm_S) (x1 : Int32), mp_X8_lookAt_119 K σ x1 → sm_J p l e (headSpec wp_X8_lookAt { frames := 4, cells := 0, slots := 0, locals := 99 }).room s m ([.ref (α.1 8), .int p1] : List Value).toArray below meth c (MQ below (va_Qv K (sm_B sm_wX D α) A) ([.ref (α.1 8), .int p1] : List Value).toArray s 0 0 A) D A 6 (sm_wX σ α) 119 [(0, .ref (α.1 8)), (1, .int x1)] [] := by
    intro σ x1 hF H locs ls hP hS hl
    unfold mp_X8_lookAt_119 at hF
    refine lv_aload_n hx hb dX8_lookAt_119 rfl (lv_at hl 0 rfl) ?_
    refine lv_iload_n hx hb dX8_lookAt_120 rfl (lv_at hl 1 rfl) ?_
    refine va_put (D := D) (ci := 8) (v := .int x1) (ty := .int) (C := RX8) (T := TX8) (N := 13) hx hb hts in_X8 tyX8 tyX8_ok nmX8 hown hK hP (hD.to (sm_wX_m _ _)) hS 8 (sm_gX8 σ α) rfl 12 (by decide) k_1 (fun _ h9 => h9) rfl (by decide +kernel) rfl rfl (Nat.le_of_ble_eq_true rfl) dX8_lookAt_121 (fun H locs hP _ hS => ?_)
    rw [sm_iX34] at hP
    obtain ⟨σ11, eσ11⟩ : ∃ x : sm_S, x = sm_i σ 34 x1 := ⟨_, rfl⟩
    replace hF := hF σ11 eσ11
    rw [← eσ11] at hP
    exact W.vret hx hb hr (fun t ht hW => ⟨⟨σ11, rfl, hF, (by unfold sm_B; rw [ht]; exact hP)⟩, hS.F ht⟩) hS.2.2 dX8_lookAt_124
  have B68 : ∀ (σ : sm_S) (x1 : Int32) (x2 : Int32) (y0 : Int32), mp_X8_lookAt_68 K σ x1 x2 y0 → sm_J p l e (headSpec wp_X8_lookAt { frames := 4, cells := 0, slots := 0, locals := 99 }).room s m ([.ref (α.1 8), .int p1] : List Value).toArray below meth c (MQ below (va_Qv K (sm_B sm_wX D α) A) ([.ref (α.1 8), .int p1] : List Value).toArray s 0 0 A) D A 6 (sm_wX σ α) 68 [(0, .ref (α.1 8)), (1, .int x1), (2, .int x2)] [.int y0] := by
    intro σ x1 x2 y0 hF H locs ls hP hS hl
    unfold mp_X8_lookAt_68 at hF
    refine lv_istore_n (lv' := [(3, .int y0), (0, .ref (α.1 8)), (1, .int x1), (2, .int x2)]) hx hb dX8_lookAt_68 rfl hl (by decide) rfl (fun ls hl => ?_)
    refine lv_iload_n hx hb dX8_lookAt_69 rfl (lv_at hl 2 rfl) ?_
    refine va_getsN hx hb hE.2.1 hS hown (va_Nw.use rfl (hE.1 (.fieldLinkNest "SteadyMachine$Verifier" 118 "SteadyMachine" "SIZE" "[I" "SteadyMachine") (by decide +kernel))) (fun _ h9 => h9) dX8_lookAt_70 ?_
    refine lv_iload_n hx hb dX8_lookAt_73 rfl (lv_at hl 3 rfl) ?_
    obtain ⟨h12, hF⟩ := hF
    refine va_ti hx hb hE.2.2 hS h12 (v := .int (sm_sz x2.toNatClampNeg)) rfl dX8_lookAt_74 ?_
    refine lv_iadd hx hb dX8_lookAt_75 ?_
    refine lv_topi (fun v13 ev13 => ?_)
    replace hF := hF v13 ev13
    refine lv_istore (lv' := [(4, .int v13), (3, .int y0), (0, .ref (α.1 8)), (1, .int x1), (2, .int x2)]) hx hb dX8_lookAt_76 hl (by decide) rfl (fun ls hl => ?_)
    refine lv_aload_n hx hb dX8_lookAt_78 rfl (lv_at hl 2 rfl) ?_
    refine va_get (D := D) (ci := 8) (v := .int (σ.1 33)) (C := RX8) (T := TX8) (N := 13) hx hb hts in_X8 hown hK hP 8 (sm_gX8 σ α) rfl 11 (by decide) k_6 (fun _ h9 => h9) rfl dX8_lookAt_79 ?_
    refine lv_if_eq (tgt := 119) hx hb dX8_lookAt_82 (by decide) (fun h14 => ?_) (fun h14 => ?_)
    · replace hF := hF.1 h14
      exact B119 σ x1 hF H locs ls hP hS (lv_sub hl [2, 3] rfl)
    · replace hF := hF.2 h14
      refine lv_iload_n hx hb dX8_lookAt_85 rfl (lv_at hl 1 rfl) ?_
      refine lv_if_eq (tgt := 125) hx hb dX8_lookAt_86 (by decide) (fun h15 => ?_) (fun h15 => ?_)
      · replace hF := hF.1 h15
        exact B125 σ x1 y0 v13 hF H locs ls hP hS (lv_sub hl [2, 3, 1, 0] rfl)
      · replace hF := hF.2 h15
        refine lv_iload hx hb dX8_lookAt_89 (lv_at hl 0 rfl) ?_
        refine lv_aload_n hx hb dX8_lookAt_91 rfl (lv_at hl 2 rfl) ?_
        refine va_get (D := D) (ci := 8) (v := .ref (α.1 4)) (C := RX8) (T := TX8) (N := 13) hx hb hts in_X8 hown hK hP 8 (sm_gX8 σ α) rfl 2 (by decide) k_2 (fun _ h9 => h9) rfl dX8_lookAt_92 ?_
        refine va_get (D := D) (ci := 4) (v := .ref (α.1 26)) (C := RX4) (T := TX4) (N := 12) hx hb hts in_X4 hown hK hP 4 (sm_gX4 σ α) rfl 8 (by decide) k_3 (fun _ h9 => h9) rfl dX8_lookAt_95 ?_
        refine lv_aload_n hx hb dX8_lookAt_98 rfl (lv_at hl 2 rfl) ?_
        refine va_get (D := D) (ci := 8) (v := .int (σ.1 30)) (C := RX8) (T := TX8) (N := 13) hx hb hts in_X8 hown hK hP 8 (sm_gX8 σ α) rfl 8 (by decide) k_4 (fun _ h9 => h9) rfl dX8_lookAt_99 ?_
        obtain ⟨h16, hF⟩ := hF
        refine va_iald (n := (σ.2.2.1 26)) (f := (σ.2.2.2.1 26)) hx hb hK hP 26 15 (sm_aX26 σ α) (sm_yX26 α) h16 dX8_lookAt_102 ?_
        refine lv_aload_n hx hb dX8_lookAt_103 rfl (lv_at hl 2 rfl) ?_
        refine va_get (D := D) (ci := 8) (v := .ref (α.1 4)) (C := RX8) (T := TX8) (N := 13) hx hb hts in_X8 hown hK hP 8 (sm_gX8 σ α) rfl 2 (by decide) k_2 (fun _ h9 => h9) rfl dX8_lookAt_104 ?_
        refine va_get (D := D) (ci := 4) (v := .ref (α.1 27)) (C := RX4) (T := TX4) (N := 12) hx hb hts in_X4 hown hK hP 4 (sm_gX4 σ α) rfl 9 (by decide) k_7 (fun _ h9 => h9) rfl dX8_lookAt_107 ?_
        refine lv_aload_n hx hb dX8_lookAt_110 rfl (lv_at hl 2 rfl) ?_
        refine va_get (D := D) (ci := 8) (v := .int (σ.1 30)) (C := RX8) (T := TX8) (N := 13) hx hb hts in_X8 hown hK hP 8 (sm_gX8 σ α) rfl 8 (by decide) k_4 (fun _ h9 => h9) rfl dX8_lookAt_111 ?_
        obtain ⟨h17, hF⟩ := hF
        refine va_iald (n := (σ.2.2.1 27)) (f := (σ.2.2.2.1 27)) hx hb hK hP 27 16 (sm_aX27 σ α) (sm_yX27 α) h17 dX8_lookAt_114 ?_
        refine lv_iadd hx hb dX8_lookAt_115 ?_
        refine lv_icmp_lt (tgt := 125) hx hb dX8_lookAt_116 (by decide) (fun h18 => ?_) (fun h18 => ?_)
        · replace hF := hF.1 h18
          exact B125 σ x1 y0 v13 hF H locs ls hP hS (lv_sub hl [2, 3, 1, 0] rfl)
        · replace hF := hF.2 h18
          exact B119 σ x1 hF H locs ls hP hS (lv_sub hl [2, 3] rfl)
  have B67 : ∀ (σ : sm_S) (x1 : Int32) (x2 : Int32), mp_X8_lookAt_67 K σ x1 x2 → sm_J p l e (headSpec wp_X8_lookAt { frames := 4, cells := 0, slots := 0, locals := 99 }).room s m ([.ref (α.1 8), .int p1] : List Value).toArray below meth c (MQ below (va_Qv K (sm_B sm_wX D α) A) ([.ref (α.1 8), .int p1] : List Value).toArray s 0 0 A) D A 6 (sm_wX σ α) 67 [(0, .ref (α.1 8)), (1, .int x1), (2, .int x2)] [] := by
    intro σ x1 x2 hF H locs ls hP hS hl
    unfold mp_X8_lookAt_67 at hF
    refine lv_iconst (v := 0) hx hb dX8_lookAt_67 (by decide) ?_
    exact B68 σ x1 x2 0 hF H locs ls hP hS (lv_sub hl [0, 1, 2] rfl)
  unfold mp_X8_lookAt at hF
  revert hP hS
  generalize hLo : ([] : List Loc) = locs
  suffices h9 : ∀ (H : Heap) (locs : List Loc), va_P D vwCl (sm_wX σ α) H → va_S A s.heap H locs → W p l e (headSpec wp_X8_lookAt { frames := 4, cells := 0, slots := 0, locals := 99 }).room s m ([.ref (α.1 8), .int p1] : List Value).toArray below meth c H locs 0 0 (MQ below (va_Qv K (sm_B sm_wX D α) A) ([.ref (α.1 8), .int p1] : List Value).toArray s 0 0 A) (F0 m 0 ls []) from fun hP hS => h9 s.heap locs hP hS
  intro H locs hP hS
  refine lv_aload_n hx hb dX8_lookAt_0 rfl (lv_at hl 0 rfl) ?_
  refine lv_iload_n hx hb dX8_lookAt_1 rfl (lv_at hl 1 rfl) ?_
  refine sm_vv (As := [.int p1]) (rest := []) hP hK hD hE hS hA ⟨hx, hb, hml, hown, hts⟩ hl.1 (c_X8_comeToHandlers l D H.size t0 σ α p1 _ hF) (cwV 1 hts wg_X8_lookAt_X8_comeToHandlers_101 rfl rfl rfl (by decide +kernel) ⟨Nat.le_of_ble_eq_true rfl, Nat.le_of_ble_eq_true rfl⟩) (va_recv hK hP (ci := 8) (q0 := 8) rfl (sm_gX8 σ α)) rfl rfl (Nat.le_of_ble_eq_true rfl) dX8_lookAt_2 ⟨Nat.zero_le _, Nat.zero_le _⟩ (fun σ19 H locs hF hP hS => ?_)
  refine lv_aload_n hx hb dX8_lookAt_5 rfl (lv_at hl 0 rfl) ?_
  refine va_get (D := D) (ci := 8) (v := .int (σ19.1 34)) (C := RX8) (T := TX8) (N := 13) hx hb hts in_X8 hown hK hP 8 (sm_gX8 σ19 α) rfl 12 (by decide) k_1 (fun _ h9 => h9) rfl dX8_lookAt_6 ?_
  refine lv_iconst (v := -1) hx hb dX8_lookAt_9 (by decide) ?_
  refine lv_icmp_eq (tgt := 14) hx hb dX8_lookAt_10 (by decide) (fun h20 => ?_) (fun h20 => ?_)
  · replace hF := hF.1 h20
    refine lv_aload_n hx hb dX8_lookAt_14 rfl (lv_at hl 0 rfl) ?_
    refine lv_iload_n hx hb dX8_lookAt_15 rfl (lv_at hl 1 rfl) ?_
    refine sm_vv (As := [.int p1]) (rest := []) hP hK hD hE hS hA ⟨hx, hb, hml, hown, hts⟩ hl.1 (c_X8_takeWhatStands l D H.size t0 σ19 α p1 _ hF) (cwV 1 hts wg_X8_lookAt_X8_takeWhatStands_104 rfl rfl rfl (by decide +kernel) ⟨Nat.le_of_ble_eq_true rfl, Nat.le_of_ble_eq_true rfl⟩) (va_recv hK hP (ci := 8) (q0 := 8) rfl (sm_gX8 σ19 α)) rfl rfl (Nat.le_of_ble_eq_true rfl) dX8_lookAt_16 ⟨Nat.zero_le _, Nat.zero_le _⟩ (fun σ21 H locs hF hP hS => ?_)
    refine lv_aload_n hx hb dX8_lookAt_19 rfl (lv_at hl 0 rfl) ?_
    refine va_get (D := D) (ci := 8) (v := .ref (α.1 2)) (C := RX8) (T := TX8) (N := 13) hx hb hts in_X8 hown hK hP 8 (sm_gX8 σ21 α) rfl 0 (by decide) k_0 (fun _ h9 => h9) rfl dX8_lookAt_20 ?_
    refine lv_iload_n hx hb dX8_lookAt_23 rfl (lv_at hl 1 rfl) ?_
    refine sm_vi (As := [.int p1]) (rest := []) hP hK hD hE hS hA ⟨hx, hb, hml, hown, hts⟩ hl.1 (c_X2_at l D H.size t0 σ21 α p1 _ hF) (cwV 1 hts wg_X8_lookAt_X2_at_107 rfl rfl rfl (by decide +kernel) ⟨Nat.le_of_ble_eq_true rfl, Nat.le_of_ble_eq_true rfl⟩) (va_recv hK hP (ci := 2) (q0 := 2) rfl (sm_gX2 σ21 α)) rfl rfl (Nat.le_of_ble_eq_true rfl) dX8_lookAt_24 ⟨Nat.zero_le _, Nat.zero_le _⟩ (fun r23 σ22 H locs hF hP hS => ?_)
    refine lv_istore_n (lv' := [(2, .int r23), (0, .ref (α.1 8)), (1, .int p1)]) hx hb dX8_lookAt_27 rfl hl (by decide) rfl (fun ls hl => ?_)
    refine lv_aload_n hx hb dX8_lookAt_28 rfl (lv_at hl 1 rfl) ?_
    refine lv_iconst (v := 1) hx hb dX8_lookAt_29 (by decide) ?_
    refine va_put (D := D) (ci := 8) (v := .int 1) (ty := .boolean) (C := RX8) (T := TX8) (N := 13) hx hb hts in_X8 tyX8 tyX8_ok nmX8 hown hK hP (hD.to (sm_wX_m _ _)) hS 8 (sm_gX8 σ22 α) rfl 11 (by decide) k_6 (fun _ h9 => h9) rfl (by decide +kernel) sm_z1.1 sm_z1.2 (Nat.le_of_ble_eq_true rfl) dX8_lookAt_30 (fun H locs hP _ hS => ?_)
    rw [sm_iX33] at hP
    obtain ⟨σ24, eσ24⟩ : ∃ x : sm_S, x = sm_i σ22 33 1 := ⟨_, rfl⟩
    replace hF := hF σ24 eσ24
    rw [← eσ24] at hP
    refine lv_aload_n hx hb dX8_lookAt_33 rfl (lv_at hl 1 rfl) ?_
    refine lv_iload_n hx hb dX8_lookAt_34 rfl (lv_at hl 0 rfl) ?_
    refine lv_iload_n hx hb dX8_lookAt_35 rfl (lv_at hl 2 rfl) ?_
    refine sm_vv (As := [.int r23, .int p1]) (rest := []) hP hK hD hE hS hA ⟨hx, hb, hml, hown, hts⟩ hl.1 (c_X8_apply l D H.size t0 σ24 α r23 p1 _ hF) (cwV 2 hts wg_X8_lookAt_X8_apply_115 rfl rfl rfl (by decide +kernel) ⟨Nat.le_of_ble_eq_true rfl, Nat.le_of_ble_eq_true rfl⟩) (va_recv hK hP (ci := 8) (q0 := 8) rfl (sm_gX8 σ24 α)) rfl rfl (Nat.le_of_ble_eq_true rfl) dX8_lookAt_36 ⟨Nat.zero_le _, Nat.zero_le _⟩ (fun σ25 H locs hF hP hS => ?_)
    refine lv_iload_n hx hb dX8_lookAt_39 rfl (lv_at hl 0 rfl) ?_
    refine lv_bipush (v := 25) hx hb dX8_lookAt_40 (by decide) ?_
    refine lv_icmp_eq (tgt := 67) hx hb dX8_lookAt_42 (by decide) (fun h26 => ?_) (fun h26 => ?_)
    · replace hF := hF.1 h26
      exact B67 σ25 p1 r23 hF H locs ls hP hS (lv_sub hl [1, 2, 0] rfl)
    · replace hF := hF.2 h26
      refine lv_iload_n hx hb dX8_lookAt_45 rfl (lv_at hl 0 rfl) ?_
      refine lv_bipush (v := 37) hx hb dX8_lookAt_46 (by decide) ?_
      refine lv_icmp_eq (tgt := 67) hx hb dX8_lookAt_48 (by decide) (fun h27 => ?_) (fun h27 => ?_)
      · replace hF := hF.1 h27
        exact B67 σ25 p1 r23 hF H locs ls hP hS (lv_sub hl [1, 2, 0] rfl)
      · replace hF := hF.2 h27
        refine lv_iload_n hx hb dX8_lookAt_51 rfl (lv_at hl 0 rfl) ?_
        refine lv_bipush (v := 38) hx hb dX8_lookAt_52 (by decide) ?_
        refine lv_icmp_eq (tgt := 67) hx hb dX8_lookAt_54 (by decide) (fun h28 => ?_) (fun h28 => ?_)
        · replace hF := hF.1 h28
          exact B67 σ25 p1 r23 hF H locs ls hP hS (lv_sub hl [1, 2, 0] rfl)
        · replace hF := hF.2 h28
          refine lv_iload_n hx hb dX8_lookAt_57 rfl (lv_at hl 0 rfl) ?_
          refine lv_bipush (v := 39) hx hb dX8_lookAt_58 (by decide) ?_
          refine lv_icmp_eq (tgt := 67) hx hb dX8_lookAt_60 (by decide) (fun h29 => ?_) (fun h29 => ?_)
          · replace hF := hF.1 h29
            exact B67 σ25 p1 r23 hF H locs ls hP hS (lv_sub hl [1, 2, 0] rfl)
          · replace hF := hF.2 h29
            refine lv_iconst (v := 1) hx hb dX8_lookAt_63 (by decide) ?_
            refine lv_goto (tgt := 68) hx hb dX8_lookAt_64 (by decide) ?_
            exact B68 σ25 p1 r23 1 hF H locs ls hP hS (lv_sub hl [1, 2, 0] rfl)
  · replace hF := hF.2 h20
    exact W.vret hx hb hr (fun t ht hW => ⟨⟨σ19, rfl, hF, (by unfold sm_B; rw [ht]; exact hP)⟩, hS.F ht⟩) hS.2.2 dX8_lookAt_13
theorem dX8_verifyMethod_0 : decode cX8_verifyMethod 0 = .ok (.aload_n 0, 1) := by decide +kernel
theorem dX8_verifyMethod_1 : decode cX8_verifyMethod 1 = .ok (.iload_n 1, 1) := by decide +kernel
theorem dX8_verifyMethod_2 : decode cX8_verifyMethod 2 = .ok (.putfield 72, 3) := by decide +kernel
theorem dX8_verifyMethod_5 : decode cX8_verifyMethod 5 = .ok (.aload_n 0, 1) := by decide +kernel
theorem dX8_verifyMethod_6 : decode cX8_verifyMethod 6 = .ok (.aload_n 0, 1) := by decide +kernel
theorem dX8_verifyMethod_7 : decode cX8_verifyMethod 7 = .ok (.getfield 41, 3) := by decide +kernel
theorem dX8_verifyMethod_10 : decode cX8_verifyMethod 10 = .ok (.getfield 69, 3) := by decide +kernel
theorem dX8_verifyMethod_13 : decode cX8_verifyMethod 13 = .ok (.iload_n 1, 1) := by decide +kernel
theorem dX8_verifyMethod_14 : decode cX8_verifyMethod 14 = .ok (.iaload, 1) := by decide +kernel
theorem dX8_verifyMethod_15 : decode cX8_verifyMethod 15 = .ok (.putfield 75, 3) := by decide +kernel
theorem dX8_verifyMethod_18 : decode cX8_verifyMethod 18 = .ok (.iconst 0, 1) := by decide +kernel
theorem dX8_verifyMethod_19 : decode cX8_verifyMethod 19 = .ok (.istore_n 2, 1) := by decide +kernel
theorem dX8_verifyMethod_20 : decode cX8_verifyMethod 20 = .ok (.iload_n 2, 1) := by decide +kernel
theorem dX8_verifyMethod_21 : decode cX8_verifyMethod 21 = .ok (.aload_n 0, 1) := by decide +kernel
theorem dX8_verifyMethod_22 : decode cX8_verifyMethod 22 = .ok (.getfield 75, 3) := by decide +kernel
theorem dX8_verifyMethod_25 : decode cX8_verifyMethod 25 = .ok (.if_icmp .ge 47, 3) := by decide +kernel
theorem dX8_verifyMethod_28 : decode cX8_verifyMethod 28 = .ok (.aload_n 0, 1) := by decide +kernel
theorem dX8_verifyMethod_29 : decode cX8_verifyMethod 29 = .ok (.getfield 22, 3) := by decide +kernel
theorem dX8_verifyMethod_32 : decode cX8_verifyMethod 32 = .ok (.iload_n 2, 1) := by decide +kernel
theorem dX8_verifyMethod_33 : decode cX8_verifyMethod 33 = .ok (.iload_n 2, 1) := by decide +kernel
theorem dX8_verifyMethod_34 : decode cX8_verifyMethod 34 = .ok (.aload_n 0, 1) := by decide +kernel
theorem dX8_verifyMethod_35 : decode cX8_verifyMethod 35 = .ok (.getfield 41, 3) := by decide +kernel
theorem dX8_verifyMethod_38 : decode cX8_verifyMethod 38 = .ok (.getfield 77, 3) := by decide +kernel
theorem dX8_verifyMethod_41 : decode cX8_verifyMethod 41 = .ok (.iload_n 1, 1) := by decide +kernel
theorem dX8_verifyMethod_42 : decode cX8_verifyMethod 42 = .ok (.iaload, 1) := by decide +kernel
theorem dX8_verifyMethod_43 : decode cX8_verifyMethod 43 = .ok (.if_icmp .ge 20, 3) := by decide +kernel
theorem dX8_verifyMethod_46 : decode cX8_verifyMethod 46 = .ok (.aload_n 0, 1) := by decide +kernel
theorem dX8_verifyMethod_47 : decode cX8_verifyMethod 47 = .ok (.getfield 41, 3) := by decide +kernel
theorem dX8_verifyMethod_50 : decode cX8_verifyMethod 50 = .ok (.getfield 80, 3) := by decide +kernel
theorem dX8_verifyMethod_53 : decode cX8_verifyMethod 53 = .ok (.iload_n 1, 1) := by decide +kernel
theorem dX8_verifyMethod_54 : decode cX8_verifyMethod 54 = .ok (.bipush 8, 2) := by decide +kernel
theorem dX8_verifyMethod_56 : decode cX8_verifyMethod 56 = .ok (.imul, 1) := by decide +kernel
theorem dX8_verifyMethod_57 : decode cX8_verifyMethod 57 = .ok (.iload_n 2, 1) := by decide +kernel
theorem dX8_verifyMethod_58 : decode cX8_verifyMethod 58 = .ok (.iadd, 1) := by decide +kernel
theorem dX8_verifyMethod_59 : decode cX8_verifyMethod 59 = .ok (.iaload, 1) := by decide +kernel
theorem dX8_verifyMethod_60 : decode cX8_verifyMethod 60 = .ok (.goto 5, 3) := by decide +kernel
theorem dX8_verifyMethod_63 : decode cX8_verifyMethod 63 = .ok (.bipush 99, 2) := by decide +kernel
theorem dX8_verifyMethod_65 : decode cX8_verifyMethod 65 = .ok (.iastore, 1) := by decide +kernel
theorem dX8_verifyMethod_66 : decode cX8_verifyMethod 66 = .ok (.iinc 2 1, 3) := by decide +kernel
theorem dX8_verifyMethod_69 : decode cX8_verifyMethod 69 = .ok (.goto (-49), 3) := by decide +kernel
theorem dX8_verifyMethod_72 : decode cX8_verifyMethod 72 = .ok (.aload_n 0, 1) := by decide +kernel
theorem dX8_verifyMethod_73 : decode cX8_verifyMethod 73 = .ok (.aload_n 0, 1) := by decide +kernel
theorem dX8_verifyMethod_74 : decode cX8_verifyMethod 74 = .ok (.getfield 41, 3) := by decide +kernel
theorem dX8_verifyMethod_77 : decode cX8_verifyMethod 77 = .ok (.getfield 66, 3) := by decide +kernel
theorem dX8_verifyMethod_80 : decode cX8_verifyMethod 80 = .ok (.iload_n 1, 1) := by decide +kernel
theorem dX8_verifyMethod_81 : decode cX8_verifyMethod 81 = .ok (.iaload, 1) := by decide +kernel
theorem dX8_verifyMethod_82 : decode cX8_verifyMethod 82 = .ok (.putfield 83, 3) := by decide +kernel
theorem dX8_verifyMethod_85 : decode cX8_verifyMethod 85 = .ok (.aload_n 0, 1) := by decide +kernel
theorem dX8_verifyMethod_86 : decode cX8_verifyMethod 86 = .ok (.aload_n 0, 1) := by decide +kernel
theorem dX8_verifyMethod_87 : decode cX8_verifyMethod 87 = .ok (.getfield 41, 3) := by decide +kernel
theorem dX8_verifyMethod_90 : decode cX8_verifyMethod 90 = .ok (.getfield 66, 3) := by decide +kernel
theorem dX8_verifyMethod_93 : decode cX8_verifyMethod 93 = .ok (.iload_n 1, 1) := by decide +kernel
theorem dX8_verifyMethod_94 : decode cX8_verifyMethod 94 = .ok (.iaload, 1) := by decide +kernel
theorem dX8_verifyMethod_95 : decode cX8_verifyMethod 95 = .ok (.iconst 0, 1) := by decide +kernel
theorem dX8_verifyMethod_96 : decode cX8_verifyMethod 96 = .ok (.invokevirtual 86, 3) := by decide +kernel
theorem dX8_verifyMethod_99 : decode cX8_verifyMethod 99 = .ok (.iconst 0, 1) := by decide +kernel
theorem dX8_verifyMethod_100 : decode cX8_verifyMethod 100 = .ok (.istore_n 2, 1) := by decide +kernel
theorem dX8_verifyMethod_101 : decode cX8_verifyMethod 101 = .ok (.iload_n 2, 1) := by decide +kernel
theorem dX8_verifyMethod_102 : decode cX8_verifyMethod 102 = .ok (.ldc 90, 2) := by decide +kernel
theorem dX8_verifyMethod_104 : decode cX8_verifyMethod 104 = .ok (.if_icmp .ge 40, 3) := by decide +kernel
theorem dX8_verifyMethod_107 : decode cX8_verifyMethod 107 = .ok (.aload_n 0, 1) := by decide +kernel
theorem dX8_verifyMethod_108 : decode cX8_verifyMethod 108 = .ok (.getfield 50, 3) := by decide +kernel
theorem dX8_verifyMethod_111 : decode cX8_verifyMethod 111 = .ok (.iconst (-1), 1) := by decide +kernel
theorem dX8_verifyMethod_112 : decode cX8_verifyMethod 112 = .ok (.if_icmp .ne 32, 3) := by decide +kernel
theorem dX8_verifyMethod_115 : decode cX8_verifyMethod 115 = .ok (.aload_n 0, 1) := by decide +kernel
theorem dX8_verifyMethod_116 : decode cX8_verifyMethod 116 = .ok (.invokevirtual 91, 3) := by decide +kernel
theorem dX8_verifyMethod_119 : decode cX8_verifyMethod 119 = .ok (.istore_n 3, 1) := by decide +kernel
theorem dX8_verifyMethod_120 : decode cX8_verifyMethod 120 = .ok (.iload_n 3, 1) := by decide +kernel
theorem dX8_verifyMethod_121 : decode cX8_verifyMethod 121 = .ok (.iconst (-1), 1) := by decide +kernel
theorem dX8_verifyMethod_122 : decode cX8_verifyMethod 122 = .ok (.if_icmp .ne 4, 3) := by decide +kernel
theorem dX8_verifyMethod_125 : decode cX8_verifyMethod 125 = .ok (.return_, 1) := by decide +kernel
theorem dX8_verifyMethod_126 : decode cX8_verifyMethod 126 = .ok (.aload_n 0, 1) := by decide +kernel
theorem dX8_verifyMethod_127 : decode cX8_verifyMethod 127 = .ok (.getfield 18, 3) := by decide +kernel
theorem dX8_verifyMethod_130 : decode cX8_verifyMethod 130 = .ok (.iload_n 3, 1) := by decide +kernel
theorem dX8_verifyMethod_131 : decode cX8_verifyMethod 131 = .ok (.iconst 0, 1) := by decide +kernel
theorem dX8_verifyMethod_132 : decode cX8_verifyMethod 132 = .ok (.bastore, 1) := by decide +kernel
theorem dX8_verifyMethod_133 : decode cX8_verifyMethod 133 = .ok (.aload_n 0, 1) := by decide +kernel
theorem dX8_verifyMethod_134 : decode cX8_verifyMethod 134 = .ok (.iload_n 3, 1) := by decide +kernel
theorem dX8_verifyMethod_135 : decode cX8_verifyMethod 135 = .ok (.invokevirtual 95, 3) := by decide +kernel
theorem dX8_verifyMethod_138 : decode cX8_verifyMethod 138 = .ok (.iinc 2 1, 3) := by decide +kernel
theorem dX8_verifyMethod_141 : decode cX8_verifyMethod 141 = .ok (.goto (-40), 3) := by decide +kernel
theorem dX8_verifyMethod_144 : decode cX8_verifyMethod 144 = .ok (.return_, 1) := by decide +kernel
def wp_X8_verifyMethod : List Cond := .code yX8_verifyMethod cX8_verifyMethod 4 none :: ((((([.constant RX8 90 (1000000), .fieldLink RX8 50 "SteadyMachine$Verifier" "bad" "I", .fieldLink RX8 18 "SteadyMachine$Verifier" "marked" "[Z", .fieldLink RX8 75 "SteadyMachine$Verifier" "locals" "I", .fieldLink RX8 41 "SteadyMachine$Verifier" "methods" "LSteadyMachine$Methods;", .fieldLink RX8 66 "SteadyMachine$Methods" "code" "[I", .fieldLink RX8 83 "SteadyMachine$Verifier" "lowestMark" "I", .fieldLink RX8 22 "SteadyMachine$Verifier" "now" "[I", .fieldLink RX8 77 "SteadyMachine$Methods" "params" "[I", .fieldLink RX8 80 "SteadyMachine$Methods" "paramType" "[I", .fieldLink RX8 72 "SteadyMachine$Verifier" "method" "I", .fieldLink RX8 69 "SteadyMachine$Methods" "locals" "[I"] ++ (wsV RX8 91 RX8 yX8_firstMarked wp_X8_firstMarked)) ++ (wsV RX8 95 RX8 yX8_lookAt wp_X8_lookAt)) ++ (wsV RX8 86 RX8 yX8_come wp_X8_come)) ++ wsX40) ++ wsX80)
theorem wq_X8_verifyMethod : wp_X8_verifyMethod.all goodWord = true := wa_c rfl (wa_a (wa_a (wa_a (wa_a (wa_a (by decide +kernel) (wa_V wq_X8_firstMarked)) (wa_V wq_X8_lookAt)) (wa_V wq_X8_come)) uq_X4) uq_X8)
theorem wt_X8_verifyMethod : GoodIn lw_tbl wp_X8_verifyMethod := wm_c (List.mem_of_getElem? (i := 749) (by decide +kernel)) rfl (wm_a (wm_a (wm_a (wm_a (wm_a (goodIn_r _ [769, 387, 380, 384, 377, 248, 385, 381, 230, 234, 383, 239] (by decide +kernel) (by decide +kernel)) (wm_a (goodIn_r _ [770, 772, 18, 142] (by decide +kernel) (by decide +kernel)) wt_X8_firstMarked)) (wm_a (goodIn_r _ [774, 776, 19, 142] (by decide +kernel) (by decide +kernel)) wt_X8_lookAt)) (wm_a (goodIn_r _ [750, 752, 16, 142] (by decide +kernel) (by decide +kernel)) wt_X8_come)) ut_X4) ut_X8)
theorem wg_X8_verifyMethod_X8_firstMarked_91 : GoodIn wp_X8_verifyMethod (wsV RX8 91 RX8 yX8_firstMarked wp_X8_firstMarked) := goodIn_sub (fun w h => List.mem_cons_of_mem _ (List.mem_append_left _ (List.mem_append_left _ (List.mem_append_left _ (List.mem_append_left _ (List.mem_append_right _ h)))))) (wa_V wq_X8_firstMarked)
theorem wg_X8_verifyMethod_X8_lookAt_95 : GoodIn wp_X8_verifyMethod (wsV RX8 95 RX8 yX8_lookAt wp_X8_lookAt) := goodIn_sub (fun w h => List.mem_cons_of_mem _ (List.mem_append_left _ (List.mem_append_left _ (List.mem_append_left _ (List.mem_append_right _ h))))) (wa_V wq_X8_lookAt)
theorem wg_X8_verifyMethod_X8_come_86 : GoodIn wp_X8_verifyMethod (wsV RX8 86 RX8 yX8_come wp_X8_come) := goodIn_sub (fun w h => List.mem_cons_of_mem _ (List.mem_append_left _ (List.mem_append_left _ (List.mem_append_right _ h)))) (wa_V wq_X8_come)
theorem wi_X8_verifyMethod_X4 : ∀ w ∈ wsX40, w ∈ wp_X8_verifyMethod := fun w h => List.mem_cons_of_mem _ (List.mem_append_left _ (List.mem_append_right _ h))
theorem wi_X8_verifyMethod_X8 : ∀ w ∈ wsX80, w ∈ wp_X8_verifyMethod := fun w h => List.mem_cons_of_mem _ (List.mem_append_right _ h)
set_option maxHeartbeats 4000000 in
set_option maxRecDepth 100000 in
theorem c_X8_verifyMethod (l : Launch) (D : va_G) (sz t0 : Nat) (σ : sm_S) (α : sm_A) (p1 : Int32) (K : sm_S → Prop) (hF : mp_X8_verifyMethod σ p1 K) : Met l yX8_verifyMethod wp_X8_verifyMethod { frames := 5, cells := 0, slots := 0, locals := 124 } (sm_P sm_wX sm_tX 37 D sz t0 σ α [.ref (α.1 8), .int p1]) (va_Qv K (sm_B sm_wX D α) (sm_a α 37 sz)) 0 0 (sm_a α 37 sz) := by
  refine Met.ofW (cc := cX8_verifyMethod) (maxL := 4) (ret := none) (by decide) rfl ?_
  intro p e s m args below meth c s₁ B hml hv
  obtain ⟨rfl, hsz, hP, hK, hD0, hE⟩ := hv
  have hx := B.exec
  have hb := B.bytes
  have hr := B.returns
  have hts := atoms_spec (ws := wp_X8_verifyMethod) B.pre
  have hown : s.vm.findClass RX8 = some m.cls := findClass_of_methodNamed B.named
  have hlocks := B.notSynchronized
  subst hsz
  have hD : sm_D (sm_a α 37 s.heap.size) α 37 := hD0.own
  have hA : ∀ q : Nat, s.heap.size ≤ q → sm_a α 37 s.heap.size q := fun q h => Or.inr h
  generalize hAe : sm_a α 37 s.heap.size = A at hD hA hE ⊢
  have hS : va_S A s.heap s.heap [] := va_S.rf
  have in_X4 : ∀ w ∈ wsX40, w ∈ wp_X8_verifyMethod := wi_X8_verifyMethod_X4
  have in_X8 : ∀ w ∈ wsX80, w ∈ wp_X8_verifyMethod := wi_X8_verifyMethod_X8
  have k_0 := hts (.constant RX8 90 (1000000)) (by decide +kernel)
  have k_1 := hts (.fieldLink RX8 50 "SteadyMachine$Verifier" "bad" "I") (by decide +kernel)
  have k_2 := hts (.fieldLink RX8 18 "SteadyMachine$Verifier" "marked" "[Z") (by decide +kernel)
  have k_3 := hts (.fieldLink RX8 75 "SteadyMachine$Verifier" "locals" "I") (by decide +kernel)
  have k_4 := hts (.fieldLink RX8 41 "SteadyMachine$Verifier" "methods" "LSteadyMachine$Methods;") (by decide +kernel)
  have k_5 := hts (.fieldLink RX8 66 "SteadyMachine$Methods" "code" "[I") (by decide +kernel)
  have k_6 := hts (.fieldLink RX8 83 "SteadyMachine$Verifier" "lowestMark" "I") (by decide +kernel)
  have k_7 := hts (.fieldLink RX8 22 "SteadyMachine$Verifier" "now" "[I") (by decide +kernel)
  have k_8 := hts (.fieldLink RX8 77 "SteadyMachine$Methods" "params" "[I") (by decide +kernel)
  have k_9 := hts (.fieldLink RX8 80 "SteadyMachine$Methods" "paramType" "[I") (by decide +kernel)
  have k_10 := hts (.fieldLink RX8 72 "SteadyMachine$Verifier" "method" "I") (by decide +kernel)
  have k_11 := hts (.fieldLink RX8 69 "SteadyMachine$Methods" "locals" "[I") (by decide +kernel)
  have hl := lv_entry ([.ref (α.1 8), .int p1]) (n := 4) (Nat.le_of_ble_eq_true rfl)
  rw [lg_entry_eq]
  generalize (lg_sl ([.ref (α.1 8), .int p1]) ++ List.replicate (4 - (lg_sl ([.ref (α.1 8), .int p1])).length) Slot.unset).toArray = ls at hl ⊢
  have hl : lv_has ls 4 [(0, .ref (α.1 8)), (1, .int p1)] := hl
  have B144 : ∀ (σ : sm_S), mp_X8_verifyMethod_144 K σ → sm_J p l e (headSpec wp_X8_verifyMethod { frames := 5, cells := 0, slots := 0, locals := 124 }).room s m ([.ref (α.1 8), .int p1] : List Value).toArray below meth c (MQ below (va_Qv K (sm_B sm_wX D α) A) ([.ref (α.1 8), .int p1] : List Value).toArray s 0 0 A) D A 4 (sm_wX σ α) 144 [] [] := by
    intro σ hF H locs ls hP hS hl
    unfold mp_X8_verifyMethod_144 at hF
    exact W.vret hx hb hr (fun t ht hW => ⟨⟨σ, rfl, hF, (by unfold sm_B; rw [ht]; exact hP)⟩, hS.F ht⟩) hS.2.2 dX8_verifyMethod_144
  have B101 : ∀ (n : Nat) (σ : sm_S) (x2 : Int32), mp_X8_verifyMethod_101 K n σ x2 → sm_J p l e (headSpec wp_X8_verifyMethod { frames := 5, cells := 0, slots := 0, locals := 124 }).room s m ([.ref (α.1 8), .int p1] : List Value).toArray below meth c (MQ below (va_Qv K (sm_B sm_wX D α) A) ([.ref (α.1 8), .int p1] : List Value).toArray s 0 0 A) D A 4 (sm_wX σ α) 101 [(0, .ref (α.1 8)), (2, .int x2)] [] := by
    intro n101
    induction n101 with
    | zero =>
      intro σ x2 hF
      exact hF.elim
    | succ n101 ih101 =>
      intro σ x2 hF H locs ls hP hS hl
      unfold mp_X8_verifyMethod_101 at hF
      refine lv_iload_n hx hb dX8_verifyMethod_101 rfl (lv_at hl 1 rfl) ?_
      refine lv_ldc (v := 1000000) hx hb hown k_0 dX8_verifyMethod_102 ?_
      refine lv_icmp_ge (tgt := 144) hx hb dX8_verifyMethod_104 (by decide) (fun h1 => ?_) (fun h1 => ?_)
      · replace hF := hF.1 h1
        exact B144 σ hF H locs ls hP hS (lv_sub hl [] rfl)
      · replace hF := hF.2 h1
        refine lv_aload_n hx hb dX8_verifyMethod_107 rfl (lv_at hl 0 rfl) ?_
        refine va_get (D := D) (ci := 8) (v := .int (σ.1 34)) (C := RX8) (T := TX8) (N := 13) hx hb hts in_X8 hown hK hP 8 (sm_gX8 σ α) rfl 12 (by decide) k_1 (fun _ h9 => h9) rfl dX8_verifyMethod_108 ?_
        refine lv_iconst (v := -1) hx hb dX8_verifyMethod_111 (by decide) ?_
        refine lv_icmp_ne (tgt := 144) hx hb dX8_verifyMethod_112 (by decide) (fun h2 => ?_) (fun h2 => ?_)
        · replace hF := hF.1 h2
          exact B144 σ hF H locs ls hP hS (lv_sub hl [] rfl)
        · replace hF := hF.2 h2
          refine lv_aload_n hx hb dX8_verifyMethod_115 rfl (lv_at hl 0 rfl) ?_
          refine sm_vi (As := []) (rest := []) hP hK hD hE hS hA ⟨hx, hb, hml, hown, hts⟩ hl.1 (c_X8_firstMarked l D H.size t0 σ α _ hF) (cwV 0 hts wg_X8_verifyMethod_X8_firstMarked_91 rfl rfl rfl (by decide +kernel) ⟨Nat.le_of_ble_eq_true rfl, Nat.le_of_ble_eq_true rfl⟩) (va_recv hK hP (ci := 8) (q0 := 8) rfl (sm_gX8 σ α)) rfl rfl (Nat.le_of_ble_eq_true rfl) dX8_verifyMethod_116 ⟨Nat.zero_le _, Nat.zero_le _⟩ (fun r4 σ3 H locs hF hP hS => ?_)
          refine lv_istore_n (lv' := [(3, .int r4), (0, .ref (α.1 8)), (2, .int x2)]) hx hb dX8_verifyMethod_119 rfl hl (by decide) rfl (fun ls hl => ?_)
          refine lv_iload_n hx hb dX8_verifyMethod_120 rfl (lv_at hl 0 rfl) ?_
          refine lv_iconst (v := -1) hx hb dX8_verifyMethod_121 (by decide) ?_
          refine lv_icmp_ne (tgt := 126) hx hb dX8_verifyMethod_122 (by decide) (fun h5 => ?_) (fun h5 => ?_)
          · replace hF := hF.1 h5
            refine lv_aload_n hx hb dX8_verifyMethod_126 rfl (lv_at hl 1 rfl) ?_
            refine va_get (D := D) (ci := 8) (v := .ref (α.1 34)) (C := RX8) (T := TX8) (N := 13) hx hb hts in_X8 hown hK hP 8 (sm_gX8 σ3 α) rfl 5 (by decide) k_2 (fun _ h9 => h9) rfl dX8_verifyMethod_127 ?_
            refine lv_iload_n hx hb dX8_verifyMethod_130 rfl (lv_at hl 0 rfl) ?_
            refine lv_iconst (v := 0) hx hb dX8_verifyMethod_131 (by decide) ?_
            obtain ⟨h6, hF⟩ := hF
            refine va_zast (n := (σ3.2.2.1 34)) (f := (σ3.2.2.2.1 34)) (x := 0) hx hb hK hP (hD.to (sm_wX_m _ _)) hS 34 23 (sm_aX34 σ3 α) (sm_yX34 α) h6 dX8_verifyMethod_132 (fun H locs hP _ hS => ?_)
            rw [sm_rX34] at hP
            obtain ⟨σ7, eσ7⟩ : ∃ x : sm_S, x = sm_r σ3 34 (upd (σ3.2.2.2.1 34) r4.toNatClampNeg (vp_nar .boolean 0)) := ⟨_, rfl⟩
            replace hF := hF σ7 eσ7
            rw [← eσ7] at hP
            refine lv_aload_n hx hb dX8_verifyMethod_133 rfl (lv_at hl 1 rfl) ?_
            refine lv_iload_n hx hb dX8_verifyMethod_134 rfl (lv_at hl 0 rfl) ?_
            refine sm_vv (As := [.int r4]) (rest := []) hP hK hD hE hS hA ⟨hx, hb, hml, hown, hts⟩ hl.1 (c_X8_lookAt l D H.size t0 σ7 α r4 _ hF) (cwV 1 hts wg_X8_verifyMethod_X8_lookAt_95 rfl rfl rfl (by decide +kernel) ⟨Nat.le_of_ble_eq_true rfl, Nat.le_of_ble_eq_true rfl⟩) (va_recv hK hP (ci := 8) (q0 := 8) rfl (sm_gX8 σ7 α)) rfl rfl (Nat.le_of_ble_eq_true rfl) dX8_verifyMethod_135 ⟨Nat.zero_le _, Nat.zero_le _⟩ (fun σ8 H locs hF hP hS => ?_)
            obtain ⟨v9, ev9⟩ : ∃ y : Int32, y = x2 + 1 := ⟨_, rfl⟩
            replace hF := hF v9 ev9
            refine lv_iinc (v := v9) (lv' := [(2, .int v9), (3, .int r4), (0, .ref (α.1 8))]) hx hb dX8_verifyMethod_138 hl (k := 2) rfl (by rw [ev9]; rfl) (by decide) rfl (fun ls hl => ?_)
            refine lv_goto (tgt := 101) hx hb dX8_verifyMethod_141 (by decide) ?_
            exact ih101 σ8 v9 hF H locs ls hP hS (lv_sub hl [2, 0] rfl)
          · replace hF := hF.2 h5
            exact W.vret hx hb hr (fun t ht hW => ⟨⟨σ3, rfl, hF, (by unfold sm_B; rw [ht]; exact hP)⟩, hS.F ht⟩) hS.2.2 dX8_verifyMethod_125
  have B65 : ∀ (L20 : sm_S → Int32 → Int32 → Prop) (hL20 : ∀ (σ : sm_S) (x1 : Int32) (x2 : Int32), L20 σ x1 x2 → sm_J p l e (headSpec wp_X8_verifyMethod { frames := 5, cells := 0, slots := 0, locals := 124 }).room s m ([.ref (α.1 8), .int p1] : List Value).toArray below meth c (MQ below (va_Qv K (sm_B sm_wX D α) A) ([.ref (α.1 8), .int p1] : List Value).toArray s 0 0 A) D A 4 (sm_wX σ α) 20 [(0, .ref (α.1 8)), (1, .int x1), (2, .int x2)] []) (σ : sm_S) (x1 : Int32) (x2 : Int32) (y1 : Int32) (y2 : Int32), mp_X8_verifyMethod_65 L20 K σ x1 x2 y1 y2 → sm_J p l e (headSpec wp_X8_verifyMethod { frames := 5, cells := 0, slots := 0, locals := 124 }).room s m ([.ref (α.1 8), .int p1] : List Value).toArray below meth c (MQ below (va_Qv K (sm_B sm_wX D α) A) ([.ref (α.1 8), .int p1] : List Value).toArray s 0 0 A) D A 4 (sm_wX σ α) 65 [(0, .ref (α.1 8)), (1, .int x1), (2, .int x2)] [.int y2, .int y1, .ref (α.1 35)] := by
    intro L20 hL20 σ x1 x2 y1 y2 hF H locs ls hP hS hl
    unfold mp_X8_verifyMethod_65 at hF
    obtain ⟨h10, hF⟩ := hF
    refine va_iast (n := (σ.2.2.1 35)) (f := (σ.2.2.2.1 35)) (x := y2) hx hb hK hP (hD.to (sm_wX_m _ _)) hS 35 24 (sm_aX35 σ α) (sm_yX35 α) h10 dX8_verifyMethod_65 (fun H locs hP _ hS => ?_)
    rw [sm_rX35] at hP
    obtain ⟨σ11, eσ11⟩ : ∃ x : sm_S, x = sm_r σ 35 (upd (σ.2.2.2.1 35) y1.toNatClampNeg y2) := ⟨_, rfl⟩
    replace hF := hF σ11 eσ11
    rw [← eσ11] at hP
    obtain ⟨v12, ev12⟩ : ∃ y : Int32, y = x2 + 1 := ⟨_, rfl⟩
    replace hF := hF v12 ev12
    refine lv_iinc (v := v12) (lv' := [(2, .int v12), (0, .ref (α.1 8)), (1, .int x1)]) hx hb dX8_verifyMethod_66 hl (k := 2) rfl (by rw [ev12]; rfl) (by decide) rfl (fun ls hl => ?_)
    refine lv_goto (tgt := 20) hx hb dX8_verifyMethod_69 (by decide) ?_
    exact hL20 σ11 x1 v12 hF H locs ls hP hS (lv_sub hl [1, 2, 0] rfl)
  have B20 : ∀ (n : Nat) (σ : sm_S) (x1 : Int32) (x2 : Int32), mp_X8_verifyMethod_20 K n σ x1 x2 → sm_J p l e (headSpec wp_X8_verifyMethod { frames := 5, cells := 0, slots := 0, locals := 124 }).room s m ([.ref (α.1 8), .int p1] : List Value).toArray below meth c (MQ below (va_Qv K (sm_B sm_wX D α) A) ([.ref (α.1 8), .int p1] : List Value).toArray s 0 0 A) D A 4 (sm_wX σ α) 20 [(0, .ref (α.1 8)), (1, .int x1), (2, .int x2)] [] := by
    intro n20
    induction n20 with
    | zero =>
      intro σ x1 x2 hF
      exact hF.elim
    | succ n20 ih20 =>
      intro σ x1 x2 hF H locs ls hP hS hl
      unfold mp_X8_verifyMethod_20 at hF
      refine lv_iload_n hx hb dX8_verifyMethod_20 rfl (lv_at hl 2 rfl) ?_
      refine lv_aload_n hx hb dX8_verifyMethod_21 rfl (lv_at hl 0 rfl) ?_
      refine va_get (D := D) (ci := 8) (v := .int (σ.1 31)) (C := RX8) (T := TX8) (N := 13) hx hb hts in_X8 hown hK hP 8 (sm_gX8 σ α) rfl 9 (by decide) k_3 (fun _ h9 => h9) rfl dX8_verifyMethod_22 ?_
      refine lv_icmp_ge (tgt := 72) hx hb dX8_verifyMethod_25 (by decide) (fun h13 => ?_) (fun h13 => ?_)
      · replace hF := hF.1 h13
        refine lv_aload_n hx hb dX8_verifyMethod_72 rfl (lv_at hl 0 rfl) ?_
        refine lv_aload_n hx hb dX8_verifyMethod_73 rfl (lv_at hl 0 rfl) ?_
        refine va_get (D := D) (ci := 8) (v := .ref (α.1 4)) (C := RX8) (T := TX8) (N := 13) hx hb hts in_X8 hown hK hP 8 (sm_gX8 σ α) rfl 2 (by decide) k_4 (fun _ h9 => h9) rfl dX8_verifyMethod_74 ?_
        refine va_get (D := D) (ci := 4) (v := .ref (α.1 26)) (C := RX4) (T := TX4) (N := 12) hx hb hts in_X4 hown hK hP 4 (sm_gX4 σ α) rfl 8 (by decide) k_5 (fun _ h9 => h9) rfl dX8_verifyMethod_77 ?_
        refine lv_iload_n hx hb dX8_verifyMethod_80 rfl (lv_at hl 1 rfl) ?_
        obtain ⟨h14, hF⟩ := hF
        refine va_iald (n := (σ.2.2.1 26)) (f := (σ.2.2.2.1 26)) hx hb hK hP 26 15 (sm_aX26 σ α) (sm_yX26 α) h14 dX8_verifyMethod_81 ?_
        refine va_put (D := D) (ci := 8) (v := .int ((σ.2.2.2.1 26) x1.toNatClampNeg)) (ty := .int) (C := RX8) (T := TX8) (N := 13) hx hb hts in_X8 tyX8 tyX8_ok nmX8 hown hK hP (hD.to (sm_wX_m _ _)) hS 8 (sm_gX8 σ α) rfl 10 (by decide) k_6 (fun _ h9 => h9) rfl (by decide +kernel) rfl rfl (Nat.le_of_ble_eq_true rfl) dX8_verifyMethod_82 (fun H locs hP _ hS => ?_)
        rw [sm_iX32] at hP
        obtain ⟨σ15, eσ15⟩ : ∃ x : sm_S, x = sm_i σ 32 ((σ.2.2.2.1 26) x1.toNatClampNeg) := ⟨_, rfl⟩
        replace hF := hF σ15 eσ15
        rw [← eσ15] at hP
        refine lv_aload_n hx hb dX8_verifyMethod_85 rfl (lv_at hl 0 rfl) ?_
        refine lv_aload_n hx hb dX8_verifyMethod_86 rfl (lv_at hl 0 rfl) ?_
        refine va_get (D := D) (ci := 8) (v := .ref (α.1 4)) (C := RX8) (T := TX8) (N := 13) hx hb hts in_X8 hown hK hP 8 (sm_gX8 σ15 α) rfl 2 (by decide) k_4 (fun _ h9 => h9) rfl dX8_verifyMethod_87 ?_
        refine va_get (D := D) (ci := 4) (v := .ref (α.1 26)) (C := RX4) (T := TX4) (N := 12) hx hb hts in_X4 hown hK hP 4 (sm_gX4 σ15 α) rfl 8 (by decide) k_5 (fun _ h9 => h9) rfl dX8_verifyMethod_90 ?_
        refine lv_iload_n hx hb dX8_verifyMethod_93 rfl (lv_at hl 1 rfl) ?_
        obtain ⟨h16, hF⟩ := hF
        refine va_iald (n := (σ15.2.2.1 26)) (f := (σ15.2.2.2.1 26)) hx hb hK hP 26 15 (sm_aX26 σ15 α) (sm_yX26 α) h16 dX8_verifyMethod_94 ?_
        refine lv_iconst (v := 0) hx hb dX8_verifyMethod_95 (by decide) ?_
        refine sm_vv (As := [.int ((σ15.2.2.2.1 26) x1.toNatClampNeg), .int 0]) (rest := []) hP hK hD hE hS hA ⟨hx, hb, hml, hown, hts⟩ hl.1 (c_X8_come l D H.size t0 σ15 α ((σ15.2.2.2.1 26) x1.toNatClampNeg) 0 _ hF) (cwV 2 hts wg_X8_verifyMethod_X8_come_86 rfl rfl rfl (by decide +kernel) ⟨Nat.le_of_ble_eq_true rfl, Nat.le_of_ble_eq_true rfl⟩) (va_recv hK hP (ci := 8) (q0 := 8) rfl (sm_gX8 σ15 α)) rfl rfl (Nat.le_of_ble_eq_true rfl) dX8_verifyMethod_96 ⟨Nat.zero_le _, Nat.zero_le _⟩ (fun σ17 H locs hF hP hS => ?_)
        refine lv_iconst (v := 0) hx hb dX8_verifyMethod_99 (by decide) ?_
        refine lv_istore_n (lv' := [(2, .int 0), (0, .ref (α.1 8)), (1, .int x1)]) hx hb dX8_verifyMethod_100 rfl hl (by decide) rfl (fun ls hl => ?_)
        obtain ⟨n101, hF⟩ := hF
        exact B101 n101 σ17 0 hF H locs ls hP hS (lv_sub hl [1, 0] rfl)
      · replace hF := hF.2 h13
        refine lv_aload_n hx hb dX8_verifyMethod_28 rfl (lv_at hl 0 rfl) ?_
        refine va_get (D := D) (ci := 8) (v := .ref (α.1 35)) (C := RX8) (T := TX8) (N := 13) hx hb hts in_X8 hown hK hP 8 (sm_gX8 σ α) rfl 6 (by decide) k_7 (fun _ h9 => h9) rfl dX8_verifyMethod_29 ?_
        refine lv_iload_n hx hb dX8_verifyMethod_32 rfl (lv_at hl 2 rfl) ?_
        refine lv_iload_n hx hb dX8_verifyMethod_33 rfl (lv_at hl 2 rfl) ?_
        refine lv_aload_n hx hb dX8_verifyMethod_34 rfl (lv_at hl 0 rfl) ?_
        refine va_get (D := D) (ci := 8) (v := .ref (α.1 4)) (C := RX8) (T := TX8) (N := 13) hx hb hts in_X8 hown hK hP 8 (sm_gX8 σ α) rfl 2 (by decide) k_4 (fun _ h9 => h9) rfl dX8_verifyMethod_35 ?_
        refine va_get (D := D) (ci := 4) (v := .ref (α.1 21)) (C := RX4) (T := TX4) (N := 12) hx hb hts in_X4 hown hK hP 4 (sm_gX4 σ α) rfl 3 (by decide) k_8 (fun _ h9 => h9) rfl dX8_verifyMethod_38 ?_
        refine lv_iload_n hx hb dX8_verifyMethod_41 rfl (lv_at hl 1 rfl) ?_
        obtain ⟨h18, hF⟩ := hF
        refine va_iald (n := (σ.2.2.1 21)) (f := (σ.2.2.2.1 21)) hx hb hK hP 21 10 (sm_aX21 σ α) (sm_yX21 α) h18 dX8_verifyMethod_42 ?_
        refine lv_icmp_ge (tgt := 63) hx hb dX8_verifyMethod_43 (by decide) (fun h19 => ?_) (fun h19 => ?_)
        · replace hF := hF.1 h19
          refine lv_bipush (v := 99) hx hb dX8_verifyMethod_63 (by decide) ?_
          exact B65 (mp_X8_verifyMethod_20 K n20) ih20 σ x1 x2 x2 99 hF H locs ls hP hS (lv_sub hl [0, 1, 2] rfl)
        · replace hF := hF.2 h19
          refine lv_aload_n hx hb dX8_verifyMethod_46 rfl (lv_at hl 0 rfl) ?_
          refine va_get (D := D) (ci := 8) (v := .ref (α.1 4)) (C := RX8) (T := TX8) (N := 13) hx hb hts in_X8 hown hK hP 8 (sm_gX8 σ α) rfl 2 (by decide) k_4 (fun _ h9 => h9) rfl dX8_verifyMethod_47 ?_
          refine va_get (D := D) (ci := 4) (v := .ref (α.1 22)) (C := RX4) (T := TX4) (N := 12) hx hb hts in_X4 hown hK hP 4 (sm_gX4 σ α) rfl 4 (by decide) k_9 (fun _ h9 => h9) rfl dX8_verifyMethod_50 ?_
          refine lv_iload_n hx hb dX8_verifyMethod_53 rfl (lv_at hl 1 rfl) ?_
          refine lv_bipush (v := 8) hx hb dX8_verifyMethod_54 (by decide) ?_
          refine lv_imul hx hb dX8_verifyMethod_56 ?_
          refine lv_iload_n hx hb dX8_verifyMethod_57 rfl (lv_at hl 2 rfl) ?_
          refine lv_iadd hx hb dX8_verifyMethod_58 ?_
          obtain ⟨h20, hF⟩ := hF
          refine va_iald (n := (σ.2.2.1 22)) (f := (σ.2.2.2.1 22)) hx hb hK hP 22 11 (sm_aX22 σ α) (sm_yX22 α) h20 dX8_verifyMethod_59 ?_
          refine lv_goto (tgt := 65) hx hb dX8_verifyMethod_60 (by decide) ?_
          exact B65 (mp_X8_verifyMethod_20 K n20) ih20 σ x1 x2 x2 ((σ.2.2.2.1 22) ((x1 * 8) + x2).toNatClampNeg) hF H locs ls hP hS (lv_sub hl [0, 1, 2] rfl)
  unfold mp_X8_verifyMethod at hF
  revert hP hS
  generalize hLo : ([] : List Loc) = locs
  suffices h9 : ∀ (H : Heap) (locs : List Loc), va_P D vwCl (sm_wX σ α) H → va_S A s.heap H locs → W p l e (headSpec wp_X8_verifyMethod { frames := 5, cells := 0, slots := 0, locals := 124 }).room s m ([.ref (α.1 8), .int p1] : List Value).toArray below meth c H locs 0 0 (MQ below (va_Qv K (sm_B sm_wX D α) A) ([.ref (α.1 8), .int p1] : List Value).toArray s 0 0 A) (F0 m 0 ls []) from fun hP hS => h9 s.heap locs hP hS
  intro H locs hP hS
  refine lv_aload_n hx hb dX8_verifyMethod_0 rfl (lv_at hl 0 rfl) ?_
  refine lv_iload_n hx hb dX8_verifyMethod_1 rfl (lv_at hl 1 rfl) ?_
  refine va_put (D := D) (ci := 8) (v := .int p1) (ty := .int) (C := RX8) (T := TX8) (N := 13) hx hb hts in_X8 tyX8 tyX8_ok nmX8 hown hK hP (hD.to (sm_wX_m _ _)) hS 8 (sm_gX8 σ α) rfl 8 (by decide) k_10 (fun _ h9 => h9) rfl (by decide +kernel) rfl rfl (Nat.le_of_ble_eq_true rfl) dX8_verifyMethod_2 (fun H locs hP _ hS => ?_)
  rw [sm_iX30] at hP
  obtain ⟨σ21, eσ21⟩ : ∃ x : sm_S, x = sm_i σ 30 p1 := ⟨_, rfl⟩
  replace hF := hF σ21 eσ21
  rw [← eσ21] at hP
  refine lv_aload_n hx hb dX8_verifyMethod_5 rfl (lv_at hl 0 rfl) ?_
  refine lv_aload_n hx hb dX8_verifyMethod_6 rfl (lv_at hl 0 rfl) ?_
  refine va_get (D := D) (ci := 8) (v := .ref (α.1 4)) (C := RX8) (T := TX8) (N := 13) hx hb hts in_X8 hown hK hP 8 (sm_gX8 σ21 α) rfl 2 (by decide) k_4 (fun _ h9 => h9) rfl dX8_verifyMethod_7 ?_
  refine va_get (D := D) (ci := 4) (v := .ref (α.1 24)) (C := RX4) (T := TX4) (N := 12) hx hb hts in_X4 hown hK hP 4 (sm_gX4 σ21 α) rfl 6 (by decide) k_11 (fun _ h9 => h9) rfl dX8_verifyMethod_10 ?_
  refine lv_iload_n hx hb dX8_verifyMethod_13 rfl (lv_at hl 1 rfl) ?_
  obtain ⟨h22, hF⟩ := hF
  refine va_iald (n := (σ21.2.2.1 24)) (f := (σ21.2.2.2.1 24)) hx hb hK hP 24 13 (sm_aX24 σ21 α) (sm_yX24 α) h22 dX8_verifyMethod_14 ?_
  refine va_put (D := D) (ci := 8) (v := .int ((σ21.2.2.2.1 24) p1.toNatClampNeg)) (ty := .int) (C := RX8) (T := TX8) (N := 13) hx hb hts in_X8 tyX8 tyX8_ok nmX8 hown hK hP (hD.to (sm_wX_m _ _)) hS 8 (sm_gX8 σ21 α) rfl 9 (by decide) k_3 (fun _ h9 => h9) rfl (by decide +kernel) rfl rfl (Nat.le_of_ble_eq_true rfl) dX8_verifyMethod_15 (fun H locs hP _ hS => ?_)
  rw [sm_iX31] at hP
  obtain ⟨σ23, eσ23⟩ : ∃ x : sm_S, x = sm_i σ21 31 ((σ21.2.2.2.1 24) p1.toNatClampNeg) := ⟨_, rfl⟩
  replace hF := hF σ23 eσ23
  rw [← eσ23] at hP
  refine lv_iconst (v := 0) hx hb dX8_verifyMethod_18 (by decide) ?_
  refine lv_istore_n (lv' := [(2, .int 0), (0, .ref (α.1 8)), (1, .int p1)]) hx hb dX8_verifyMethod_19 rfl hl (by decide) rfl (fun ls hl => ?_)
  obtain ⟨n20, hF⟩ := hF
  exact B20 n20 σ23 p1 0 hF H locs ls hP hS (lv_sub hl [1, 2, 0] rfl)
theorem dX8_found_0 : decode cX8_found 0 = .ok (.iload_n 1, 1) := by decide +kernel
theorem dX8_found_1 : decode cX8_found 1 = .ok (.ifCond .lt 26, 3) := by decide +kernel
theorem dX8_found_4 : decode cX8_found 4 = .ok (.iload_n 1, 1) := by decide +kernel
theorem dX8_found_5 : decode cX8_found 5 = .ok (.aload_n 0, 1) := by decide +kernel
theorem dX8_found_6 : decode cX8_found 6 = .ok (.getfield 41, 3) := by decide +kernel
theorem dX8_found_9 : decode cX8_found 9 = .ok (.getfield 53, 3) := by decide +kernel
theorem dX8_found_12 : decode cX8_found 12 = .ok (.if_icmp .ge 15, 3) := by decide +kernel
theorem dX8_found_15 : decode cX8_found 15 = .ok (.aload_n 0, 1) := by decide +kernel
theorem dX8_found_16 : decode cX8_found 16 = .ok (.getfield 26, 3) := by decide +kernel
theorem dX8_found_19 : decode cX8_found 19 = .ok (.iload_n 1, 1) := by decide +kernel
theorem dX8_found_20 : decode cX8_found 20 = .ok (.iload_n 2, 1) := by decide +kernel
theorem dX8_found_21 : decode cX8_found 21 = .ok (.invokevirtual 62, 3) := by decide +kernel
theorem dX8_found_24 : decode cX8_found 24 = .ok (.ifCond .ne 5, 3) := by decide +kernel
theorem dX8_found_27 : decode cX8_found 27 = .ok (.iconst (-1), 1) := by decide +kernel
theorem dX8_found_28 : decode cX8_found 28 = .ok (.ireturn, 1) := by decide +kernel
theorem dX8_found_29 : decode cX8_found 29 = .ok (.aload_n 0, 1) := by decide +kernel
theorem dX8_found_30 : decode cX8_found 30 = .ok (.getfield 41, 3) := by decide +kernel
theorem dX8_found_33 : decode cX8_found 33 = .ok (.getfield 66, 3) := by decide +kernel
theorem dX8_found_36 : decode cX8_found 36 = .ok (.iload_n 1, 1) := by decide +kernel
theorem dX8_found_37 : decode cX8_found 37 = .ok (.iaload, 1) := by decide +kernel
theorem dX8_found_38 : decode cX8_found 38 = .ok (.iload_n 2, 1) := by decide +kernel
theorem dX8_found_39 : decode cX8_found 39 = .ok (.iadd, 1) := by decide +kernel
theorem dX8_found_40 : decode cX8_found 40 = .ok (.istore 5, 2) := by decide +kernel
theorem dX8_found_42 : decode cX8_found 42 = .ok (.aload_n 0, 1) := by decide +kernel
theorem dX8_found_43 : decode cX8_found 43 = .ok (.getfield 9, 3) := by decide +kernel
theorem dX8_found_46 : decode cX8_found 46 = .ok (.iload 5, 2) := by decide +kernel
theorem dX8_found_48 : decode cX8_found 48 = .ok (.baload, 1) := by decide +kernel
theorem dX8_found_49 : decode cX8_found 49 = .ok (.istore 6, 2) := by decide +kernel
theorem dX8_found_51 : decode cX8_found 51 = .ok (.iload 6, 2) := by decide +kernel
theorem dX8_found_53 : decode cX8_found 53 = .ok (.iconst (-1), 1) := by decide +kernel
theorem dX8_found_54 : decode cX8_found 54 = .ok (.if_icmp .eq 7, 3) := by decide +kernel
theorem dX8_found_57 : decode cX8_found 57 = .ok (.iload_n 3, 1) := by decide +kernel
theorem dX8_found_58 : decode cX8_found 58 = .ok (.ifCond .ne 6, 3) := by decide +kernel
theorem dX8_found_61 : decode cX8_found 61 = .ok (.iload 6, 2) := by decide +kernel
theorem dX8_found_63 : decode cX8_found 63 = .ok (.ireturn, 1) := by decide +kernel
theorem dX8_found_64 : decode cX8_found 64 = .ok (.iload_n 3, 1) := by decide +kernel
theorem dX8_found_65 : decode cX8_found 65 = .ok (.iconst 1, 1) := by decide +kernel
theorem dX8_found_66 : decode cX8_found 66 = .ok (.if_icmp .ne 7, 3) := by decide +kernel
theorem dX8_found_69 : decode cX8_found 69 = .ok (.iconst 0, 1) := by decide +kernel
theorem dX8_found_70 : decode cX8_found 70 = .ok (.goto 12, 3) := by decide +kernel
theorem dX8_found_73 : decode cX8_found 73 = .ok (.aload_n 0, 1) := by decide +kernel
theorem dX8_found_74 : decode cX8_found 74 = .ok (.getfield 41, 3) := by decide +kernel
theorem dX8_found_77 : decode cX8_found 77 = .ok (.getfield 69, 3) := by decide +kernel
theorem dX8_found_80 : decode cX8_found 80 = .ok (.iload_n 1, 1) := by decide +kernel
theorem dX8_found_81 : decode cX8_found 81 = .ok (.iaload, 1) := by decide +kernel
theorem dX8_found_82 : decode cX8_found 82 = .ok (.istore 7, 2) := by decide +kernel
theorem dX8_found_84 : decode cX8_found 84 = .ok (.iload_n 3, 1) := by decide +kernel
theorem dX8_found_85 : decode cX8_found 85 = .ok (.iconst 1, 1) := by decide +kernel
theorem dX8_found_86 : decode cX8_found 86 = .ok (.if_icmp .ne 15, 3) := by decide +kernel
theorem dX8_found_89 : decode cX8_found 89 = .ok (.aload_n 0, 1) := by decide +kernel
theorem dX8_found_90 : decode cX8_found 90 = .ok (.getfield 41, 3) := by decide +kernel
theorem dX8_found_93 : decode cX8_found 93 = .ok (.getfield 69, 3) := by decide +kernel
theorem dX8_found_96 : decode cX8_found 96 = .ok (.iload_n 1, 1) := by decide +kernel
theorem dX8_found_97 : decode cX8_found 97 = .ok (.iaload, 1) := by decide +kernel
theorem dX8_found_98 : decode cX8_found 98 = .ok (.goto 5, 3) := by decide +kernel
theorem dX8_found_101 : decode cX8_found 101 = .ok (.iload 6, 2) := by decide +kernel
theorem dX8_found_103 : decode cX8_found 103 = .ok (.istore 8, 2) := by decide +kernel
theorem dX8_found_105 : decode cX8_found 105 = .ok (.iload_n 3, 1) := by decide +kernel
theorem dX8_found_106 : decode cX8_found 106 = .ok (.iconst 1, 1) := by decide +kernel
theorem dX8_found_107 : decode cX8_found 107 = .ok (.if_icmp .eq 8, 3) := by decide +kernel
theorem dX8_found_110 : decode cX8_found 110 = .ok (.iload_n 3, 1) := by decide +kernel
theorem dX8_found_111 : decode cX8_found 111 = .ok (.iconst 2, 1) := by decide +kernel
theorem dX8_found_112 : decode cX8_found 112 = .ok (.if_icmp .ne 19, 3) := by decide +kernel
theorem dX8_found_115 : decode cX8_found 115 = .ok (.iload 4, 2) := by decide +kernel
theorem dX8_found_117 : decode cX8_found 117 = .ok (.ifCond .lt 14, 3) := by decide +kernel
theorem dX8_found_120 : decode cX8_found 120 = .ok (.iload 4, 2) := by decide +kernel
theorem dX8_found_122 : decode cX8_found 122 = .ok (.iload 8, 2) := by decide +kernel
theorem dX8_found_124 : decode cX8_found 124 = .ok (.if_icmp .ge 7, 3) := by decide +kernel
theorem dX8_found_127 : decode cX8_found 127 = .ok (.iconst 1, 1) := by decide +kernel
theorem dX8_found_128 : decode cX8_found 128 = .ok (.goto 4, 3) := by decide +kernel
theorem dX8_found_131 : decode cX8_found 131 = .ok (.iconst 0, 1) := by decide +kernel
theorem dX8_found_132 : decode cX8_found 132 = .ok (.istore 9, 2) := by decide +kernel
theorem dX8_found_134 : decode cX8_found 134 = .ok (.iload 9, 2) := by decide +kernel
theorem dX8_found_136 : decode cX8_found 136 = .ok (.ifCond .eq 22, 3) := by decide +kernel
theorem dX8_found_139 : decode cX8_found 139 = .ok (.aload_n 0, 1) := by decide +kernel
theorem dX8_found_140 : decode cX8_found 140 = .ok (.getfield 15, 3) := by decide +kernel
theorem dX8_found_143 : decode cX8_found 143 = .ok (.iload 5, 2) := by decide +kernel
theorem dX8_found_145 : decode cX8_found 145 = .ok (.bipush 12, 2) := by decide +kernel
theorem dX8_found_147 : decode cX8_found 147 = .ok (.imul, 1) := by decide +kernel
theorem dX8_found_148 : decode cX8_found 148 = .ok (.iload 7, 2) := by decide +kernel
theorem dX8_found_150 : decode cX8_found 150 = .ok (.iadd, 1) := by decide +kernel
theorem dX8_found_151 : decode cX8_found 151 = .ok (.iload 4, 2) := by decide +kernel
theorem dX8_found_153 : decode cX8_found 153 = .ok (.iadd, 1) := by decide +kernel
theorem dX8_found_154 : decode cX8_found 154 = .ok (.baload, 1) := by decide +kernel
theorem dX8_found_155 : decode cX8_found 155 = .ok (.goto 4, 3) := by decide +kernel
theorem dX8_found_158 : decode cX8_found 158 = .ok (.iconst (-1), 1) := by decide +kernel
theorem dX8_found_159 : decode cX8_found 159 = .ok (.ireturn, 1) := by decide +kernel
def wp_X8_found : List Cond := .code yX8_found cX8_found 10 (some .int) :: ((([.fieldLink RX8 15 "SteadyMachine$Verifier" "types" "[B", .fieldLink RX8 41 "SteadyMachine$Verifier" "methods" "LSteadyMachine$Methods;", .fieldLink RX8 69 "SteadyMachine$Methods" "locals" "[I", .fieldLink RX8 53 "SteadyMachine$Methods" "many" "I", .fieldLink RX8 26 "SteadyMachine$Verifier" "image" "LSteadyMachine$Image;", .fieldLink RX8 66 "SteadyMachine$Methods" "code" "[I", .fieldLink RX8 9 "SteadyMachine$Verifier" "heights" "[B"] ++ (wsV RX8 62 RX2 yX2_beginsAt wp_X2_beginsAt)) ++ wsX40) ++ wsX80)
theorem wq_X8_found : wp_X8_found.all goodWord = true := wa_c rfl (wa_a (wa_a (wa_a (by decide +kernel) (wa_V wq_X2_beginsAt)) uq_X4) uq_X8)
theorem wt_X8_found : GoodIn lw_tbl wp_X8_found := wm_c (List.mem_of_getElem? (i := 1189) (by decide +kernel)) rfl (wm_a (wm_a (wm_a (goodIn_r _ [379, 377, 239, 221, 375, 248, 378] (by decide +kernel) (by decide +kernel)) (wm_a (goodIn_r _ [1190, 734, 735, 137] (by decide +kernel) (by decide +kernel)) wt_X2_beginsAt)) ut_X4) ut_X8)
theorem wg_X8_found_X2_beginsAt_62 : GoodIn wp_X8_found (wsV RX8 62 RX2 yX2_beginsAt wp_X2_beginsAt) := goodIn_sub (fun w h => List.mem_cons_of_mem _ (List.mem_append_left _ (List.mem_append_left _ (List.mem_append_right _ h)))) (wa_V wq_X2_beginsAt)
theorem wi_X8_found_X4 : ∀ w ∈ wsX40, w ∈ wp_X8_found := fun w h => List.mem_cons_of_mem _ (List.mem_append_left _ (List.mem_append_right _ h))
theorem wi_X8_found_X8 : ∀ w ∈ wsX80, w ∈ wp_X8_found := fun w h => List.mem_cons_of_mem _ (List.mem_append_right _ h)
set_option maxHeartbeats 4000000 in
set_option maxRecDepth 100000 in
theorem c_X8_found (l : Launch) (D : va_G) (sz t0 : Nat) (σ : sm_S) (α : sm_A) (p1 : Int32) (p2 : Int32) (p3 : Int32) (p4 : Int32) (K : Int32 → sm_S → Prop) (hF : mp_X8_found σ p1 p2 p3 p4 K) : Met l yX8_found wp_X8_found { frames := 1, cells := 0, slots := 0, locals := 22 } (sm_P sm_wX sm_tX 37 D sz t0 σ α [.ref (α.1 8), .int p1, .int p2, .int p3, .int p4]) (va_Qi K (sm_B sm_wX D α) (sm_a α 37 sz)) 0 0 (sm_a α 37 sz) := by
  refine Met.ofW (cc := cX8_found) (maxL := 10) (ret := (some .int)) (by decide) rfl ?_
  intro p e s m args below meth c s₁ B hml hv
  obtain ⟨rfl, hsz, hP, hK, hD0, hE⟩ := hv
  have hx := B.exec
  have hb := B.bytes
  have hr := B.returns
  have hts := atoms_spec (ws := wp_X8_found) B.pre
  have hown : s.vm.findClass RX8 = some m.cls := findClass_of_methodNamed B.named
  have hlocks := B.notSynchronized
  subst hsz
  have hD : sm_D (sm_a α 37 s.heap.size) α 37 := hD0.own
  have hA : ∀ q : Nat, s.heap.size ≤ q → sm_a α 37 s.heap.size q := fun q h => Or.inr h
  generalize hAe : sm_a α 37 s.heap.size = A at hD hA hE ⊢
  have hS : va_S A s.heap s.heap [] := va_S.rf
  have in_X4 : ∀ w ∈ wsX40, w ∈ wp_X8_found := wi_X8_found_X4
  have in_X8 : ∀ w ∈ wsX80, w ∈ wp_X8_found := wi_X8_found_X8
  have k_0 := hts (.fieldLink RX8 15 "SteadyMachine$Verifier" "types" "[B") (by decide +kernel)
  have k_1 := hts (.fieldLink RX8 41 "SteadyMachine$Verifier" "methods" "LSteadyMachine$Methods;") (by decide +kernel)
  have k_2 := hts (.fieldLink RX8 69 "SteadyMachine$Methods" "locals" "[I") (by decide +kernel)
  have k_3 := hts (.fieldLink RX8 53 "SteadyMachine$Methods" "many" "I") (by decide +kernel)
  have k_4 := hts (.fieldLink RX8 26 "SteadyMachine$Verifier" "image" "LSteadyMachine$Image;") (by decide +kernel)
  have k_5 := hts (.fieldLink RX8 66 "SteadyMachine$Methods" "code" "[I") (by decide +kernel)
  have k_6 := hts (.fieldLink RX8 9 "SteadyMachine$Verifier" "heights" "[B") (by decide +kernel)
  have hl := lv_entry ([.ref (α.1 8), .int p1, .int p2, .int p3, .int p4]) (n := 10) (Nat.le_of_ble_eq_true rfl)
  rw [lg_entry_eq]
  generalize (lg_sl ([.ref (α.1 8), .int p1, .int p2, .int p3, .int p4]) ++ List.replicate (10 - (lg_sl ([.ref (α.1 8), .int p1, .int p2, .int p3, .int p4])).length) Slot.unset).toArray = ls at hl ⊢
  have hl : lv_has ls 10 [(0, .ref (α.1 8)), (1, .int p1), (2, .int p2), (3, .int p3), (4, .int p4)] := hl
  have B159 : ∀ (σ : sm_S) (y0 : Int32), mp_X8_found_159 K σ y0 → sm_J p l e (headSpec wp_X8_found { frames := 1, cells := 0, slots := 0, locals := 22 }).room s m ([.ref (α.1 8), .int p1, .int p2, .int p3, .int p4] : List Value).toArray below meth c (MQ below (va_Qi K (sm_B sm_wX D α) A) ([.ref (α.1 8), .int p1, .int p2, .int p3, .int p4] : List Value).toArray s 0 0 A) D A 10 (sm_wX σ α) 159 [] [.int y0] := by
    intro σ y0 hF H locs ls hP hS hl
    unfold mp_X8_found_159 at hF
    exact W.iret (v := y0) hx hb hr (fun t ht hW => ⟨⟨y0, σ, rfl, hF, (by unfold sm_B; rw [ht]; exact hP)⟩, hS.F ht⟩) hS.2.2 dX8_found_159
  have B132 : ∀ (σ : sm_S) (x4 : Int32) (x5 : Int32) (x7 : Int32) (y0 : Int32), mp_X8_found_132 K σ x4 x5 x7 y0 → sm_J p l e (headSpec wp_X8_found { frames := 1, cells := 0, slots := 0, locals := 22 }).room s m ([.ref (α.1 8), .int p1, .int p2, .int p3, .int p4] : List Value).toArray below meth c (MQ below (va_Qi K (sm_B sm_wX D α) A) ([.ref (α.1 8), .int p1, .int p2, .int p3, .int p4] : List Value).toArray s 0 0 A) D A 10 (sm_wX σ α) 132 [(0, .ref (α.1 8)), (4, .int x4), (5, .int x5), (7, .int x7)] [.int y0] := by
    intro σ x4 x5 x7 y0 hF H locs ls hP hS hl
    unfold mp_X8_found_132 at hF
    refine lv_istore (lv' := [(9, .int y0), (0, .ref (α.1 8)), (4, .int x4), (5, .int x5), (7, .int x7)]) hx hb dX8_found_132 hl (by decide) rfl (fun ls hl => ?_)
    refine lv_iload hx hb dX8_found_134 (lv_at hl 0 rfl) ?_
    refine lv_if_eq (tgt := 158) hx hb dX8_found_136 (by decide) (fun h1 => ?_) (fun h1 => ?_)
    · replace hF := hF.1 h1
      refine lv_iconst (v := -1) hx hb dX8_found_158 (by decide) ?_
      exact B159 σ (-1) hF H locs ls hP hS (lv_sub hl [] rfl)
    · replace hF := hF.2 h1
      refine lv_aload_n hx hb dX8_found_139 rfl (lv_at hl 1 rfl) ?_
      refine va_get (D := D) (ci := 8) (v := .ref (α.1 33)) (C := RX8) (T := TX8) (N := 13) hx hb hts in_X8 hown hK hP 8 (sm_gX8 σ α) rfl 4 (by decide) k_0 (fun _ h9 => h9) rfl dX8_found_140 ?_
      refine lv_iload hx hb dX8_found_143 (lv_at hl 3 rfl) ?_
      refine lv_bipush (v := 12) hx hb dX8_found_145 (by decide) ?_
      refine lv_imul hx hb dX8_found_147 ?_
      refine lv_iload hx hb dX8_found_148 (lv_at hl 4 rfl) ?_
      refine lv_iadd hx hb dX8_found_150 ?_
      refine lv_iload hx hb dX8_found_151 (lv_at hl 2 rfl) ?_
      refine lv_iadd hx hb dX8_found_153 ?_
      obtain ⟨h2, hF⟩ := hF
      refine va_bald (n := (σ.2.2.1 33)) (f := (σ.2.2.2.1 33)) hx hb hK hP 33 22 (sm_aX33 σ α) (sm_yX33 α) h2 dX8_found_154 ?_
      refine lv_goto (tgt := 159) hx hb dX8_found_155 (by decide) ?_
      exact B159 σ ((σ.2.2.2.1 33) (((x5 * 12) + x7) + x4).toNatClampNeg) hF H locs ls hP hS (lv_sub hl [] rfl)
  have B131 : ∀ (σ : sm_S) (x4 : Int32) (x5 : Int32) (x7 : Int32), mp_X8_found_131 K σ x4 x5 x7 → sm_J p l e (headSpec wp_X8_found { frames := 1, cells := 0, slots := 0, locals := 22 }).room s m ([.ref (α.1 8), .int p1, .int p2, .int p3, .int p4] : List Value).toArray below meth c (MQ below (va_Qi K (sm_B sm_wX D α) A) ([.ref (α.1 8), .int p1, .int p2, .int p3, .int p4] : List Value).toArray s 0 0 A) D A 10 (sm_wX σ α) 131 [(0, .ref (α.1 8)), (4, .int x4), (5, .int x5), (7, .int x7)] [] := by
    intro σ x4 x5 x7 hF H locs ls hP hS hl
    unfold mp_X8_found_131 at hF
    refine lv_iconst (v := 0) hx hb dX8_found_131 (by decide) ?_
    exact B132 σ x4 x5 x7 0 hF H locs ls hP hS (lv_sub hl [0, 1, 2, 3] rfl)
  have B115 : ∀ (σ : sm_S) (x4 : Int32) (x5 : Int32) (x7 : Int32) (x8 : Int32), mp_X8_found_115 K σ x4 x5 x7 x8 → sm_J p l e (headSpec wp_X8_found { frames := 1, cells := 0, slots := 0, locals := 22 }).room s m ([.ref (α.1 8), .int p1, .int p2, .int p3, .int p4] : List Value).toArray below meth c (MQ below (va_Qi K (sm_B sm_wX D α) A) ([.ref (α.1 8), .int p1, .int p2, .int p3, .int p4] : List Value).toArray s 0 0 A) D A 10 (sm_wX σ α) 115 [(0, .ref (α.1 8)), (4, .int x4), (5, .int x5), (7, .int x7), (8, .int x8)] [] := by
    intro σ x4 x5 x7 x8 hF H locs ls hP hS hl
    unfold mp_X8_found_115 at hF
    refine lv_iload hx hb dX8_found_115 (lv_at hl 1 rfl) ?_
    refine lv_if_lt (tgt := 131) hx hb dX8_found_117 (by decide) (fun h3 => ?_) (fun h3 => ?_)
    · replace hF := hF.1 h3
      exact B131 σ x4 x5 x7 hF H locs ls hP hS (lv_sub hl [0, 1, 2, 3] rfl)
    · replace hF := hF.2 h3
      refine lv_iload hx hb dX8_found_120 (lv_at hl 1 rfl) ?_
      refine lv_iload hx hb dX8_found_122 (lv_at hl 4 rfl) ?_
      refine lv_icmp_ge (tgt := 131) hx hb dX8_found_124 (by decide) (fun h4 => ?_) (fun h4 => ?_)
      · replace hF := hF.1 h4
        exact B131 σ x4 x5 x7 hF H locs ls hP hS (lv_sub hl [0, 1, 2, 3] rfl)
      · replace hF := hF.2 h4
        refine lv_iconst (v := 1) hx hb dX8_found_127 (by decide) ?_
        refine lv_goto (tgt := 132) hx hb dX8_found_128 (by decide) ?_
        exact B132 σ x4 x5 x7 1 hF H locs ls hP hS (lv_sub hl [0, 1, 2, 3] rfl)
  have B103 : ∀ (σ : sm_S) (x3 : Int32) (x4 : Int32) (x5 : Int32) (x7 : Int32) (y0 : Int32), mp_X8_found_103 K σ x3 x4 x5 x7 y0 → sm_J p l e (headSpec wp_X8_found { frames := 1, cells := 0, slots := 0, locals := 22 }).room s m ([.ref (α.1 8), .int p1, .int p2, .int p3, .int p4] : List Value).toArray below meth c (MQ below (va_Qi K (sm_B sm_wX D α) A) ([.ref (α.1 8), .int p1, .int p2, .int p3, .int p4] : List Value).toArray s 0 0 A) D A 10 (sm_wX σ α) 103 [(0, .ref (α.1 8)), (3, .int x3), (4, .int x4), (5, .int x5), (7, .int x7)] [.int y0] := by
    intro σ x3 x4 x5 x7 y0 hF H locs ls hP hS hl
    unfold mp_X8_found_103 at hF
    refine lv_istore (lv' := [(8, .int y0), (0, .ref (α.1 8)), (3, .int x3), (4, .int x4), (5, .int x5), (7, .int x7)]) hx hb dX8_found_103 hl (by decide) rfl (fun ls hl => ?_)
    refine lv_iload_n hx hb dX8_found_105 rfl (lv_at hl 2 rfl) ?_
    refine lv_iconst (v := 1) hx hb dX8_found_106 (by decide) ?_
    refine lv_icmp_eq (tgt := 115) hx hb dX8_found_107 (by decide) (fun h5 => ?_) (fun h5 => ?_)
    · replace hF := hF.1 h5
      exact B115 σ x4 x5 x7 y0 hF H locs ls hP hS (lv_sub hl [1, 3, 4, 5, 0] rfl)
    · replace hF := hF.2 h5
      refine lv_iload_n hx hb dX8_found_110 rfl (lv_at hl 2 rfl) ?_
      refine lv_iconst (v := 2) hx hb dX8_found_111 (by decide) ?_
      refine lv_icmp_ne (tgt := 131) hx hb dX8_found_112 (by decide) (fun h6 => ?_) (fun h6 => ?_)
      · replace hF := hF.1 h6
        exact B131 σ x4 x5 x7 hF H locs ls hP hS (lv_sub hl [1, 3, 4, 5] rfl)
      · replace hF := hF.2 h6
        exact B115 σ x4 x5 x7 y0 hF H locs ls hP hS (lv_sub hl [1, 3, 4, 5, 0] rfl)
  have B82 : ∀ (σ : sm_S) (x1 : Int32) (x3 : Int32) (x4 : Int32) (x5 : Int32) (x6 : Int32) (y0 : Int32), mp_X8_found_82 K σ x1 x3 x4 x5 x6 y0 → sm_J p l e (headSpec wp_X8_found { frames := 1, cells := 0, slots := 0, locals := 22 }).room s m ([.ref (α.1 8), .int p1, .int p2, .int p3, .int p4] : List Value).toArray below meth c (MQ below (va_Qi K (sm_B sm_wX D α) A) ([.ref (α.1 8), .int p1, .int p2, .int p3, .int p4] : List Value).toArray s 0 0 A) D A 10 (sm_wX σ α) 82 [(0, .ref (α.1 8)), (1, .int x1), (3, .int x3), (4, .int x4), (5, .int x5), (6, .int x6)] [.int y0] := by
    intro σ x1 x3 x4 x5 x6 y0 hF H locs ls hP hS hl
    unfold mp_X8_found_82 at hF
    refine lv_istore (lv' := [(7, .int y0), (0, .ref (α.1 8)), (1, .int x1), (3, .int x3), (4, .int x4), (5, .int x5), (6, .int x6)]) hx hb dX8_found_82 hl (by decide) rfl (fun ls hl => ?_)
    refine lv_iload_n hx hb dX8_found_84 rfl (lv_at hl 3 rfl) ?_
    refine lv_iconst (v := 1) hx hb dX8_found_85 (by decide) ?_
    refine lv_icmp_ne (tgt := 101) hx hb dX8_found_86 (by decide) (fun h7 => ?_) (fun h7 => ?_)
    · replace hF := hF.1 h7
      refine lv_iload hx hb dX8_found_101 (lv_at hl 6 rfl) ?_
      exact B103 σ x3 x4 x5 y0 x6 hF H locs ls hP hS (lv_sub hl [1, 3, 4, 5, 0] rfl)
    · replace hF := hF.2 h7
      refine lv_aload_n hx hb dX8_found_89 rfl (lv_at hl 1 rfl) ?_
      refine va_get (D := D) (ci := 8) (v := .ref (α.1 4)) (C := RX8) (T := TX8) (N := 13) hx hb hts in_X8 hown hK hP 8 (sm_gX8 σ α) rfl 2 (by decide) k_1 (fun _ h9 => h9) rfl dX8_found_90 ?_
      refine va_get (D := D) (ci := 4) (v := .ref (α.1 24)) (C := RX4) (T := TX4) (N := 12) hx hb hts in_X4 hown hK hP 4 (sm_gX4 σ α) rfl 6 (by decide) k_2 (fun _ h9 => h9) rfl dX8_found_93 ?_
      refine lv_iload_n hx hb dX8_found_96 rfl (lv_at hl 2 rfl) ?_
      obtain ⟨h8, hF⟩ := hF
      refine va_iald (n := (σ.2.2.1 24)) (f := (σ.2.2.2.1 24)) hx hb hK hP 24 13 (sm_aX24 σ α) (sm_yX24 α) h8 dX8_found_97 ?_
      refine lv_goto (tgt := 103) hx hb dX8_found_98 (by decide) ?_
      exact B103 σ x3 x4 x5 y0 ((σ.2.2.2.1 24) x1.toNatClampNeg) hF H locs ls hP hS (lv_sub hl [1, 3, 4, 5, 0] rfl)
  have B61 : ∀ (σ : sm_S) (x6 : Int32), mp_X8_found_61 K σ x6 → sm_J p l e (headSpec wp_X8_found { frames := 1, cells := 0, slots := 0, locals := 22 }).room s m ([.ref (α.1 8), .int p1, .int p2, .int p3, .int p4] : List Value).toArray below meth c (MQ below (va_Qi K (sm_B sm_wX D α) A) ([.ref (α.1 8), .int p1, .int p2, .int p3, .int p4] : List Value).toArray s 0 0 A) D A 10 (sm_wX σ α) 61 [(6, .int x6)] [] := by
    intro σ x6 hF H locs ls hP hS hl
    unfold mp_X8_found_61 at hF
    refine lv_iload hx hb dX8_found_61 (lv_at hl 0 rfl) ?_
    exact W.iret (v := x6) hx hb hr (fun t ht hW => ⟨⟨x6, σ, rfl, hF, (by unfold sm_B; rw [ht]; exact hP)⟩, hS.F ht⟩) hS.2.2 dX8_found_63
  have B27 : ∀ (σ : sm_S), mp_X8_found_27 K σ → sm_J p l e (headSpec wp_X8_found { frames := 1, cells := 0, slots := 0, locals := 22 }).room s m ([.ref (α.1 8), .int p1, .int p2, .int p3, .int p4] : List Value).toArray below meth c (MQ below (va_Qi K (sm_B sm_wX D α) A) ([.ref (α.1 8), .int p1, .int p2, .int p3, .int p4] : List Value).toArray s 0 0 A) D A 10 (sm_wX σ α) 27 [] [] := by
    intro σ hF H locs ls hP hS hl
    unfold mp_X8_found_27 at hF
    refine lv_iconst (v := -1) hx hb dX8_found_27 (by decide) ?_
    exact W.iret (v := (-1)) hx hb hr (fun t ht hW => ⟨⟨(-1), σ, rfl, hF, (by unfold sm_B; rw [ht]; exact hP)⟩, hS.F ht⟩) hS.2.2 dX8_found_28
  unfold mp_X8_found at hF
  revert hP hS
  generalize hLo : ([] : List Loc) = locs
  suffices h9 : ∀ (H : Heap) (locs : List Loc), va_P D vwCl (sm_wX σ α) H → va_S A s.heap H locs → W p l e (headSpec wp_X8_found { frames := 1, cells := 0, slots := 0, locals := 22 }).room s m ([.ref (α.1 8), .int p1, .int p2, .int p3, .int p4] : List Value).toArray below meth c H locs 0 0 (MQ below (va_Qi K (sm_B sm_wX D α) A) ([.ref (α.1 8), .int p1, .int p2, .int p3, .int p4] : List Value).toArray s 0 0 A) (F0 m 0 ls []) from fun hP hS => h9 s.heap locs hP hS
  intro H locs hP hS
  refine lv_iload_n hx hb dX8_found_0 rfl (lv_at hl 1 rfl) ?_
  refine lv_if_lt (tgt := 27) hx hb dX8_found_1 (by decide) (fun h9 => ?_) (fun h9 => ?_)
  · replace hF := hF.1 h9
    exact B27 σ hF H locs ls hP hS (lv_sub hl [] rfl)
  · replace hF := hF.2 h9
    refine lv_iload_n hx hb dX8_found_4 rfl (lv_at hl 1 rfl) ?_
    refine lv_aload_n hx hb dX8_found_5 rfl (lv_at hl 0 rfl) ?_
    refine va_get (D := D) (ci := 8) (v := .ref (α.1 4)) (C := RX8) (T := TX8) (N := 13) hx hb hts in_X8 hown hK hP 8 (sm_gX8 σ α) rfl 2 (by decide) k_1 (fun _ h9 => h9) rfl dX8_found_6 ?_
    refine va_get (D := D) (ci := 4) (v := .int (σ.1 16)) (C := RX4) (T := TX4) (N := 12) hx hb hts in_X4 hown hK hP 4 (sm_gX4 σ α) rfl 0 (by decide) k_3 (fun _ h9 => h9) rfl dX8_found_9 ?_
    refine lv_icmp_ge (tgt := 27) hx hb dX8_found_12 (by decide) (fun h10 => ?_) (fun h10 => ?_)
    · replace hF := hF.1 h10
      exact B27 σ hF H locs ls hP hS (lv_sub hl [] rfl)
    · replace hF := hF.2 h10
      refine lv_aload_n hx hb dX8_found_15 rfl (lv_at hl 0 rfl) ?_
      refine va_get (D := D) (ci := 8) (v := .ref (α.1 2)) (C := RX8) (T := TX8) (N := 13) hx hb hts in_X8 hown hK hP 8 (sm_gX8 σ α) rfl 0 (by decide) k_4 (fun _ h9 => h9) rfl dX8_found_16 ?_
      refine lv_iload_n hx hb dX8_found_19 rfl (lv_at hl 1 rfl) ?_
      refine lv_iload_n hx hb dX8_found_20 rfl (lv_at hl 2 rfl) ?_
      refine sm_vi (As := [.int p1, .int p2]) (rest := []) hP hK hD hE hS hA ⟨hx, hb, hml, hown, hts⟩ hl.1 (c_X2_beginsAt l D H.size t0 σ α p1 p2 _ hF) (cwV 2 hts wg_X8_found_X2_beginsAt_62 rfl rfl rfl (by decide +kernel) ⟨Nat.le_of_ble_eq_true rfl, Nat.le_of_ble_eq_true rfl⟩) (va_recv hK hP (ci := 2) (q0 := 2) rfl (sm_gX2 σ α)) rfl rfl (Nat.le_of_ble_eq_true rfl) dX8_found_21 ⟨Nat.zero_le _, Nat.zero_le _⟩ (fun r12 σ11 H locs hF hP hS => ?_)
      refine lv_if_ne (tgt := 29) hx hb dX8_found_24 (by decide) (fun h13 => ?_) (fun h13 => ?_)
      · replace hF := hF.1 h13
        refine lv_aload_n hx hb dX8_found_29 rfl (lv_at hl 0 rfl) ?_
        refine va_get (D := D) (ci := 8) (v := .ref (α.1 4)) (C := RX8) (T := TX8) (N := 13) hx hb hts in_X8 hown hK hP 8 (sm_gX8 σ11 α) rfl 2 (by decide) k_1 (fun _ h9 => h9) rfl dX8_found_30 ?_
        refine va_get (D := D) (ci := 4) (v := .ref (α.1 26)) (C := RX4) (T := TX4) (N := 12) hx hb hts in_X4 hown hK hP 4 (sm_gX4 σ11 α) rfl 8 (by decide) k_5 (fun _ h9 => h9) rfl dX8_found_33 ?_
        refine lv_iload_n hx hb dX8_found_36 rfl (lv_at hl 1 rfl) ?_
        obtain ⟨h14, hF⟩ := hF
        refine va_iald (n := (σ11.2.2.1 26)) (f := (σ11.2.2.2.1 26)) hx hb hK hP 26 15 (sm_aX26 σ11 α) (sm_yX26 α) h14 dX8_found_37 ?_
        refine lv_iload_n hx hb dX8_found_38 rfl (lv_at hl 2 rfl) ?_
        refine lv_iadd hx hb dX8_found_39 ?_
        refine lv_topi (fun v15 ev15 => ?_)
        replace hF := hF v15 ev15
        refine lv_istore (lv' := [(5, .int v15), (0, .ref (α.1 8)), (1, .int p1), (2, .int p2), (3, .int p3), (4, .int p4)]) hx hb dX8_found_40 hl (by decide) rfl (fun ls hl => ?_)
        refine lv_aload_n hx hb dX8_found_42 rfl (lv_at hl 1 rfl) ?_
        refine va_get (D := D) (ci := 8) (v := .ref (α.1 32)) (C := RX8) (T := TX8) (N := 13) hx hb hts in_X8 hown hK hP 8 (sm_gX8 σ11 α) rfl 3 (by decide) k_6 (fun _ h9 => h9) rfl dX8_found_43 ?_
        refine lv_iload hx hb dX8_found_46 (lv_at hl 0 rfl) ?_
        obtain ⟨h16, hF⟩ := hF
        refine va_bald (n := (σ11.2.2.1 32)) (f := (σ11.2.2.2.1 32)) hx hb hK hP 32 21 (sm_aX32 σ11 α) (sm_yX32 α) h16 dX8_found_48 ?_
        refine lv_topi (fun v17 ev17 => ?_)
        replace hF := hF v17 ev17
        refine lv_istore (lv' := [(6, .int v17), (5, .int v15), (0, .ref (α.1 8)), (1, .int p1), (2, .int p2), (3, .int p3), (4, .int p4)]) hx hb dX8_found_49 hl (by decide) rfl (fun ls hl => ?_)
        refine lv_iload hx hb dX8_found_51 (lv_at hl 0 rfl) ?_
        refine lv_iconst (v := -1) hx hb dX8_found_53 (by decide) ?_
        refine lv_icmp_eq (tgt := 61) hx hb dX8_found_54 (by decide) (fun h18 => ?_) (fun h18 => ?_)
        · replace hF := hF.1 h18
          exact B61 σ11 v17 hF H locs ls hP hS (lv_sub hl [0] rfl)
        · replace hF := hF.2 h18
          refine lv_iload_n hx hb dX8_found_57 rfl (lv_at hl 5 rfl) ?_
          refine lv_if_ne (tgt := 64) hx hb dX8_found_58 (by decide) (fun h19 => ?_) (fun h19 => ?_)
          · replace hF := hF.1 h19
            refine lv_iload_n hx hb dX8_found_64 rfl (lv_at hl 5 rfl) ?_
            refine lv_iconst (v := 1) hx hb dX8_found_65 (by decide) ?_
            refine lv_icmp_ne (tgt := 73) hx hb dX8_found_66 (by decide) (fun h20 => ?_) (fun h20 => ?_)
            · replace hF := hF.1 h20
              refine lv_aload_n hx hb dX8_found_73 rfl (lv_at hl 2 rfl) ?_
              refine va_get (D := D) (ci := 8) (v := .ref (α.1 4)) (C := RX8) (T := TX8) (N := 13) hx hb hts in_X8 hown hK hP 8 (sm_gX8 σ11 α) rfl 2 (by decide) k_1 (fun _ h9 => h9) rfl dX8_found_74 ?_
              refine va_get (D := D) (ci := 4) (v := .ref (α.1 24)) (C := RX4) (T := TX4) (N := 12) hx hb hts in_X4 hown hK hP 4 (sm_gX4 σ11 α) rfl 6 (by decide) k_2 (fun _ h9 => h9) rfl dX8_found_77 ?_
              refine lv_iload_n hx hb dX8_found_80 rfl (lv_at hl 3 rfl) ?_
              obtain ⟨h21, hF⟩ := hF
              refine va_iald (n := (σ11.2.2.1 24)) (f := (σ11.2.2.2.1 24)) hx hb hK hP 24 13 (sm_aX24 σ11 α) (sm_yX24 α) h21 dX8_found_81 ?_
              exact B82 σ11 p1 p3 p4 v15 v17 ((σ11.2.2.2.1 24) p1.toNatClampNeg) hF H locs ls hP hS (lv_sub hl [2, 3, 5, 6, 1, 0] rfl)
            · replace hF := hF.2 h20
              refine lv_iconst (v := 0) hx hb dX8_found_69 (by decide) ?_
              refine lv_goto (tgt := 82) hx hb dX8_found_70 (by decide) ?_
              exact B82 σ11 p1 p3 p4 v15 v17 0 hF H locs ls hP hS (lv_sub hl [2, 3, 5, 6, 1, 0] rfl)
          · replace hF := hF.2 h19
            exact B61 σ11 v17 hF H locs ls hP hS (lv_sub hl [0] rfl)
      · replace hF := hF.2 h13
        exact B27 σ11 hF H locs ls hP hS (lv_sub hl [] rfl)
