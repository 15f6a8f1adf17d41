theorem dJ7_copyOf_9075b_0 : decode cJ7_copyOf_9075b 0 = .ok (.iload_n 1, 1) := by decide +kernel
theorem dJ7_copyOf_9075b_1 : decode cJ7_copyOf_9075b 1 = .ok (.aload_n 0, 1) := by decide +kernel
theorem dJ7_copyOf_9075b_2 : decode cJ7_copyOf_9075b 2 = .ok (.arraylength, 1) := by decide +kernel
theorem dJ7_copyOf_9075b_3 : decode cJ7_copyOf_9075b 3 = .ok (.if_icmp .ne 11, 3) := by decide +kernel
theorem dJ7_copyOf_9075b_6 : decode cJ7_copyOf_9075b 6 = .ok (.aload_n 0, 1) := by decide +kernel
theorem dJ7_copyOf_9075b_7 : decode cJ7_copyOf_9075b 7 = .ok (.invokevirtual 310, 3) := by decide +kernel
theorem dJ7_copyOf_9075b_10 : decode cJ7_copyOf_9075b 10 = .ok (.checkcast 311, 3) := by decide +kernel
theorem dJ7_copyOf_9075b_13 : decode cJ7_copyOf_9075b 13 = .ok (.areturn, 1) := by decide +kernel
theorem dJ7_copyOf_9075b_14 : decode cJ7_copyOf_9075b 14 = .ok (.iload_n 1, 1) := by decide +kernel
theorem dJ7_copyOf_9075b_15 : decode cJ7_copyOf_9075b 15 = .ok (.newarray .byte, 2) := by decide +kernel
theorem dJ7_copyOf_9075b_17 : decode cJ7_copyOf_9075b 17 = .ok (.astore_n 2, 1) := by decide +kernel
theorem dJ7_copyOf_9075b_18 : decode cJ7_copyOf_9075b 18 = .ok (.aload_n 0, 1) := by decide +kernel
theorem dJ7_copyOf_9075b_19 : decode cJ7_copyOf_9075b 19 = .ok (.iconst 0, 1) := by decide +kernel
theorem dJ7_copyOf_9075b_20 : decode cJ7_copyOf_9075b 20 = .ok (.aload_n 2, 1) := by decide +kernel
theorem dJ7_copyOf_9075b_21 : decode cJ7_copyOf_9075b 21 = .ok (.iconst 0, 1) := by decide +kernel
theorem dJ7_copyOf_9075b_22 : decode cJ7_copyOf_9075b 22 = .ok (.aload_n 0, 1) := by decide +kernel
theorem dJ7_copyOf_9075b_23 : decode cJ7_copyOf_9075b 23 = .ok (.arraylength, 1) := by decide +kernel
theorem dJ7_copyOf_9075b_24 : decode cJ7_copyOf_9075b 24 = .ok (.iload_n 1, 1) := by decide +kernel
theorem dJ7_copyOf_9075b_25 : decode cJ7_copyOf_9075b 25 = .ok (.invokestatic 304, 3) := by decide +kernel
theorem dJ7_copyOf_9075b_28 : decode cJ7_copyOf_9075b 28 = .ok (.invokestatic 150, 3) := by decide +kernel
theorem dJ7_copyOf_9075b_31 : decode cJ7_copyOf_9075b 31 = .ok (.aload_n 2, 1) := by decide +kernel
theorem dJ7_copyOf_9075b_32 : decode cJ7_copyOf_9075b 32 = .ok (.areturn, 1) := by decide +kernel
set_option maxHeartbeats 4000000 in
set_option maxRecDepth 100000 in
theorem c_J7_copyOf (l : Launch) (D : va_G) (sz t0 : Nat) (σ : sm_S) (α : sm_A) (v : Int32) (hF : mp_copyOf (σ.2.2.1 36) (σ.2.2.2.1 36) v) : Met l yJ7_copyOf_9075b wsJ7_copyOf_9075b { frames := 1, cells := 1, slots := v.toNatClampNeg, locals := 26 } (sm_P sm_wX sm_tX 37 D sz t0 σ α [.ref (α.1 36), .int v])
    (va_Qr (fun _ : ClassId => True) (fun cA a t => va_P D vwCl (sm_wX σ α ++ [(a, .inl (cA, v.toNatClampNeg, .inl (sm_cp (σ.2.2.1 36) (σ.2.2.2.1 36))))]) t.heap ∧ va_K D vwCl (sm_tX α ++ [(cA, .byte)]) t ∧ va_D (sm_a α 37 sz) (sm_wX σ α ++ [(a, .inl (cA, v.toNatClampNeg, .inl (sm_cp (σ.2.2.1 36) (σ.2.2.2.1 36))))])) (sm_a α 37 sz)) 1 v.toNatClampNeg (sm_a α 37 sz) := by
  refine Met.ofW (cc := cJ7_copyOf_9075b) (maxL := 3) (ret := (some (.array .byte))) (by decide) rfl ?_
  intro p e s m args below meth c s₁ B hml hv
  obtain ⟨rfl, hsz, hP, hK, hD0, hE⟩ := hv
  have hx := B.exec
  have hb := B.bytes
  have hr := B.returns
  have hts := atoms_spec (ws := wsJ7_copyOf_9075b) B.pre
  have hown : s.vm.findClass RJ7 = some m.cls := findClass_of_methodNamed B.named
  have hlocks := B.notSynchronized
  subst hsz
  have hD : sm_D (sm_a α 37 s.heap.size) α 37 := hD0.own
  have hA : ∀ q : Nat, s.heap.size ≤ q → sm_a α 37 s.heap.size q := fun q h => Or.inr h
  generalize hAe : sm_a α 37 s.heap.size = A at hD hA hE ⊢
  have hS : va_S A s.heap s.heap [] := va_S.rf
  have hl := lv_entry ([.ref (α.1 36), .int v]) (n := 3) (Nat.le_of_ble_eq_true rfl)
  rw [lg_entry_eq]
  generalize (lg_sl ([.ref (α.1 36), .int v]) ++ List.replicate (3 - (lg_sl ([.ref (α.1 36), .int v])).length) Slot.unset).toArray = ls at hl ⊢
  have hl : lv_has ls 3 [(0, .ref (α.1 36)), (1, .int v)] := hl
  obtain ⟨h0, h1, h2, h3, h4, h5, h6, h7⟩ := hF
  refine lv_iload_n hx hb dJ7_copyOf_9075b_0 rfl (lv_at hl 1 rfl) ?_
  refine lv_aload_n hx hb dJ7_copyOf_9075b_1 rfl (lv_at hl 0 rfl) ?_
  refine va_alen (v := nI (σ.2.2.1 36)) hx hb hK hP 36 25 (sm_aX36 σ α) (sm_yX36 α) rfl dJ7_copyOf_9075b_2 ?_
  refine lv_icmp_ne (tgt := 14) hx hb dJ7_copyOf_9075b_3 (by decide) (fun _ => ?_) (fun h => absurd h h0)
  refine lv_iload_n hx hb dJ7_copyOf_9075b_14 rfl (lv_at hl 1 rfl) ?_
  refine va_newa (atype := .byte) (ty := .byte) (n := v) (N' := v.toNatClampNeg) (a0 := (v.toNatClampNeg, .inl (fun _ => 0))) hx hb (hts (.arrayClass .byte) (by decide +kernel)) rfl hK hP (hD.to (sm_wX_m _ _)) hS hA (fun _ => rfl) h2 rfl h4 (by show 0 + 1 ≤ 1; omega) (by show 0 + v.toNatClampNeg ≤ v.toNatClampNeg; omega) dJ7_copyOf_9075b_15 (fun q cA H hK hP hD9 hS => ?_)
  refine W.widen (k := 1) (n := v.toNatClampNeg) (by omega) (by omega) ?_
  refine lv_astore_n (lv' := [(2, .ref q), (0, .ref (α.1 36)), (1, .int v)]) hx hb dJ7_copyOf_9075b_17 rfl hl (by decide) rfl (fun ls hl => ?_)
  refine lv_aload_n hx hb dJ7_copyOf_9075b_18 rfl (lv_at hl 1 rfl) ?_
  refine lv_iconst (v := 0) hx hb dJ7_copyOf_9075b_19 (by decide) ?_
  refine lv_aload_n hx hb dJ7_copyOf_9075b_20 rfl (lv_at hl 0 rfl) ?_
  refine lv_iconst (v := 0) hx hb dJ7_copyOf_9075b_21 (by decide) ?_
  refine lv_aload_n hx hb dJ7_copyOf_9075b_22 rfl (lv_at hl 1 rfl) ?_
  refine va_alen (v := nI (σ.2.2.1 36)) (cA := α.2 36) (x := (σ.2.2.1 36, .inl (σ.2.2.2.1 36))) (ty := .byte) hx hb hK hP 36 25 rfl rfl rfl dJ7_copyOf_9075b_23 ?_
  refine lv_iload_n hx hb dJ7_copyOf_9075b_24 rfl (lv_at hl 2 rfl) ?_
  refine va_mmin (x := nI (σ.2.2.1 36)) (y := v) hx hb (hml.trans hl.1.symm) hown (hts (.methodLink RJ7 304 Lib.Math.min.name) (by decide +kernel)) (hts (.static Lib.Math.min.name) (by decide +kernel)) (hts (.initialized "java/lang/Math") (by decide +kernel)) (hts (.code Lib.Math.min.name Lib.Math.min.code 2 (some .int)) (by decide +kernel)) (Nat.le_of_ble_eq_true rfl) (Nat.le_of_ble_eq_true rfl) (Nat.le_refl _) (Nat.le_refl _) dJ7_copyOf_9075b_25 ?_
  rw [if_neg h1]
  refine va_copyi (f := σ.2.2.2.1 36) (g := fun _ => 0) (n0 := σ.2.2.1 36) (n1 := v.toNatClampNeg) (c0 := α.2 36) (c1 := cA) (ty := .byte) hx hb (hml.trans hl.1.symm) hown (hts (.methodLink RJ7 150 arraycopyName) (by decide +kernel)) (hts (.native arraycopyName) (by decide +kernel)) (hts (.static arraycopyName) (by decide +kernel)) (hts (.initialized "java/lang/System") (by decide +kernel)) hK hP hD9 hS 36 37 25 26 rfl rfl rfl rfl rfl (by decide) (by decide) h3 h5 h6 h7 (Nat.le_of_ble_eq_true rfl) (Nat.le_of_ble_eq_true rfl) dJ7_copyOf_9075b_28 (fun H locs hP hD9 hS => ?_)
  refine lv_aload_n hx hb dJ7_copyOf_9075b_31 rfl (lv_at hl 0 rfl) ?_
  exact W.aret (v := .ref q) hx hb hr (Or.inr ⟨_, rfl⟩) (Or.inr ⟨_, rfl⟩) (fun t ht hW => ⟨⟨cA, q, rfl, trivial, by rw [ht]; exact hP, va_K.moved hW.alike hK, hD9⟩, hS.F ht⟩) hS.2.2 dJ7_copyOf_9075b_32

theorem dX1_open_0 : decode cX1_open 0 = .ok (.aload_n 0, 1) := by decide +kernel
theorem dX1_open_1 : decode cX1_open 1 = .ok (.iconst 2, 1) := by decide +kernel
theorem dX1_open_2 : decode cX1_open 2 = .ok (.iload_n 1, 1) := by decide +kernel
theorem dX1_open_3 : decode cX1_open 3 = .ok (.imul, 1) := by decide +kernel
theorem dX1_open_4 : decode cX1_open 4 = .ok (.bipush 64, 2) := by decide +kernel
theorem dX1_open_6 : decode cX1_open 6 = .ok (.iadd, 1) := by decide +kernel
theorem dX1_open_7 : decode cX1_open 7 = .ok (.putfield 23, 3) := by decide +kernel
theorem dX1_open_10 : decode cX1_open 10 = .ok (.aload_n 0, 1) := by decide +kernel
theorem dX1_open_11 : decode cX1_open 11 = .ok (.iload_n 2, 1) := by decide +kernel
theorem dX1_open_12 : decode cX1_open 12 = .ok (.putfield 27, 3) := by decide +kernel
theorem dX1_open_15 : decode cX1_open 15 = .ok (.aload_n 0, 1) := by decide +kernel
theorem dX1_open_16 : decode cX1_open 16 = .ok (.iload_n 1, 1) := by decide +kernel
theorem dX1_open_17 : decode cX1_open 17 = .ok (.aload_n 0, 1) := by decide +kernel
theorem dX1_open_18 : decode cX1_open 18 = .ok (.getfield 27, 3) := by decide +kernel
theorem dX1_open_21 : decode cX1_open 21 = .ok (.imul, 1) := by decide +kernel
theorem dX1_open_22 : decode cX1_open 22 = .ok (.aload_n 0, 1) := by decide +kernel
theorem dX1_open_23 : decode cX1_open 23 = .ok (.getfield 27, 3) := by decide +kernel
theorem dX1_open_26 : decode cX1_open 26 = .ok (.iconst 1, 1) := by decide +kernel
theorem dX1_open_27 : decode cX1_open 27 = .ok (.iadd, 1) := by decide +kernel
theorem dX1_open_28 : decode cX1_open 28 = .ok (.idiv, 1) := by decide +kernel
theorem dX1_open_29 : decode cX1_open 29 = .ok (.putfield 30, 3) := by decide +kernel
theorem dX1_open_32 : decode cX1_open 32 = .ok (.aload_n 0, 1) := by decide +kernel
theorem dX1_open_33 : decode cX1_open 33 = .ok (.getfield 9, 3) := by decide +kernel
theorem dX1_open_36 : decode cX1_open 36 = .ok (.arraylength, 1) := by decide +kernel
theorem dX1_open_37 : decode cX1_open 37 = .ok (.iconst 2, 1) := by decide +kernel
theorem dX1_open_38 : decode cX1_open 38 = .ok (.aload_n 0, 1) := by decide +kernel
theorem dX1_open_39 : decode cX1_open 39 = .ok (.getfield 23, 3) := by decide +kernel
theorem dX1_open_42 : decode cX1_open 42 = .ok (.imul, 1) := by decide +kernel
theorem dX1_open_43 : decode cX1_open 43 = .ok (.iconst 1, 1) := by decide +kernel
theorem dX1_open_44 : decode cX1_open 44 = .ok (.iadd, 1) := by decide +kernel
theorem dX1_open_45 : decode cX1_open 45 = .ok (.if_icmp .ge 25, 3) := by decide +kernel
theorem dX1_open_48 : decode cX1_open 48 = .ok (.aload_n 0, 1) := by decide +kernel
theorem dX1_open_49 : decode cX1_open 49 = .ok (.iconst 2, 1) := by decide +kernel
theorem dX1_open_50 : decode cX1_open 50 = .ok (.aload_n 0, 1) := by decide +kernel
theorem dX1_open_51 : decode cX1_open 51 = .ok (.getfield 23, 3) := by decide +kernel
theorem dX1_open_54 : decode cX1_open 54 = .ok (.imul, 1) := by decide +kernel
theorem dX1_open_55 : decode cX1_open 55 = .ok (.iconst 1, 1) := by decide +kernel
theorem dX1_open_56 : decode cX1_open 56 = .ok (.iadd, 1) := by decide +kernel
theorem dX1_open_57 : decode cX1_open 57 = .ok (.aload_n 0, 1) := by decide +kernel
theorem dX1_open_58 : decode cX1_open 58 = .ok (.getfield 9, 3) := by decide +kernel
theorem dX1_open_61 : decode cX1_open 61 = .ok (.arraylength, 1) := by decide +kernel
theorem dX1_open_62 : decode cX1_open 62 = .ok (.invokestatic 33, 3) := by decide +kernel
theorem dX1_open_65 : decode cX1_open 65 = .ok (.newarray .long, 2) := by decide +kernel
theorem dX1_open_67 : decode cX1_open 67 = .ok (.putfield 9, 3) := by decide +kernel
theorem dX1_open_70 : decode cX1_open 70 = .ok (.aload_n 0, 1) := by decide +kernel
theorem dX1_open_71 : decode cX1_open 71 = .ok (.iconst 0, 1) := by decide +kernel
theorem dX1_open_72 : decode cX1_open 72 = .ok (.putfield 39, 3) := by decide +kernel
theorem dX1_open_75 : decode cX1_open 75 = .ok (.aload_n 0, 1) := by decide +kernel
theorem dX1_open_76 : decode cX1_open 76 = .ok (.iconst 0, 1) := by decide +kernel
theorem dX1_open_77 : decode cX1_open 77 = .ok (.putfield 42, 3) := by decide +kernel
theorem dX1_open_80 : decode cX1_open 80 = .ok (.aload_n 0, 1) := by decide +kernel
theorem dX1_open_81 : decode cX1_open 81 = .ok (.iconst 0, 1) := by decide +kernel
theorem dX1_open_82 : decode cX1_open 82 = .ok (.putfield 45, 3) := by decide +kernel
theorem dX1_open_85 : decode cX1_open 85 = .ok (.aload_n 0, 1) := by decide +kernel
theorem dX1_open_86 : decode cX1_open 86 = .ok (.iconst 1, 1) := by decide +kernel
theorem dX1_open_87 : decode cX1_open 87 = .ok (.putfield 48, 3) := by decide +kernel
theorem dX1_open_90 : decode cX1_open 90 = .ok (.aload_n 0, 1) := by decide +kernel
theorem dX1_open_91 : decode cX1_open 91 = .ok (.iconst 1, 1) := by decide +kernel
theorem dX1_open_92 : decode cX1_open 92 = .ok (.invokevirtual 52, 3) := by decide +kernel
theorem dX1_open_95 : decode cX1_open 95 = .ok (.return_, 1) := by decide +kernel
def wp_X1_open : List Cond := .code yX1_open cX1_open 3 none :: ((([.fieldLink RX1 39 "SteadyMachine$Heap" "cycles" "I", .fieldLink RX1 42 "SteadyMachine$Heap" "top" "I", .fieldLink RX1 45 "SteadyMachine$Heap" "flies" "I", .fieldLink RX1 48 "SteadyMachine$Heap" "steady" "Z", .fieldLink RX1 23 "SteadyMachine$Heap" "half" "I", .fieldLink RX1 27 "SteadyMachine$Heap" "k" "I", .fieldLink RX1 30 "SteadyMachine$Heap" "limit" "I", .fieldLink RX1 9 "SteadyMachine$Heap" "cells" "[J", .initialized RX10, .static yX10_roomFor, .arrayClass .long] ++ (wsV RX1 52 RX1 yX1_useHalf wp_X1_useHalf)) ++ wp_X10_roomFor) ++ wsX10)
theorem wq_X1_open : wp_X1_open.all goodWord = true := wa_c rfl (wa_a (wa_a (wa_a (by decide +kernel) (wa_V wq_X1_useHalf)) wq_X10_roomFor) uq_X1)
theorem wt_X1_open : GoodIn lw_tbl wp_X1_open := wm_c (List.mem_of_getElem? (i := 867) (by decide +kernel)) rfl (wm_a (wm_a (wm_a (goodIn_r _ [460, 464, 467, 469, 450, 455, 456, 449, 136, 610, 505] (by decide +kernel) (by decide +kernel)) (wm_a (goodIn_r _ [869, 871, 35, 144] (by decide +kernel) (by decide +kernel)) wt_X1_useHalf)) wt_X10_roomFor) ut_X1)
theorem wg_X1_open_X1_useHalf_52 : GoodIn wp_X1_open (wsV RX1 52 RX1 yX1_useHalf wp_X1_useHalf) := goodIn_sub (fun w h => List.mem_cons_of_mem _ (List.mem_append_left _ (List.mem_append_left _ (List.mem_append_right _ h)))) (wa_V wq_X1_useHalf)
theorem wg_X1_open_X10_roomFor_33 : GoodIn wp_X1_open wp_X10_roomFor := goodIn_sub (fun w h => List.mem_cons_of_mem _ (List.mem_append_left _ (List.mem_append_right _ h))) wq_X10_roomFor
theorem wi_X1_open_X1 : ∀ w ∈ wsX10, w ∈ wp_X1_open := fun w h => List.mem_cons_of_mem _ (List.mem_append_right _ h)
set_option maxHeartbeats 4000000 in
set_option maxRecDepth 100000 in
theorem c_X1_open (l : Launch) (D : va_G) (sz t0 : Nat) (σ : sm_S) (β : sm_A) (p1 : Int32) (p2 : Int32) (mc ms : Nat) (K : sm_S → Prop) (hF : mp_X1_open mc ms σ p1 p2 K) : Met l yX1_open wp_X1_open { frames := 2, cells := mc, slots := ms, locals := 47 } (sm_P sm_wX sm_tX 37 D sz t0 σ β [.ref (β.1 1), .int p1, .int p2]) (va_Qv (fun u : sm_S × sm_A => K u.1) (sm_Ba sm_wX sm_tX 37 11 D (sm_a β 37 sz) β) (sm_a β 37 sz)) (mc) (ms) (sm_a β 37 sz) := by
  refine Met.ofW (cc := cX1_open) (maxL := 3) (ret := none) (by decide) rfl ?_
  intro p e s m args below meth c s₁ B hml hv
  obtain ⟨rfl, hsz, hP, hK, hD0, hE⟩ := hv
  have hx := B.exec
  have hb := B.bytes
  have hr := B.returns
  have hts := atoms_spec (ws := wp_X1_open) B.pre
  have hown : s.vm.findClass RX1 = some m.cls := findClass_of_methodNamed B.named
  have hlocks := B.notSynchronized
  subst hsz
  have hD : sm_D (sm_a β 37 s.heap.size) β 37 := hD0.own
  have hA : ∀ q : Nat, s.heap.size ≤ q → sm_a β 37 s.heap.size q := fun q h => Or.inr h
  generalize hAe : sm_a β 37 s.heap.size = A at hD hA hE ⊢
  have hS : va_S A s.heap s.heap [] := va_S.rf
  have in_X1 : ∀ w ∈ wsX10, w ∈ wp_X1_open := wi_X1_open_X1
  have k_0 := hts (.fieldLink RX1 39 "SteadyMachine$Heap" "cycles" "I") (by decide +kernel)
  have k_1 := hts (.fieldLink RX1 42 "SteadyMachine$Heap" "top" "I") (by decide +kernel)
  have k_2 := hts (.fieldLink RX1 45 "SteadyMachine$Heap" "flies" "I") (by decide +kernel)
  have k_3 := hts (.fieldLink RX1 48 "SteadyMachine$Heap" "steady" "Z") (by decide +kernel)
  have k_4 := hts (.fieldLink RX1 23 "SteadyMachine$Heap" "half" "I") (by decide +kernel)
  have k_5 := hts (.fieldLink RX1 27 "SteadyMachine$Heap" "k" "I") (by decide +kernel)
  have k_6 := hts (.fieldLink RX1 30 "SteadyMachine$Heap" "limit" "I") (by decide +kernel)
  have k_7 := hts (.fieldLink RX1 9 "SteadyMachine$Heap" "cells" "[J") (by decide +kernel)
  have k_8 := hts (.initialized RX10) (by decide +kernel)
  have k_9 := hts (.static yX10_roomFor) (by decide +kernel)
  have k_10 := hts (.arrayClass .long) (by decide +kernel)
  have hl := lv_entry ([.ref (β.1 1), .int p1, .int p2]) (n := 3) (Nat.le_of_ble_eq_true rfl)
  rw [lg_entry_eq]
  generalize (lg_sl ([.ref (β.1 1), .int p1, .int p2]) ++ List.replicate (3 - (lg_sl ([.ref (β.1 1), .int p1, .int p2])).length) Slot.unset).toArray = ls at hl ⊢
  have B70 : ∀ (σ : sm_S), mp_X1_open_70 mc ms K σ → sm_Ja p l e (headSpec wp_X1_open { frames := 2, cells := mc, slots := ms, locals := 47 }).room s m ([.ref (β.1 1), .int p1, .int p2] : List Value).toArray below meth c (MQ below (va_Qv (fun u : sm_S × sm_A => K u.1) (sm_Ba sm_wX sm_tX 37 11 D A β) A) ([.ref (β.1 1), .int p1, .int p2] : List Value).toArray s (mc) (ms) A) sm_wX sm_tX 37 11 D A β 3 (mc) (ms) σ 70 (fun α => [(0, .ref (α.1 1))]) (fun α => []) := by
    intro σ hF α H locs ls hob hK hD hP hS hl
    dsimp only at hl ⊢
    unfold mp_X1_open_70 at hF
    refine lv_aload_n hx hb dX1_open_70 rfl (lv_at hl 0 rfl) ?_
    refine lv_iconst (v := 0) hx hb dX1_open_71 (by decide) ?_
    refine va_put (D := D) (ci := 1) (v := .int 0) (ty := .int) (C := RX1) (T := TX1) (N := 16) hx hb hts in_X1 tyX1 tyX1_ok nmX1 hown hK hP (hD.to (sm_wX_m _ _)) hS 1 (sm_gX1 σ α) rfl 11 (by decide) k_0 (fun _ h9 => h9) rfl (by decide +kernel) rfl rfl (Nat.le_of_ble_eq_true rfl) dX1_open_72 (fun H locs hP _ hS => ?_)
    rw [sm_iX9] at hP
    obtain ⟨σ1, eσ1⟩ : ∃ x : sm_S, x = sm_i σ 9 0 := ⟨_, rfl⟩
    replace hF := hF σ1 eσ1
    rw [← eσ1] at hP
    refine lv_aload_n hx hb dX1_open_75 rfl (lv_at hl 0 rfl) ?_
    refine lv_iconst (v := 0) hx hb dX1_open_76 (by decide) ?_
    refine va_put (D := D) (ci := 1) (v := .int 0) (ty := .int) (C := RX1) (T := TX1) (N := 16) hx hb hts in_X1 tyX1 tyX1_ok nmX1 hown hK hP (hD.to (sm_wX_m _ _)) hS 1 (sm_gX1 σ1 α) rfl 12 (by decide) k_1 (fun _ h9 => h9) rfl (by decide +kernel) rfl rfl (Nat.le_of_ble_eq_true rfl) dX1_open_77 (fun H locs hP _ hS => ?_)
    rw [sm_iX10] at hP
    obtain ⟨σ2, eσ2⟩ : ∃ x : sm_S, x = sm_i σ1 10 0 := ⟨_, rfl⟩
    replace hF := hF σ2 eσ2
    rw [← eσ2] at hP
    refine lv_aload_n hx hb dX1_open_80 rfl (lv_at hl 0 rfl) ?_
    refine lv_iconst (v := 0) hx hb dX1_open_81 (by decide) ?_
    refine va_put (D := D) (ci := 1) (v := .int 0) (ty := .int) (C := RX1) (T := TX1) (N := 16) hx hb hts in_X1 tyX1 tyX1_ok nmX1 hown hK hP (hD.to (sm_wX_m _ _)) hS 1 (sm_gX1 σ2 α) rfl 13 (by decide) k_2 (fun _ h9 => h9) rfl (by decide +kernel) rfl rfl (Nat.le_of_ble_eq_true rfl) dX1_open_82 (fun H locs hP _ hS => ?_)
    rw [sm_iX11] at hP
    obtain ⟨σ3, eσ3⟩ : ∃ x : sm_S, x = sm_i σ2 11 0 := ⟨_, rfl⟩
    replace hF := hF σ3 eσ3
    rw [← eσ3] at hP
    refine lv_aload_n hx hb dX1_open_85 rfl (lv_at hl 0 rfl) ?_
    refine lv_iconst (v := 1) hx hb dX1_open_86 (by decide) ?_
    refine va_put (D := D) (ci := 1) (v := .int 1) (ty := .boolean) (C := RX1) (T := TX1) (N := 16) hx hb hts in_X1 tyX1 tyX1_ok nmX1 hown hK hP (hD.to (sm_wX_m _ _)) hS 1 (sm_gX1 σ3 α) rfl 14 (by decide) k_3 (fun _ h9 => h9) rfl (by decide +kernel) sm_z1.1 sm_z1.2 (Nat.le_of_ble_eq_true rfl) dX1_open_87 (fun H locs hP _ hS => ?_)
    rw [sm_iX12] at hP
    obtain ⟨σ4, eσ4⟩ : ∃ x : sm_S, x = sm_i σ3 12 1 := ⟨_, rfl⟩
    replace hF := hF σ4 eσ4
    rw [← eσ4] at hP
    refine lv_aload_n hx hb dX1_open_90 rfl (lv_at hl 0 rfl) ?_
    refine lv_iconst (v := 1) hx hb dX1_open_91 (by decide) ?_
    refine sm_vv (As := [.int 1]) (rest := []) hP hK hD hE hS hA ⟨hx, hb, hml, hown, hts⟩ hl.1 (c_X1_useHalf l D H.size t0 σ4 α 1 _ hF) (cwV 1 hts wg_X1_open_X1_useHalf_52 rfl rfl rfl (by decide +kernel) ⟨Nat.le_of_ble_eq_true rfl, Nat.le_of_ble_eq_true rfl⟩) (va_recv hK hP (ci := 1) (q0 := 1) rfl (sm_gX1 σ4 α)) rfl rfl (Nat.le_of_ble_eq_true rfl) dX1_open_92 ⟨Nat.le_refl _, Nat.le_refl _⟩ (fun σ5 H locs hF hP hS => ?_)
    exact W.vret hx hb hr (fun t ht hW => ⟨⟨(σ5, α), rfl, hF, by rw [ht]; exact hP, va_K.moved hW.alike hK, hD, hob⟩, hS.F ht⟩) hS.2.2 dX1_open_95
  unfold mp_X1_open at hF
  suffices h9 : sm_Ja p l e (headSpec wp_X1_open { frames := 2, cells := mc, slots := ms, locals := 47 }).room s m ([.ref (β.1 1), .int p1, .int p2] : List Value).toArray below meth c (MQ below (va_Qv (fun u : sm_S × sm_A => K u.1) (sm_Ba sm_wX sm_tX 37 11 D A β) A) ([.ref (β.1 1), .int p1, .int p2] : List Value).toArray s (mc) (ms) A) sm_wX sm_tX 37 11 D A β 3 0 0 σ 0 (fun α => [(0, .ref (α.1 1)), (1, .int p1), (2, .int p2)]) (fun α => []) from h9 β s.heap [] ls (fun _ _ => rfl) hK hD hP hS hl
  clear hK hD hP hS hl
  intro α H locs ls hob hK hD hP hS hl
  dsimp only at hl ⊢
  refine lv_aload_n hx hb dX1_open_0 rfl (lv_at hl 0 rfl) ?_
  refine lv_iconst (v := 2) hx hb dX1_open_1 (by decide) ?_
  refine lv_iload_n hx hb dX1_open_2 rfl (lv_at hl 1 rfl) ?_
  refine lv_imul hx hb dX1_open_3 ?_
  refine lv_bipush (v := 64) hx hb dX1_open_4 (by decide) ?_
  refine lv_iadd hx hb dX1_open_6 ?_
  refine va_put (D := D) (ci := 1) (v := .int ((2 * p1) + 64)) (ty := .int) (C := RX1) (T := TX1) (N := 16) hx hb hts in_X1 tyX1 tyX1_ok nmX1 hown hK hP (hD.to (sm_wX_m _ _)) hS 1 (sm_gX1 σ α) rfl 3 (by decide) k_4 (fun _ h9 => h9) rfl (by decide +kernel) rfl rfl (Nat.le_of_ble_eq_true rfl) dX1_open_7 (fun H locs hP _ hS => ?_)
  rw [sm_iX1] at hP
  obtain ⟨σ6, eσ6⟩ : ∃ x : sm_S, x = sm_i σ 1 ((2 * p1) + 64) := ⟨_, rfl⟩
  replace hF := hF σ6 eσ6
  rw [← eσ6] at hP
  refine lv_aload_n hx hb dX1_open_10 rfl (lv_at hl 0 rfl) ?_
  refine lv_iload_n hx hb dX1_open_11 rfl (lv_at hl 2 rfl) ?_
  refine va_put (D := D) (ci := 1) (v := .int p2) (ty := .int) (C := RX1) (T := TX1) (N := 16) hx hb hts in_X1 tyX1 tyX1_ok nmX1 hown hK hP (hD.to (sm_wX_m _ _)) hS 1 (sm_gX1 σ6 α) rfl 8 (by decide) k_5 (fun _ h9 => h9) rfl (by decide +kernel) rfl rfl (Nat.le_of_ble_eq_true rfl) dX1_open_12 (fun H locs hP _ hS => ?_)
  rw [sm_iX6] at hP
  obtain ⟨σ7, eσ7⟩ : ∃ x : sm_S, x = sm_i σ6 6 p2 := ⟨_, rfl⟩
  replace hF := hF σ7 eσ7
  rw [← eσ7] at hP
  refine lv_aload_n hx hb dX1_open_15 rfl (lv_at hl 0 rfl) ?_
  refine lv_iload_n hx hb dX1_open_16 rfl (lv_at hl 1 rfl) ?_
  refine lv_aload_n hx hb dX1_open_17 rfl (lv_at hl 0 rfl) ?_
  refine va_get (D := D) (ci := 1) (v := .int (σ7.1 6)) (C := RX1) (T := TX1) (N := 16) hx hb hts in_X1 hown hK hP 1 (sm_gX1 σ7 α) rfl 8 (by decide) k_5 (fun _ h9 => h9) rfl dX1_open_18 ?_
  refine lv_imul hx hb dX1_open_21 ?_
  refine lv_aload_n hx hb dX1_open_22 rfl (lv_at hl 0 rfl) ?_
  refine va_get (D := D) (ci := 1) (v := .int (σ7.1 6)) (C := RX1) (T := TX1) (N := 16) hx hb hts in_X1 hown hK hP 1 (sm_gX1 σ7 α) rfl 8 (by decide) k_5 (fun _ h9 => h9) rfl dX1_open_23 ?_
  refine lv_iconst (v := 1) hx hb dX1_open_26 (by decide) ?_
  refine lv_iadd hx hb dX1_open_27 ?_
  obtain ⟨h18, hF⟩ := hF
  refine lv_idiv hx hb dX1_open_28 h18 ?_
  refine va_put (D := D) (ci := 1) (v := .int ((p1 * (σ7.1 6)) / ((σ7.1 6) + 1))) (ty := .int) (C := RX1) (T := TX1) (N := 16) hx hb hts in_X1 tyX1 tyX1_ok nmX1 hown hK hP (hD.to (sm_wX_m _ _)) hS 1 (sm_gX1 σ7 α) rfl 9 (by decide) k_6 (fun _ h9 => h9) rfl (by decide +kernel) rfl rfl (Nat.le_of_ble_eq_true rfl) dX1_open_29 (fun H locs hP _ hS => ?_)
  rw [sm_iX7] at hP
  obtain ⟨σ8, eσ8⟩ : ∃ x : sm_S, x = sm_i σ7 7 ((p1 * (σ7.1 6)) / ((σ7.1 6) + 1)) := ⟨_, rfl⟩
  replace hF := hF σ8 eσ8
  rw [← eσ8] at hP
  refine lv_aload_n hx hb dX1_open_32 rfl (lv_at hl 0 rfl) ?_
  refine va_get (D := D) (ci := 1) (v := .ref (α.1 17)) (C := RX1) (T := TX1) (N := 16) hx hb hts in_X1 hown hK hP 1 (sm_gX1 σ8 α) rfl 2 (by decide) k_7 (fun _ h9 => h9) rfl dX1_open_33 ?_
  refine va_alen (v := nI (σ8.2.2.1 17)) hx hb hK hP 17 6 (sm_aX17 σ8 α) (sm_yX17 α) rfl dX1_open_36 ?_
  refine lv_iconst (v := 2) hx hb dX1_open_37 (by decide) ?_
  refine lv_aload_n hx hb dX1_open_38 rfl (lv_at hl 0 rfl) ?_
  refine va_get (D := D) (ci := 1) (v := .int (σ8.1 1)) (C := RX1) (T := TX1) (N := 16) hx hb hts in_X1 hown hK hP 1 (sm_gX1 σ8 α) rfl 3 (by decide) k_4 (fun _ h9 => h9) rfl dX1_open_39 ?_
  refine lv_imul hx hb dX1_open_42 ?_
  refine lv_iconst (v := 1) hx hb dX1_open_43 (by decide) ?_
  refine lv_iadd hx hb dX1_open_44 ?_
  refine lv_icmp_ge (tgt := 70) hx hb dX1_open_45 (by decide) (fun h9 => ?_) (fun h9 => ?_)
  · replace hF := hF.1 h9
    refine W.widen (k := mc) (n := ms) (Nat.zero_le _) (Nat.zero_le _) ?_
    exact B70 σ8 hF α H locs ls hob hK hD hP hS (lv_sub hl [0] rfl)
  · replace hF := hF.2 h9
    refine lv_aload_n hx hb dX1_open_48 rfl (lv_at hl 0 rfl) ?_
    refine lv_iconst (v := 2) hx hb dX1_open_49 (by decide) ?_
    refine lv_aload_n hx hb dX1_open_50 rfl (lv_at hl 0 rfl) ?_
    refine va_get (D := D) (ci := 1) (v := .int (σ8.1 1)) (C := RX1) (T := TX1) (N := 16) hx hb hts in_X1 hown hK hP 1 (sm_gX1 σ8 α) rfl 3 (by decide) k_4 (fun _ h9 => h9) rfl dX1_open_51 ?_
    refine lv_imul hx hb dX1_open_54 ?_
    refine lv_iconst (v := 1) hx hb dX1_open_55 (by decide) ?_
    refine lv_iadd hx hb dX1_open_56 ?_
    refine lv_aload_n hx hb dX1_open_57 rfl (lv_at hl 0 rfl) ?_
    refine va_get (D := D) (ci := 1) (v := .ref (α.1 17)) (C := RX1) (T := TX1) (N := 16) hx hb hts in_X1 hown hK hP 1 (sm_gX1 σ8 α) rfl 2 (by decide) k_7 (fun _ h9 => h9) rfl dX1_open_58 ?_
    refine va_alen (v := nI (σ8.2.2.1 17)) hx hb hK hP 17 6 (sm_aX17 σ8 α) (sm_yX17 α) rfl dX1_open_61 ?_
    refine sm_nsi (As := [.int ((2 * (σ8.1 1)) + 1), .int (nI (σ8.2.2.1 17))]) (rest := [.ref (α.1 1)]) hP hK hD hE hS hA ⟨hx, hb, hml, hown, hts⟩ hl.1 (c_X10_roomFor l D H.size t0 σ8 α ((2 * (σ8.1 1)) + 1) (nI (σ8.2.2.1 17)) _ hF) ⟨va_cnB 2 hts wg_X1_open_X10_roomFor_33 rfl rfl rfl (hE.1 (.methodLinkNest "SteadyMachine$Heap" 33 ⟨"SteadyMachine", "roomFor", "(II)I"⟩ "SteadyMachine") (by decide +kernel)) k_8 (by decide +kernel) ⟨Nat.le_of_ble_eq_true rfl, Nat.le_of_ble_eq_true rfl⟩, k_9, trivial⟩ rfl rfl (Nat.le_of_ble_eq_true rfl) dX1_open_62 ⟨Nat.zero_le _, Nat.zero_le _⟩ (fun r11 σ10 H locs hF hP hS => ?_)
    obtain ⟨h12, h13, h14, h15, hF⟩ := hF
    refine va_newa (atype := .long) (ty := .long) (n := r11) (N' := r11.toNatClampNeg) (a0 := (r11.toNatClampNeg, .inr (.inl (fun _ => 0)))) hx hb k_10 rfl hK hP (hD.to (sm_wX_m _ _)) hS hA (fun _ => rfl) h12 rfl h13 h14 h15 dX1_open_65 (fun q cA H hK hP hD9 hS => ?_)
    refine va_put (D := D) (ci := 1) (v := .ref q) (ty := .array .long) (C := RX1) (T := TX1) (N := 16) hx hb hts in_X1 tyX1 tyX1_ok nmX1 hown hK hP hD9 hS 1 rfl rfl 2 (by decide) k_7 (fun _ h9 => h9) rfl (by decide +kernel) rfl rfl (Nat.le_of_ble_eq_true rfl) dX1_open_67 (fun H locs hP hD9 hS => ?_)
    obtain ⟨σ16, eσ16⟩ : ∃ x : sm_S, x = sm_xq σ10 17 r11.toNatClampNeg (fun _ => 0) := ⟨_, rfl⟩
    replace hF := hF σ16 eσ16
    obtain ⟨α17, eα17⟩ : ∃ x : sm_A, x = (va_up α.1 17 q, va_up α.2 17 cA) := ⟨_, rfl⟩
    replace hK : va_K D vwCl (sm_tX α17) s := by rw [eα17]; exact hK.sub [0, 1, 2, 3, 4, 5, 26, 7, 8, 9, 10, 11, 12, 13, 14, 15, 16, 17, 18, 19, 20, 21, 22, 23, 24, 25] rfl
    replace hP : va_P D vwCl (sm_wX σ16 α17) H := by rw [eσ16, eα17]; exact hP.sub [0, 1, 2, 3, 4, 5, 6, 7, 8, 9, 10, 11, 12, 13, 14, 15, 16, 37, 18, 19, 20, 21, 22, 23, 24, 25, 26, 27, 28, 29, 30, 31, 32, 33, 34, 35, 36] rfl
    replace hD : sm_D A α17 37 := sm_D.of (sm_wX_m σ16 α17) (by rw [eσ16, eα17]; exact hD9.sub [0, 1, 2, 3, 4, 5, 6, 7, 8, 9, 10, 11, 12, 13, 14, 15, 16, 37, 18, 19, 20, 21, 22, 23, 24, 25, 26, 27, 28, 29, 30, 31, 32, 33, 34, 35, 36] (by decide) rfl)
    replace hob : ∀ k : Nat, k < 11 → α17.1 k = β.1 k := fun k hk => by rw [eα17]; exact (va_up_ne _ _ (by omega)).trans (hob k hk)
    replace hl : lv_has ls 3 [(0, .ref (α17.1 1)), (1, .int p1), (2, .int p2)] := by rw [eα17]; exact hl
    refine W.widen (k := mc) (n := ms) (h14) (h15) ?_
    exact B70 σ16 hF α17 H locs ls hob hK hD hP hS (lv_sub hl [0] rfl)
theorem dX2_take_0 : decode cX2_take 0 = .ok (.aload_n 0, 1) := by decide +kernel
theorem dX2_take_1 : decode cX2_take 1 = .ok (.getfield 25, 3) := by decide +kernel
theorem dX2_take_4 : decode cX2_take 4 = .ok (.arraylength, 1) := by decide +kernel
theorem dX2_take_5 : decode cX2_take 5 = .ok (.iload_n 2, 1) := by decide +kernel
theorem dX2_take_6 : decode cX2_take 6 = .ok (.if_icmp .ge 27, 3) := by decide +kernel
theorem dX2_take_9 : decode cX2_take 9 = .ok (.iload_n 2, 1) := by decide +kernel
theorem dX2_take_10 : decode cX2_take 10 = .ok (.aload_n 0, 1) := by decide +kernel
theorem dX2_take_11 : decode cX2_take 11 = .ok (.getfield 25, 3) := by decide +kernel
theorem dX2_take_14 : decode cX2_take 14 = .ok (.arraylength, 1) := by decide +kernel
theorem dX2_take_15 : decode cX2_take 15 = .ok (.invokestatic 33, 3) := by decide +kernel
theorem dX2_take_18 : decode cX2_take 18 = .ok (.istore_n 3, 1) := by decide +kernel
theorem dX2_take_19 : decode cX2_take 19 = .ok (.aload_n 0, 1) := by decide +kernel
theorem dX2_take_20 : decode cX2_take 20 = .ok (.iload_n 3, 1) := by decide +kernel
theorem dX2_take_21 : decode cX2_take 21 = .ok (.newarray .byte, 2) := by decide +kernel
theorem dX2_take_23 : decode cX2_take 23 = .ok (.putfield 25, 3) := by decide +kernel
theorem dX2_take_26 : decode cX2_take 26 = .ok (.aload_n 0, 1) := by decide +kernel
theorem dX2_take_27 : decode cX2_take 27 = .ok (.iload_n 3, 1) := by decide +kernel
theorem dX2_take_28 : decode cX2_take 28 = .ok (.newarray .boolean, 2) := by decide +kernel
theorem dX2_take_30 : decode cX2_take 30 = .ok (.putfield 29, 3) := by decide +kernel
theorem dX2_take_33 : decode cX2_take 33 = .ok (.aload_n 1, 1) := by decide +kernel
theorem dX2_take_34 : decode cX2_take 34 = .ok (.iconst 0, 1) := by decide +kernel
theorem dX2_take_35 : decode cX2_take 35 = .ok (.aload_n 0, 1) := by decide +kernel
theorem dX2_take_36 : decode cX2_take 36 = .ok (.getfield 25, 3) := by decide +kernel
theorem dX2_take_39 : decode cX2_take 39 = .ok (.iconst 0, 1) := by decide +kernel
theorem dX2_take_40 : decode cX2_take 40 = .ok (.iload_n 2, 1) := by decide +kernel
theorem dX2_take_41 : decode cX2_take 41 = .ok (.invokestatic 37, 3) := by decide +kernel
theorem dX2_take_44 : decode cX2_take 44 = .ok (.iconst 0, 1) := by decide +kernel
theorem dX2_take_45 : decode cX2_take 45 = .ok (.istore_n 3, 1) := by decide +kernel
theorem dX2_take_46 : decode cX2_take 46 = .ok (.iload_n 3, 1) := by decide +kernel
theorem dX2_take_47 : decode cX2_take 47 = .ok (.iload_n 2, 1) := by decide +kernel
theorem dX2_take_48 : decode cX2_take 48 = .ok (.if_icmp .ge 16, 3) := by decide +kernel
theorem dX2_take_51 : decode cX2_take 51 = .ok (.aload_n 0, 1) := by decide +kernel
theorem dX2_take_52 : decode cX2_take 52 = .ok (.getfield 29, 3) := by decide +kernel
theorem dX2_take_55 : decode cX2_take 55 = .ok (.iload_n 3, 1) := by decide +kernel
theorem dX2_take_56 : decode cX2_take 56 = .ok (.iconst 0, 1) := by decide +kernel
theorem dX2_take_57 : decode cX2_take 57 = .ok (.bastore, 1) := by decide +kernel
theorem dX2_take_58 : decode cX2_take 58 = .ok (.iinc 3 1, 3) := by decide +kernel
theorem dX2_take_61 : decode cX2_take 61 = .ok (.goto (-15), 3) := by decide +kernel
theorem dX2_take_64 : decode cX2_take 64 = .ok (.aload_n 0, 1) := by decide +kernel
theorem dX2_take_65 : decode cX2_take 65 = .ok (.iload_n 2, 1) := by decide +kernel
theorem dX2_take_66 : decode cX2_take 66 = .ok (.putfield 43, 3) := by decide +kernel
theorem dX2_take_69 : decode cX2_take 69 = .ok (.aload_n 0, 1) := by decide +kernel
theorem dX2_take_70 : decode cX2_take 70 = .ok (.iconst 0, 1) := by decide +kernel
theorem dX2_take_71 : decode cX2_take 71 = .ok (.putfield 47, 3) := by decide +kernel
theorem dX2_take_74 : decode cX2_take 74 = .ok (.return_, 1) := by decide +kernel
def wp_X2_take : List Cond := .code yX2_take cX2_take 4 none :: (([.fieldLink RX2 43 "SteadyMachine$Image" "size" "I", .fieldLink RX2 47 "SteadyMachine$Image" "instructions" "I", .fieldLink RX2 29 "SteadyMachine$Image" "begins" "[Z", .fieldLink RX2 25 "SteadyMachine$Image" "bytes" "[B", .methodLink RX2 37 arraycopyName, .native arraycopyName, .static arraycopyName, .initialized "java/lang/System", .initialized RX10, .static yX10_roomFor, .arrayClass .byte, .arrayClass .boolean] ++ wp_X10_roomFor) ++ wsX20)
theorem wq_X2_take : wp_X2_take.all goodWord = true := wa_c rfl (wa_a (wa_a (by decide +kernel) wq_X10_roomFor) uq_X2)
theorem wt_X2_take : GoodIn lw_tbl wp_X2_take := wm_c (List.mem_of_getElem? (i := 642) (by decide +kernel)) rfl (wm_a (wm_a (goodIn_r _ [312, 314, 308, 307, 644, 630, 629, 151, 136, 610, 212, 330] (by decide +kernel) (by decide +kernel)) wt_X10_roomFor) ut_X2)
theorem wg_X2_take_X10_roomFor_33 : GoodIn wp_X2_take wp_X10_roomFor := goodIn_sub (fun w h => List.mem_cons_of_mem _ (List.mem_append_left _ (List.mem_append_right _ h))) wq_X10_roomFor
theorem wi_X2_take_X2 : ∀ w ∈ wsX20, w ∈ wp_X2_take := fun w h => List.mem_cons_of_mem _ (List.mem_append_right _ h)
set_option maxHeartbeats 4000000 in
set_option maxRecDepth 100000 in
theorem c_X2_take (l : Launch) (D : va_G) (sz t0 : Nat) (σ : sm_S) (β : sm_A) (p2 : Int32) (mc ms : Nat) (K : sm_S → Prop) (hF : mp_X2_take mc ms σ p2 K) : Met l yX2_take wp_X2_take { frames := 2, cells := mc, slots := ms, locals := 47 } (sm_P sm_wX sm_tX 37 D sz t0 σ β [.ref (β.1 2), .ref (β.1 36), .int p2]) (va_Qv (fun u : sm_S × sm_A => K u.1) (sm_Ba sm_wX sm_tX 37 11 D (sm_a β 37 sz) β) (sm_a β 37 sz)) (mc) (ms) (sm_a β 37 sz) := by
  refine Met.ofW (cc := cX2_take) (maxL := 4) (ret := none) (by decide) rfl ?_
  intro p e s m args below meth c s₁ B hml hv
  obtain ⟨rfl, hsz, hP, hK, hD0, hE⟩ := hv
  have hx := B.exec
  have hb := B.bytes
  have hr := B.returns
  have hts := atoms_spec (ws := wp_X2_take) B.pre
  have hown : s.vm.findClass RX2 = some m.cls := findClass_of_methodNamed B.named
  have hlocks := B.notSynchronized
  subst hsz
  have hD : sm_D (sm_a β 37 s.heap.size) β 37 := hD0.own
  have hA : ∀ q : Nat, s.heap.size ≤ q → sm_a β 37 s.heap.size q := fun q h => Or.inr h
  generalize hAe : sm_a β 37 s.heap.size = A at hD hA hE ⊢
  have hS : va_S A s.heap s.heap [] := va_S.rf
  have in_X2 : ∀ w ∈ wsX20, w ∈ wp_X2_take := wi_X2_take_X2
  have k_0 := hts (.fieldLink RX2 43 "SteadyMachine$Image" "size" "I") (by decide +kernel)
  have k_1 := hts (.fieldLink RX2 47 "SteadyMachine$Image" "instructions" "I") (by decide +kernel)
  have k_2 := hts (.fieldLink RX2 29 "SteadyMachine$Image" "begins" "[Z") (by decide +kernel)
  have k_3 := hts (.fieldLink RX2 25 "SteadyMachine$Image" "bytes" "[B") (by decide +kernel)
  have k_4 := hts (.methodLink RX2 37 arraycopyName) (by decide +kernel)
  have k_5 := hts (.native arraycopyName) (by decide +kernel)
  have k_6 := hts (.static arraycopyName) (by decide +kernel)
  have k_7 := hts (.initialized "java/lang/System") (by decide +kernel)
  have k_8 := hts (.initialized RX10) (by decide +kernel)
  have k_9 := hts (.static yX10_roomFor) (by decide +kernel)
  have k_10 := hts (.arrayClass .byte) (by decide +kernel)
  have k_11 := hts (.arrayClass .boolean) (by decide +kernel)
  have hl := lv_entry ([.ref (β.1 2), .ref (β.1 36), .int p2]) (n := 4) (Nat.le_of_ble_eq_true rfl)
  rw [lg_entry_eq]
  generalize (lg_sl ([.ref (β.1 2), .ref (β.1 36), .int p2]) ++ List.replicate (4 - (lg_sl ([.ref (β.1 2), .ref (β.1 36), .int p2])).length) Slot.unset).toArray = ls at hl ⊢
  have B46 : ∀ (n : Nat) (σ : sm_S) (x2 : Int32) (x3 : Int32), mp_X2_take_46 mc ms K n σ x2 x3 → sm_Ja p l e (headSpec wp_X2_take { frames := 2, cells := mc, slots := ms, locals := 47 }).room s m ([.ref (β.1 2), .ref (β.1 36), .int p2] : List Value).toArray below meth c (MQ below (va_Qv (fun u : sm_S × sm_A => K u.1) (sm_Ba sm_wX sm_tX 37 11 D A β) A) ([.ref (β.1 2), .ref (β.1 36), .int p2] : List Value).toArray s (mc) (ms) A) sm_wX sm_tX 37 11 D A β 4 (mc) (ms) σ 46 (fun α => [(0, .ref (α.1 2)), (2, .int x2), (3, .int x3)]) (fun α => []) := by
    intro n46
    induction n46 with
    | zero =>
      intro σ x2 x3 hF
      exact hF.elim
    | succ n46 ih46 =>
      intro σ x2 x3 hF α H locs ls hob hK hD hP hS hl
      dsimp only at hl ⊢
      unfold mp_X2_take_46 at hF
      refine lv_iload_n hx hb dX2_take_46 rfl (lv_at hl 2 rfl) ?_
      refine lv_iload_n hx hb dX2_take_47 rfl (lv_at hl 1 rfl) ?_
      refine lv_icmp_ge (tgt := 64) hx hb dX2_take_48 (by decide) (fun h1 => ?_) (fun h1 => ?_)
      · replace hF := hF.1 h1
        refine lv_aload_n hx hb dX2_take_64 rfl (lv_at hl 0 rfl) ?_
        refine lv_iload_n hx hb dX2_take_65 rfl (lv_at hl 1 rfl) ?_
        refine va_put (D := D) (ci := 2) (v := .int x2) (ty := .int) (C := RX2) (T := TX2) (N := 6) hx hb hts in_X2 tyX2 tyX2_ok nmX2 hown hK hP (hD.to (sm_wX_m _ _)) hS 2 (sm_gX2 σ α) rfl 4 (by decide) k_0 (fun _ h9 => h9) rfl (by decide +kernel) rfl rfl (Nat.le_of_ble_eq_true rfl) dX2_take_66 (fun H locs hP _ hS => ?_)
        rw [sm_iX14] at hP
        obtain ⟨σ2, eσ2⟩ : ∃ x : sm_S, x = sm_i σ 14 x2 := ⟨_, rfl⟩
        replace hF := hF σ2 eσ2
        rw [← eσ2] at hP
        refine lv_aload_n hx hb dX2_take_69 rfl (lv_at hl 0 rfl) ?_
        refine lv_iconst (v := 0) hx hb dX2_take_70 (by decide) ?_
        refine va_put (D := D) (ci := 2) (v := .int 0) (ty := .int) (C := RX2) (T := TX2) (N := 6) hx hb hts in_X2 tyX2 tyX2_ok nmX2 hown hK hP (hD.to (sm_wX_m _ _)) hS 2 (sm_gX2 σ2 α) rfl 5 (by decide) k_1 (fun _ h9 => h9) rfl (by decide +kernel) rfl rfl (Nat.le_of_ble_eq_true rfl) dX2_take_71 (fun H locs hP _ hS => ?_)
        rw [sm_iX15] at hP
        obtain ⟨σ3, eσ3⟩ : ∃ x : sm_S, x = sm_i σ2 15 0 := ⟨_, rfl⟩
        replace hF := hF σ3 eσ3
        rw [← eσ3] at hP
        exact W.vret hx hb hr (fun t ht hW => ⟨⟨(σ3, α), rfl, hF, by rw [ht]; exact hP, va_K.moved hW.alike hK, hD, hob⟩, hS.F ht⟩) hS.2.2 dX2_take_74
      · replace hF := hF.2 h1
        refine lv_aload_n hx hb dX2_take_51 rfl (lv_at hl 0 rfl) ?_
        refine va_get (D := D) (ci := 2) (v := .ref (α.1 19)) (C := RX2) (T := TX2) (N := 6) hx hb hts in_X2 hown hK hP 2 (sm_gX2 σ α) rfl 3 (by decide) k_2 (fun _ h9 => h9) rfl dX2_take_52 ?_
        refine lv_iload_n hx hb dX2_take_55 rfl (lv_at hl 2 rfl) ?_
        refine lv_iconst (v := 0) hx hb dX2_take_56 (by decide) ?_
        obtain ⟨h4, hF⟩ := hF
        refine va_zast (n := (σ.2.2.1 19)) (f := (σ.2.2.2.1 19)) (x := 0) hx hb hK hP (hD.to (sm_wX_m _ _)) hS 19 8 (sm_aX19 σ α) (sm_yX19 α) h4 dX2_take_57 (fun H locs hP _ hS => ?_)
        rw [sm_rX19] at hP
        obtain ⟨σ5, eσ5⟩ : ∃ x : sm_S, x = sm_r σ 19 (upd (σ.2.2.2.1 19) x3.toNatClampNeg (vp_nar .boolean 0)) := ⟨_, rfl⟩
        replace hF := hF σ5 eσ5
        rw [← eσ5] at hP
        obtain ⟨v6, ev6⟩ : ∃ y : Int32, y = x3 + 1 := ⟨_, rfl⟩
        replace hF := hF v6 ev6
        refine lv_iinc (v := v6) (lv' := [(3, .int v6), (0, .ref (α.1 2)), (2, .int x2)]) hx hb dX2_take_58 hl (k := 2) rfl (by rw [ev6]; rfl) (by decide) rfl (fun ls hl => ?_)
        refine lv_goto (tgt := 46) hx hb dX2_take_61 (by decide) ?_
        exact ih46 σ5 x2 v6 hF α H locs ls hob hK hD hP hS (lv_sub hl [1, 2, 0] rfl)
  have B33 : ∀ (σ : sm_S) (x2 : Int32), mp_X2_take_33 mc ms K σ x2 → sm_Ja p l e (headSpec wp_X2_take { frames := 2, cells := mc, slots := ms, locals := 47 }).room s m ([.ref (β.1 2), .ref (β.1 36), .int p2] : List Value).toArray below meth c (MQ below (va_Qv (fun u : sm_S × sm_A => K u.1) (sm_Ba sm_wX sm_tX 37 11 D A β) A) ([.ref (β.1 2), .ref (β.1 36), .int p2] : List Value).toArray s (mc) (ms) A) sm_wX sm_tX 37 11 D A β 4 (mc) (ms) σ 33 (fun α => [(0, .ref (α.1 2)), (1, .ref (α.1 36)), (2, .int x2)]) (fun α => []) := by
    intro σ x2 hF α H locs ls hob hK hD hP hS hl
    dsimp only at hl ⊢
    unfold mp_X2_take_33 at hF
    refine lv_aload_n hx hb dX2_take_33 rfl (lv_at hl 1 rfl) ?_
    refine lv_iconst (v := 0) hx hb dX2_take_34 (by decide) ?_
    refine lv_aload_n hx hb dX2_take_35 rfl (lv_at hl 0 rfl) ?_
    refine va_get (D := D) (ci := 2) (v := .ref (α.1 18)) (C := RX2) (T := TX2) (N := 6) hx hb hts in_X2 hown hK hP 2 (sm_gX2 σ α) rfl 2 (by decide) k_3 (fun _ h9 => h9) rfl dX2_take_36 ?_
    refine lv_iconst (v := 0) hx hb dX2_take_39 (by decide) ?_
    refine lv_iload_n hx hb dX2_take_40 rfl (lv_at hl 2 rfl) ?_
    obtain ⟨h8, h9, h10, h11, h12, h13, hF⟩ := hF
    refine va_copyi (f := (σ.2.2.2.1 36)) (g := (σ.2.2.2.1 18)) hx hb (hml.trans hl.1.symm) hown k_4 k_5 k_6 k_7 hK hP (hD.to (sm_wX_m _ _)) hS 36 18 25 7 (sm_aX36 σ α) (sm_aX18 σ α) (sm_yX36 α) (sm_yX18 α) rfl h8 h9 h10 h11 h12 h13 (Nat.le_of_ble_eq_true rfl) (Nat.le_of_ble_eq_true rfl) dX2_take_41 (fun H locs hP _ hS => ?_)
    rw [sm_rX18] at hP
    obtain ⟨σ7, eσ7⟩ : ∃ x : sm_S, x = sm_r σ 18 (va_cpy (σ.2.2.2.1 36) (σ.2.2.2.1 18) (0 : Int32).toNatClampNeg (0 : Int32).toNatClampNeg x2.toNatClampNeg) := ⟨_, rfl⟩
    replace hF := hF σ7 eσ7
    rw [← eσ7] at hP
    refine lv_iconst (v := 0) hx hb dX2_take_44 (by decide) ?_
    refine lv_istore_n (lv' := [(3, .int 0), (0, .ref (α.1 2)), (1, .ref (α.1 36)), (2, .int x2)]) hx hb dX2_take_45 rfl hl (by decide) rfl (fun ls hl => ?_)
    obtain ⟨n46, hF⟩ := hF
    exact B46 n46 σ7 x2 0 hF α H locs ls hob hK hD hP hS (lv_sub hl [1, 3, 0] rfl)
  unfold mp_X2_take at hF
  suffices h9 : sm_Ja p l e (headSpec wp_X2_take { frames := 2, cells := mc, slots := ms, locals := 47 }).room s m ([.ref (β.1 2), .ref (β.1 36), .int p2] : List Value).toArray below meth c (MQ below (va_Qv (fun u : sm_S × sm_A => K u.1) (sm_Ba sm_wX sm_tX 37 11 D A β) A) ([.ref (β.1 2), .ref (β.1 36), .int p2] : List Value).toArray s (mc) (ms) A) sm_wX sm_tX 37 11 D A β 4 0 0 σ 0 (fun α => [(0, .ref (α.1 2)), (1, .ref (α.1 36)), (2, .int p2)]) (fun α => []) from h9 β s.heap [] ls (fun _ _ => rfl) hK hD hP hS hl
  clear hK hD hP hS hl
  intro α H locs ls hob hK hD hP hS hl
  dsimp only at hl ⊢
  refine lv_aload_n hx hb dX2_take_0 rfl (lv_at hl 0 rfl) ?_
  refine va_get (D := D) (ci := 2) (v := .ref (α.1 18)) (C := RX2) (T := TX2) (N := 6) hx hb hts in_X2 hown hK hP 2 (sm_gX2 σ α) rfl 2 (by decide) k_3 (fun _ h9 => h9) rfl dX2_take_1 ?_
  refine va_alen (v := nI (σ.2.2.1 18)) hx hb hK hP 18 7 (sm_aX18 σ α) (sm_yX18 α) rfl dX2_take_4 ?_
  refine lv_iload_n hx hb dX2_take_5 rfl (lv_at hl 2 rfl) ?_
  refine lv_icmp_ge (tgt := 33) hx hb dX2_take_6 (by decide) (fun h14 => ?_) (fun h14 => ?_)
  · replace hF := hF.1 h14
    refine W.widen (k := mc) (n := ms) (Nat.zero_le _) (Nat.zero_le _) ?_
    exact B33 σ p2 hF α H locs ls hob hK hD hP hS (lv_sub hl [0, 1, 2] rfl)
  · replace hF := hF.2 h14
    refine lv_iload_n hx hb dX2_take_9 rfl (lv_at hl 2 rfl) ?_
    refine lv_aload_n hx hb dX2_take_10 rfl (lv_at hl 0 rfl) ?_
    refine va_get (D := D) (ci := 2) (v := .ref (α.1 18)) (C := RX2) (T := TX2) (N := 6) hx hb hts in_X2 hown hK hP 2 (sm_gX2 σ α) rfl 2 (by decide) k_3 (fun _ h9 => h9) rfl dX2_take_11 ?_
    refine va_alen (v := nI (σ.2.2.1 18)) hx hb hK hP 18 7 (sm_aX18 σ α) (sm_yX18 α) rfl dX2_take_14 ?_
    refine sm_nsi (As := [.int p2, .int (nI (σ.2.2.1 18))]) (rest := []) hP hK hD hE hS hA ⟨hx, hb, hml, hown, hts⟩ hl.1 (c_X10_roomFor l D H.size t0 σ α p2 (nI (σ.2.2.1 18)) _ hF) ⟨va_cnB 2 hts wg_X2_take_X10_roomFor_33 rfl rfl rfl (hE.1 (.methodLinkNest "SteadyMachine$Image" 33 ⟨"SteadyMachine", "roomFor", "(II)I"⟩ "SteadyMachine") (by decide +kernel)) k_8 (by decide +kernel) ⟨Nat.le_of_ble_eq_true rfl, Nat.le_of_ble_eq_true rfl⟩, k_9, trivial⟩ rfl rfl (Nat.le_of_ble_eq_true rfl) dX2_take_15 ⟨Nat.zero_le _, Nat.zero_le _⟩ (fun r16 σ15 H locs hF hP hS => ?_)
    refine lv_istore_n (lv' := [(3, .int r16), (0, .ref (α.1 2)), (1, .ref (α.1 36)), (2, .int p2)]) hx hb dX2_take_18 rfl hl (by decide) rfl (fun ls hl => ?_)
    refine lv_aload_n hx hb dX2_take_19 rfl (lv_at hl 1 rfl) ?_
    refine lv_iload_n hx hb dX2_take_20 rfl (lv_at hl 0 rfl) ?_
    obtain ⟨h17, h18, h19, h20, hF⟩ := hF
    refine va_newa (atype := .byte) (ty := .byte) (n := r16) (N' := r16.toNatClampNeg) (a0 := (r16.toNatClampNeg, .inl (fun _ => 0))) hx hb k_10 rfl hK hP (hD.to (sm_wX_m _ _)) hS hA (fun _ => rfl) h17 rfl h18 h19 h20 dX2_take_21 (fun q cA H hK hP hD9 hS => ?_)
    refine va_put (D := D) (ci := 2) (v := .ref q) (ty := .array .byte) (C := RX2) (T := TX2) (N := 6) hx hb hts in_X2 tyX2 tyX2_ok nmX2 hown hK hP hD9 hS 2 rfl rfl 2 (by decide) k_3 (fun _ h9 => h9) rfl (by decide +kernel) rfl rfl (Nat.le_of_ble_eq_true rfl) dX2_take_23 (fun H locs hP hD9 hS => ?_)
    obtain ⟨σ21, eσ21⟩ : ∃ x : sm_S, x = sm_x σ15 18 r16.toNatClampNeg (fun _ => 0) := ⟨_, rfl⟩
    replace hF := hF σ21 eσ21
    obtain ⟨α22, eα22⟩ : ∃ x : sm_A, x = (va_up α.1 18 q, va_up α.2 18 cA) := ⟨_, rfl⟩
    replace hK : va_K D vwCl (sm_tX α22) s := by rw [eα22]; exact hK.sub [0, 1, 2, 3, 4, 5, 6, 26, 8, 9, 10, 11, 12, 13, 14, 15, 16, 17, 18, 19, 20, 21, 22, 23, 24, 25] rfl
    replace hP : va_P D vwCl (sm_wX σ21 α22) H := by rw [eσ21, eα22]; exact hP.sub [0, 1, 2, 3, 4, 5, 6, 7, 8, 9, 10, 11, 12, 13, 14, 15, 16, 17, 37, 19, 20, 21, 22, 23, 24, 25, 26, 27, 28, 29, 30, 31, 32, 33, 34, 35, 36] rfl
    replace hD : sm_D A α22 37 := sm_D.of (sm_wX_m σ21 α22) (by rw [eσ21, eα22]; exact hD9.sub [0, 1, 2, 3, 4, 5, 6, 7, 8, 9, 10, 11, 12, 13, 14, 15, 16, 17, 37, 19, 20, 21, 22, 23, 24, 25, 26, 27, 28, 29, 30, 31, 32, 33, 34, 35, 36] (by decide) rfl)
    replace hob : ∀ k : Nat, k < 11 → α22.1 k = β.1 k := fun k hk => by rw [eα22]; exact (va_up_ne _ _ (by omega)).trans (hob k hk)
    replace hl : lv_has ls 4 [(3, .int r16), (0, .ref (α22.1 2)), (1, .ref (α22.1 36)), (2, .int p2)] := by rw [eα22]; exact hl
    refine lv_aload_n hx hb dX2_take_26 rfl (lv_at hl 1 rfl) ?_
    refine lv_iload_n hx hb dX2_take_27 rfl (lv_at hl 0 rfl) ?_
    obtain ⟨h23, h24, h25, h26, hF⟩ := hF
    refine va_newa (atype := .boolean) (ty := .boolean) (n := r16) (N' := r16.toNatClampNeg) (a0 := (r16.toNatClampNeg, .inl (fun _ => 0))) hx hb k_11 rfl hK hP (hD.to (sm_wX_m _ _)) hS hA (fun _ => rfl) h23 rfl h24 h25 h26 dX2_take_28 (fun q cA H hK hP hD9 hS => ?_)
    refine va_put (D := D) (ci := 2) (v := .ref q) (ty := .array .boolean) (C := RX2) (T := TX2) (N := 6) hx hb hts in_X2 tyX2 tyX2_ok nmX2 hown hK hP hD9 hS 2 rfl rfl 3 (by decide) k_2 (fun _ h9 => h9) rfl (by decide +kernel) rfl rfl (Nat.le_of_ble_eq_true rfl) dX2_take_30 (fun H locs hP hD9 hS => ?_)
    obtain ⟨σ27, eσ27⟩ : ∃ x : sm_S, x = sm_x σ21 19 r16.toNatClampNeg (fun _ => 0) := ⟨_, rfl⟩
    replace hF := hF σ27 eσ27
    obtain ⟨α2228, eα2228⟩ : ∃ x : sm_A, x = (va_up α22.1 19 q, va_up α22.2 19 cA) := ⟨_, rfl⟩
    replace hK : va_K D vwCl (sm_tX α2228) s := by rw [eα2228]; exact hK.sub [0, 1, 2, 3, 4, 5, 6, 7, 26, 9, 10, 11, 12, 13, 14, 15, 16, 17, 18, 19, 20, 21, 22, 23, 24, 25] rfl
    replace hP : va_P D vwCl (sm_wX σ27 α2228) H := by rw [eσ27, eα2228]; exact hP.sub [0, 1, 2, 3, 4, 5, 6, 7, 8, 9, 10, 11, 12, 13, 14, 15, 16, 17, 18, 37, 20, 21, 22, 23, 24, 25, 26, 27, 28, 29, 30, 31, 32, 33, 34, 35, 36] rfl
    replace hD : sm_D A α2228 37 := sm_D.of (sm_wX_m σ27 α2228) (by rw [eσ27, eα2228]; exact hD9.sub [0, 1, 2, 3, 4, 5, 6, 7, 8, 9, 10, 11, 12, 13, 14, 15, 16, 17, 18, 37, 20, 21, 22, 23, 24, 25, 26, 27, 28, 29, 30, 31, 32, 33, 34, 35, 36] (by decide) rfl)
    replace hob : ∀ k : Nat, k < 11 → α2228.1 k = β.1 k := fun k hk => by rw [eα2228]; exact (va_up_ne _ _ (by omega)).trans (hob k hk)
    replace hl : lv_has ls 4 [(3, .int r16), (0, .ref (α2228.1 2)), (1, .ref (α2228.1 36)), (2, .int p2)] := by rw [eα2228]; exact hl
    refine W.widen (k := mc) (n := ms) (h25) (h26) ?_
    exact B33 σ27 p2 hF α2228 H locs ls hob hK hD hP hS (lv_sub hl [1, 2, 3] rfl)
theorem dX8_firstBad_0 : decode cX8_firstBad 0 = .ok (.aload_n 0, 1) := by decide +kernel
theorem dX8_firstBad_1 : decode cX8_firstBad 1 = .ok (.getfield 18, 3) := by decide +kernel
theorem dX8_firstBad_4 : decode cX8_firstBad 4 = .ok (.arraylength, 1) := by decide +kernel
theorem dX8_firstBad_5 : decode cX8_firstBad 5 = .ok (.aload_n 0, 1) := by decide +kernel
theorem dX8_firstBad_6 : decode cX8_firstBad 6 = .ok (.getfield 26, 3) := by decide +kernel
theorem dX8_firstBad_9 : decode cX8_firstBad 9 = .ok (.getfield 42, 3) := by decide +kernel
theorem dX8_firstBad_12 : decode cX8_firstBad 12 = .ok (.if_icmp .ge 43, 3) := by decide +kernel
theorem dX8_firstBad_15 : decode cX8_firstBad 15 = .ok (.aload_n 0, 1) := by decide +kernel
theorem dX8_firstBad_16 : decode cX8_firstBad 16 = .ok (.getfield 26, 3) := by decide +kernel
theorem dX8_firstBad_19 : decode cX8_firstBad 19 = .ok (.getfield 42, 3) := by decide +kernel
theorem dX8_firstBad_22 : decode cX8_firstBad 22 = .ok (.aload_n 0, 1) := by decide +kernel
theorem dX8_firstBad_23 : decode cX8_firstBad 23 = .ok (.getfield 18, 3) := by decide +kernel
theorem dX8_firstBad_26 : decode cX8_firstBad 26 = .ok (.arraylength, 1) := by decide +kernel
theorem dX8_firstBad_27 : decode cX8_firstBad 27 = .ok (.invokestatic 46, 3) := by decide +kernel
theorem dX8_firstBad_30 : decode cX8_firstBad 30 = .ok (.istore_n 1, 1) := by decide +kernel
theorem dX8_firstBad_31 : decode cX8_firstBad 31 = .ok (.aload_n 0, 1) := by decide +kernel
theorem dX8_firstBad_32 : decode cX8_firstBad 32 = .ok (.iload_n 1, 1) := by decide +kernel
theorem dX8_firstBad_33 : decode cX8_firstBad 33 = .ok (.newarray .byte, 2) := by decide +kernel
theorem dX8_firstBad_35 : decode cX8_firstBad 35 = .ok (.putfield 9, 3) := by decide +kernel
theorem dX8_firstBad_38 : decode cX8_firstBad 38 = .ok (.aload_n 0, 1) := by decide +kernel
theorem dX8_firstBad_39 : decode cX8_firstBad 39 = .ok (.iload_n 1, 1) := by decide +kernel
theorem dX8_firstBad_40 : decode cX8_firstBad 40 = .ok (.newarray .boolean, 2) := by decide +kernel
theorem dX8_firstBad_42 : decode cX8_firstBad 42 = .ok (.putfield 18, 3) := by decide +kernel
theorem dX8_firstBad_45 : decode cX8_firstBad 45 = .ok (.aload_n 0, 1) := by decide +kernel
theorem dX8_firstBad_46 : decode cX8_firstBad 46 = .ok (.iload_n 1, 1) := by decide +kernel
theorem dX8_firstBad_47 : decode cX8_firstBad 47 = .ok (.bipush 12, 2) := by decide +kernel
theorem dX8_firstBad_49 : decode cX8_firstBad 49 = .ok (.imul, 1) := by decide +kernel
theorem dX8_firstBad_50 : decode cX8_firstBad 50 = .ok (.newarray .byte, 2) := by decide +kernel
theorem dX8_firstBad_52 : decode cX8_firstBad 52 = .ok (.putfield 15, 3) := by decide +kernel
theorem dX8_firstBad_55 : decode cX8_firstBad 55 = .ok (.iconst 0, 1) := by decide +kernel
theorem dX8_firstBad_56 : decode cX8_firstBad 56 = .ok (.istore_n 1, 1) := by decide +kernel
theorem dX8_firstBad_57 : decode cX8_firstBad 57 = .ok (.iload_n 1, 1) := by decide +kernel
theorem dX8_firstBad_58 : decode cX8_firstBad 58 = .ok (.aload_n 0, 1) := by decide +kernel
theorem dX8_firstBad_59 : decode cX8_firstBad 59 = .ok (.getfield 26, 3) := by decide +kernel
theorem dX8_firstBad_62 : decode cX8_firstBad 62 = .ok (.getfield 42, 3) := by decide +kernel
theorem dX8_firstBad_65 : decode cX8_firstBad 65 = .ok (.if_icmp .ge 23, 3) := by decide +kernel
theorem dX8_firstBad_68 : decode cX8_firstBad 68 = .ok (.aload_n 0, 1) := by decide +kernel
theorem dX8_firstBad_69 : decode cX8_firstBad 69 = .ok (.getfield 9, 3) := by decide +kernel
theorem dX8_firstBad_72 : decode cX8_firstBad 72 = .ok (.iload_n 1, 1) := by decide +kernel
theorem dX8_firstBad_73 : decode cX8_firstBad 73 = .ok (.iconst (-1), 1) := by decide +kernel
theorem dX8_firstBad_74 : decode cX8_firstBad 74 = .ok (.bastore, 1) := by decide +kernel
theorem dX8_firstBad_75 : decode cX8_firstBad 75 = .ok (.aload_n 0, 1) := by decide +kernel
theorem dX8_firstBad_76 : decode cX8_firstBad 76 = .ok (.getfield 18, 3) := by decide +kernel
theorem dX8_firstBad_79 : decode cX8_firstBad 79 = .ok (.iload_n 1, 1) := by decide +kernel
theorem dX8_firstBad_80 : decode cX8_firstBad 80 = .ok (.iconst 0, 1) := by decide +kernel
theorem dX8_firstBad_81 : decode cX8_firstBad 81 = .ok (.bastore, 1) := by decide +kernel
theorem dX8_firstBad_82 : decode cX8_firstBad 82 = .ok (.iinc 1 1, 3) := by decide +kernel
theorem dX8_firstBad_85 : decode cX8_firstBad 85 = .ok (.goto (-28), 3) := by decide +kernel
theorem dX8_firstBad_88 : decode cX8_firstBad 88 = .ok (.aload_n 0, 1) := by decide +kernel
theorem dX8_firstBad_89 : decode cX8_firstBad 89 = .ok (.iconst (-1), 1) := by decide +kernel
theorem dX8_firstBad_90 : decode cX8_firstBad 90 = .ok (.putfield 50, 3) := by decide +kernel
theorem dX8_firstBad_93 : decode cX8_firstBad 93 = .ok (.iconst 0, 1) := by decide +kernel
theorem dX8_firstBad_94 : decode cX8_firstBad 94 = .ok (.istore_n 1, 1) := by decide +kernel
theorem dX8_firstBad_95 : decode cX8_firstBad 95 = .ok (.iload_n 1, 1) := by decide +kernel
theorem dX8_firstBad_96 : decode cX8_firstBad 96 = .ok (.aload_n 0, 1) := by decide +kernel
theorem dX8_firstBad_97 : decode cX8_firstBad 97 = .ok (.getfield 41, 3) := by decide +kernel
theorem dX8_firstBad_100 : decode cX8_firstBad 100 = .ok (.getfield 53, 3) := by decide +kernel
theorem dX8_firstBad_103 : decode cX8_firstBad 103 = .ok (.if_icmp .ge 22, 3) := by decide +kernel
theorem dX8_firstBad_106 : decode cX8_firstBad 106 = .ok (.aload_n 0, 1) := by decide +kernel
theorem dX8_firstBad_107 : decode cX8_firstBad 107 = .ok (.getfield 50, 3) := by decide +kernel
theorem dX8_firstBad_110 : decode cX8_firstBad 110 = .ok (.iconst (-1), 1) := by decide +kernel
theorem dX8_firstBad_111 : decode cX8_firstBad 111 = .ok (.if_icmp .ne 14, 3) := by decide +kernel
theorem dX8_firstBad_114 : decode cX8_firstBad 114 = .ok (.aload_n 0, 1) := by decide +kernel
theorem dX8_firstBad_115 : decode cX8_firstBad 115 = .ok (.iload_n 1, 1) := by decide +kernel
theorem dX8_firstBad_116 : decode cX8_firstBad 116 = .ok (.invokevirtual 58, 3) := by decide +kernel
theorem dX8_firstBad_119 : decode cX8_firstBad 119 = .ok (.iinc 1 1, 3) := by decide +kernel
theorem dX8_firstBad_122 : decode cX8_firstBad 122 = .ok (.goto (-27), 3) := by decide +kernel
theorem dX8_firstBad_125 : decode cX8_firstBad 125 = .ok (.aload_n 0, 1) := by decide +kernel
theorem dX8_firstBad_126 : decode cX8_firstBad 126 = .ok (.getfield 50, 3) := by decide +kernel
theorem dX8_firstBad_129 : decode cX8_firstBad 129 = .ok (.ireturn, 1) := by decide +kernel
def wp_X8_firstBad : List Cond := .code yX8_firstBad cX8_firstBad 2 (some .int) :: ((((([.fieldLink RX8 50 "SteadyMachine$Verifier" "bad" "I", .fieldLink RX8 41 "SteadyMachine$Verifier" "methods" "LSteadyMachine$Methods;", .fieldLink RX8 53 "SteadyMachine$Methods" "many" "I", .fieldLink RX8 26 "SteadyMachine$Verifier" "image" "LSteadyMachine$Image;", .fieldLink RX8 42 "SteadyMachine$Image" "size" "I", .fieldLink RX8 9 "SteadyMachine$Verifier" "heights" "[B", .fieldLink RX8 18 "SteadyMachine$Verifier" "marked" "[Z", .initialized RX10, .static yX10_roomFor, .arrayClass .byte, .arrayClass .boolean, .fieldLink RX8 15 "SteadyMachine$Verifier" "types" "[B"] ++ (wsV RX8 58 RX8 yX8_verifyMethod wp_X8_verifyMethod)) ++ wp_X10_roomFor) ++ wsX20) ++ wsX40) ++ wsX80)
theorem wq_X8_firstBad : wp_X8_firstBad.all goodWord = true := wa_c rfl (wa_a (wa_a (wa_a (wa_a (wa_a (by decide +kernel) (wa_V wq_X8_verifyMethod)) wq_X10_roomFor) uq_X2) uq_X4) uq_X8)
theorem wt_X8_firstBad : GoodIn lw_tbl wp_X8_firstBad := wm_c (List.mem_of_getElem? (i := 744) (by decide +kernel)) rfl (wm_a (wm_a (wm_a (wm_a (wm_a (goodIn_r _ [387, 377, 221, 375, 311, 378, 380, 136, 610, 212, 330, 379] (by decide +kernel) (by decide +kernel)) (wm_a (goodIn_r _ [746, 748, 15, 142] (by decide +kernel) (by decide +kernel)) wt_X8_verifyMethod)) wt_X10_roomFor) ut_X2) ut_X4) ut_X8)
theorem wg_X8_firstBad_X8_verifyMethod_58 : GoodIn wp_X8_firstBad (wsV RX8 58 RX8 yX8_verifyMethod wp_X8_verifyMethod) := goodIn_sub (fun w h => List.mem_cons_of_mem _ (List.mem_append_left _ (List.mem_append_left _ (List.mem_append_left _ (List.mem_append_left _ (List.mem_append_right _ h)))))) (wa_V wq_X8_verifyMethod)
theorem wg_X8_firstBad_X10_roomFor_46 : GoodIn wp_X8_firstBad wp_X10_roomFor := goodIn_sub (fun w h => List.mem_cons_of_mem _ (List.mem_append_left _ (List.mem_append_left _ (List.mem_append_left _ (List.mem_append_right _ h))))) wq_X10_roomFor
theorem wi_X8_firstBad_X2 : ∀ w ∈ wsX20, w ∈ wp_X8_firstBad := fun w h => List.mem_cons_of_mem _ (List.mem_append_left _ (List.mem_append_left _ (List.mem_append_right _ h)))
theorem wi_X8_firstBad_X4 : ∀ w ∈ wsX40, w ∈ wp_X8_firstBad := fun w h => List.mem_cons_of_mem _ (List.mem_append_left _ (List.mem_append_right _ h))
theorem wi_X8_firstBad_X8 : ∀ w ∈ wsX80, w ∈ wp_X8_firstBad := fun w h => List.mem_cons_of_mem _ (List.mem_append_right _ h)
set_option maxHeartbeats 4000000 in
set_option maxRecDepth 100000 in
theorem c_X8_firstBad (l : Launch) (D : va_G) (sz t0 : Nat) (σ : sm_S) (β : sm_A) (mc ms : Nat) (K : Int32 → sm_S → Prop) (hF : mp_X8_firstBad mc ms σ K) : Met l yX8_firstBad wp_X8_firstBad { frames := 6, cells := mc, slots := ms, locals := 147 } (sm_P sm_wX sm_tX 37 D sz t0 σ β [.ref (β.1 8)]) (va_Qi (fun r (u : sm_S × sm_A) => K r u.1) (sm_Ba sm_wX sm_tX 37 11 D (sm_a β 37 sz) β) (sm_a β 37 sz)) (mc) (ms) (sm_a β 37 sz) := by
  refine Met.ofW (cc := cX8_firstBad) (maxL := 2) (ret := (some .int)) (by decide) rfl ?_
  intro p e s m args below meth c s₁ B hml hv
  obtain ⟨rfl, hsz, hP, hK, hD0, hE⟩ := hv
  have hx := B.exec
  have hb := B.bytes
  have hr := B.returns
  have hts := atoms_spec (ws := wp_X8_firstBad) B.pre
  have hown : s.vm.findClass RX8 = some m.cls := findClass_of_methodNamed B.named
  have hlocks := B.notSynchronized
  subst hsz
  have hD : sm_D (sm_a β 37 s.heap.size) β 37 := hD0.own
  have hA : ∀ q : Nat, s.heap.size ≤ q → sm_a β 37 s.heap.size q := fun q h => Or.inr h
  generalize hAe : sm_a β 37 s.heap.size = A at hD hA hE ⊢
  have hS : va_S A s.heap s.heap [] := va_S.rf
  have in_X2 : ∀ w ∈ wsX20, w ∈ wp_X8_firstBad := wi_X8_firstBad_X2
  have in_X4 : ∀ w ∈ wsX40, w ∈ wp_X8_firstBad := wi_X8_firstBad_X4
  have in_X8 : ∀ w ∈ wsX80, w ∈ wp_X8_firstBad := wi_X8_firstBad_X8
  have k_0 := hts (.fieldLink RX8 50 "SteadyMachine$Verifier" "bad" "I") (by decide +kernel)
  have k_1 := hts (.fieldLink RX8 41 "SteadyMachine$Verifier" "methods" "LSteadyMachine$Methods;") (by decide +kernel)
  have k_2 := hts (.fieldLink RX8 53 "SteadyMachine$Methods" "many" "I") (by decide +kernel)
  have k_3 := hts (.fieldLink RX8 26 "SteadyMachine$Verifier" "image" "LSteadyMachine$Image;") (by decide +kernel)
  have k_4 := hts (.fieldLink RX8 42 "SteadyMachine$Image" "size" "I") (by decide +kernel)
  have k_5 := hts (.fieldLink RX8 9 "SteadyMachine$Verifier" "heights" "[B") (by decide +kernel)
  have k_6 := hts (.fieldLink RX8 18 "SteadyMachine$Verifier" "marked" "[Z") (by decide +kernel)
  have k_7 := hts (.initialized RX10) (by decide +kernel)
  have k_8 := hts (.static yX10_roomFor) (by decide +kernel)
  have k_9 := hts (.arrayClass .byte) (by decide +kernel)
  have k_10 := hts (.arrayClass .boolean) (by decide +kernel)
  have k_11 := hts (.fieldLink RX8 15 "SteadyMachine$Verifier" "types" "[B") (by decide +kernel)
  have hl := lv_entry ([.ref (β.1 8)]) (n := 2) (Nat.le_of_ble_eq_true rfl)
  rw [lg_entry_eq]
  generalize (lg_sl ([.ref (β.1 8)]) ++ List.replicate (2 - (lg_sl ([.ref (β.1 8)])).length) Slot.unset).toArray = ls at hl ⊢
  have B125 : ∀ (σ : sm_S), mp_X8_firstBad_125 mc ms K σ → sm_Ja p l e (headSpec wp_X8_firstBad { frames := 6, cells := mc, slots := ms, locals := 147 }).room s m ([.ref (β.1 8)] : List Value).toArray below meth c (MQ below (va_Qi (fun r (u : sm_S × sm_A) => K r u.1) (sm_Ba sm_wX sm_tX 37 11 D A β) A) ([.ref (β.1 8)] : List Value).toArray s (mc) (ms) A) sm_wX sm_tX 37 11 D A β 2 (mc) (ms) σ 125 (fun α => [(0, .ref (α.1 8))]) (fun α => []) := by
    intro σ hF α H locs ls hob hK hD hP hS hl
    dsimp only at hl ⊢
    unfold mp_X8_firstBad_125 at hF
    refine lv_aload_n hx hb dX8_firstBad_125 rfl (lv_at hl 0 rfl) ?_
    refine va_get (D := D) (ci := 8) (v := .int (σ.1 34)) (C := RX8) (T := TX8) (N := 13) hx hb hts in_X8 hown hK hP 8 (sm_gX8 σ α) rfl 12 (by decide) k_0 (fun _ h9 => h9) rfl dX8_firstBad_126 ?_
    exact W.iret (v := (σ.1 34)) hx hb hr (fun t ht hW => ⟨⟨(σ.1 34), (σ, α), rfl, hF, by rw [ht]; exact hP, va_K.moved hW.alike hK, hD, hob⟩, hS.F ht⟩) hS.2.2 dX8_firstBad_129
  have B95 : ∀ (n : Nat) (σ : sm_S) (x1 : Int32), mp_X8_firstBad_95 mc ms K n σ x1 → sm_Ja p l e (headSpec wp_X8_firstBad { frames := 6, cells := mc, slots := ms, locals := 147 }).room s m ([.ref (β.1 8)] : List Value).toArray below meth c (MQ below (va_Qi (fun r (u : sm_S × sm_A) => K r u.1) (sm_Ba sm_wX sm_tX 37 11 D A β) A) ([.ref (β.1 8)] : List Value).toArray s (mc) (ms) A) sm_wX sm_tX 37 11 D A β 2 (mc) (ms) σ 95 (fun α => [(0, .ref (α.1 8)), (1, .int x1)]) (fun α => []) := by
    intro n95
    induction n95 with
    | zero =>
      intro σ x1 hF
      exact hF.elim
    | succ n95 ih95 =>
      intro σ x1 hF α H locs ls hob hK hD hP hS hl
      dsimp only at hl ⊢
      unfold mp_X8_firstBad_95 at hF
      refine lv_iload_n hx hb dX8_firstBad_95 rfl (lv_at hl 1 rfl) ?_
      refine lv_aload_n hx hb dX8_firstBad_96 rfl (lv_at hl 0 rfl) ?_
      refine va_get (D := D) (ci := 8) (v := .ref (α.1 4)) (C := RX8) (T := TX8) (N := 13) hx hb hts in_X8 hown hK hP 8 (sm_gX8 σ α) rfl 2 (by decide) k_1 (fun _ h9 => h9) rfl dX8_firstBad_97 ?_
      refine va_get (D := D) (ci := 4) (v := .int (σ.1 16)) (C := RX4) (T := TX4) (N := 12) hx hb hts in_X4 hown hK hP 4 (sm_gX4 σ α) rfl 0 (by decide) k_2 (fun _ h9 => h9) rfl dX8_firstBad_100 ?_
      refine lv_icmp_ge (tgt := 125) hx hb dX8_firstBad_103 (by decide) (fun h1 => ?_) (fun h1 => ?_)
      · replace hF := hF.1 h1
        exact B125 σ hF α H locs ls hob hK hD hP hS (lv_sub hl [0] rfl)
      · replace hF := hF.2 h1
        refine lv_aload_n hx hb dX8_firstBad_106 rfl (lv_at hl 0 rfl) ?_
        refine va_get (D := D) (ci := 8) (v := .int (σ.1 34)) (C := RX8) (T := TX8) (N := 13) hx hb hts in_X8 hown hK hP 8 (sm_gX8 σ α) rfl 12 (by decide) k_0 (fun _ h9 => h9) rfl dX8_firstBad_107 ?_
        refine lv_iconst (v := -1) hx hb dX8_firstBad_110 (by decide) ?_
        refine lv_icmp_ne (tgt := 125) hx hb dX8_firstBad_111 (by decide) (fun h2 => ?_) (fun h2 => ?_)
        · replace hF := hF.1 h2
          exact B125 σ hF α H locs ls hob hK hD hP hS (lv_sub hl [0] rfl)
        · replace hF := hF.2 h2
          refine lv_aload_n hx hb dX8_firstBad_114 rfl (lv_at hl 0 rfl) ?_
          refine lv_iload_n hx hb dX8_firstBad_115 rfl (lv_at hl 1 rfl) ?_
          refine sm_vv (As := [.int x1]) (rest := []) hP hK hD hE hS hA ⟨hx, hb, hml, hown, hts⟩ hl.1 (c_X8_verifyMethod l D H.size t0 σ α x1 _ hF) (cwV 1 hts wg_X8_firstBad_X8_verifyMethod_58 rfl rfl rfl (by decide +kernel) ⟨Nat.le_of_ble_eq_true rfl, Nat.le_of_ble_eq_true rfl⟩) (va_recv hK hP (ci := 8) (q0 := 8) rfl (sm_gX8 σ α)) rfl rfl (Nat.le_of_ble_eq_true rfl) dX8_firstBad_116 ⟨Nat.le_refl _, Nat.le_refl _⟩ (fun σ3 H locs hF hP hS => ?_)
          obtain ⟨v4, ev4⟩ : ∃ y : Int32, y = x1 + 1 := ⟨_, rfl⟩
          replace hF := hF v4 ev4
          refine lv_iinc (v := v4) (lv' := [(1, .int v4), (0, .ref (α.1 8))]) hx hb dX8_firstBad_119 hl (k := 1) rfl (by rw [ev4]; rfl) (by decide) rfl (fun ls hl => ?_)
          refine lv_goto (tgt := 95) hx hb dX8_firstBad_122 (by decide) ?_
          exact ih95 σ3 v4 hF α H locs ls hob hK hD hP hS (lv_sub hl [1, 0] rfl)
  have B57 : ∀ (n : Nat) (σ : sm_S) (x1 : Int32), mp_X8_firstBad_57 mc ms K n σ x1 → sm_Ja p l e (headSpec wp_X8_firstBad { frames := 6, cells := mc, slots := ms, locals := 147 }).room s m ([.ref (β.1 8)] : List Value).toArray below meth c (MQ below (va_Qi (fun r (u : sm_S × sm_A) => K r u.1) (sm_Ba sm_wX sm_tX 37 11 D A β) A) ([.ref (β.1 8)] : List Value).toArray s (mc) (ms) A) sm_wX sm_tX 37 11 D A β 2 (mc) (ms) σ 57 (fun α => [(0, .ref (α.1 8)), (1, .int x1)]) (fun α => []) := by
    intro n57
    induction n57 with
    | zero =>
      intro σ x1 hF
      exact hF.elim
    | succ n57 ih57 =>
      intro σ x1 hF α H locs ls hob hK hD hP hS hl
      dsimp only at hl ⊢
      unfold mp_X8_firstBad_57 at hF
      refine lv_iload_n hx hb dX8_firstBad_57 rfl (lv_at hl 1 rfl) ?_
      refine lv_aload_n hx hb dX8_firstBad_58 rfl (lv_at hl 0 rfl) ?_
      refine va_get (D := D) (ci := 8) (v := .ref (α.1 2)) (C := RX8) (T := TX8) (N := 13) hx hb hts in_X8 hown hK hP 8 (sm_gX8 σ α) rfl 0 (by decide) k_3 (fun _ h9 => h9) rfl dX8_firstBad_59 ?_
      refine va_get (D := D) (ci := 2) (v := .int (σ.1 14)) (C := RX2) (T := TX2) (N := 6) hx hb hts in_X2 hown hK hP 2 (sm_gX2 σ α) rfl 4 (by decide) k_4 (fun _ h9 => h9) rfl dX8_firstBad_62 ?_
      refine lv_icmp_ge (tgt := 88) hx hb dX8_firstBad_65 (by decide) (fun h5 => ?_) (fun h5 => ?_)
      · replace hF := hF.1 h5
        refine lv_aload_n hx hb dX8_firstBad_88 rfl (lv_at hl 0 rfl) ?_
        refine lv_iconst (v := -1) hx hb dX8_firstBad_89 (by decide) ?_
        refine va_put (D := D) (ci := 8) (v := .int (-1)) (ty := .int) (C := RX8) (T := TX8) (N := 13) hx hb hts in_X8 tyX8 tyX8_ok nmX8 hown hK hP (hD.to (sm_wX_m _ _)) hS 8 (sm_gX8 σ α) rfl 12 (by decide) k_0 (fun _ h9 => h9) rfl (by decide +kernel) rfl rfl (Nat.le_of_ble_eq_true rfl) dX8_firstBad_90 (fun H locs hP _ hS => ?_)
        rw [sm_iX34] at hP
        obtain ⟨σ6, eσ6⟩ : ∃ x : sm_S, x = sm_i σ 34 (-1) := ⟨_, rfl⟩
        replace hF := hF σ6 eσ6
        rw [← eσ6] at hP
        refine lv_iconst (v := 0) hx hb dX8_firstBad_93 (by decide) ?_
        refine lv_istore_n (lv' := [(1, .int 0), (0, .ref (α.1 8))]) hx hb dX8_firstBad_94 rfl hl (by decide) rfl (fun ls hl => ?_)
        obtain ⟨n95, hF⟩ := hF
        exact B95 n95 σ6 0 hF α H locs ls hob hK hD hP hS (lv_sub hl [1, 0] rfl)
      · replace hF := hF.2 h5
        refine lv_aload_n hx hb dX8_firstBad_68 rfl (lv_at hl 0 rfl) ?_
        refine va_get (D := D) (ci := 8) (v := .ref (α.1 32)) (C := RX8) (T := TX8) (N := 13) hx hb hts in_X8 hown hK hP 8 (sm_gX8 σ α) rfl 3 (by decide) k_5 (fun _ h9 => h9) rfl dX8_firstBad_69 ?_
        refine lv_iload_n hx hb dX8_firstBad_72 rfl (lv_at hl 1 rfl) ?_
        refine lv_iconst (v := -1) hx hb dX8_firstBad_73 (by decide) ?_
        obtain ⟨h7, hF⟩ := hF
        refine va_bast (n := (σ.2.2.1 32)) (f := (σ.2.2.2.1 32)) (x := (-1)) hx hb hK hP (hD.to (sm_wX_m _ _)) hS 32 21 (sm_aX32 σ α) (sm_yX32 α) h7 dX8_firstBad_74 (fun H locs hP _ hS => ?_)
        rw [sm_rX32] at hP
        obtain ⟨σ8, eσ8⟩ : ∃ x : sm_S, x = sm_r σ 32 (upd (σ.2.2.2.1 32) x1.toNatClampNeg (vp_nar .byte (-1))) := ⟨_, rfl⟩
        replace hF := hF σ8 eσ8
        rw [← eσ8] at hP
        refine lv_aload_n hx hb dX8_firstBad_75 rfl (lv_at hl 0 rfl) ?_
        refine va_get (D := D) (ci := 8) (v := .ref (α.1 34)) (C := RX8) (T := TX8) (N := 13) hx hb hts in_X8 hown hK hP 8 (sm_gX8 σ8 α) rfl 5 (by decide) k_6 (fun _ h9 => h9) rfl dX8_firstBad_76 ?_
        refine lv_iload_n hx hb dX8_firstBad_79 rfl (lv_at hl 1 rfl) ?_
        refine lv_iconst (v := 0) hx hb dX8_firstBad_80 (by decide) ?_
        obtain ⟨h9, hF⟩ := hF
        refine va_zast (n := (σ8.2.2.1 34)) (f := (σ8.2.2.2.1 34)) (x := 0) hx hb hK hP (hD.to (sm_wX_m _ _)) hS 34 23 (sm_aX34 σ8 α) (sm_yX34 α) h9 dX8_firstBad_81 (fun H locs hP _ hS => ?_)
        rw [sm_rX34] at hP
        obtain ⟨σ10, eσ10⟩ : ∃ x : sm_S, x = sm_r σ8 34 (upd (σ8.2.2.2.1 34) x1.toNatClampNeg (vp_nar .boolean 0)) := ⟨_, rfl⟩
        replace hF := hF σ10 eσ10
        rw [← eσ10] at hP
        obtain ⟨v11, ev11⟩ : ∃ y : Int32, y = x1 + 1 := ⟨_, rfl⟩
        replace hF := hF v11 ev11
        refine lv_iinc (v := v11) (lv' := [(1, .int v11), (0, .ref (α.1 8))]) hx hb dX8_firstBad_82 hl (k := 1) rfl (by rw [ev11]; rfl) (by decide) rfl (fun ls hl => ?_)
        refine lv_goto (tgt := 57) hx hb dX8_firstBad_85 (by decide) ?_
        exact ih57 σ10 v11 hF α H locs ls hob hK hD hP hS (lv_sub hl [1, 0] rfl)
  have B55 : ∀ (σ : sm_S), mp_X8_firstBad_55 mc ms K σ → sm_Ja p l e (headSpec wp_X8_firstBad { frames := 6, cells := mc, slots := ms, locals := 147 }).room s m ([.ref (β.1 8)] : List Value).toArray below meth c (MQ below (va_Qi (fun r (u : sm_S × sm_A) => K r u.1) (sm_Ba sm_wX sm_tX 37 11 D A β) A) ([.ref (β.1 8)] : List Value).toArray s (mc) (ms) A) sm_wX sm_tX 37 11 D A β 2 (mc) (ms) σ 55 (fun α => [(0, .ref (α.1 8))]) (fun α => []) := by
    intro σ hF α H locs ls hob hK hD hP hS hl
    dsimp only at hl ⊢
    unfold mp_X8_firstBad_55 at hF
    refine lv_iconst (v := 0) hx hb dX8_firstBad_55 (by decide) ?_
    refine lv_istore_n (lv' := [(1, .int 0), (0, .ref (α.1 8))]) hx hb dX8_firstBad_56 rfl hl (by decide) rfl (fun ls hl => ?_)
    obtain ⟨n57, hF⟩ := hF
    exact B57 n57 σ 0 hF α H locs ls hob hK hD hP hS (lv_sub hl [1, 0] rfl)
  unfold mp_X8_firstBad at hF
  suffices h9 : sm_Ja p l e (headSpec wp_X8_firstBad { frames := 6, cells := mc, slots := ms, locals := 147 }).room s m ([.ref (β.1 8)] : List Value).toArray below meth c (MQ below (va_Qi (fun r (u : sm_S × sm_A) => K r u.1) (sm_Ba sm_wX sm_tX 37 11 D A β) A) ([.ref (β.1 8)] : List Value).toArray s (mc) (ms) A) sm_wX sm_tX 37 11 D A β 2 0 0 σ 0 (fun α => [(0, .ref (α.1 8))]) (fun α => []) from h9 β s.heap [] ls (fun _ _ => rfl) hK hD hP hS hl
  clear hK hD hP hS hl
  intro α H locs ls hob hK hD hP hS hl
  dsimp only at hl ⊢
  refine lv_aload_n hx hb dX8_firstBad_0 rfl (lv_at hl 0 rfl) ?_
  refine va_get (D := D) (ci := 8) (v := .ref (α.1 34)) (C := RX8) (T := TX8) (N := 13) hx hb hts in_X8 hown hK hP 8 (sm_gX8 σ α) rfl 5 (by decide) k_6 (fun _ h9 => h9) rfl dX8_firstBad_1 ?_
  refine va_alen (v := nI (σ.2.2.1 34)) hx hb hK hP 34 23 (sm_aX34 σ α) (sm_yX34 α) rfl dX8_firstBad_4 ?_
  refine lv_aload_n hx hb dX8_firstBad_5 rfl (lv_at hl 0 rfl) ?_
  refine va_get (D := D) (ci := 8) (v := .ref (α.1 2)) (C := RX8) (T := TX8) (N := 13) hx hb hts in_X8 hown hK hP 8 (sm_gX8 σ α) rfl 0 (by decide) k_3 (fun _ h9 => h9) rfl dX8_firstBad_6 ?_
  refine va_get (D := D) (ci := 2) (v := .int (σ.1 14)) (C := RX2) (T := TX2) (N := 6) hx hb hts in_X2 hown hK hP 2 (sm_gX2 σ α) rfl 4 (by decide) k_4 (fun _ h9 => h9) rfl dX8_firstBad_9 ?_
  refine lv_icmp_ge (tgt := 55) hx hb dX8_firstBad_12 (by decide) (fun h12 => ?_) (fun h12 => ?_)
  · replace hF := hF.1 h12
    refine W.widen (k := mc) (n := ms) (Nat.zero_le _) (Nat.zero_le _) ?_
    exact B55 σ hF α H locs ls hob hK hD hP hS (lv_sub hl [0] rfl)
  · replace hF := hF.2 h12
    refine lv_aload_n hx hb dX8_firstBad_15 rfl (lv_at hl 0 rfl) ?_
    refine va_get (D := D) (ci := 8) (v := .ref (α.1 2)) (C := RX8) (T := TX8) (N := 13) hx hb hts in_X8 hown hK hP 8 (sm_gX8 σ α) rfl 0 (by decide) k_3 (fun _ h9 => h9) rfl dX8_firstBad_16 ?_
    refine va_get (D := D) (ci := 2) (v := .int (σ.1 14)) (C := RX2) (T := TX2) (N := 6) hx hb hts in_X2 hown hK hP 2 (sm_gX2 σ α) rfl 4 (by decide) k_4 (fun _ h9 => h9) rfl dX8_firstBad_19 ?_
    refine lv_aload_n hx hb dX8_firstBad_22 rfl (lv_at hl 0 rfl) ?_
    refine va_get (D := D) (ci := 8) (v := .ref (α.1 34)) (C := RX8) (T := TX8) (N := 13) hx hb hts in_X8 hown hK hP 8 (sm_gX8 σ α) rfl 5 (by decide) k_6 (fun _ h9 => h9) rfl dX8_firstBad_23 ?_
    refine va_alen (v := nI (σ.2.2.1 34)) hx hb hK hP 34 23 (sm_aX34 σ α) (sm_yX34 α) rfl dX8_firstBad_26 ?_
    refine sm_nsi (As := [.int (σ.1 14), .int (nI (σ.2.2.1 34))]) (rest := []) hP hK hD hE hS hA ⟨hx, hb, hml, hown, hts⟩ hl.1 (c_X10_roomFor l D H.size t0 σ α (σ.1 14) (nI (σ.2.2.1 34)) _ hF) ⟨va_cnB 2 hts wg_X8_firstBad_X10_roomFor_46 rfl rfl rfl (hE.1 (.methodLinkNest "SteadyMachine$Verifier" 46 ⟨"SteadyMachine", "roomFor", "(II)I"⟩ "SteadyMachine") (by decide +kernel)) k_7 (by decide +kernel) ⟨Nat.le_of_ble_eq_true rfl, Nat.le_of_ble_eq_true rfl⟩, k_8, trivial⟩ rfl rfl (Nat.le_of_ble_eq_true rfl) dX8_firstBad_27 ⟨Nat.zero_le _, Nat.zero_le _⟩ (fun r14 σ13 H locs hF hP hS => ?_)
    refine lv_istore_n (lv' := [(1, .int r14), (0, .ref (α.1 8))]) hx hb dX8_firstBad_30 rfl hl (by decide) rfl (fun ls hl => ?_)
    refine lv_aload_n hx hb dX8_firstBad_31 rfl (lv_at hl 1 rfl) ?_
    refine lv_iload_n hx hb dX8_firstBad_32 rfl (lv_at hl 0 rfl) ?_
    obtain ⟨h15, h16, h17, h18, hF⟩ := hF
    refine va_newa (atype := .byte) (ty := .byte) (n := r14) (N' := r14.toNatClampNeg) (a0 := (r14.toNatClampNeg, .inl (fun _ => 0))) hx hb k_9 rfl hK hP (hD.to (sm_wX_m _ _)) hS hA (fun _ => rfl) h15 rfl h16 h17 h18 dX8_firstBad_33 (fun q cA H hK hP hD9 hS => ?_)
    refine va_put (D := D) (ci := 8) (v := .ref q) (ty := .array .byte) (C := RX8) (T := TX8) (N := 13) hx hb hts in_X8 tyX8 tyX8_ok nmX8 hown hK hP hD9 hS 8 rfl rfl 3 (by decide) k_5 (fun _ h9 => h9) rfl (by decide +kernel) rfl rfl (Nat.le_of_ble_eq_true rfl) dX8_firstBad_35 (fun H locs hP hD9 hS => ?_)
    obtain ⟨σ19, eσ19⟩ : ∃ x : sm_S, x = sm_x σ13 32 r14.toNatClampNeg (fun _ => 0) := ⟨_, rfl⟩
    replace hF := hF σ19 eσ19
    obtain ⟨α20, eα20⟩ : ∃ x : sm_A, x = (va_up α.1 32 q, va_up α.2 32 cA) := ⟨_, rfl⟩
    replace hK : va_K D vwCl (sm_tX α20) s := by rw [eα20]; exact hK.sub [0, 1, 2, 3, 4, 5, 6, 7, 8, 9, 10, 11, 12, 13, 14, 15, 16, 17, 18, 19, 20, 26, 22, 23, 24, 25] rfl
    replace hP : va_P D vwCl (sm_wX σ19 α20) H := by rw [eσ19, eα20]; exact hP.sub [0, 1, 2, 3, 4, 5, 6, 7, 8, 9, 10, 11, 12, 13, 14, 15, 16, 17, 18, 19, 20, 21, 22, 23, 24, 25, 26, 27, 28, 29, 30, 31, 37, 33, 34, 35, 36] rfl
    replace hD : sm_D A α20 37 := sm_D.of (sm_wX_m σ19 α20) (by rw [eσ19, eα20]; exact hD9.sub [0, 1, 2, 3, 4, 5, 6, 7, 8, 9, 10, 11, 12, 13, 14, 15, 16, 17, 18, 19, 20, 21, 22, 23, 24, 25, 26, 27, 28, 29, 30, 31, 37, 33, 34, 35, 36] (by decide) rfl)
    replace hob : ∀ k : Nat, k < 11 → α20.1 k = β.1 k := fun k hk => by rw [eα20]; exact (va_up_ne _ _ (by omega)).trans (hob k hk)
    replace hl : lv_has ls 2 [(1, .int r14), (0, .ref (α20.1 8))] := by rw [eα20]; exact hl
    refine lv_aload_n hx hb dX8_firstBad_38 rfl (lv_at hl 1 rfl) ?_
    refine lv_iload_n hx hb dX8_firstBad_39 rfl (lv_at hl 0 rfl) ?_
    obtain ⟨h21, h22, h23, h24, hF⟩ := hF
    refine va_newa (atype := .boolean) (ty := .boolean) (n := r14) (N' := r14.toNatClampNeg) (a0 := (r14.toNatClampNeg, .inl (fun _ => 0))) hx hb k_10 rfl hK hP (hD.to (sm_wX_m _ _)) hS hA (fun _ => rfl) h21 rfl h22 h23 h24 dX8_firstBad_40 (fun q cA H hK hP hD9 hS => ?_)
    refine va_put (D := D) (ci := 8) (v := .ref q) (ty := .array .boolean) (C := RX8) (T := TX8) (N := 13) hx hb hts in_X8 tyX8 tyX8_ok nmX8 hown hK hP hD9 hS 8 rfl rfl 5 (by decide) k_6 (fun _ h9 => h9) rfl (by decide +kernel) rfl rfl (Nat.le_of_ble_eq_true rfl) dX8_firstBad_42 (fun H locs hP hD9 hS => ?_)
    obtain ⟨σ25, eσ25⟩ : ∃ x : sm_S, x = sm_x σ19 34 r14.toNatClampNeg (fun _ => 0) := ⟨_, rfl⟩
    replace hF := hF σ25 eσ25
    obtain ⟨α2026, eα2026⟩ : ∃ x : sm_A, x = (va_up α20.1 34 q, va_up α20.2 34 cA) := ⟨_, rfl⟩
    replace hK : va_K D vwCl (sm_tX α2026) s := by rw [eα2026]; exact hK.sub [0, 1, 2, 3, 4, 5, 6, 7, 8, 9, 10, 11, 12, 13, 14, 15, 16, 17, 18, 19, 20, 21, 22, 26, 24, 25] rfl
    replace hP : va_P D vwCl (sm_wX σ25 α2026) H := by rw [eσ25, eα2026]; exact hP.sub [0, 1, 2, 3, 4, 5, 6, 7, 8, 9, 10, 11, 12, 13, 14, 15, 16, 17, 18, 19, 20, 21, 22, 23, 24, 25, 26, 27, 28, 29, 30, 31, 32, 33, 37, 35, 36] rfl
    replace hD : sm_D A α2026 37 := sm_D.of (sm_wX_m σ25 α2026) (by rw [eσ25, eα2026]; exact hD9.sub [0, 1, 2, 3, 4, 5, 6, 7, 8, 9, 10, 11, 12, 13, 14, 15, 16, 17, 18, 19, 20, 21, 22, 23, 24, 25, 26, 27, 28, 29, 30, 31, 32, 33, 37, 35, 36] (by decide) rfl)
    replace hob : ∀ k : Nat, k < 11 → α2026.1 k = β.1 k := fun k hk => by rw [eα2026]; exact (va_up_ne _ _ (by omega)).trans (hob k hk)
    replace hl : lv_has ls 2 [(1, .int r14), (0, .ref (α2026.1 8))] := by rw [eα2026]; exact hl
    refine lv_aload_n hx hb dX8_firstBad_45 rfl (lv_at hl 1 rfl) ?_
    refine lv_iload_n hx hb dX8_firstBad_46 rfl (lv_at hl 0 rfl) ?_
    refine lv_bipush (v := 12) hx hb dX8_firstBad_47 (by decide) ?_
    refine lv_imul hx hb dX8_firstBad_49 ?_
    refine lv_topi (fun v27 ev27 => ?_)
    replace hF := hF v27 ev27
    obtain ⟨h28, h29, h30, h31, hF⟩ := hF
    refine va_newa (atype := .byte) (ty := .byte) (n := v27) (N' := v27.toNatClampNeg) (a0 := (v27.toNatClampNeg, .inl (fun _ => 0))) hx hb k_9 rfl hK hP (hD.to (sm_wX_m _ _)) hS hA (fun _ => rfl) h28 rfl h29 h30 h31 dX8_firstBad_50 (fun q cA H hK hP hD9 hS => ?_)
    refine va_put (D := D) (ci := 8) (v := .ref q) (ty := .array .byte) (C := RX8) (T := TX8) (N := 13) hx hb hts in_X8 tyX8 tyX8_ok nmX8 hown hK hP hD9 hS 8 rfl rfl 4 (by decide) k_11 (fun _ h9 => h9) rfl (by decide +kernel) rfl rfl (Nat.le_of_ble_eq_true rfl) dX8_firstBad_52 (fun H locs hP hD9 hS => ?_)
    obtain ⟨σ32, eσ32⟩ : ∃ x : sm_S, x = sm_x σ25 33 v27.toNatClampNeg (fun _ => 0) := ⟨_, rfl⟩
    replace hF := hF σ32 eσ32
    obtain ⟨α202633, eα202633⟩ : ∃ x : sm_A, x = (va_up α2026.1 33 q, va_up α2026.2 33 cA) := ⟨_, rfl⟩
    replace hK : va_K D vwCl (sm_tX α202633) s := by rw [eα202633]; exact hK.sub [0, 1, 2, 3, 4, 5, 6, 7, 8, 9, 10, 11, 12, 13, 14, 15, 16, 17, 18, 19, 20, 21, 26, 23, 24, 25] rfl
    replace hP : va_P D vwCl (sm_wX σ32 α202633) H := by rw [eσ32, eα202633]; exact hP.sub [0, 1, 2, 3, 4, 5, 6, 7, 8, 9, 10, 11, 12, 13, 14, 15, 16, 17, 18, 19, 20, 21, 22, 23, 24, 25, 26, 27, 28, 29, 30, 31, 32, 37, 34, 35, 36] rfl
    replace hD : sm_D A α202633 37 := sm_D.of (sm_wX_m σ32 α202633) (by rw [eσ32, eα202633]; exact hD9.sub [0, 1, 2, 3, 4, 5, 6, 7, 8, 9, 10, 11, 12, 13, 14, 15, 16, 17, 18, 19, 20, 21, 22, 23, 24, 25, 26, 27, 28, 29, 30, 31, 32, 37, 34, 35, 36] (by decide) rfl)
    replace hob : ∀ k : Nat, k < 11 → α202633.1 k = β.1 k := fun k hk => by rw [eα202633]; exact (va_up_ne _ _ (by omega)).trans (hob k hk)
    replace hl : lv_has ls 2 [(1, .int r14), (0, .ref (α202633.1 8))] := by rw [eα202633]; exact hl
    refine W.widen (k := mc) (n := ms) (h30) (h31) ?_
    exact B55 σ32 hF α202633 H locs ls hob hK hD hP hS (lv_sub hl [1] rfl)
theorem dX10_feed_0 : decode cX10_feed 0 = .ok (.aload_n 0, 1) := by decide +kernel
theorem dX10_feed_1 : decode cX10_feed 1 = .ok (.getfield 85, 3) := by decide +kernel
theorem dX10_feed_4 : decode cX10_feed 4 = .ok (.bipush 20, 2) := by decide +kernel
theorem dX10_feed_6 : decode cX10_feed 6 = .ok (.iadd, 1) := by decide +kernel
theorem dX10_feed_7 : decode cX10_feed 7 = .ok (.sipush 8000, 3) := by decide +kernel
theorem dX10_feed_10 : decode cX10_feed 10 = .ok (.if_icmp .le 6, 3) := by decide +kernel
theorem dX10_feed_13 : decode cX10_feed 13 = .ok (.bipush (-2), 2) := by decide +kernel
theorem dX10_feed_15 : decode cX10_feed 15 = .ok (.ireturn, 1) := by decide +kernel
theorem dX10_feed_16 : decode cX10_feed 16 = .ok (.aload_n 0, 1) := by decide +kernel
theorem dX10_feed_17 : decode cX10_feed 17 = .ok (.getfield 7, 3) := by decide +kernel
theorem dX10_feed_20 : decode cX10_feed 20 = .ok (.arraylength, 1) := by decide +kernel
theorem dX10_feed_21 : decode cX10_feed 21 = .ok (.aload_n 0, 1) := by decide +kernel
theorem dX10_feed_22 : decode cX10_feed 22 = .ok (.getfield 85, 3) := by decide +kernel
theorem dX10_feed_25 : decode cX10_feed 25 = .ok (.bipush 20, 2) := by decide +kernel
theorem dX10_feed_27 : decode cX10_feed 27 = .ok (.iadd, 1) := by decide +kernel
theorem dX10_feed_28 : decode cX10_feed 28 = .ok (.if_icmp .ge 29, 3) := by decide +kernel
theorem dX10_feed_31 : decode cX10_feed 31 = .ok (.aload_n 0, 1) := by decide +kernel
theorem dX10_feed_32 : decode cX10_feed 32 = .ok (.aload_n 0, 1) := by decide +kernel
theorem dX10_feed_33 : decode cX10_feed 33 = .ok (.getfield 7, 3) := by decide +kernel
theorem dX10_feed_36 : decode cX10_feed 36 = .ok (.aload_n 0, 1) := by decide +kernel
theorem dX10_feed_37 : decode cX10_feed 37 = .ok (.getfield 85, 3) := by decide +kernel
theorem dX10_feed_40 : decode cX10_feed 40 = .ok (.bipush 20, 2) := by decide +kernel
theorem dX10_feed_42 : decode cX10_feed 42 = .ok (.iadd, 1) := by decide +kernel
theorem dX10_feed_43 : decode cX10_feed 43 = .ok (.aload_n 0, 1) := by decide +kernel
theorem dX10_feed_44 : decode cX10_feed 44 = .ok (.getfield 7, 3) := by decide +kernel
theorem dX10_feed_47 : decode cX10_feed 47 = .ok (.arraylength, 1) := by decide +kernel
theorem dX10_feed_48 : decode cX10_feed 48 = .ok (.invokestatic 89, 3) := by decide +kernel
theorem dX10_feed_51 : decode cX10_feed 51 = .ok (.invokestatic 93, 3) := by decide +kernel
theorem dX10_feed_54 : decode cX10_feed 54 = .ok (.putfield 7, 3) := by decide +kernel
theorem dX10_feed_57 : decode cX10_feed 57 = .ok (.aload_n 0, 1) := by decide +kernel
theorem dX10_feed_58 : decode cX10_feed 58 = .ok (.iload_n 1, 1) := by decide +kernel
theorem dX10_feed_59 : decode cX10_feed 59 = .ok (.invokevirtual 99, 3) := by decide +kernel
theorem dX10_feed_62 : decode cX10_feed 62 = .ok (.aload_n 0, 1) := by decide +kernel
theorem dX10_feed_63 : decode cX10_feed 63 = .ok (.iload_n 2, 1) := by decide +kernel
theorem dX10_feed_64 : decode cX10_feed 64 = .ok (.invokevirtual 99, 3) := by decide +kernel
theorem dX10_feed_67 : decode cX10_feed 67 = .ok (.aload_n 0, 1) := by decide +kernel
theorem dX10_feed_68 : decode cX10_feed 68 = .ok (.iload_n 3, 1) := by decide +kernel
theorem dX10_feed_69 : decode cX10_feed 69 = .ok (.invokevirtual 99, 3) := by decide +kernel
theorem dX10_feed_72 : decode cX10_feed 72 = .ok (.aload_n 0, 1) := by decide +kernel
theorem dX10_feed_73 : decode cX10_feed 73 = .ok (.iload 4, 2) := by decide +kernel
theorem dX10_feed_75 : decode cX10_feed 75 = .ok (.invokevirtual 99, 3) := by decide +kernel
theorem dX10_feed_78 : decode cX10_feed 78 = .ok (.aload_n 0, 1) := by decide +kernel
theorem dX10_feed_79 : decode cX10_feed 79 = .ok (.iload 5, 2) := by decide +kernel
theorem dX10_feed_81 : decode cX10_feed 81 = .ok (.invokevirtual 99, 3) := by decide +kernel
theorem dX10_feed_84 : decode cX10_feed 84 = .ok (.aload_n 0, 1) := by decide +kernel
theorem dX10_feed_85 : decode cX10_feed 85 = .ok (.getfield 85, 3) := by decide +kernel
theorem dX10_feed_88 : decode cX10_feed 88 = .ok (.ireturn, 1) := by decide +kernel
def wp_X10_feed : List Cond := .code yX10_feed cX10_feed 6 (some .int) :: (((([.fieldLink RX10 85 "SteadyMachine" "taped" "I", .fieldLink RX10 7 "SteadyMachine" "tape" "[B"] ++ (wsV RX10 99 RX10 yX10_tapeNumber wp_X10_tapeNumber)) ++ (va_wsS RX10 89 yX10_roomFor wp_X10_roomFor)) ++ (va_wsS RX10 93 yJ7_copyOf_9075b wsJ7_copyOf_9075b)) ++ wsX100)
theorem wq_X10_feed : wp_X10_feed.all goodWord = true := wa_c rfl (wa_a (wa_a (wa_a (wa_a (by decide +kernel) (wa_V wq_X10_tapeNumber)) (wa_S wq_X10_roomFor)) (wa_S wq_J7_copyOf_9075b)) uq_X10)
theorem wt_X10_feed : GoodIn lw_tbl wp_X10_feed := wm_c (List.mem_of_getElem? (i := 608) (by decide +kernel)) rfl (wm_a (wm_a (wm_a (wm_a (goodIn_r _ [572, 571] (by decide +kernel) (by decide +kernel)) (wm_a (goodIn_r _ [631, 633, 0, 136] (by decide +kernel) (by decide +kernel)) wt_X10_tapeNumber)) (wm_a (goodIn_r _ [609, 610, 136] (by decide +kernel) (by decide +kernel)) wt_X10_roomFor)) (wm_a (goodIn_r _ [615, 616, 150] (by decide +kernel) (by decide +kernel)) wt_J7_copyOf_9075b)) ut_X10)
theorem wg_X10_feed_X10_tapeNumber_99 : GoodIn wp_X10_feed (wsV RX10 99 RX10 yX10_tapeNumber wp_X10_tapeNumber) := goodIn_sub (fun w h => List.mem_cons_of_mem _ (List.mem_append_left _ (List.mem_append_left _ (List.mem_append_left _ (List.mem_append_right _ h))))) (wa_V wq_X10_tapeNumber)
theorem wg_X10_feed_X10_roomFor_89 : GoodIn wp_X10_feed (va_wsS RX10 89 yX10_roomFor wp_X10_roomFor) := goodIn_sub (fun w h => List.mem_cons_of_mem _ (List.mem_append_left _ (List.mem_append_left _ (List.mem_append_right _ h)))) (wa_S wq_X10_roomFor)
theorem wg_X10_feed_J7_copyOf_9075b_93 : GoodIn wp_X10_feed (va_wsS RX10 93 yJ7_copyOf_9075b wsJ7_copyOf_9075b) := goodIn_sub (fun w h => List.mem_cons_of_mem _ (List.mem_append_left _ (List.mem_append_right _ h))) (wa_S wq_J7_copyOf_9075b)
theorem wi_X10_feed_X10 : ∀ w ∈ wsX100, w ∈ wp_X10_feed := fun w h => List.mem_cons_of_mem _ (List.mem_append_right _ h)
set_option maxHeartbeats 4000000 in
set_option maxRecDepth 100000 in
theorem c_X10_feed (l : Launch) (D : va_G) (sz t0 : Nat) (σ : sm_S) (β : sm_A) (p1 : Int32) (p2 : Int32) (p3 : Int32) (p4 : Int32) (p5 : Int32) (mc ms : Nat) (K : Int32 → sm_S → Prop) (hF : mp_X10_feed mc ms σ p1 p2 p3 p4 p5 K) : Met l yX10_feed wp_X10_feed { frames := 2, cells := mc, slots := ms, locals := 62 } (sm_P sm_wX sm_tX 37 D sz t0 σ β [.ref (β.1 10), .int p1, .int p2, .int p3, .int p4, .int p5]) (va_Qi (fun r (u : sm_S × sm_A) => K r u.1) (sm_Ba sm_wX sm_tX 37 11 D (sm_a β 37 sz) β) (sm_a β 37 sz)) (mc) (ms) (sm_a β 37 sz) := by
  refine Met.ofW (cc := cX10_feed) (maxL := 6) (ret := (some .int)) (by decide) rfl ?_
  intro p e s m args below meth c s₁ B hml hv
  obtain ⟨rfl, hsz, hP, hK, hD0, hE⟩ := hv
  have hx := B.exec
  have hb := B.bytes
  have hr := B.returns
  have hts := atoms_spec (ws := wp_X10_feed) B.pre
  have hown : s.vm.findClass RX10 = some m.cls := findClass_of_methodNamed B.named
  have hlocks := B.notSynchronized
  subst hsz
  have hD : sm_D (sm_a β 37 s.heap.size) β 37 := hD0.own
  have hA : ∀ q : Nat, s.heap.size ≤ q → sm_a β 37 s.heap.size q := fun q h => Or.inr h
  generalize hAe : sm_a β 37 s.heap.size = A at hD hA hE ⊢
  have hS : va_S A s.heap s.heap [] := va_S.rf
  have in_X10 : ∀ w ∈ wsX100, w ∈ wp_X10_feed := wi_X10_feed_X10
  have k_0 := hts (.fieldLink RX10 85 "SteadyMachine" "taped" "I") (by decide +kernel)
  have k_1 := hts (.fieldLink RX10 7 "SteadyMachine" "tape" "[B") (by decide +kernel)
  have hl := lv_entry ([.ref (β.1 10), .int p1, .int p2, .int p3, .int p4, .int p5]) (n := 6) (Nat.le_of_ble_eq_true rfl)
  rw [lg_entry_eq]
  generalize (lg_sl ([.ref (β.1 10), .int p1, .int p2, .int p3, .int p4, .int p5]) ++ List.replicate (6 - (lg_sl ([.ref (β.1 10), .int p1, .int p2, .int p3, .int p4, .int p5])).length) Slot.unset).toArray = ls at hl ⊢
  have B57 : ∀ (σ : sm_S) (x1 : Int32) (x2 : Int32) (x3 : Int32) (x4 : Int32) (x5 : Int32), mp_X10_feed_57 mc ms K σ x1 x2 x3 x4 x5 → sm_Ja p l e (headSpec wp_X10_feed { frames := 2, cells := mc, slots := ms, locals := 62 }).room s m ([.ref (β.1 10), .int p1, .int p2, .int p3, .int p4, .int p5] : List Value).toArray below meth c (MQ below (va_Qi (fun r (u : sm_S × sm_A) => K r u.1) (sm_Ba sm_wX sm_tX 37 11 D A β) A) ([.ref (β.1 10), .int p1, .int p2, .int p3, .int p4, .int p5] : List Value).toArray s (mc) (ms) A) sm_wX sm_tX 37 11 D A β 6 (mc) (ms) σ 57 (fun α => [(0, .ref (α.1 10)), (1, .int x1), (2, .int x2), (3, .int x3), (4, .int x4), (5, .int x5)]) (fun α => []) := by
    intro σ x1 x2 x3 x4 x5 hF α H locs ls hob hK hD hP hS hl
    dsimp only at hl ⊢
    unfold mp_X10_feed_57 at hF
    refine lv_aload_n hx hb dX10_feed_57 rfl (lv_at hl 0 rfl) ?_
    refine lv_iload_n hx hb dX10_feed_58 rfl (lv_at hl 1 rfl) ?_
    refine sm_vv (As := [.int x1]) (rest := []) hP hK hD hE hS hA ⟨hx, hb, hml, hown, hts⟩ hl.1 (c_X10_tapeNumber l D H.size t0 σ α x1 _ hF) (cwV 1 hts wg_X10_feed_X10_tapeNumber_99 rfl rfl rfl (by decide +kernel) ⟨Nat.le_of_ble_eq_true rfl, Nat.le_of_ble_eq_true rfl⟩) (va_recv hK hP (ci := 10) (q0 := 10) rfl (sm_gX10 σ α)) rfl rfl (Nat.le_of_ble_eq_true rfl) dX10_feed_59 ⟨Nat.le_refl _, Nat.le_refl _⟩ (fun σ1 H locs hF hP hS => ?_)
    refine lv_aload_n hx hb dX10_feed_62 rfl (lv_at hl 0 rfl) ?_
    refine lv_iload_n hx hb dX10_feed_63 rfl (lv_at hl 2 rfl) ?_
    refine sm_vv (As := [.int x2]) (rest := []) hP hK hD hE hS hA ⟨hx, hb, hml, hown, hts⟩ hl.1 (c_X10_tapeNumber l D H.size t0 σ1 α x2 _ hF) (cwV 1 hts wg_X10_feed_X10_tapeNumber_99 rfl rfl rfl (by decide +kernel) ⟨Nat.le_of_ble_eq_true rfl, Nat.le_of_ble_eq_true rfl⟩) (va_recv hK hP (ci := 10) (q0 := 10) rfl (sm_gX10 σ1 α)) rfl rfl (Nat.le_of_ble_eq_true rfl) dX10_feed_64 ⟨Nat.le_refl _, Nat.le_refl _⟩ (fun σ2 H locs hF hP hS => ?_)
    refine lv_aload_n hx hb dX10_feed_67 rfl (lv_at hl 0 rfl) ?_
    refine lv_iload_n hx hb dX10_feed_68 rfl (lv_at hl 3 rfl) ?_
    refine sm_vv (As := [.int x3]) (rest := []) hP hK hD hE hS hA ⟨hx, hb, hml, hown, hts⟩ hl.1 (c_X10_tapeNumber l D H.size t0 σ2 α x3 _ hF) (cwV 1 hts wg_X10_feed_X10_tapeNumber_99 rfl rfl rfl (by decide +kernel) ⟨Nat.le_of_ble_eq_true rfl, Nat.le_of_ble_eq_true rfl⟩) (va_recv hK hP (ci := 10) (q0 := 10) rfl (sm_gX10 σ2 α)) rfl rfl (Nat.le_of_ble_eq_true rfl) dX10_feed_69 ⟨Nat.le_refl _, Nat.le_refl _⟩ (fun σ3 H locs hF hP hS => ?_)
    refine lv_aload_n hx hb dX10_feed_72 rfl (lv_at hl 0 rfl) ?_
    refine lv_iload hx hb dX10_feed_73 (lv_at hl 4 rfl) ?_
    refine sm_vv (As := [.int x4]) (rest := []) hP hK hD hE hS hA ⟨hx, hb, hml, hown, hts⟩ hl.1 (c_X10_tapeNumber l D H.size t0 σ3 α x4 _ hF) (cwV 1 hts wg_X10_feed_X10_tapeNumber_99 rfl rfl rfl (by decide +kernel) ⟨Nat.le_of_ble_eq_true rfl, Nat.le_of_ble_eq_true rfl⟩) (va_recv hK hP (ci := 10) (q0 := 10) rfl (sm_gX10 σ3 α)) rfl rfl (Nat.le_of_ble_eq_true rfl) dX10_feed_75 ⟨Nat.le_refl _, Nat.le_refl _⟩ (fun σ4 H locs hF hP hS => ?_)
    refine lv_aload_n hx hb dX10_feed_78 rfl (lv_at hl 0 rfl) ?_
    refine lv_iload hx hb dX10_feed_79 (lv_at hl 5 rfl) ?_
    refine sm_vv (As := [.int x5]) (rest := []) hP hK hD hE hS hA ⟨hx, hb, hml, hown, hts⟩ hl.1 (c_X10_tapeNumber l D H.size t0 σ4 α x5 _ hF) (cwV 1 hts wg_X10_feed_X10_tapeNumber_99 rfl rfl rfl (by decide +kernel) ⟨Nat.le_of_ble_eq_true rfl, Nat.le_of_ble_eq_true rfl⟩) (va_recv hK hP (ci := 10) (q0 := 10) rfl (sm_gX10 σ4 α)) rfl rfl (Nat.le_of_ble_eq_true rfl) dX10_feed_81 ⟨Nat.le_refl _, Nat.le_refl _⟩ (fun σ5 H locs hF hP hS => ?_)
    refine lv_aload_n hx hb dX10_feed_84 rfl (lv_at hl 0 rfl) ?_
    refine va_get (D := D) (ci := 10) (v := .int (σ5.1 35)) (C := RX10) (T := TX10) (N := 11) hx hb hts in_X10 hown hK hP 10 (sm_gX10 σ5 α) rfl 1 (by decide) k_0 (fun _ h9 => h9) rfl dX10_feed_85 ?_
    exact W.iret (v := (σ5.1 35)) hx hb hr (fun t ht hW => ⟨⟨(σ5.1 35), (σ5, α), rfl, hF, by rw [ht]; exact hP, va_K.moved hW.alike hK, hD, hob⟩, hS.F ht⟩) hS.2.2 dX10_feed_88
  unfold mp_X10_feed at hF
  suffices h9 : sm_Ja p l e (headSpec wp_X10_feed { frames := 2, cells := mc, slots := ms, locals := 62 }).room s m ([.ref (β.1 10), .int p1, .int p2, .int p3, .int p4, .int p5] : List Value).toArray below meth c (MQ below (va_Qi (fun r (u : sm_S × sm_A) => K r u.1) (sm_Ba sm_wX sm_tX 37 11 D A β) A) ([.ref (β.1 10), .int p1, .int p2, .int p3, .int p4, .int p5] : List Value).toArray s (mc) (ms) A) sm_wX sm_tX 37 11 D A β 6 0 0 σ 0 (fun α => [(0, .ref (α.1 10)), (1, .int p1), (2, .int p2), (3, .int p3), (4, .int p4), (5, .int p5)]) (fun α => []) from h9 β s.heap [] ls (fun _ _ => rfl) hK hD hP hS hl
  clear hK hD hP hS hl
  intro α H locs ls hob hK hD hP hS hl
  dsimp only at hl ⊢
  refine lv_aload_n hx hb dX10_feed_0 rfl (lv_at hl 0 rfl) ?_
  refine va_get (D := D) (ci := 10) (v := .int (σ.1 35)) (C := RX10) (T := TX10) (N := 11) hx hb hts in_X10 hown hK hP 10 (sm_gX10 σ α) rfl 1 (by decide) k_0 (fun _ h9 => h9) rfl dX10_feed_1 ?_
  refine lv_bipush (v := 20) hx hb dX10_feed_4 (by decide) ?_
  refine lv_iadd hx hb dX10_feed_6 ?_
  refine lv_sipush (v := 8000) hx hb dX10_feed_7 (by decide) ?_
  refine lv_icmp_le (tgt := 16) hx hb dX10_feed_10 (by decide) (fun h6 => ?_) (fun h6 => ?_)
  · replace hF := hF.1 h6
    refine lv_aload_n hx hb dX10_feed_16 rfl (lv_at hl 0 rfl) ?_
    refine va_get (D := D) (ci := 10) (v := .ref (α.1 36)) (C := RX10) (T := TX10) (N := 11) hx hb hts in_X10 hown hK hP 10 (sm_gX10 σ α) rfl 0 (by decide) k_1 (fun _ h9 => h9) rfl dX10_feed_17 ?_
    refine va_alen (v := nI (σ.2.2.1 36)) hx hb hK hP 36 25 (sm_aX36 σ α) (sm_yX36 α) rfl dX10_feed_20 ?_
    refine lv_aload_n hx hb dX10_feed_21 rfl (lv_at hl 0 rfl) ?_
    refine va_get (D := D) (ci := 10) (v := .int (σ.1 35)) (C := RX10) (T := TX10) (N := 11) hx hb hts in_X10 hown hK hP 10 (sm_gX10 σ α) rfl 1 (by decide) k_0 (fun _ h9 => h9) rfl dX10_feed_22 ?_
    refine lv_bipush (v := 20) hx hb dX10_feed_25 (by decide) ?_
    refine lv_iadd hx hb dX10_feed_27 ?_
    refine lv_icmp_ge (tgt := 57) hx hb dX10_feed_28 (by decide) (fun h7 => ?_) (fun h7 => ?_)
    · replace hF := hF.1 h7
      refine W.widen (k := mc) (n := ms) (Nat.zero_le _) (Nat.zero_le _) ?_
      exact B57 σ p1 p2 p3 p4 p5 hF α H locs ls hob hK hD hP hS (lv_sub hl [0, 1, 2, 3, 4, 5] rfl)
    · replace hF := hF.2 h7
      refine lv_aload_n hx hb dX10_feed_31 rfl (lv_at hl 0 rfl) ?_
      refine lv_aload_n hx hb dX10_feed_32 rfl (lv_at hl 0 rfl) ?_
      refine va_get (D := D) (ci := 10) (v := .ref (α.1 36)) (C := RX10) (T := TX10) (N := 11) hx hb hts in_X10 hown hK hP 10 (sm_gX10 σ α) rfl 0 (by decide) k_1 (fun _ h9 => h9) rfl dX10_feed_33 ?_
      refine lv_aload_n hx hb dX10_feed_36 rfl (lv_at hl 0 rfl) ?_
      refine va_get (D := D) (ci := 10) (v := .int (σ.1 35)) (C := RX10) (T := TX10) (N := 11) hx hb hts in_X10 hown hK hP 10 (sm_gX10 σ α) rfl 1 (by decide) k_0 (fun _ h9 => h9) rfl dX10_feed_37 ?_
      refine lv_bipush (v := 20) hx hb dX10_feed_40 (by decide) ?_
      refine lv_iadd hx hb dX10_feed_42 ?_
      refine lv_aload_n hx hb dX10_feed_43 rfl (lv_at hl 0 rfl) ?_
      refine va_get (D := D) (ci := 10) (v := .ref (α.1 36)) (C := RX10) (T := TX10) (N := 11) hx hb hts in_X10 hown hK hP 10 (sm_gX10 σ α) rfl 0 (by decide) k_1 (fun _ h9 => h9) rfl dX10_feed_44 ?_
      refine va_alen (v := nI (σ.2.2.1 36)) hx hb hK hP 36 25 (sm_aX36 σ α) (sm_yX36 α) rfl dX10_feed_47 ?_
      refine sm_si (As := [.int ((σ.1 35) + 20), .int (nI (σ.2.2.1 36))]) (rest := [.ref (α.1 36), .ref (α.1 10)]) hP hK hD hE hS hA ⟨hx, hb, hml, hown, hts⟩ hl.1 (c_X10_roomFor l D H.size t0 σ α ((σ.1 35) + 20) (nI (σ.2.2.1 36)) _ hF) (va_cwS 2 hts wg_X10_feed_X10_roomFor_89 rfl rfl rfl (by decide +kernel) ⟨Nat.le_of_ble_eq_true rfl, Nat.le_of_ble_eq_true rfl⟩) rfl rfl (Nat.le_of_ble_eq_true rfl) dX10_feed_48 ⟨Nat.zero_le _, Nat.zero_le _⟩ (fun r9 σ8 H locs hF hP hS => ?_)
      obtain ⟨h10, h11, h12, hF⟩ := hF
      have hs9 := sm_sub hD hA hS.1
      refine va_callr (va_runS (As := [.ref (α.1 36), .int r9]) (rest := [.ref (α.1 10)]) ⟨hx, hb, hml, hown, hts⟩ (c_J7_copyOf l D H.size t0 σ8 α r9 h10) (va_cwS 2 hts wg_X10_feed_J7_copyOf_9075b_93 rfl rfl rfl (by decide +kernel) ⟨Nat.le_of_ble_eq_true rfl, Nat.le_of_ble_eq_true rfl⟩) ⟨sm_P.blind, sm_P.at hP hK hD hE hS hA⟩ rfl rfl hl.1 rfl (lv_room (Nat.le_of_ble_eq_true rfl)) dX10_feed_51 ⟨h11, h12⟩) hS (fun q _ h => hs9 q h) hs9 (fun cA q t H1 locs ht hvm _ hB hz1 hk1 hS => ?_)
      obtain ⟨hP, hK1, hD9⟩ := hB
      rw [ht] at hP
      generalize H1 = H at hP hS ⊢
      have hK : va_K D vwCl (sm_tX α ++ [(cA, .byte)]) s := va_K.moved hvm.symm hK1
      have hD9 := hD9.weaken (fun _ q _ h => hs9 q.1 h)
      refine va_put (D := D) (ci := 10) (v := .ref q) (ty := .array .byte) (C := RX10) (T := TX10) (N := 11) hx hb hts in_X10 tyX10 tyX10_ok nmX10 hown hK hP hD9 hS 10 rfl rfl 0 (by decide) k_1 (fun _ h9 => h9) rfl (by decide +kernel) rfl rfl (Nat.le_of_ble_eq_true rfl) dX10_feed_54 (fun H locs hP hD9 hS => ?_)
      obtain ⟨σ13, eσ13⟩ : ∃ x : sm_S, x = sm_x σ8 36 r9.toNatClampNeg (sm_cp (σ8.2.2.1 36) (σ8.2.2.2.1 36)) := ⟨_, rfl⟩
      replace hF := hF σ13 eσ13
      obtain ⟨α14, eα14⟩ : ∃ x : sm_A, x = (va_up α.1 36 q, va_up α.2 36 cA) := ⟨_, rfl⟩
      replace hK : va_K D vwCl (sm_tX α14) s := by rw [eα14]; exact hK.sub [0, 1, 2, 3, 4, 5, 6, 7, 8, 9, 10, 11, 12, 13, 14, 15, 16, 17, 18, 19, 20, 21, 22, 23, 24, 26] rfl
      replace hP : va_P D vwCl (sm_wX σ13 α14) H := by rw [eσ13, eα14]; exact hP.sub [0, 1, 2, 3, 4, 5, 6, 7, 8, 9, 10, 11, 12, 13, 14, 15, 16, 17, 18, 19, 20, 21, 22, 23, 24, 25, 26, 27, 28, 29, 30, 31, 32, 33, 34, 35, 37] rfl
      replace hD : sm_D A α14 37 := sm_D.of (sm_wX_m σ13 α14) (by rw [eσ13, eα14]; exact hD9.sub [0, 1, 2, 3, 4, 5, 6, 7, 8, 9, 10, 11, 12, 13, 14, 15, 16, 17, 18, 19, 20, 21, 22, 23, 24, 25, 26, 27, 28, 29, 30, 31, 32, 33, 34, 35, 37] (by decide) rfl)
      replace hob : ∀ k : Nat, k < 11 → α14.1 k = β.1 k := fun k hk => by rw [eα14]; exact (va_up_ne _ _ (by omega)).trans (hob k hk)
      replace hl : lv_has ls 6 [(0, .ref (α14.1 10)), (1, .int p1), (2, .int p2), (3, .int p3), (4, .int p4), (5, .int p5)] := by rw [eα14]; exact hl
      refine W.widen (k := mc) (n := ms) (h11) (h12) ?_
      exact B57 σ13 p1 p2 p3 p4 p5 hF α14 H locs ls hob hK hD hP hS (lv_sub hl [0, 1, 2, 3, 4, 5] rfl)
  · replace hF := hF.2 h6
    refine lv_bipush (v := -2) hx hb dX10_feed_13 (by decide) ?_
    refine W.widen (k := mc) (n := ms) (Nat.zero_le _) (Nat.zero_le _) ?_
    exact W.iret (v := (-2)) hx hb hr (fun t ht hW => ⟨⟨(-2), (σ, α), rfl, hF, by rw [ht]; exact hP, va_K.moved hW.alike hK, hD, hob⟩, hS.F ht⟩) hS.2.2 dX10_feed_15
theorem dX10_start_0 : decode cX10_start 0 = .ok (.aload_n 0, 1) := by decide +kernel
theorem dX10_start_1 : decode cX10_start 1 = .ok (.getfield 106, 3) := by decide +kernel
theorem dX10_start_4 : decode cX10_start 4 = .ok (.ifCond .ne 5, 3) := by decide +kernel
theorem dX10_start_7 : decode cX10_start 7 = .ok (.iconst 0, 1) := by decide +kernel
theorem dX10_start_8 : decode cX10_start 8 = .ok (.ireturn, 1) := by decide +kernel
theorem dX10_start_9 : decode cX10_start 9 = .ok (.aload_n 0, 1) := by decide +kernel
theorem dX10_start_10 : decode cX10_start 10 = .ok (.getfield 63, 3) := by decide +kernel
theorem dX10_start_13 : decode cX10_start 13 = .ok (.sipush 1024, 3) := by decide +kernel
theorem dX10_start_16 : decode cX10_start 16 = .ok (.ldc 132, 2) := by decide +kernel
theorem dX10_start_18 : decode cX10_start 18 = .ok (.iload_n 1, 1) := by decide +kernel
theorem dX10_start_19 : decode cX10_start 19 = .ok (.invokestatic 133, 3) := by decide +kernel
theorem dX10_start_22 : decode cX10_start 22 = .ok (.invokestatic 138, 3) := by decide +kernel
theorem dX10_start_25 : decode cX10_start 25 = .ok (.iconst 1, 1) := by decide +kernel
theorem dX10_start_26 : decode cX10_start 26 = .ok (.bipush 64, 2) := by decide +kernel
theorem dX10_start_28 : decode cX10_start 28 = .ok (.iload_n 2, 1) := by decide +kernel
theorem dX10_start_29 : decode cX10_start 29 = .ok (.invokestatic 133, 3) := by decide +kernel
theorem dX10_start_32 : decode cX10_start 32 = .ok (.invokestatic 138, 3) := by decide +kernel
theorem dX10_start_35 : decode cX10_start 35 = .ok (.invokevirtual 141, 3) := by decide +kernel
theorem dX10_start_38 : decode cX10_start 38 = .ok (.aload_n 0, 1) := by decide +kernel
theorem dX10_start_39 : decode cX10_start 39 = .ok (.getfield 46, 3) := by decide +kernel
theorem dX10_start_42 : decode cX10_start 42 = .ok (.invokevirtual 145, 3) := by decide +kernel
theorem dX10_start_45 : decode cX10_start 45 = .ok (.aload_n 0, 1) := by decide +kernel
theorem dX10_start_46 : decode cX10_start 46 = .ok (.getfield 72, 3) := by decide +kernel
theorem dX10_start_49 : decode cX10_start 49 = .ok (.invokevirtual 148, 3) := by decide +kernel
theorem dX10_start_52 : decode cX10_start 52 = .ok (.iconst 1, 1) := by decide +kernel
theorem dX10_start_53 : decode cX10_start 53 = .ok (.ireturn, 1) := by decide +kernel
def wp_X10_start : List Cond := .code yX10_start cX10_start 3 (some .boolean) :: (((([.fieldLink RX10 106 "SteadyMachine" "whole" "Z", .fieldLink RX10 63 "SteadyMachine" "heap" "LSteadyMachine$Heap;", .constant RX10 132 (60000), .methodLink RX10 133 Lib.Math.min.name, .static Lib.Math.min.name, .initialized "java/lang/Math", .code Lib.Math.min.name Lib.Math.min.code 2 (some .int), .methodLink RX10 138 Lib.Math.max.name, .static Lib.Math.max.name, .code Lib.Math.max.name Lib.Math.max.code 2 (some .int), .fieldLink RX10 46 "SteadyMachine" "ports" "LSteadyMachine$Ports;", .fieldLink RX10 72 "SteadyMachine" "runner" "LSteadyMachine$Runner;"] ++ (wsV RX10 141 RX1 yX1_open wp_X1_open)) ++ (wsV RX10 145 RX5 yX5_rewind wp_X5_rewind)) ++ (wsV RX10 148 RX7 yX7_begin wp_X7_begin)) ++ wsX100)
theorem wq_X10_start : wp_X10_start.all goodWord = true := wa_c rfl (wa_a (wa_a (wa_a (wa_a (by decide +kernel) (wa_V wq_X1_open)) (wa_V wq_X5_rewind)) (wa_V wq_X7_begin)) uq_X10)
theorem wt_X10_start : GoodIn lw_tbl wp_X10_start := wm_c (List.mem_of_getElem? (i := 861) (by decide +kernel)) rfl (wm_a (wm_a (wm_a (wm_a (goodIn_r _ [573, 579, 862, 863, 626, 149, 627, 612, 613, 614, 578, 580] (by decide +kernel) (by decide +kernel)) (wm_a (goodIn_r _ [864, 865, 866, 144] (by decide +kernel) (by decide +kernel)) wt_X1_open)) (wm_a (goodIn_r _ [873, 874, 875, 143] (by decide +kernel) (by decide +kernel)) wt_X5_rewind)) (wm_a (goodIn_r _ [877, 878, 879, 145] (by decide +kernel) (by decide +kernel)) wt_X7_begin)) ut_X10)
theorem wg_X10_start_X1_open_141 : GoodIn wp_X10_start (wsV RX10 141 RX1 yX1_open wp_X1_open) := goodIn_sub (fun w h => List.mem_cons_of_mem _ (List.mem_append_left _ (List.mem_append_left _ (List.mem_append_left _ (List.mem_append_right _ h))))) (wa_V wq_X1_open)
theorem wg_X10_start_X5_rewind_145 : GoodIn wp_X10_start (wsV RX10 145 RX5 yX5_rewind wp_X5_rewind) := goodIn_sub (fun w h => List.mem_cons_of_mem _ (List.mem_append_left _ (List.mem_append_left _ (List.mem_append_right _ h)))) (wa_V wq_X5_rewind)
theorem wg_X10_start_X7_begin_148 : GoodIn wp_X10_start (wsV RX10 148 RX7 yX7_begin wp_X7_begin) := goodIn_sub (fun w h => List.mem_cons_of_mem _ (List.mem_append_left _ (List.mem_append_right _ h))) (wa_V wq_X7_begin)
theorem wi_X10_start_X10 : ∀ w ∈ wsX100, w ∈ wp_X10_start := fun w h => List.mem_cons_of_mem _ (List.mem_append_right _ h)
set_option maxHeartbeats 4000000 in
set_option maxRecDepth 100000 in
theorem c_X10_start (l : Launch) (D : va_G) (sz t0 : Nat) (σ : sm_S) (β : sm_A) (p1 : Int32) (p2 : Int32) (mc ms : Nat) (K : Int32 → sm_S → Prop) (hF : mp_X10_start mc ms σ p1 p2 K) : Met l yX10_start wp_X10_start { frames := 6, cells := mc, slots := ms, locals := 137 } (sm_P sm_wX sm_tX 37 D sz t0 σ β [.ref (β.1 10), .int p1, .int p2]) (va_Qi (fun r (u : sm_S × sm_A) => K r u.1) (sm_Ba sm_wX sm_tX 37 11 D (sm_a β 37 sz) β) (sm_a β 37 sz)) (mc) (ms) (sm_a β 37 sz) := by
  refine Met.ofW (cc := cX10_start) (maxL := 3) (ret := (some .boolean)) (by decide) rfl ?_
  intro p e s m args below meth c s₁ B hml hv
  obtain ⟨rfl, hsz, hP, hK, hD0, hE⟩ := hv
  have hx := B.exec
  have hb := B.bytes
  have hr := B.returns
  have hts := atoms_spec (ws := wp_X10_start) B.pre
  have hown : s.vm.findClass RX10 = some m.cls := findClass_of_methodNamed B.named
  have hlocks := B.notSynchronized
  subst hsz
  have hD : sm_D (sm_a β 37 s.heap.size) β 37 := hD0.own
  have hA : ∀ q : Nat, s.heap.size ≤ q → sm_a β 37 s.heap.size q := fun q h => Or.inr h
  generalize hAe : sm_a β 37 s.heap.size = A at hD hA hE ⊢
  have hS : va_S A s.heap s.heap [] := va_S.rf
  have in_X10 : ∀ w ∈ wsX100, w ∈ wp_X10_start := wi_X10_start_X10
  have k_0 := hts (.fieldLink RX10 106 "SteadyMachine" "whole" "Z") (by decide +kernel)
  have k_1 := hts (.fieldLink RX10 63 "SteadyMachine" "heap" "LSteadyMachine$Heap;") (by decide +kernel)
  have k_2 := hts (.constant RX10 132 (60000)) (by decide +kernel)
  have k_3 := hts (.methodLink RX10 133 Lib.Math.min.name) (by decide +kernel)
  have k_4 := hts (.static Lib.Math.min.name) (by decide +kernel)
  have k_5 := hts (.initialized "java/lang/Math") (by decide +kernel)
  have k_6 := hts (.code Lib.Math.min.name Lib.Math.min.code 2 (some .int)) (by decide +kernel)
  have k_7 := hts (.methodLink RX10 138 Lib.Math.max.name) (by decide +kernel)
  have k_8 := hts (.static Lib.Math.max.name) (by decide +kernel)
  have k_9 := hts (.code Lib.Math.max.name Lib.Math.max.code 2 (some .int)) (by decide +kernel)
  have k_10 := hts (.fieldLink RX10 46 "SteadyMachine" "ports" "LSteadyMachine$Ports;") (by decide +kernel)
  have k_11 := hts (.fieldLink RX10 72 "SteadyMachine" "runner" "LSteadyMachine$Runner;") (by decide +kernel)
  have hl := lv_entry ([.ref (β.1 10), .int p1, .int p2]) (n := 3) (Nat.le_of_ble_eq_true rfl)
  rw [lg_entry_eq]
  generalize (lg_sl ([.ref (β.1 10), .int p1, .int p2]) ++ List.replicate (3 - (lg_sl ([.ref (β.1 10), .int p1, .int p2])).length) Slot.unset).toArray = ls at hl ⊢
  unfold mp_X10_start at hF
  suffices h9 : sm_Ja p l e (headSpec wp_X10_start { frames := 6, cells := mc, slots := ms, locals := 137 }).room s m ([.ref (β.1 10), .int p1, .int p2] : List Value).toArray below meth c (MQ below (va_Qi (fun r (u : sm_S × sm_A) => K r u.1) (sm_Ba sm_wX sm_tX 37 11 D A β) A) ([.ref (β.1 10), .int p1, .int p2] : List Value).toArray s (mc) (ms) A) sm_wX sm_tX 37 11 D A β 3 0 0 σ 0 (fun α => [(0, .ref (α.1 10)), (1, .int p1), (2, .int p2)]) (fun α => []) from h9 β s.heap [] ls (fun _ _ => rfl) hK hD hP hS hl
  clear hK hD hP hS hl
  intro α H locs ls hob hK hD hP hS hl
  dsimp only at hl ⊢
  refine lv_aload_n hx hb dX10_start_0 rfl (lv_at hl 0 rfl) ?_
  refine va_get (D := D) (ci := 10) (v := .int (σ.1 36)) (C := RX10) (T := TX10) (N := 11) hx hb hts in_X10 hown hK hP 10 (sm_gX10 σ α) rfl 2 (by decide) k_0 (fun _ h9 => h9) rfl dX10_start_1 ?_
  refine lv_if_ne (tgt := 9) hx hb dX10_start_4 (by decide) (fun h1 => ?_) (fun h1 => ?_)
  · replace hF := hF.1 h1
    refine lv_aload_n hx hb dX10_start_9 rfl (lv_at hl 0 rfl) ?_
    refine va_get (D := D) (ci := 10) (v := .ref (α.1 1)) (C := RX10) (T := TX10) (N := 11) hx hb hts in_X10 hown hK hP 10 (sm_gX10 σ α) rfl 8 (by decide) k_1 (fun _ h9 => h9) rfl dX10_start_10 ?_
    refine lv_sipush (v := 1024) hx hb dX10_start_13 (by decide) ?_
    refine lv_ldc (v := 60000) hx hb hown k_2 dX10_start_16 ?_
    refine lv_iload_n hx hb dX10_start_18 rfl (lv_at hl 1 rfl) ?_
    refine va_mmin (x := 60000) (y := p1) hx hb (hml.trans hl.1.symm) hown k_3 k_4 k_5 k_6 (Nat.le_of_ble_eq_true rfl) (Nat.le_of_ble_eq_true rfl) (Nat.zero_le _) (Nat.zero_le _) dX10_start_19 ?_
    refine va_mmax (x := 1024) (y := (if p1 < 60000 then p1 else 60000)) hx hb (hml.trans hl.1.symm) hown k_7 k_8 k_5 k_9 (Nat.le_of_ble_eq_true rfl) (Nat.le_of_ble_eq_true rfl) (Nat.zero_le _) (Nat.zero_le _) dX10_start_22 ?_
    refine lv_iconst (v := 1) hx hb dX10_start_25 (by decide) ?_
    refine lv_bipush (v := 64) hx hb dX10_start_26 (by decide) ?_
    refine lv_iload_n hx hb dX10_start_28 rfl (lv_at hl 2 rfl) ?_
    refine va_mmin (x := 64) (y := p2) hx hb (hml.trans hl.1.symm) hown k_3 k_4 k_5 k_6 (Nat.le_of_ble_eq_true rfl) (Nat.le_of_ble_eq_true rfl) (Nat.zero_le _) (Nat.zero_le _) dX10_start_29 ?_
    refine va_mmax (x := 1) (y := (if p2 < 64 then p2 else 64)) hx hb (hml.trans hl.1.symm) hown k_7 k_8 k_5 k_9 (Nat.le_of_ble_eq_true rfl) (Nat.le_of_ble_eq_true rfl) (Nat.zero_le _) (Nat.zero_le _) dX10_start_32 ?_
    refine sm_avv (nO := 11) (As := [.int (if 1024 < (if p1 < 60000 then p1 else 60000) then (if p1 < 60000 then p1 else 60000) else 1024), .int (if 1 < (if p2 < 64 then p2 else 64) then (if p2 < 64 then p2 else 64) else 1)]) (rest := []) hP hK hD hE hS hA ⟨hx, hb, hml, hown, hts⟩ hl.1 (c_X1_open l D H.size t0 σ α (if 1024 < (if p1 < 60000 then p1 else 60000) then (if p1 < 60000 then p1 else 60000) else 1024) (if 1 < (if p2 < 64 then p2 else 64) then (if p2 < 64 then p2 else 64) else 1) mc ms _ hF) (cwV 2 hts wg_X10_start_X1_open_141 rfl rfl rfl (by decide +kernel) ⟨Nat.le_of_ble_eq_true rfl, Nat.le_of_ble_eq_true rfl⟩) (va_recv hK hP (ci := 1) (q0 := 1) rfl (sm_gX1 σ α)) rfl rfl (Nat.le_of_ble_eq_true rfl) dX10_start_35 ⟨(show 0 + mc ≤ mc by omega), (show 0 + ms ≤ ms by omega)⟩ (fun σ2 α3 H locs hF hβ hK hD hP hS => ?_)
    replace hob : ∀ k : Nat, k < 11 → α3.1 k = β.1 k := fun k hk => (hβ k hk).trans (hob k hk)
    replace hl : lv_has ls 3 [(0, .ref (α3.1 10)), (1, .int p1), (2, .int p2)] := by rw [hβ 10 (by decide)]; exact hl
    refine lv_aload_n hx hb dX10_start_38 rfl (lv_at hl 0 rfl) ?_
    refine va_get (D := D) (ci := 10) (v := .ref (α3.1 5)) (C := RX10) (T := TX10) (N := 11) hx hb hts in_X10 hown hK hP 10 (sm_gX10 σ2 α3) rfl 7 (by decide) k_10 (fun _ h9 => h9) rfl dX10_start_39 ?_
    refine sm_vv (As := []) (rest := []) hP hK hD hE hS hA ⟨hx, hb, hml, hown, hts⟩ hl.1 (c_X5_rewind l D H.size t0 σ2 α3 _ hF) (cwV 0 hts wg_X10_start_X5_rewind_145 rfl rfl rfl (by decide +kernel) ⟨Nat.le_of_ble_eq_true rfl, Nat.le_of_ble_eq_true rfl⟩) (va_recv hK hP (ci := 5) (q0 := 5) rfl (sm_gX5 σ2 α3)) rfl rfl (Nat.le_of_ble_eq_true rfl) dX10_start_42 ⟨(show 0 + mc ≤ mc by omega), (show 0 + ms ≤ ms by omega)⟩ (fun σ4 H locs hF hP hS => ?_)
    refine lv_aload_n hx hb dX10_start_45 rfl (lv_at hl 0 rfl) ?_
    refine va_get (D := D) (ci := 10) (v := .ref (α3.1 7)) (C := RX10) (T := TX10) (N := 11) hx hb hts in_X10 hown hK hP 10 (sm_gX10 σ4 α3) rfl 9 (by decide) k_11 (fun _ h9 => h9) rfl dX10_start_46 ?_
    refine sm_vv (As := []) (rest := []) hP hK hD hE hS hA ⟨hx, hb, hml, hown, hts⟩ hl.1 (c_X7_begin l D H.size t0 σ4 α3 _ hF) (cwV 0 hts wg_X10_start_X7_begin_148 rfl rfl rfl (by decide +kernel) ⟨Nat.le_of_ble_eq_true rfl, Nat.le_of_ble_eq_true rfl⟩) (va_recv hK hP (ci := 7) (q0 := 7) rfl (sm_gX7 σ4 α3)) rfl rfl (Nat.le_of_ble_eq_true rfl) dX10_start_49 ⟨(show 0 + mc ≤ mc by omega), (show 0 + ms ≤ ms by omega)⟩ (fun σ5 H locs hF hP hS => ?_)
    refine lv_iconst (v := 1) hx hb dX10_start_52 (by decide) ?_
    refine W.widen (k := mc) (n := ms) ((show 0 + mc ≤ mc by omega)) ((show 0 + ms ≤ ms by omega)) ?_
    exact W.zret (v := 1) hx hb hr sm_z1.1 (fun t ht hW => ⟨⟨1, (σ5, α3), rfl, hF, by rw [ht]; exact hP, va_K.moved hW.alike hK, hD, hob⟩, hS.F ht⟩) hS.2.2 dX10_start_53
  · replace hF := hF.2 h1
    refine lv_iconst (v := 0) hx hb dX10_start_7 (by decide) ?_
    refine W.widen (k := mc) (n := ms) (Nat.zero_le _) (Nat.zero_le _) ?_
    exact W.zret (v := 0) hx hb hr sm_z0.1 (fun t ht hW => ⟨⟨0, (σ, α), rfl, hF, by rw [ht]; exact hP, va_K.moved hW.alike hK, hD, hob⟩, hS.F ht⟩) hS.2.2 dX10_start_8
theorem dX10_end_0 : decode cX10_end 0 = .ok (.aload_n 0, 1) := by decide +kernel
theorem dX10_end_1 : decode cX10_end 1 = .ok (.getfield 85, 3) := by decide +kernel
theorem dX10_end_4 : decode cX10_end 4 = .ok (.istore_n 2, 1) := by decide +kernel
theorem dX10_end_5 : decode cX10_end 5 = .ok (.aload_n 0, 1) := by decide +kernel
theorem dX10_end_6 : decode cX10_end 6 = .ok (.iconst 0, 1) := by decide +kernel
theorem dX10_end_7 : decode cX10_end 7 = .ok (.putfield 85, 3) := by decide +kernel
theorem dX10_end_10 : decode cX10_end 10 = .ok (.iload_n 1, 1) := by decide +kernel
theorem dX10_end_11 : decode cX10_end 11 = .ok (.ifCond .lt 8, 3) := by decide +kernel
theorem dX10_end_14 : decode cX10_end 14 = .ok (.iload_n 1, 1) := by decide +kernel
theorem dX10_end_15 : decode cX10_end 15 = .ok (.iload_n 2, 1) := by decide +kernel
theorem dX10_end_16 : decode cX10_end 16 = .ok (.if_icmp .le 5, 3) := by decide +kernel
theorem dX10_end_19 : decode cX10_end 19 = .ok (.iconst (-1), 1) := by decide +kernel
theorem dX10_end_20 : decode cX10_end 20 = .ok (.ireturn, 1) := by decide +kernel
theorem dX10_end_21 : decode cX10_end 21 = .ok (.aload_n 0, 1) := by decide +kernel
theorem dX10_end_22 : decode cX10_end 22 = .ok (.getfield 72, 3) := by decide +kernel
theorem dX10_end_25 : decode cX10_end 25 = .ok (.iconst 0, 1) := by decide +kernel
theorem dX10_end_26 : decode cX10_end 26 = .ok (.putfield 103, 3) := by decide +kernel
theorem dX10_end_29 : decode cX10_end 29 = .ok (.aload_n 0, 1) := by decide +kernel
theorem dX10_end_30 : decode cX10_end 30 = .ok (.iconst 0, 1) := by decide +kernel
theorem dX10_end_31 : decode cX10_end 31 = .ok (.putfield 106, 3) := by decide +kernel
theorem dX10_end_34 : decode cX10_end 34 = .ok (.aload_n 0, 1) := by decide +kernel
theorem dX10_end_35 : decode cX10_end 35 = .ok (.getfield 16, 3) := by decide +kernel
theorem dX10_end_38 : decode cX10_end 38 = .ok (.aload_n 0, 1) := by decide +kernel
theorem dX10_end_39 : decode cX10_end 39 = .ok (.getfield 7, 3) := by decide +kernel
theorem dX10_end_42 : decode cX10_end 42 = .ok (.iload_n 1, 1) := by decide +kernel
theorem dX10_end_43 : decode cX10_end 43 = .ok (.invokevirtual 110, 3) := by decide +kernel
theorem dX10_end_46 : decode cX10_end 46 = .ok (.aload_n 0, 1) := by decide +kernel
theorem dX10_end_47 : decode cX10_end 47 = .ok (.getfield 25, 3) := by decide +kernel
theorem dX10_end_50 : decode cX10_end 50 = .ok (.invokevirtual 114, 3) := by decide +kernel
theorem dX10_end_53 : decode cX10_end 53 = .ok (.istore_n 3, 1) := by decide +kernel
theorem dX10_end_54 : decode cX10_end 54 = .ok (.iload_n 3, 1) := by decide +kernel
theorem dX10_end_55 : decode cX10_end 55 = .ok (.iconst (-1), 1) := by decide +kernel
theorem dX10_end_56 : decode cX10_end 56 = .ok (.if_icmp .ne 11, 3) := by decide +kernel
theorem dX10_end_59 : decode cX10_end 59 = .ok (.aload_n 0, 1) := by decide +kernel
theorem dX10_end_60 : decode cX10_end 60 = .ok (.getfield 32, 3) := by decide +kernel
theorem dX10_end_63 : decode cX10_end 63 = .ok (.invokevirtual 118, 3) := by decide +kernel
theorem dX10_end_66 : decode cX10_end 66 = .ok (.istore_n 3, 1) := by decide +kernel
theorem dX10_end_67 : decode cX10_end 67 = .ok (.iload_n 3, 1) := by decide +kernel
theorem dX10_end_68 : decode cX10_end 68 = .ok (.iconst (-1), 1) := by decide +kernel
theorem dX10_end_69 : decode cX10_end 69 = .ok (.if_icmp .eq 8, 3) := by decide +kernel
theorem dX10_end_72 : decode cX10_end 72 = .ok (.bipush (-3), 2) := by decide +kernel
theorem dX10_end_74 : decode cX10_end 74 = .ok (.iload_n 3, 1) := by decide +kernel
theorem dX10_end_75 : decode cX10_end 75 = .ok (.isub, 1) := by decide +kernel
theorem dX10_end_76 : decode cX10_end 76 = .ok (.ireturn, 1) := by decide +kernel
theorem dX10_end_77 : decode cX10_end 77 = .ok (.aload_n 0, 1) := by decide +kernel
theorem dX10_end_78 : decode cX10_end 78 = .ok (.getfield 39, 3) := by decide +kernel
theorem dX10_end_81 : decode cX10_end 81 = .ok (.invokevirtual 119, 3) := by decide +kernel
theorem dX10_end_84 : decode cX10_end 84 = .ok (.istore 4, 2) := by decide +kernel
theorem dX10_end_86 : decode cX10_end 86 = .ok (.iload 4, 2) := by decide +kernel
theorem dX10_end_88 : decode cX10_end 88 = .ok (.iconst (-1), 1) := by decide +kernel
theorem dX10_end_89 : decode cX10_end 89 = .ok (.if_icmp .eq 10, 3) := by decide +kernel
theorem dX10_end_92 : decode cX10_end 92 = .ok (.sipush (-10003), 3) := by decide +kernel
theorem dX10_end_95 : decode cX10_end 95 = .ok (.iload 4, 2) := by decide +kernel
theorem dX10_end_97 : decode cX10_end 97 = .ok (.isub, 1) := by decide +kernel
theorem dX10_end_98 : decode cX10_end 98 = .ok (.ireturn, 1) := by decide +kernel
theorem dX10_end_99 : decode cX10_end 99 = .ok (.aload_n 0, 1) := by decide +kernel
theorem dX10_end_100 : decode cX10_end 100 = .ok (.iconst 1, 1) := by decide +kernel
theorem dX10_end_101 : decode cX10_end 101 = .ok (.putfield 106, 3) := by decide +kernel
theorem dX10_end_104 : decode cX10_end 104 = .ok (.aload_n 0, 1) := by decide +kernel
theorem dX10_end_105 : decode cX10_end 105 = .ok (.getfield 16, 3) := by decide +kernel
theorem dX10_end_108 : decode cX10_end 108 = .ok (.getfield 122, 3) := by decide +kernel
theorem dX10_end_111 : decode cX10_end 111 = .ok (.ireturn, 1) := by decide +kernel
def wp_X10_end : List Cond := .code yX10_end cX10_end 5 (some .int) :: ((((((([.fieldLink RX10 39 "SteadyMachine" "verifier" "LSteadyMachine$Verifier;", .fieldLink RX10 106 "SteadyMachine" "whole" "Z", .fieldLink RX10 16 "SteadyMachine" "image" "LSteadyMachine$Image;", .fieldLink RX10 122 "SteadyMachine$Image" "instructions" "I", .fieldLink RX10 85 "SteadyMachine" "taped" "I", .fieldLink RX10 72 "SteadyMachine" "runner" "LSteadyMachine$Runner;", .fieldLink RX10 103 "SteadyMachine$Runner" "state" "I", .fieldLink RX10 7 "SteadyMachine" "tape" "[B", .fieldLink RX10 25 "SteadyMachine" "reader" "LSteadyMachine$Reader;", .fieldLink RX10 32 "SteadyMachine" "linker" "LSteadyMachine$Linker;"] ++ (wsV RX10 119 RX8 yX8_firstBad wp_X8_firstBad)) ++ (wsV RX10 110 RX2 yX2_take wp_X2_take)) ++ (wsV RX10 114 RX6 yX6_firstWrong wp_X6_firstWrong)) ++ (wsV RX10 118 RX3 yX3_firstWrong wp_X3_firstWrong)) ++ wsX100) ++ wsX20) ++ wsX70)
theorem wq_X10_end : wp_X10_end.all goodWord = true := wa_c rfl (wa_a (wa_a (wa_a (wa_a (wa_a (wa_a (wa_a (by decide +kernel) (wa_V wq_X8_firstBad)) (wa_V wq_X2_take)) (wa_V wq_X6_firstWrong)) (wa_V wq_X3_firstWrong)) uq_X10) uq_X2) uq_X7)
theorem wt_X10_end : GoodIn lw_tbl wp_X10_end := wm_c (List.mem_of_getElem? (i := 638) (by decide +kernel)) rfl (wm_a (wm_a (wm_a (wm_a (wm_a (wm_a (wm_a (goodIn_r _ [577, 573, 574, 315, 572, 580, 518, 571, 575, 576] (by decide +kernel) (by decide +kernel)) (wm_a (goodIn_r _ [741, 742, 743, 142] (by decide +kernel) (by decide +kernel)) wt_X8_firstBad)) (wm_a (goodIn_r _ [639, 640, 641, 137] (by decide +kernel) (by decide +kernel)) wt_X2_take)) (wm_a (goodIn_r _ [645, 646, 647, 140] (by decide +kernel) (by decide +kernel)) wt_X6_firstWrong)) (wm_a (goodIn_r _ [703, 704, 705, 141] (by decide +kernel) (by decide +kernel)) wt_X3_firstWrong)) ut_X10) ut_X2) ut_X7)
theorem wg_X10_end_X8_firstBad_119 : GoodIn wp_X10_end (wsV RX10 119 RX8 yX8_firstBad wp_X8_firstBad) := goodIn_sub (fun w h => List.mem_cons_of_mem _ (List.mem_append_left _ (List.mem_append_left _ (List.mem_append_left _ (List.mem_append_left _ (List.mem_append_left _ (List.mem_append_left _ (List.mem_append_right _ h)))))))) (wa_V wq_X8_firstBad)
theorem wg_X10_end_X2_take_110 : GoodIn wp_X10_end (wsV RX10 110 RX2 yX2_take wp_X2_take) := goodIn_sub (fun w h => List.mem_cons_of_mem _ (List.mem_append_left _ (List.mem_append_left _ (List.mem_append_left _ (List.mem_append_left _ (List.mem_append_left _ (List.mem_append_right _ h))))))) (wa_V wq_X2_take)
theorem wg_X10_end_X6_firstWrong_114 : GoodIn wp_X10_end (wsV RX10 114 RX6 yX6_firstWrong wp_X6_firstWrong) := goodIn_sub (fun w h => List.mem_cons_of_mem _ (List.mem_append_left _ (List.mem_append_left _ (List.mem_append_left _ (List.mem_append_left _ (List.mem_append_right _ h)))))) (wa_V wq_X6_firstWrong)
theorem wg_X10_end_X3_firstWrong_118 : GoodIn wp_X10_end (wsV RX10 118 RX3 yX3_firstWrong wp_X3_firstWrong) := goodIn_sub (fun w h => List.mem_cons_of_mem _ (List.mem_append_left _ (List.mem_append_left _ (List.mem_append_left _ (List.mem_append_right _ h))))) (wa_V wq_X3_firstWrong)
theorem wi_X10_end_X10 : ∀ w ∈ wsX100, w ∈ wp_X10_end := fun w h => List.mem_cons_of_mem _ (List.mem_append_left _ (List.mem_append_left _ (List.mem_append_right _ h)))
theorem wi_X10_end_X2 : ∀ w ∈ wsX20, w ∈ wp_X10_end := fun w h => List.mem_cons_of_mem _ (List.mem_append_left _ (List.mem_append_right _ h))
theorem wi_X10_end_X7 : ∀ w ∈ wsX70, w ∈ wp_X10_end := fun w h => List.mem_cons_of_mem _ (List.mem_append_right _ h)
set_option maxHeartbeats 4000000 in
set_option maxRecDepth 100000 in
theorem c_X10_end (l : Launch) (D : va_G) (sz t0 : Nat) (σ : sm_S) (β : sm_A) (p1 : Int32) (mc1 ms1 mc2 ms2 : Nat) (K : Int32 → sm_S → Prop) (hF : mp_X10_end mc1 ms1 mc2 ms2 σ p1 K) : Met l yX10_end wp_X10_end { frames := 7, cells := mc1 + mc2, slots := ms1 + ms2, locals := 168 } (sm_P sm_wX sm_tX 37 D sz t0 σ β [.ref (β.1 10), .int p1]) (va_Qi (fun r (u : sm_S × sm_A) => K r u.1) (sm_Ba sm_wX sm_tX 37 11 D (sm_a β 37 sz) β) (sm_a β 37 sz)) (mc1 + mc2) (ms1 + ms2) (sm_a β 37 sz) := by
  refine Met.ofW (cc := cX10_end) (maxL := 5) (ret := (some .int)) (by decide) rfl ?_
  intro p e s m args below meth c s₁ B hml hv
  obtain ⟨rfl, hsz, hP, hK, hD0, hE⟩ := hv
  have hx := B.exec
  have hb := B.bytes
  have hr := B.returns
  have hts := atoms_spec (ws := wp_X10_end) B.pre
  have hown : s.vm.findClass RX10 = some m.cls := findClass_of_methodNamed B.named
  have hlocks := B.notSynchronized
  subst hsz
  have hD : sm_D (sm_a β 37 s.heap.size) β 37 := hD0.own
  have hA : ∀ q : Nat, s.heap.size ≤ q → sm_a β 37 s.heap.size q := fun q h => Or.inr h
  generalize hAe : sm_a β 37 s.heap.size = A at hD hA hE ⊢
  have hS : va_S A s.heap s.heap [] := va_S.rf
  have in_X10 : ∀ w ∈ wsX100, w ∈ wp_X10_end := wi_X10_end_X10
  have in_X2 : ∀ w ∈ wsX20, w ∈ wp_X10_end := wi_X10_end_X2
  have in_X7 : ∀ w ∈ wsX70, w ∈ wp_X10_end := wi_X10_end_X7
  have k_0 := hts (.fieldLink RX10 39 "SteadyMachine" "verifier" "LSteadyMachine$Verifier;") (by decide +kernel)
  have k_1 := hts (.fieldLink RX10 106 "SteadyMachine" "whole" "Z") (by decide +kernel)
  have k_2 := hts (.fieldLink RX10 16 "SteadyMachine" "image" "LSteadyMachine$Image;") (by decide +kernel)
  have k_3 := hts (.fieldLink RX10 122 "SteadyMachine$Image" "instructions" "I") (by decide +kernel)
  have k_4 := hts (.fieldLink RX10 85 "SteadyMachine" "taped" "I") (by decide +kernel)
  have k_5 := hts (.fieldLink RX10 72 "SteadyMachine" "runner" "LSteadyMachine$Runner;") (by decide +kernel)
  have k_6 := hts (.fieldLink RX10 103 "SteadyMachine$Runner" "state" "I") (by decide +kernel)
  have k_7 := hts (.fieldLink RX10 7 "SteadyMachine" "tape" "[B") (by decide +kernel)
  have k_8 := hts (.fieldLink RX10 25 "SteadyMachine" "reader" "LSteadyMachine$Reader;") (by decide +kernel)
  have k_9 := hts (.fieldLink RX10 32 "SteadyMachine" "linker" "LSteadyMachine$Linker;") (by decide +kernel)
  have hl := lv_entry ([.ref (β.1 10), .int p1]) (n := 5) (Nat.le_of_ble_eq_true rfl)
  rw [lg_entry_eq]
  generalize (lg_sl ([.ref (β.1 10), .int p1]) ++ List.replicate (5 - (lg_sl ([.ref (β.1 10), .int p1])).length) Slot.unset).toArray = ls at hl ⊢
  have B67 : ∀ (σ : sm_S) (x3 : Int32), mp_X10_end_67 mc1 ms1 mc2 ms2 K σ x3 → sm_Ja p l e (headSpec wp_X10_end { frames := 7, cells := mc1 + mc2, slots := ms1 + ms2, locals := 168 }).room s m ([.ref (β.1 10), .int p1] : List Value).toArray below meth c (MQ below (va_Qi (fun r (u : sm_S × sm_A) => K r u.1) (sm_Ba sm_wX sm_tX 37 11 D A β) A) ([.ref (β.1 10), .int p1] : List Value).toArray s (mc1 + mc2) (ms1 + ms2) A) sm_wX sm_tX 37 11 D A β 5 (0 + mc1) (0 + ms1) σ 67 (fun α => [(0, .ref (α.1 10)), (3, .int x3)]) (fun α => []) := by
    intro σ x3 hF α H locs ls hob hK hD hP hS hl
    dsimp only at hl ⊢
    unfold mp_X10_end_67 at hF
    refine lv_iload_n hx hb dX10_end_67 rfl (lv_at hl 1 rfl) ?_
    refine lv_iconst (v := -1) hx hb dX10_end_68 (by decide) ?_
    refine lv_icmp_eq (tgt := 77) hx hb dX10_end_69 (by decide) (fun h1 => ?_) (fun h1 => ?_)
    · replace hF := hF.1 h1
      refine lv_aload_n hx hb dX10_end_77 rfl (lv_at hl 0 rfl) ?_
      refine va_get (D := D) (ci := 10) (v := .ref (α.1 8)) (C := RX10) (T := TX10) (N := 11) hx hb hts in_X10 hown hK hP 10 (sm_gX10 σ α) rfl 6 (by decide) k_0 (fun _ h9 => h9) rfl dX10_end_78 ?_
      refine sm_avi (nO := 11) (As := []) (rest := []) hP hK hD hE hS hA ⟨hx, hb, hml, hown, hts⟩ hl.1 (c_X8_firstBad l D H.size t0 σ α mc2 ms2 _ hF) (cwV 0 hts wg_X10_end_X8_firstBad_119 rfl rfl rfl (by decide +kernel) ⟨Nat.le_of_ble_eq_true rfl, Nat.le_of_ble_eq_true rfl⟩) (va_recv hK hP (ci := 8) (q0 := 8) rfl (sm_gX8 σ α)) rfl rfl (Nat.le_of_ble_eq_true rfl) dX10_end_81 ⟨(show 0 + mc1 + mc2 ≤ mc1 + mc2 by omega), (show 0 + ms1 + ms2 ≤ ms1 + ms2 by omega)⟩ (fun r4 σ2 α3 H locs hF hβ hK hD hP hS => ?_)
      replace hob : ∀ k : Nat, k < 11 → α3.1 k = β.1 k := fun k hk => (hβ k hk).trans (hob k hk)
      replace hl : lv_has ls 5 [(0, .ref (α3.1 10)), (3, .int x3)] := by rw [hβ 10 (by decide)]; exact hl
      refine lv_istore (lv' := [(4, .int r4), (0, .ref (α3.1 10)), (3, .int x3)]) hx hb dX10_end_84 hl (by decide) rfl (fun ls hl => ?_)
      refine lv_iload hx hb dX10_end_86 (lv_at hl 0 rfl) ?_
      refine lv_iconst (v := -1) hx hb dX10_end_88 (by decide) ?_
      refine lv_icmp_eq (tgt := 99) hx hb dX10_end_89 (by decide) (fun h5 => ?_) (fun h5 => ?_)
      · replace hF := hF.1 h5
        refine lv_aload_n hx hb dX10_end_99 rfl (lv_at hl 1 rfl) ?_
        refine lv_iconst (v := 1) hx hb dX10_end_100 (by decide) ?_
        refine va_put (D := D) (ci := 10) (v := .int 1) (ty := .boolean) (C := RX10) (T := TX10) (N := 11) hx hb hts in_X10 tyX10 tyX10_ok nmX10 hown hK hP (hD.to (sm_wX_m _ _)) hS 10 (sm_gX10 σ2 α3) rfl 2 (by decide) k_1 (fun _ h9 => h9) rfl (by decide +kernel) sm_z1.1 sm_z1.2 (Nat.le_of_ble_eq_true rfl) dX10_end_101 (fun H locs hP _ hS => ?_)
        rw [sm_iX36] at hP
        obtain ⟨σ6, eσ6⟩ : ∃ x : sm_S, x = sm_i σ2 36 1 := ⟨_, rfl⟩
        replace hF := hF σ6 eσ6
        rw [← eσ6] at hP
        refine lv_aload_n hx hb dX10_end_104 rfl (lv_at hl 1 rfl) ?_
        refine va_get (D := D) (ci := 10) (v := .ref (α3.1 2)) (C := RX10) (T := TX10) (N := 11) hx hb hts in_X10 hown hK hP 10 (sm_gX10 σ6 α3) rfl 3 (by decide) k_2 (fun _ h9 => h9) rfl dX10_end_105 ?_
        refine va_get (D := D) (ci := 2) (v := .int (σ6.1 15)) (C := RX2) (T := TX2) (N := 6) hx hb hts in_X2 hown hK hP 2 (sm_gX2 σ6 α3) rfl 5 (by decide) k_3 (fun _ h9 => h9) rfl dX10_end_108 ?_
        refine W.widen (k := mc1 + mc2) (n := ms1 + ms2) ((show 0 + mc1 + mc2 ≤ mc1 + mc2 by omega)) ((show 0 + ms1 + ms2 ≤ ms1 + ms2 by omega)) ?_
        exact W.iret (v := (σ6.1 15)) hx hb hr (fun t ht hW => ⟨⟨(σ6.1 15), (σ6, α3), rfl, hF, by rw [ht]; exact hP, va_K.moved hW.alike hK, hD, hob⟩, hS.F ht⟩) hS.2.2 dX10_end_111
      · replace hF := hF.2 h5
        refine lv_sipush (v := -10003) hx hb dX10_end_92 (by decide) ?_
        refine lv_iload hx hb dX10_end_95 (lv_at hl 0 rfl) ?_
        refine lv_isub hx hb dX10_end_97 ?_
        refine W.widen (k := mc1 + mc2) (n := ms1 + ms2) ((show 0 + mc1 + mc2 ≤ mc1 + mc2 by omega)) ((show 0 + ms1 + ms2 ≤ ms1 + ms2 by omega)) ?_
        exact W.iret (v := ((-10003) - r4)) hx hb hr (fun t ht hW => ⟨⟨((-10003) - r4), (σ2, α3), rfl, hF, by rw [ht]; exact hP, va_K.moved hW.alike hK, hD, hob⟩, hS.F ht⟩) hS.2.2 dX10_end_98
    · replace hF := hF.2 h1
      refine lv_bipush (v := -3) hx hb dX10_end_72 (by decide) ?_
      refine lv_iload_n hx hb dX10_end_74 rfl (lv_at hl 1 rfl) ?_
      refine lv_isub hx hb dX10_end_75 ?_
      refine W.widen (k := mc1 + mc2) (n := ms1 + ms2) ((show 0 + mc1 ≤ mc1 + mc2 by omega)) ((show 0 + ms1 ≤ ms1 + ms2 by omega)) ?_
      exact W.iret (v := ((-3) - x3)) hx hb hr (fun t ht hW => ⟨⟨((-3) - x3), (σ, α), rfl, hF, by rw [ht]; exact hP, va_K.moved hW.alike hK, hD, hob⟩, hS.F ht⟩) hS.2.2 dX10_end_76
  have B19 : ∀ (σ : sm_S), mp_X10_end_19 mc1 ms1 mc2 ms2 K σ → sm_Ja p l e (headSpec wp_X10_end { frames := 7, cells := mc1 + mc2, slots := ms1 + ms2, locals := 168 }).room s m ([.ref (β.1 10), .int p1] : List Value).toArray below meth c (MQ below (va_Qi (fun r (u : sm_S × sm_A) => K r u.1) (sm_Ba sm_wX sm_tX 37 11 D A β) A) ([.ref (β.1 10), .int p1] : List Value).toArray s (mc1 + mc2) (ms1 + ms2) A) sm_wX sm_tX 37 11 D A β 5 (mc1 + mc2) (ms1 + ms2) σ 19 (fun α => []) (fun α => []) := by
    intro σ hF α H locs ls hob hK hD hP hS hl
    dsimp only at hl ⊢
    unfold mp_X10_end_19 at hF
    refine lv_iconst (v := -1) hx hb dX10_end_19 (by decide) ?_
    exact W.iret (v := (-1)) hx hb hr (fun t ht hW => ⟨⟨(-1), (σ, α), rfl, hF, by rw [ht]; exact hP, va_K.moved hW.alike hK, hD, hob⟩, hS.F ht⟩) hS.2.2 dX10_end_20
  unfold mp_X10_end at hF
  suffices h9 : sm_Ja p l e (headSpec wp_X10_end { frames := 7, cells := mc1 + mc2, slots := ms1 + ms2, locals := 168 }).room s m ([.ref (β.1 10), .int p1] : List Value).toArray below meth c (MQ below (va_Qi (fun r (u : sm_S × sm_A) => K r u.1) (sm_Ba sm_wX sm_tX 37 11 D A β) A) ([.ref (β.1 10), .int p1] : List Value).toArray s (mc1 + mc2) (ms1 + ms2) A) sm_wX sm_tX 37 11 D A β 5 0 0 σ 0 (fun α => [(0, .ref (α.1 10)), (1, .int p1)]) (fun α => []) from h9 β s.heap [] ls (fun _ _ => rfl) hK hD hP hS hl
  clear hK hD hP hS hl
  intro α H locs ls hob hK hD hP hS hl
  dsimp only at hl ⊢
  refine lv_aload_n hx hb dX10_end_0 rfl (lv_at hl 0 rfl) ?_
  refine va_get (D := D) (ci := 10) (v := .int (σ.1 35)) (C := RX10) (T := TX10) (N := 11) hx hb hts in_X10 hown hK hP 10 (sm_gX10 σ α) rfl 1 (by decide) k_4 (fun _ h9 => h9) rfl dX10_end_1 ?_
  refine lv_topi (fun v7 ev7 => ?_)
  replace hF := hF v7 ev7
  refine lv_istore_n (lv' := [(2, .int v7), (0, .ref (α.1 10)), (1, .int p1)]) hx hb dX10_end_4 rfl hl (by decide) rfl (fun ls hl => ?_)
  refine lv_aload_n hx hb dX10_end_5 rfl (lv_at hl 1 rfl) ?_
  refine lv_iconst (v := 0) hx hb dX10_end_6 (by decide) ?_
  refine va_put (D := D) (ci := 10) (v := .int 0) (ty := .int) (C := RX10) (T := TX10) (N := 11) hx hb hts in_X10 tyX10 tyX10_ok nmX10 hown hK hP (hD.to (sm_wX_m _ _)) hS 10 (sm_gX10 σ α) rfl 1 (by decide) k_4 (fun _ h9 => h9) rfl (by decide +kernel) rfl rfl (Nat.le_of_ble_eq_true rfl) dX10_end_7 (fun H locs hP _ hS => ?_)
  rw [sm_iX35] at hP
  obtain ⟨σ8, eσ8⟩ : ∃ x : sm_S, x = sm_i σ 35 0 := ⟨_, rfl⟩
  replace hF := hF σ8 eσ8
  rw [← eσ8] at hP
  refine lv_iload_n hx hb dX10_end_10 rfl (lv_at hl 2 rfl) ?_
  refine lv_if_lt (tgt := 19) hx hb dX10_end_11 (by decide) (fun h9 => ?_) (fun h9 => ?_)
  · replace hF := hF.1 h9
    refine W.widen (k := mc1 + mc2) (n := ms1 + ms2) (Nat.zero_le _) (Nat.zero_le _) ?_
    exact B19 σ8 hF α H locs ls hob hK hD hP hS (lv_sub hl [] rfl)
  · replace hF := hF.2 h9
    refine lv_iload_n hx hb dX10_end_14 rfl (lv_at hl 2 rfl) ?_
    refine lv_iload_n hx hb dX10_end_15 rfl (lv_at hl 0 rfl) ?_
    refine lv_icmp_le (tgt := 21) hx hb dX10_end_16 (by decide) (fun h10 => ?_) (fun h10 => ?_)
    · replace hF := hF.1 h10
      refine lv_aload_n hx hb dX10_end_21 rfl (lv_at hl 1 rfl) ?_
      refine va_get (D := D) (ci := 10) (v := .ref (α.1 7)) (C := RX10) (T := TX10) (N := 11) hx hb hts in_X10 hown hK hP 10 (sm_gX10 σ8 α) rfl 9 (by decide) k_5 (fun _ h9 => h9) rfl dX10_end_22 ?_
      refine lv_iconst (v := 0) hx hb dX10_end_25 (by decide) ?_
      refine va_put (D := D) (ci := 7) (v := .int 0) (ty := .int) (C := RX7) (T := TX7) (N := 13) hx hb hts in_X7 tyX7 tyX7_ok nmX7 hown hK hP (hD.to (sm_wX_m _ _)) hS 7 (sm_gX7 σ8 α) rfl 5 (by decide) k_6 (fun _ h9 => h9) rfl (by decide +kernel) rfl rfl (Nat.le_of_ble_eq_true rfl) dX10_end_26 (fun H locs hP _ hS => ?_)
      rw [sm_iX22] at hP
      obtain ⟨σ11, eσ11⟩ : ∃ x : sm_S, x = sm_i σ8 22 0 := ⟨_, rfl⟩
      replace hF := hF σ11 eσ11
      rw [← eσ11] at hP
      refine lv_aload_n hx hb dX10_end_29 rfl (lv_at hl 1 rfl) ?_
      refine lv_iconst (v := 0) hx hb dX10_end_30 (by decide) ?_
      refine va_put (D := D) (ci := 10) (v := .int 0) (ty := .boolean) (C := RX10) (T := TX10) (N := 11) hx hb hts in_X10 tyX10 tyX10_ok nmX10 hown hK hP (hD.to (sm_wX_m _ _)) hS 10 (sm_gX10 σ11 α) rfl 2 (by decide) k_1 (fun _ h9 => h9) rfl (by decide +kernel) sm_z0.1 sm_z0.2 (Nat.le_of_ble_eq_true rfl) dX10_end_31 (fun H locs hP _ hS => ?_)
      rw [sm_iX36] at hP
      obtain ⟨σ12, eσ12⟩ : ∃ x : sm_S, x = sm_i σ11 36 0 := ⟨_, rfl⟩
      replace hF := hF σ12 eσ12
      rw [← eσ12] at hP
      refine lv_aload_n hx hb dX10_end_34 rfl (lv_at hl 1 rfl) ?_
      refine va_get (D := D) (ci := 10) (v := .ref (α.1 2)) (C := RX10) (T := TX10) (N := 11) hx hb hts in_X10 hown hK hP 10 (sm_gX10 σ12 α) rfl 3 (by decide) k_2 (fun _ h9 => h9) rfl dX10_end_35 ?_
      refine lv_aload_n hx hb dX10_end_38 rfl (lv_at hl 1 rfl) ?_
      refine va_get (D := D) (ci := 10) (v := .ref (α.1 36)) (C := RX10) (T := TX10) (N := 11) hx hb hts in_X10 hown hK hP 10 (sm_gX10 σ12 α) rfl 0 (by decide) k_7 (fun _ h9 => h9) rfl dX10_end_39 ?_
      refine lv_iload_n hx hb dX10_end_42 rfl (lv_at hl 2 rfl) ?_
      refine sm_avv (nO := 11) (As := [.ref (α.1 36), .int p1]) (rest := []) hP hK hD hE hS hA ⟨hx, hb, hml, hown, hts⟩ hl.1 (c_X2_take l D H.size t0 σ12 α p1 mc1 ms1 _ hF) (cwV 2 hts wg_X10_end_X2_take_110 rfl rfl rfl (by decide +kernel) ⟨Nat.le_of_ble_eq_true rfl, Nat.le_of_ble_eq_true rfl⟩) (va_recv hK hP (ci := 2) (q0 := 2) rfl (sm_gX2 σ12 α)) rfl rfl (Nat.le_of_ble_eq_true rfl) dX10_end_43 ⟨(show 0 + mc1 ≤ mc1 + mc2 by omega), (show 0 + ms1 ≤ ms1 + ms2 by omega)⟩ (fun σ13 α14 H locs hF hβ hK hD hP hS => ?_)
      replace hob : ∀ k : Nat, k < 11 → α14.1 k = β.1 k := fun k hk => (hβ k hk).trans (hob k hk)
      replace hl : lv_has ls 5 [(2, .int v7), (0, .ref (α14.1 10)), (1, .int p1)] := by rw [hβ 10 (by decide)]; exact hl
      refine lv_aload_n hx hb dX10_end_46 rfl (lv_at hl 1 rfl) ?_
      refine va_get (D := D) (ci := 10) (v := .ref (α14.1 6)) (C := RX10) (T := TX10) (N := 11) hx hb hts in_X10 hown hK hP 10 (sm_gX10 σ13 α14) rfl 4 (by decide) k_8 (fun _ h9 => h9) rfl dX10_end_47 ?_
      refine sm_vi (As := []) (rest := []) hP hK hD hE hS hA ⟨hx, hb, hml, hown, hts⟩ hl.1 (c_X6_firstWrong l D H.size t0 σ13 α14 _ hF) (cwV 0 hts wg_X10_end_X6_firstWrong_114 rfl rfl rfl (by decide +kernel) ⟨Nat.le_of_ble_eq_true rfl, Nat.le_of_ble_eq_true rfl⟩) (va_recv hK hP (ci := 6) (q0 := 6) rfl (sm_gX6 σ13 α14)) rfl rfl (Nat.le_of_ble_eq_true rfl) dX10_end_50 ⟨(show 0 + mc1 ≤ mc1 + mc2 by omega), (show 0 + ms1 ≤ ms1 + ms2 by omega)⟩ (fun r16 σ15 H locs hF hP hS => ?_)
      refine lv_istore_n (lv' := [(3, .int r16), (2, .int v7), (0, .ref (α14.1 10)), (1, .int p1)]) hx hb dX10_end_53 rfl hl (by decide) rfl (fun ls hl => ?_)
      refine lv_iload_n hx hb dX10_end_54 rfl (lv_at hl 0 rfl) ?_
      refine lv_iconst (v := -1) hx hb dX10_end_55 (by decide) ?_
      refine lv_icmp_ne (tgt := 67) hx hb dX10_end_56 (by decide) (fun h17 => ?_) (fun h17 => ?_)
      · replace hF := hF.1 h17
        exact B67 σ15 r16 hF α14 H locs ls hob hK hD hP hS (lv_sub hl [2, 0] rfl)
      · replace hF := hF.2 h17
        refine lv_aload_n hx hb dX10_end_59 rfl (lv_at hl 2 rfl) ?_
        refine va_get (D := D) (ci := 10) (v := .ref (α14.1 3)) (C := RX10) (T := TX10) (N := 11) hx hb hts in_X10 hown hK hP 10 (sm_gX10 σ15 α14) rfl 5 (by decide) k_9 (fun _ h9 => h9) rfl dX10_end_60 ?_
        refine sm_vi (As := []) (rest := []) hP hK hD hE hS hA ⟨hx, hb, hml, hown, hts⟩ hl.1 (c_X3_firstWrong l D H.size t0 σ15 α14 _ hF) (cwV 0 hts wg_X10_end_X3_firstWrong_118 rfl rfl rfl (by decide +kernel) ⟨Nat.le_of_ble_eq_true rfl, Nat.le_of_ble_eq_true rfl⟩) (va_recv hK hP (ci := 3) (q0 := 3) rfl (sm_gX3 σ15 α14)) rfl rfl (Nat.le_of_ble_eq_true rfl) dX10_end_63 ⟨(show 0 + mc1 ≤ mc1 + mc2 by omega), (show 0 + ms1 ≤ ms1 + ms2 by omega)⟩ (fun r19 σ18 H locs hF hP hS => ?_)
        refine lv_istore_n (lv' := [(3, .int r19), (2, .int v7), (0, .ref (α14.1 10)), (1, .int p1)]) hx hb dX10_end_66 rfl hl (by decide) rfl (fun ls hl => ?_)
        exact B67 σ18 r19 hF α14 H locs ls hob hK hD hP hS (lv_sub hl [2, 0] rfl)
    · replace hF := hF.2 h10
      refine W.widen (k := mc1 + mc2) (n := ms1 + ms2) (Nat.zero_le _) (Nat.zero_le _) ?_
      exact B19 σ8 hF α H locs ls hob hK hD hP hS (lv_sub hl [] rfl)
