theorem dX10_roomFor_0 : decode cX10_roomFor 0 = .ok (.iload_n 0, 1) := by decide +kernel
theorem dX10_roomFor_1 : decode cX10_roomFor 1 = .ok (.iconst 2, 1) := by decide +kernel
theorem dX10_roomFor_2 : decode cX10_roomFor 2 = .ok (.iload_n 1, 1) := by decide +kernel
theorem dX10_roomFor_3 : decode cX10_roomFor 3 = .ok (.imul, 1) := by decide +kernel
theorem dX10_roomFor_4 : decode cX10_roomFor 4 = .ok (.invokestatic 138, 3) := by decide +kernel
theorem dX10_roomFor_7 : decode cX10_roomFor 7 = .ok (.ireturn, 1) := by decide +kernel
/-- SteadyMachine.roomFor(II)I -/
def mp_X10_roomFor (σ : sm_S) (p1 : Int32) (p2 : Int32) (K : Int32 → sm_S → Prop) : Prop := K (if p1 < (2 * p2) then (2 * p2) else p1) σ
def wp_X10_roomFor : List Cond := .code yX10_roomFor cX10_roomFor 2 (some .int) :: [.methodLink RX10 138 Lib.Math.max.name, .static Lib.Math.max.name, .initialized "java/lang/Math", .code Lib.Math.max.name Lib.Math.max.code 2 (some .int)]
set_option maxHeartbeats 4000000 in
set_option maxRecDepth 100000 in
theorem c_X10_roomFor (l : Launch) (D : va_G) (sz t0 : Nat) (σ : sm_S) (α : sm_A) (p1 : Int32) (p2 : Int32) (K : Int32 → sm_S → Prop) (hF : mp_X10_roomFor σ p1 p2 K) : Met l yX10_roomFor wp_X10_roomFor { frames := 1, cells := 0, slots := 0, locals := 26 } (sm_P sm_wX sm_tX 38 D sz t0 σ α [.int p1, .int p2]) (va_Qi K (sm_B sm_wX D α) (sm_a α 38 sz)) 0 0 (sm_a α 38 sz) := by
  refine Met.ofW (cc := cX10_roomFor) (maxL := 2) (ret := (some .int)) (by decide) rfl ?_
  intro p e s m args below meth c s₁ B hml hv
  obtain ⟨rfl, hsz, hP, hK, hD0, hE⟩ := hv
  have hx := B.exec
  have hb := B.bytes
  have hr := B.returns
  have hts := atoms_spec (ws := wp_X10_roomFor) B.pre
  have hown : s.vm.findClass RX10 = some m.cls := findClass_of_methodNamed B.named
  have hlocks := B.notSynchronized
  subst hsz
  have hD : sm_D (sm_a α 38 s.heap.size) α 38 := hD0.own
  have hA : ∀ q : Nat, s.heap.size ≤ q → sm_a α 38 s.heap.size q := fun q h => Or.inr h
  generalize hAe : sm_a α 38 s.heap.size = A at hD hA hE ⊢
  have hS : va_S A s.heap s.heap [] := va_S.rf
  have k_0 := hts (.methodLink RX10 138 Lib.Math.max.name) (by decide +kernel)
  have k_1 := hts (.static Lib.Math.max.name) (by decide +kernel)
  have k_2 := hts (.initialized "java/lang/Math") (by decide +kernel)
  have k_3 := hts (.code Lib.Math.max.name Lib.Math.max.code 2 (some .int)) (by decide +kernel)
  have hl := lv_entry ([.int p1, .int p2]) (n := 2) (Nat.le_of_ble_eq_true rfl)
  rw [lg_entry_eq]
  generalize (lg_sl ([.int p1, .int p2]) ++ List.replicate (2 - (lg_sl ([.int p1, .int p2])).length) Slot.unset).toArray = ls at hl ⊢
  have hl : lv_has ls 2 [(0, .int p1), (1, .int p2)] := hl
  unfold mp_X10_roomFor at hF
  revert hP hS
  generalize hLo : ([] : List Loc) = locs
  suffices h9 : ∀ (H : Heap) (locs : List Loc), va_P D vwCl (sm_wX σ α) H → va_S A s.heap H locs → W p l e (headSpec wp_X10_roomFor { frames := 1, cells := 0, slots := 0, locals := 26 }).room s m ([.int p1, .int p2] : List Value).toArray below meth c H locs 0 0 (MQ below (va_Qi K (sm_B sm_wX D α) A) ([.int p1, .int p2] : List Value).toArray s 0 0 A) (F0 m 0 ls []) from fun hP hS => h9 s.heap locs hP hS
  intro H locs hP hS
  refine lv_iload_n hx hb dX10_roomFor_0 rfl (lv_at hl 0 rfl) ?_
  refine lv_iconst (v := 2) hx hb dX10_roomFor_1 (by decide) ?_
  refine lv_iload_n hx hb dX10_roomFor_2 rfl (lv_at hl 1 rfl) ?_
  refine lv_imul hx hb dX10_roomFor_3 ?_
  refine va_mmax (x := p1) (y := (2 * p2)) hx hb (hml.trans hl.1.symm) hown k_0 k_1 k_2 k_3 (Nat.le_of_ble_eq_true rfl) (Nat.le_of_ble_eq_true rfl) (Nat.zero_le _) (Nat.zero_le _) dX10_roomFor_4 ?_
  exact W.iret (v := (if p1 < (2 * p2) then (2 * p2) else p1)) hx hb hr (fun t ht hW => ⟨⟨(if p1 < (2 * p2) then (2 * p2) else p1), σ, rfl, hF, (by unfold sm_B; rw [ht]; exact hP)⟩, hS.F ht⟩) hS.2.2 dX10_roomFor_7
theorem dJ7_copyOf_9075b_0 : decode cJ7_copyOf_9075b 0 = .ok (.iload_n 1, 1) := by decide +kernel
theorem dJ7_copyOf_9075b_1 : decode cJ7_copyOf_9075b 1 = .ok (.aload_n 0, 1) := by decide +kernel
theorem dJ7_copyOf_9075b_2 : decode cJ7_copyOf_9075b 2 = .ok (.arraylength, 1) := by decide +kernel
theorem dJ7_copyOf_9075b_3 : decode cJ7_copyOf_9075b 3 = .ok (.if_icmp .ne 11, 3) := by decide +kernel
theorem dJ7_copyOf_9075b_6 : decode cJ7_copyOf_9075b 6 = .ok (.aload_n 0, 1) := by decide +kernel
theorem dJ7_copyOf_9075b_7 : decode cJ7_copyOf_9075b 7 = .ok (.invokevirtual 310, 3) := by decide +kernel
theorem dJ7_copyOf_9075b_10 : decode cJ7_copyOf_9075b 10 = .ok (.checkcast 311, 3) := by decide +kernel
theorem dJ7_copyOf_9075b_13 : decode cJ7_copyOf_9075b 13 = .ok (.areturn, 1) := by decide +kernel
theorem dJ7_copyOf_9075b_14 : decode cJ7_copyOf_9075b 14 = .ok (.iload_n 1, 1) := by decide +kernel
theorem dJ7_copyOf_9075b_15 : decode cJ7_copyOf_9075b 15 = .ok (.newarray .byte, 2) := by decide +kernel
theorem dJ7_copyOf_9075b_17 : decode cJ7_copyOf_9075b 17 = .ok (.astore_n 2, 1) := by decide +kernel
theorem dJ7_copyOf_9075b_18 : decode cJ7_copyOf_9075b 18 = .ok (.aload_n 0, 1) := by decide +kernel
theorem dJ7_copyOf_9075b_19 : decode cJ7_copyOf_9075b 19 = .ok (.iconst 0, 1) := by decide +kernel
theorem dJ7_copyOf_9075b_20 : decode cJ7_copyOf_9075b 20 = .ok (.aload_n 2, 1) := by decide +kernel
theorem dJ7_copyOf_9075b_21 : decode cJ7_copyOf_9075b 21 = .ok (.iconst 0, 1) := by decide +kernel
theorem dJ7_copyOf_9075b_22 : decode cJ7_copyOf_9075b 22 = .ok (.aload_n 0, 1) := by decide +kernel
theorem dJ7_copyOf_9075b_23 : decode cJ7_copyOf_9075b 23 = .ok (.arraylength, 1) := by decide +kernel
theorem dJ7_copyOf_9075b_24 : decode cJ7_copyOf_9075b 24 = .ok (.iload_n 1, 1) := by decide +kernel
theorem dJ7_copyOf_9075b_25 : decode cJ7_copyOf_9075b 25 = .ok (.invokestatic 304, 3) := by decide +kernel
theorem dJ7_copyOf_9075b_28 : decode cJ7_copyOf_9075b 28 = .ok (.invokestatic 150, 3) := by decide +kernel
theorem dJ7_copyOf_9075b_31 : decode cJ7_copyOf_9075b 31 = .ok (.aload_n 2, 1) := by decide +kernel
theorem dJ7_copyOf_9075b_32 : decode cJ7_copyOf_9075b 32 = .ok (.areturn, 1) := by decide +kernel
/-- what Arrays.copyOf needs here: another length, no less; the old bytes are bytes -/
def mp_copyOf (n0 : Nat) (f : Nat → Int32) (v : Int32) : Prop := ¬ v = nI n0 ∧ ¬ v < nI n0 ∧ ¬ v < 0 ∧ ¬ nI n0 < 0 ∧ v.toNatClampNeg * 1 ≤ 536870912 ∧ (0 : Int32).toNatClampNeg + (nI n0).toNatClampNeg ≤ n0 ∧ (0 : Int32).toNatClampNeg + (nI n0).toNatClampNeg ≤ v.toNatClampNeg ∧ ∀ i : Nat, i < (nI n0).toNatClampNeg → fits .byte (.int (f ((0 : Int32).toNatClampNeg + i))) = true
abbrev sm_cp (n0 : Nat) (f : Nat → Int32) : Nat → Int32 := va_cpy f (fun _ => 0) (0 : Int32).toNatClampNeg (0 : Int32).toNatClampNeg (nI n0).toNatClampNeg
set_option maxHeartbeats 4000000 in
set_option maxRecDepth 100000 in
theorem c_J7_copyOf (l : Launch) (D : va_G) (sz t0 : Nat) (σ : sm_S) (α : sm_A) (v : Int32) (hF : mp_copyOf (σ.2.2.1 37) (σ.2.2.2.1 37) v) : Met l yJ7_copyOf_9075b wsJ7_copyOf_9075b { frames := 1, cells := 1, slots := v.toNatClampNeg, locals := 26 } (sm_P sm_wX sm_tX 38 D sz t0 σ α [.ref (α.1 37), .int v])
    (va_Qr (fun _ : ClassId => True) (fun cA a t => va_P D vwCl (sm_wX σ α ++ [(a, .inl (cA, v.toNatClampNeg, .inl (sm_cp (σ.2.2.1 37) (σ.2.2.2.1 37))))]) t.heap ∧ va_K D vwCl (sm_tX α ++ [(cA, .byte)]) t ∧ va_D (sm_a α 38 sz) (sm_wX σ α ++ [(a, .inl (cA, v.toNatClampNeg, .inl (sm_cp (σ.2.2.1 37) (σ.2.2.2.1 37))))])) (sm_a α 38 sz)) 1 v.toNatClampNeg (sm_a α 38 sz) := by
  refine Met.ofW (cc := cJ7_copyOf_9075b) (maxL := 3) (ret := (some (.array .byte))) (by decide) rfl ?_
  intro p e s m args below meth c s₁ B hml hv
  obtain ⟨rfl, hsz, hP, hK, hD0, hE⟩ := hv
  have hx := B.exec
  have hb := B.bytes
  have hr := B.returns
  have hts := atoms_spec (ws := wsJ7_copyOf_9075b) B.pre
  have hown : s.vm.findClass RJ7 = some m.cls := findClass_of_methodNamed B.named
  have hlocks := B.notSynchronized
  subst hsz
  have hD : sm_D (sm_a α 38 s.heap.size) α 38 := hD0.own
  have hA : ∀ q : Nat, s.heap.size ≤ q → sm_a α 38 s.heap.size q := fun q h => Or.inr h
  generalize hAe : sm_a α 38 s.heap.size = A at hD hA hE ⊢
  have hS : va_S A s.heap s.heap [] := va_S.rf
  have hl := lv_entry ([.ref (α.1 37), .int v]) (n := 3) (Nat.le_of_ble_eq_true rfl)
  rw [lg_entry_eq]
  generalize (lg_sl ([.ref (α.1 37), .int v]) ++ List.replicate (3 - (lg_sl ([.ref (α.1 37), .int v])).length) Slot.unset).toArray = ls at hl ⊢
  have hl : lv_has ls 3 [(0, .ref (α.1 37)), (1, .int v)] := hl
  obtain ⟨h0, h1, h2, h3, h4, h5, h6, h7⟩ := hF
  refine lv_iload_n hx hb dJ7_copyOf_9075b_0 rfl (lv_at hl 1 rfl) ?_
  refine lv_aload_n hx hb dJ7_copyOf_9075b_1 rfl (lv_at hl 0 rfl) ?_
  refine va_alen (v := nI (σ.2.2.1 37)) hx hb hK hP 37 26 (sm_aX37 σ α) (sm_yX37 α) rfl dJ7_copyOf_9075b_2 ?_
  refine lv_icmp_ne (tgt := 14) hx hb dJ7_copyOf_9075b_3 (by decide) (fun _ => ?_) (fun h => absurd h h0)
  refine lv_iload_n hx hb dJ7_copyOf_9075b_14 rfl (lv_at hl 1 rfl) ?_
  refine va_newa (atype := .byte) (ty := .byte) (n := v) (N' := v.toNatClampNeg) (a0 := (v.toNatClampNeg, .inl (fun _ => 0))) hx hb (hts (.arrayClass .byte) (by decide +kernel)) rfl hK hP (hD.to (sm_wX_m _ _)) hS hA (fun _ => rfl) h2 rfl h4 (by show 0 + 1 ≤ 1; omega) (by show 0 + v.toNatClampNeg ≤ v.toNatClampNeg; omega) dJ7_copyOf_9075b_15 (fun q cA H hK hP hD9 hS => ?_)
  refine W.widen (k := 1) (n := v.toNatClampNeg) (by omega) (by omega) ?_
  refine lv_astore_n (lv' := [(2, .ref q), (0, .ref (α.1 37)), (1, .int v)]) hx hb dJ7_copyOf_9075b_17 rfl hl (by decide) rfl (fun ls hl => ?_)
  refine lv_aload_n hx hb dJ7_copyOf_9075b_18 rfl (lv_at hl 1 rfl) ?_
  refine lv_iconst (v := 0) hx hb dJ7_copyOf_9075b_19 (by decide) ?_
  refine lv_aload_n hx hb dJ7_copyOf_9075b_20 rfl (lv_at hl 0 rfl) ?_
  refine lv_iconst (v := 0) hx hb dJ7_copyOf_9075b_21 (by decide) ?_
  refine lv_aload_n hx hb dJ7_copyOf_9075b_22 rfl (lv_at hl 1 rfl) ?_
  refine va_alen (v := nI (σ.2.2.1 37)) (cA := α.2 37) (x := (σ.2.2.1 37, .inl (σ.2.2.2.1 37))) (ty := .byte) hx hb hK hP 37 26 rfl rfl rfl dJ7_copyOf_9075b_23 ?_
  refine lv_iload_n hx hb dJ7_copyOf_9075b_24 rfl (lv_at hl 2 rfl) ?_
  refine va_mmin (x := nI (σ.2.2.1 37)) (y := v) hx hb (hml.trans hl.1.symm) hown (hts (.methodLink RJ7 304 Lib.Math.min.name) (by decide +kernel)) (hts (.static Lib.Math.min.name) (by decide +kernel)) (hts (.initialized "java/lang/Math") (by decide +kernel)) (hts (.code Lib.Math.min.name Lib.Math.min.code 2 (some .int)) (by decide +kernel)) (Nat.le_of_ble_eq_true rfl) (Nat.le_of_ble_eq_true rfl) (Nat.le_refl _) (Nat.le_refl _) dJ7_copyOf_9075b_25 ?_
  rw [if_neg h1]
  refine va_copyi (f := σ.2.2.2.1 37) (g := fun _ => 0) (n0 := σ.2.2.1 37) (n1 := v.toNatClampNeg) (c0 := α.2 37) (c1 := cA) (ty := .byte) hx hb (hml.trans hl.1.symm) hown (hts (.methodLink RJ7 150 arraycopyName) (by decide +kernel)) (hts (.native arraycopyName) (by decide +kernel)) (hts (.static arraycopyName) (by decide +kernel)) (hts (.initialized "java/lang/System") (by decide +kernel)) hK hP hD9 hS 37 38 26 27 rfl rfl rfl rfl rfl (by decide) (by decide) h3 h5 h6 h7 (Nat.le_of_ble_eq_true rfl) (Nat.le_of_ble_eq_true rfl) dJ7_copyOf_9075b_28 (fun H locs hP hD9 hS => ?_)
  refine lv_aload_n hx hb dJ7_copyOf_9075b_31 rfl (lv_at hl 0 rfl) ?_
  exact W.aret (v := .ref q) hx hb hr (Or.inr ⟨_, rfl⟩) (Or.inr ⟨_, rfl⟩) (fun t ht hW => ⟨⟨cA, q, rfl, trivial, by rw [ht]; exact hP, va_K.moved hW.alike hK, hD9⟩, hS.F ht⟩) hS.2.2 dJ7_copyOf_9075b_32

theorem dX10_tapeNumber_0 : decode cX10_tapeNumber 0 = .ok (.bipush 24, 2) := by decide +kernel
theorem dX10_tapeNumber_2 : decode cX10_tapeNumber 2 = .ok (.istore_n 2, 1) := by decide +kernel
theorem dX10_tapeNumber_3 : decode cX10_tapeNumber 3 = .ok (.iload_n 2, 1) := by decide +kernel
theorem dX10_tapeNumber_4 : decode cX10_tapeNumber 4 = .ok (.ifCond .lt 32, 3) := by decide +kernel
theorem dX10_tapeNumber_7 : decode cX10_tapeNumber 7 = .ok (.aload_n 0, 1) := by decide +kernel
theorem dX10_tapeNumber_8 : decode cX10_tapeNumber 8 = .ok (.getfield 7, 3) := by decide +kernel
theorem dX10_tapeNumber_11 : decode cX10_tapeNumber 11 = .ok (.aload_n 0, 1) := by decide +kernel
theorem dX10_tapeNumber_12 : decode cX10_tapeNumber 12 = .ok (.getfield 85, 3) := by decide +kernel
theorem dX10_tapeNumber_15 : decode cX10_tapeNumber 15 = .ok (.iload_n 1, 1) := by decide +kernel
theorem dX10_tapeNumber_16 : decode cX10_tapeNumber 16 = .ok (.iload_n 2, 1) := by decide +kernel
theorem dX10_tapeNumber_17 : decode cX10_tapeNumber 17 = .ok (.ishr, 1) := by decide +kernel
theorem dX10_tapeNumber_18 : decode cX10_tapeNumber 18 = .ok (.i2b, 1) := by decide +kernel
theorem dX10_tapeNumber_19 : decode cX10_tapeNumber 19 = .ok (.bastore, 1) := by decide +kernel
theorem dX10_tapeNumber_20 : decode cX10_tapeNumber 20 = .ok (.aload_n 0, 1) := by decide +kernel
theorem dX10_tapeNumber_21 : decode cX10_tapeNumber 21 = .ok (.dup, 1) := by decide +kernel
theorem dX10_tapeNumber_22 : decode cX10_tapeNumber 22 = .ok (.getfield 85, 3) := by decide +kernel
theorem dX10_tapeNumber_25 : decode cX10_tapeNumber 25 = .ok (.iconst 1, 1) := by decide +kernel
theorem dX10_tapeNumber_26 : decode cX10_tapeNumber 26 = .ok (.iadd, 1) := by decide +kernel
theorem dX10_tapeNumber_27 : decode cX10_tapeNumber 27 = .ok (.putfield 85, 3) := by decide +kernel
theorem dX10_tapeNumber_30 : decode cX10_tapeNumber 30 = .ok (.iinc 2 (-8), 3) := by decide +kernel
theorem dX10_tapeNumber_33 : decode cX10_tapeNumber 33 = .ok (.goto (-30), 3) := by decide +kernel
theorem dX10_tapeNumber_36 : decode cX10_tapeNumber 36 = .ok (.return_, 1) := by decide +kernel
def mp_X10_tapeNumber_3 (K : sm_S → Prop) : Nat → sm_S → Int32 → Int32 → Prop
  | 0, _, _, _ => False
  | n3 + 1, σ, x1, x2 => ((x2 < 0 → (K σ)) ∧ (¬ x2 < 0 → (vp_in (σ.1 35) (σ.2.2.1 37) ∧ ∀ σ3 : sm_S, σ3 = sm_r σ 37 (upd (σ.2.2.2.1 37) (σ.1 35).toNatClampNeg (vp_nar .byte ((x1 >>> (x2 &&& 31)).toInt8.toInt32))) → ∀ σ4 : sm_S, σ4 = sm_i σ3 35 ((σ3.1 35) + 1) → ∀ v5 : Int32, v5 = x2 + (-8) → (mp_X10_tapeNumber_3 K n3) σ4 x1 v5)))
/-- SteadyMachine.tapeNumber(I)V -/
def mp_X10_tapeNumber (σ : sm_S) (p1 : Int32) (K : sm_S → Prop) : Prop := ∃ n3 : Nat, mp_X10_tapeNumber_3 K n3 σ p1 24
def wp_X10_tapeNumber : List Cond := .code yX10_tapeNumber cX10_tapeNumber 3 none :: ([.fieldLink RX10 7 "SteadyMachine" "tape" "[B", .fieldLink RX10 85 "SteadyMachine" "taped" "I"] ++ wsX100)
theorem wi_X10_tapeNumber_X10 : ∀ w ∈ wsX100, w ∈ wp_X10_tapeNumber := fun w h => List.mem_cons_of_mem _ (List.mem_append_right _ h)
set_option maxHeartbeats 4000000 in
set_option maxRecDepth 100000 in
theorem c_X10_tapeNumber (l : Launch) (D : va_G) (sz t0 : Nat) (σ : sm_S) (α : sm_A) (p1 : Int32) (K : sm_S → Prop) (hF : mp_X10_tapeNumber σ p1 K) : Met l yX10_tapeNumber wp_X10_tapeNumber { frames := 0, cells := 0, slots := 0, locals := 0 } (sm_P sm_wX sm_tX 38 D sz t0 σ α [.ref (α.1 10), .int p1]) (va_Qv K (sm_B sm_wX D α) (sm_a α 38 sz)) 0 0 (sm_a α 38 sz) := by
  refine Met.ofW (cc := cX10_tapeNumber) (maxL := 3) (ret := none) (by decide) rfl ?_
  intro p e s m args below meth c s₁ B hml hv
  obtain ⟨rfl, hsz, hP, hK, hD0, hE⟩ := hv
  have hx := B.exec
  have hb := B.bytes
  have hr := B.returns
  have hts := atoms_spec (ws := wp_X10_tapeNumber) B.pre
  have hown : s.vm.findClass RX10 = some m.cls := findClass_of_methodNamed B.named
  have hlocks := B.notSynchronized
  subst hsz
  have hD : sm_D (sm_a α 38 s.heap.size) α 38 := hD0.own
  have hA : ∀ q : Nat, s.heap.size ≤ q → sm_a α 38 s.heap.size q := fun q h => Or.inr h
  generalize hAe : sm_a α 38 s.heap.size = A at hD hA hE ⊢
  have hS : va_S A s.heap s.heap [] := va_S.rf
  have in_X10 : ∀ w ∈ wsX100, w ∈ wp_X10_tapeNumber := wi_X10_tapeNumber_X10
  have k_0 := hts (.fieldLink RX10 7 "SteadyMachine" "tape" "[B") (by decide +kernel)
  have k_1 := hts (.fieldLink RX10 85 "SteadyMachine" "taped" "I") (by decide +kernel)
  have hl := lv_entry ([.ref (α.1 10), .int p1]) (n := 3) (Nat.le_of_ble_eq_true rfl)
  rw [lg_entry_eq]
  generalize (lg_sl ([.ref (α.1 10), .int p1]) ++ List.replicate (3 - (lg_sl ([.ref (α.1 10), .int p1])).length) Slot.unset).toArray = ls at hl ⊢
  have hl : lv_has ls 3 [(0, .ref (α.1 10)), (1, .int p1)] := hl
  have B3 : ∀ (n : Nat) (σ : sm_S) (x1 : Int32) (x2 : Int32), mp_X10_tapeNumber_3 K n σ x1 x2 → sm_J p l e (headSpec wp_X10_tapeNumber { frames := 0, cells := 0, slots := 0, locals := 0 }).room s m ([.ref (α.1 10), .int p1] : List Value).toArray below meth c (MQ below (va_Qv K (sm_B sm_wX D α) A) ([.ref (α.1 10), .int p1] : List Value).toArray s 0 0 A) D A 3 (sm_wX σ α) 3 [(0, .ref (α.1 10)), (1, .int x1), (2, .int x2)] [] := by
    intro n3
    induction n3 with
    | zero =>
      intro σ x1 x2 hF
      exact hF.elim
    | succ n3 ih3 =>
      intro σ x1 x2 hF H locs ls hP hS hl
      unfold mp_X10_tapeNumber_3 at hF
      refine lv_iload_n hx hb dX10_tapeNumber_3 rfl (lv_at hl 2 rfl) ?_
      refine lv_if_lt (tgt := 36) hx hb dX10_tapeNumber_4 (by decide) (fun h1 => ?_) (fun h1 => ?_)
      · replace hF := hF.1 h1
        exact W.vret hx hb hr (fun t ht hW => ⟨⟨σ, rfl, hF, (by unfold sm_B; rw [ht]; exact hP)⟩, hS.F ht⟩) hS.2.2 dX10_tapeNumber_36
      · replace hF := hF.2 h1
        refine lv_aload_n hx hb dX10_tapeNumber_7 rfl (lv_at hl 0 rfl) ?_
        refine va_get (D := D) (ci := 10) (v := .ref (α.1 37)) (C := RX10) (T := TX10) (N := 11) hx hb hts in_X10 hown hK hP 10 (sm_gX10 σ α) rfl 0 (by decide) k_0 (fun _ h9 => h9) rfl dX10_tapeNumber_8 ?_
        refine lv_aload_n hx hb dX10_tapeNumber_11 rfl (lv_at hl 0 rfl) ?_
        refine va_get (D := D) (ci := 10) (v := .int (σ.1 35)) (C := RX10) (T := TX10) (N := 11) hx hb hts in_X10 hown hK hP 10 (sm_gX10 σ α) rfl 1 (by decide) k_1 (fun _ h9 => h9) rfl dX10_tapeNumber_12 ?_
        refine lv_iload_n hx hb dX10_tapeNumber_15 rfl (lv_at hl 1 rfl) ?_
        refine lv_iload_n hx hb dX10_tapeNumber_16 rfl (lv_at hl 2 rfl) ?_
        refine lv_ishr hx hb dX10_tapeNumber_17 ?_
        refine lv_i2b hx hb dX10_tapeNumber_18 rfl ?_
        obtain ⟨h2, hF⟩ := hF
        refine va_bast (n := (σ.2.2.1 37)) (f := (σ.2.2.2.1 37)) (x := (x1 >>> (x2 &&& 31)).toInt8.toInt32) hx hb hK hP (hD.to (sm_wX_m _ _)) hS 37 26 (sm_aX37 σ α) (sm_yX37 α) h2 dX10_tapeNumber_19 (fun H locs hP _ hS => ?_)
        rw [sm_rX37] at hP
        obtain ⟨σ3, eσ3⟩ : ∃ x : sm_S, x = sm_r σ 37 (upd (σ.2.2.2.1 37) (σ.1 35).toNatClampNeg (vp_nar .byte ((x1 >>> (x2 &&& 31)).toInt8.toInt32))) := ⟨_, rfl⟩
        replace hF := hF σ3 eσ3
        rw [← eσ3] at hP
        refine lv_aload_n hx hb dX10_tapeNumber_20 rfl (lv_at hl 0 rfl) ?_
        refine lv_dup hx hb dX10_tapeNumber_21 rfl ?_
        refine va_get (D := D) (ci := 10) (v := .int (σ3.1 35)) (C := RX10) (T := TX10) (N := 11) hx hb hts in_X10 hown hK hP 10 (sm_gX10 σ3 α) rfl 1 (by decide) k_1 (fun _ h9 => h9) rfl dX10_tapeNumber_22 ?_
        refine lv_iconst (v := 1) hx hb dX10_tapeNumber_25 (by decide) ?_
        refine lv_iadd hx hb dX10_tapeNumber_26 ?_
        refine va_put (D := D) (ci := 10) (v := .int ((σ3.1 35) + 1)) (ty := .int) (C := RX10) (T := TX10) (N := 11) hx hb hts in_X10 tyX10 tyX10_ok nmX10 hown hK hP (hD.to (sm_wX_m _ _)) hS 10 (sm_gX10 σ3 α) rfl 1 (by decide) k_1 (fun _ h9 => h9) rfl (by decide +kernel) rfl rfl (Nat.le_of_ble_eq_true rfl) dX10_tapeNumber_27 (fun H locs hP _ hS => ?_)
        rw [sm_iX35] at hP
        obtain ⟨σ4, eσ4⟩ : ∃ x : sm_S, x = sm_i σ3 35 ((σ3.1 35) + 1) := ⟨_, rfl⟩
        replace hF := hF σ4 eσ4
        rw [← eσ4] at hP
        obtain ⟨v5, ev5⟩ : ∃ y : Int32, y = x2 + (-8) := ⟨_, rfl⟩
        replace hF := hF v5 ev5
        refine lv_iinc (v := v5) (lv' := [(2, .int v5), (0, .ref (α.1 10)), (1, .int x1)]) hx hb dX10_tapeNumber_30 hl (k := 2) rfl (by rw [ev5]; rfl) (by decide) rfl (fun ls hl => ?_)
        refine lv_goto (tgt := 3) hx hb dX10_tapeNumber_33 (by decide) ?_
        exact ih3 σ4 x1 v5 hF H locs ls hP hS (lv_sub hl [1, 2, 0] rfl)
  unfold mp_X10_tapeNumber at hF
  revert hP hS
  generalize hLo : ([] : List Loc) = locs
  suffices h9 : ∀ (H : Heap) (locs : List Loc), va_P D vwCl (sm_wX σ α) H → va_S A s.heap H locs → W p l e (headSpec wp_X10_tapeNumber { frames := 0, cells := 0, slots := 0, locals := 0 }).room s m ([.ref (α.1 10), .int p1] : List Value).toArray below meth c H locs 0 0 (MQ below (va_Qv K (sm_B sm_wX D α) A) ([.ref (α.1 10), .int p1] : List Value).toArray s 0 0 A) (F0 m 0 ls []) from fun hP hS => h9 s.heap locs hP hS
  intro H locs hP hS
  refine lv_bipush (v := 24) hx hb dX10_tapeNumber_0 (by decide) ?_
  refine lv_istore_n (lv' := [(2, .int 24), (0, .ref (α.1 10)), (1, .int p1)]) hx hb dX10_tapeNumber_2 rfl hl (by decide) rfl (fun ls hl => ?_)
  obtain ⟨n3, hF⟩ := hF
  exact B3 n3 σ p1 24 hF H locs ls hP hS (lv_sub hl [1, 2, 0] rfl)
theorem dX10_feed_0 : decode cX10_feed 0 = .ok (.aload_n 0, 1) := by decide +kernel
theorem dX10_feed_1 : decode cX10_feed 1 = .ok (.getfield 85, 3) := by decide +kernel
theorem dX10_feed_4 : decode cX10_feed 4 = .ok (.bipush 20, 2) := by decide +kernel
theorem dX10_feed_6 : decode cX10_feed 6 = .ok (.iadd, 1) := by decide +kernel
theorem dX10_feed_7 : decode cX10_feed 7 = .ok (.sipush 8000, 3) := by decide +kernel
theorem dX10_feed_10 : decode cX10_feed 10 = .ok (.if_icmp .le 6, 3) := by decide +kernel
theorem dX10_feed_13 : decode cX10_feed 13 = .ok (.bipush (-2), 2) := by decide +kernel
theorem dX10_feed_15 : decode cX10_feed 15 = .ok (.ireturn, 1) := by decide +kernel
theorem dX10_feed_16 : decode cX10_feed 16 = .ok (.aload_n 0, 1) := by decide +kernel
theorem dX10_feed_17 : decode cX10_feed 17 = .ok (.getfield 7, 3) := by decide +kernel
theorem dX10_feed_20 : decode cX10_feed 20 = .ok (.arraylength, 1) := by decide +kernel
theorem dX10_feed_21 : decode cX10_feed 21 = .ok (.aload_n 0, 1) := by decide +kernel
theorem dX10_feed_22 : decode cX10_feed 22 = .ok (.getfield 85, 3) := by decide +kernel
theorem dX10_feed_25 : decode cX10_feed 25 = .ok (.bipush 20, 2) := by decide +kernel
theorem dX10_feed_27 : decode cX10_feed 27 = .ok (.iadd, 1) := by decide +kernel
theorem dX10_feed_28 : decode cX10_feed 28 = .ok (.if_icmp .ge 29, 3) := by decide +kernel
theorem dX10_feed_31 : decode cX10_feed 31 = .ok (.aload_n 0, 1) := by decide +kernel
theorem dX10_feed_32 : decode cX10_feed 32 = .ok (.aload_n 0, 1) := by decide +kernel
theorem dX10_feed_33 : decode cX10_feed 33 = .ok (.getfield 7, 3) := by decide +kernel
theorem dX10_feed_36 : decode cX10_feed 36 = .ok (.aload_n 0, 1) := by decide +kernel
theorem dX10_feed_37 : decode cX10_feed 37 = .ok (.getfield 85, 3) := by decide +kernel
theorem dX10_feed_40 : decode cX10_feed 40 = .ok (.bipush 20, 2) := by decide +kernel
theorem dX10_feed_42 : decode cX10_feed 42 = .ok (.iadd, 1) := by decide +kernel
theorem dX10_feed_43 : decode cX10_feed 43 = .ok (.aload_n 0, 1) := by decide +kernel
theorem dX10_feed_44 : decode cX10_feed 44 = .ok (.getfield 7, 3) := by decide +kernel
theorem dX10_feed_47 : decode cX10_feed 47 = .ok (.arraylength, 1) := by decide +kernel
theorem dX10_feed_48 : decode cX10_feed 48 = .ok (.invokestatic 89, 3) := by decide +kernel
theorem dX10_feed_51 : decode cX10_feed 51 = .ok (.invokestatic 93, 3) := by decide +kernel
theorem dX10_feed_54 : decode cX10_feed 54 = .ok (.putfield 7, 3) := by decide +kernel
theorem dX10_feed_57 : decode cX10_feed 57 = .ok (.aload_n 0, 1) := by decide +kernel
theorem dX10_feed_58 : decode cX10_feed 58 = .ok (.iload_n 1, 1) := by decide +kernel
theorem dX10_feed_59 : decode cX10_feed 59 = .ok (.invokevirtual 99, 3) := by decide +kernel
theorem dX10_feed_62 : decode cX10_feed 62 = .ok (.aload_n 0, 1) := by decide +kernel
theorem dX10_feed_63 : decode cX10_feed 63 = .ok (.iload_n 2, 1) := by decide +kernel
theorem dX10_feed_64 : decode cX10_feed 64 = .ok (.invokevirtual 99, 3) := by decide +kernel
theorem dX10_feed_67 : decode cX10_feed 67 = .ok (.aload_n 0, 1) := by decide +kernel
theorem dX10_feed_68 : decode cX10_feed 68 = .ok (.iload_n 3, 1) := by decide +kernel
theorem dX10_feed_69 : decode cX10_feed 69 = .ok (.invokevirtual 99, 3) := by decide +kernel
theorem dX10_feed_72 : decode cX10_feed 72 = .ok (.aload_n 0, 1) := by decide +kernel
theorem dX10_feed_73 : decode cX10_feed 73 = .ok (.iload 4, 2) := by decide +kernel
theorem dX10_feed_75 : decode cX10_feed 75 = .ok (.invokevirtual 99, 3) := by decide +kernel
theorem dX10_feed_78 : decode cX10_feed 78 = .ok (.aload_n 0, 1) := by decide +kernel
theorem dX10_feed_79 : decode cX10_feed 79 = .ok (.iload 5, 2) := by decide +kernel
theorem dX10_feed_81 : decode cX10_feed 81 = .ok (.invokevirtual 99, 3) := by decide +kernel
theorem dX10_feed_84 : decode cX10_feed 84 = .ok (.aload_n 0, 1) := by decide +kernel
theorem dX10_feed_85 : decode cX10_feed 85 = .ok (.getfield 85, 3) := by decide +kernel
theorem dX10_feed_88 : decode cX10_feed 88 = .ok (.ireturn, 1) := by decide +kernel
def mp_X10_feed_57 (mc ms : Nat) (K : Int32 → sm_S → Prop) (σ : sm_S) (x1 : Int32) (x2 : Int32) (x3 : Int32) (x4 : Int32) (x5 : Int32) : Prop := mp_X10_tapeNumber σ x1 (fun σ1 => mp_X10_tapeNumber σ1 x2 (fun σ2 => mp_X10_tapeNumber σ2 x3 (fun σ3 => mp_X10_tapeNumber σ3 x4 (fun σ4 => mp_X10_tapeNumber σ4 x5 (fun σ5 => K (σ5.1 35) σ5)))))
/-- SteadyMachine.feed(IIIII)I -/
def mp_X10_feed (mc ms : Nat) (σ : sm_S) (p1 : Int32) (p2 : Int32) (p3 : Int32) (p4 : Int32) (p5 : Int32) (K : Int32 → sm_S → Prop) : Prop := ((((σ.1 35) + 20) ≤ 8000 → ((((σ.1 35) + 20) ≤ (nI (σ.2.2.1 37)) → (mp_X10_feed_57 mc ms K σ p1 p2 p3 p4 p5)) ∧ (¬ ((σ.1 35) + 20) ≤ (nI (σ.2.2.1 37)) → (mp_X10_roomFor σ ((σ.1 35) + 20) (nI (σ.2.2.1 37)) (fun r9 σ8 => mp_copyOf (σ8.2.2.1 37) (σ8.2.2.2.1 37) r9 ∧ 0 + 1 ≤ mc ∧ 0 + r9.toNatClampNeg ≤ ms ∧ ∀ σ13 : sm_S, σ13 = sm_x σ8 37 r9.toNatClampNeg (sm_cp (σ8.2.2.1 37) (σ8.2.2.2.1 37)) → mp_X10_feed_57 mc ms K σ13 p1 p2 p3 p4 p5))))) ∧ (¬ ((σ.1 35) + 20) ≤ 8000 → (K (-2) σ)))
def wp_X10_feed : List Cond := .code yX10_feed cX10_feed 6 (some .int) :: (((([.fieldLink RX10 85 "SteadyMachine" "taped" "I", .fieldLink RX10 7 "SteadyMachine" "tape" "[B"] ++ (wsV RX10 99 RX10 yX10_tapeNumber wp_X10_tapeNumber)) ++ (va_wsS RX10 89 yX10_roomFor wp_X10_roomFor)) ++ (va_wsS RX10 93 yJ7_copyOf_9075b wsJ7_copyOf_9075b)) ++ wsX100)
theorem wg_X10_feed_X10_tapeNumber_99 : GoodIn wp_X10_feed (wsV RX10 99 RX10 yX10_tapeNumber wp_X10_tapeNumber) := goodIn_sub (fun w h => List.mem_cons_of_mem _ (List.mem_append_left _ (List.mem_append_left _ (List.mem_append_left _ (List.mem_append_right _ h))))) (by decide +kernel)
theorem wg_X10_feed_X10_roomFor_89 : GoodIn wp_X10_feed (va_wsS RX10 89 yX10_roomFor wp_X10_roomFor) := goodIn_sub (fun w h => List.mem_cons_of_mem _ (List.mem_append_left _ (List.mem_append_left _ (List.mem_append_right _ h)))) (by decide +kernel)
theorem wg_X10_feed_J7_copyOf_9075b_93 : GoodIn wp_X10_feed (va_wsS RX10 93 yJ7_copyOf_9075b wsJ7_copyOf_9075b) := goodIn_sub (fun w h => List.mem_cons_of_mem _ (List.mem_append_left _ (List.mem_append_right _ h))) (by decide +kernel)
theorem wi_X10_feed_X10 : ∀ w ∈ wsX100, w ∈ wp_X10_feed := fun w h => List.mem_cons_of_mem _ (List.mem_append_right _ h)
set_option maxHeartbeats 4000000 in
set_option maxRecDepth 100000 in
theorem c_X10_feed (l : Launch) (D : va_G) (sz t0 : Nat) (σ : sm_S) (β : sm_A) (p1 : Int32) (p2 : Int32) (p3 : Int32) (p4 : Int32) (p5 : Int32) (mc ms : Nat) (K : Int32 → sm_S → Prop) (hF : mp_X10_feed mc ms σ p1 p2 p3 p4 p5 K) : Met l yX10_feed wp_X10_feed { frames := 2, cells := mc, slots := ms, locals := 62 } (sm_P sm_wX sm_tX 38 D sz t0 σ β [.ref (β.1 10), .int p1, .int p2, .int p3, .int p4, .int p5]) (va_Qi (fun r (u : sm_S × sm_A) => K r u.1) (sm_Ba sm_wX sm_tX 38 11 D (sm_a β 38 sz) β) (sm_a β 38 sz)) (mc) (ms) (sm_a β 38 sz) := by
  refine Met.ofW (cc := cX10_feed) (maxL := 6) (ret := (some .int)) (by decide) rfl ?_
  intro p e s m args below meth c s₁ B hml hv
  obtain ⟨rfl, hsz, hP, hK, hD0, hE⟩ := hv
  have hx := B.exec
  have hb := B.bytes
  have hr := B.returns
  have hts := atoms_spec (ws := wp_X10_feed) B.pre
  have hown : s.vm.findClass RX10 = some m.cls := findClass_of_methodNamed B.named
  have hlocks := B.notSynchronized
  subst hsz
  have hD : sm_D (sm_a β 38 s.heap.size) β 38 := hD0.own
  have hA : ∀ q : Nat, s.heap.size ≤ q → sm_a β 38 s.heap.size q := fun q h => Or.inr h
  generalize hAe : sm_a β 38 s.heap.size = A at hD hA hE ⊢
  have hS : va_S A s.heap s.heap [] := va_S.rf
  have in_X10 : ∀ w ∈ wsX100, w ∈ wp_X10_feed := wi_X10_feed_X10
  have k_0 := hts (.fieldLink RX10 85 "SteadyMachine" "taped" "I") (by decide +kernel)
  have k_1 := hts (.fieldLink RX10 7 "SteadyMachine" "tape" "[B") (by decide +kernel)
  have hl := lv_entry ([.ref (β.1 10), .int p1, .int p2, .int p3, .int p4, .int p5]) (n := 6) (Nat.le_of_ble_eq_true rfl)
  rw [lg_entry_eq]
  generalize (lg_sl ([.ref (β.1 10), .int p1, .int p2, .int p3, .int p4, .int p5]) ++ List.replicate (6 - (lg_sl ([.ref (β.1 10), .int p1, .int p2, .int p3, .int p4, .int p5])).length) Slot.unset).toArray = ls at hl ⊢
  have B57 : ∀ (σ : sm_S) (x1 : Int32) (x2 : Int32) (x3 : Int32) (x4 : Int32) (x5 : Int32), mp_X10_feed_57 mc ms K σ x1 x2 x3 x4 x5 → sm_Ja p l e (headSpec wp_X10_feed { frames := 2, cells := mc, slots := ms, locals := 62 }).room s m ([.ref (β.1 10), .int p1, .int p2, .int p3, .int p4, .int p5] : List Value).toArray below meth c (MQ below (va_Qi (fun r (u : sm_S × sm_A) => K r u.1) (sm_Ba sm_wX sm_tX 38 11 D A β) A) ([.ref (β.1 10), .int p1, .int p2, .int p3, .int p4, .int p5] : List Value).toArray s (mc) (ms) A) sm_wX sm_tX 38 11 D A β 6 (mc) (ms) σ 57 (fun α => [(0, .ref (α.1 10)), (1, .int x1), (2, .int x2), (3, .int x3), (4, .int x4), (5, .int x5)]) (fun α => []) := by
    intro σ x1 x2 x3 x4 x5 hF α H locs ls hob hK hD hP hS hl
    dsimp only at hl ⊢
    unfold mp_X10_feed_57 at hF
    refine lv_aload_n hx hb dX10_feed_57 rfl (lv_at hl 0 rfl) ?_
    refine lv_iload_n hx hb dX10_feed_58 rfl (lv_at hl 1 rfl) ?_
    refine sm_vv (As := [.int x1]) (rest := []) hP hK hD hE hS hA ⟨hx, hb, hml, hown, hts⟩ hl.1 (c_X10_tapeNumber l D H.size t0 σ α x1 _ hF) (cwV 1 hts wg_X10_feed_X10_tapeNumber_99 rfl rfl rfl (by decide +kernel) ⟨Nat.le_of_ble_eq_true rfl, Nat.le_of_ble_eq_true rfl⟩) (va_recv hK hP (ci := 10) (q0 := 10) rfl (sm_gX10 σ α)) rfl rfl (Nat.le_of_ble_eq_true rfl) dX10_feed_59 ⟨Nat.le_refl _, Nat.le_refl _⟩ (fun σ1 H locs hF hP hS => ?_)
    refine lv_aload_n hx hb dX10_feed_62 rfl (lv_at hl 0 rfl) ?_
    refine lv_iload_n hx hb dX10_feed_63 rfl (lv_at hl 2 rfl) ?_
    refine sm_vv (As := [.int x2]) (rest := []) hP hK hD hE hS hA ⟨hx, hb, hml, hown, hts⟩ hl.1 (c_X10_tapeNumber l D H.size t0 σ1 α x2 _ hF) (cwV 1 hts wg_X10_feed_X10_tapeNumber_99 rfl rfl rfl (by decide +kernel) ⟨Nat.le_of_ble_eq_true rfl, Nat.le_of_ble_eq_true rfl⟩) (va_recv hK hP (ci := 10) (q0 := 10) rfl (sm_gX10 σ1 α)) rfl rfl (Nat.le_of_ble_eq_true rfl) dX10_feed_64 ⟨Nat.le_refl _, Nat.le_refl _⟩ (fun σ2 H locs hF hP hS => ?_)
    refine lv_aload_n hx hb dX10_feed_67 rfl (lv_at hl 0 rfl) ?_
    refine lv_iload_n hx hb dX10_feed_68 rfl (lv_at hl 3 rfl) ?_
    refine sm_vv (As := [.int x3]) (rest := []) hP hK hD hE hS hA ⟨hx, hb, hml, hown, hts⟩ hl.1 (c_X10_tapeNumber l D H.size t0 σ2 α x3 _ hF) (cwV 1 hts wg_X10_feed_X10_tapeNumber_99 rfl rfl rfl (by decide +kernel) ⟨Nat.le_of_ble_eq_true rfl, Nat.le_of_ble_eq_true rfl⟩) (va_recv hK hP (ci := 10) (q0 := 10) rfl (sm_gX10 σ2 α)) rfl rfl (Nat.le_of_ble_eq_true rfl) dX10_feed_69 ⟨Nat.le_refl _, Nat.le_refl _⟩ (fun σ3 H locs hF hP hS => ?_)
    refine lv_aload_n hx hb dX10_feed_72 rfl (lv_at hl 0 rfl) ?_
    refine lv_iload hx hb dX10_feed_73 (lv_at hl 4 rfl) ?_
    refine sm_vv (As := [.int x4]) (rest := []) hP hK hD hE hS hA ⟨hx, hb, hml, hown, hts⟩ hl.1 (c_X10_tapeNumber l D H.size t0 σ3 α x4 _ hF) (cwV 1 hts wg_X10_feed_X10_tapeNumber_99 rfl rfl rfl (by decide +kernel) ⟨Nat.le_of_ble_eq_true rfl, Nat.le_of_ble_eq_true rfl⟩) (va_recv hK hP (ci := 10) (q0 := 10) rfl (sm_gX10 σ3 α)) rfl rfl (Nat.le_of_ble_eq_true rfl) dX10_feed_75 ⟨Nat.le_refl _, Nat.le_refl _⟩ (fun σ4 H locs hF hP hS => ?_)
    refine lv_aload_n hx hb dX10_feed_78 rfl (lv_at hl 0 rfl) ?_
    refine lv_iload hx hb dX10_feed_79 (lv_at hl 5 rfl) ?_
    refine sm_vv (As := [.int x5]) (rest := []) hP hK hD hE hS hA ⟨hx, hb, hml, hown, hts⟩ hl.1 (c_X10_tapeNumber l D H.size t0 σ4 α x5 _ hF) (cwV 1 hts wg_X10_feed_X10_tapeNumber_99 rfl rfl rfl (by decide +kernel) ⟨Nat.le_of_ble_eq_true rfl, Nat.le_of_ble_eq_true rfl⟩) (va_recv hK hP (ci := 10) (q0 := 10) rfl (sm_gX10 σ4 α)) rfl rfl (Nat.le_of_ble_eq_true rfl) dX10_feed_81 ⟨Nat.le_refl _, Nat.le_refl _⟩ (fun σ5 H locs hF hP hS => ?_)
    refine lv_aload_n hx hb dX10_feed_84 rfl (lv_at hl 0 rfl) ?_
    refine va_get (D := D) (ci := 10) (v := .int (σ5.1 35)) (C := RX10) (T := TX10) (N := 11) hx hb hts in_X10 hown hK hP 10 (sm_gX10 σ5 α) rfl 1 (by decide) k_0 (fun _ h9 => h9) rfl dX10_feed_85 ?_
    exact W.iret (v := (σ5.1 35)) hx hb hr (fun t ht hW => ⟨⟨(σ5.1 35), (σ5, α), rfl, hF, by rw [ht]; exact hP, va_K.moved hW.alike hK, hD, hob⟩, hS.F ht⟩) hS.2.2 dX10_feed_88
  unfold mp_X10_feed at hF
  suffices h9 : sm_Ja p l e (headSpec wp_X10_feed { frames := 2, cells := mc, slots := ms, locals := 62 }).room s m ([.ref (β.1 10), .int p1, .int p2, .int p3, .int p4, .int p5] : List Value).toArray below meth c (MQ below (va_Qi (fun r (u : sm_S × sm_A) => K r u.1) (sm_Ba sm_wX sm_tX 38 11 D A β) A) ([.ref (β.1 10), .int p1, .int p2, .int p3, .int p4, .int p5] : List Value).toArray s (mc) (ms) A) sm_wX sm_tX 38 11 D A β 6 0 0 σ 0 (fun α => [(0, .ref (α.1 10)), (1, .int p1), (2, .int p2), (3, .int p3), (4, .int p4), (5, .int p5)]) (fun α => []) from h9 β s.heap [] ls (fun _ _ => rfl) hK hD hP hS hl
  clear hK hD hP hS hl
  intro α H locs ls hob hK hD hP hS hl
  dsimp only at hl ⊢
  refine lv_aload_n hx hb dX10_feed_0 rfl (lv_at hl 0 rfl) ?_
  refine va_get (D := D) (ci := 10) (v := .int (σ.1 35)) (C := RX10) (T := TX10) (N := 11) hx hb hts in_X10 hown hK hP 10 (sm_gX10 σ α) rfl 1 (by decide) k_0 (fun _ h9 => h9) rfl dX10_feed_1 ?_
  refine lv_bipush (v := 20) hx hb dX10_feed_4 (by decide) ?_
  refine lv_iadd hx hb dX10_feed_6 ?_
  refine lv_sipush (v := 8000) hx hb dX10_feed_7 (by decide) ?_
  refine lv_icmp_le (tgt := 16) hx hb dX10_feed_10 (by decide) (fun h6 => ?_) (fun h6 => ?_)
  · replace hF := hF.1 h6
    refine lv_aload_n hx hb dX10_feed_16 rfl (lv_at hl 0 rfl) ?_
    refine va_get (D := D) (ci := 10) (v := .ref (α.1 37)) (C := RX10) (T := TX10) (N := 11) hx hb hts in_X10 hown hK hP 10 (sm_gX10 σ α) rfl 0 (by decide) k_1 (fun _ h9 => h9) rfl dX10_feed_17 ?_
    refine va_alen (v := nI (σ.2.2.1 37)) hx hb hK hP 37 26 (sm_aX37 σ α) (sm_yX37 α) rfl dX10_feed_20 ?_
    refine lv_aload_n hx hb dX10_feed_21 rfl (lv_at hl 0 rfl) ?_
    refine va_get (D := D) (ci := 10) (v := .int (σ.1 35)) (C := RX10) (T := TX10) (N := 11) hx hb hts in_X10 hown hK hP 10 (sm_gX10 σ α) rfl 1 (by decide) k_0 (fun _ h9 => h9) rfl dX10_feed_22 ?_
    refine lv_bipush (v := 20) hx hb dX10_feed_25 (by decide) ?_
    refine lv_iadd hx hb dX10_feed_27 ?_
    refine lv_icmp_ge (tgt := 57) hx hb dX10_feed_28 (by decide) (fun h7 => ?_) (fun h7 => ?_)
    · replace hF := hF.1 h7
      refine W.widen (k := mc) (n := ms) (Nat.zero_le _) (Nat.zero_le _) ?_
      exact B57 σ p1 p2 p3 p4 p5 hF α H locs ls hob hK hD hP hS (lv_sub hl [0, 1, 2, 3, 4, 5] rfl)
    · replace hF := hF.2 h7
      refine lv_aload_n hx hb dX10_feed_31 rfl (lv_at hl 0 rfl) ?_
      refine lv_aload_n hx hb dX10_feed_32 rfl (lv_at hl 0 rfl) ?_
      refine va_get (D := D) (ci := 10) (v := .ref (α.1 37)) (C := RX10) (T := TX10) (N := 11) hx hb hts in_X10 hown hK hP 10 (sm_gX10 σ α) rfl 0 (by decide) k_1 (fun _ h9 => h9) rfl dX10_feed_33 ?_
      refine lv_aload_n hx hb dX10_feed_36 rfl (lv_at hl 0 rfl) ?_
      refine va_get (D := D) (ci := 10) (v := .int (σ.1 35)) (C := RX10) (T := TX10) (N := 11) hx hb hts in_X10 hown hK hP 10 (sm_gX10 σ α) rfl 1 (by decide) k_0 (fun _ h9 => h9) rfl dX10_feed_37 ?_
      refine lv_bipush (v := 20) hx hb dX10_feed_40 (by decide) ?_
      refine lv_iadd hx hb dX10_feed_42 ?_
      refine lv_aload_n hx hb dX10_feed_43 rfl (lv_at hl 0 rfl) ?_
      refine va_get (D := D) (ci := 10) (v := .ref (α.1 37)) (C := RX10) (T := TX10) (N := 11) hx hb hts in_X10 hown hK hP 10 (sm_gX10 σ α) rfl 0 (by decide) k_1 (fun _ h9 => h9) rfl dX10_feed_44 ?_
      refine va_alen (v := nI (σ.2.2.1 37)) hx hb hK hP 37 26 (sm_aX37 σ α) (sm_yX37 α) rfl dX10_feed_47 ?_
      refine sm_si (As := [.int ((σ.1 35) + 20), .int (nI (σ.2.2.1 37))]) (rest := [.ref (α.1 37), .ref (α.1 10)]) hP hK hD hE hS hA ⟨hx, hb, hml, hown, hts⟩ hl.1 (c_X10_roomFor l D H.size t0 σ α ((σ.1 35) + 20) (nI (σ.2.2.1 37)) _ hF) (va_cwS 2 hts wg_X10_feed_X10_roomFor_89 rfl rfl rfl (by decide +kernel) ⟨Nat.le_of_ble_eq_true rfl, Nat.le_of_ble_eq_true rfl⟩) rfl rfl (Nat.le_of_ble_eq_true rfl) dX10_feed_48 ⟨Nat.zero_le _, Nat.zero_le _⟩ (fun r9 σ8 H locs hF hP hS => ?_)
      obtain ⟨h10, h11, h12, hF⟩ := hF
      have hs9 := sm_sub hD hA hS.1
      refine va_callr (va_runS (As := [.ref (α.1 37), .int r9]) (rest := [.ref (α.1 10)]) ⟨hx, hb, hml, hown, hts⟩ (c_J7_copyOf l D H.size t0 σ8 α r9 h10) (va_cwS 2 hts wg_X10_feed_J7_copyOf_9075b_93 rfl rfl rfl (by decide +kernel) ⟨Nat.le_of_ble_eq_true rfl, Nat.le_of_ble_eq_true rfl⟩) ⟨sm_P.blind, sm_P.at hP hK hD hE hS hA⟩ rfl rfl hl.1 rfl (lv_room (Nat.le_of_ble_eq_true rfl)) dX10_feed_51 ⟨h11, h12⟩) hS (fun q _ h => hs9 q h) hs9 (fun cA q t H1 locs ht hvm _ hB hz1 hk1 hS => ?_)
      obtain ⟨hP, hK1, hD9⟩ := hB
      rw [ht] at hP
      generalize H1 = H at hP hS ⊢
      have hK : va_K D vwCl (sm_tX α ++ [(cA, .byte)]) s := va_K.moved hvm.symm hK1
      have hD9 := hD9.weaken (fun _ q _ h => hs9 q.1 h)
      refine va_put (D := D) (ci := 10) (v := .ref q) (ty := .array .byte) (C := RX10) (T := TX10) (N := 11) hx hb hts in_X10 tyX10 tyX10_ok nmX10 hown hK hP hD9 hS 10 rfl rfl 0 (by decide) k_1 (fun _ h9 => h9) rfl (by decide +kernel) rfl rfl (Nat.le_of_ble_eq_true rfl) dX10_feed_54 (fun H locs hP hD9 hS => ?_)
      obtain ⟨σ13, eσ13⟩ : ∃ x : sm_S, x = sm_x σ8 37 r9.toNatClampNeg (sm_cp (σ8.2.2.1 37) (σ8.2.2.2.1 37)) := ⟨_, rfl⟩
      replace hF := hF σ13 eσ13
      obtain ⟨α14, eα14⟩ : ∃ x : sm_A, x = (va_up α.1 37 q, va_up α.2 37 cA) := ⟨_, rfl⟩
      replace hK : va_K D vwCl (sm_tX α14) s := by rw [eα14]; exact hK.sub [0, 1, 2, 3, 4, 5, 6, 7, 8, 9, 10, 11, 12, 13, 14, 15, 16, 17, 18, 19, 20, 21, 22, 23, 24, 25, 27] rfl
      replace hP : va_P D vwCl (sm_wX σ13 α14) H := by rw [eσ13, eα14]; exact hP.sub [0, 1, 2, 3, 4, 5, 6, 7, 8, 9, 10, 11, 12, 13, 14, 15, 16, 17, 18, 19, 20, 21, 22, 23, 24, 25, 26, 27, 28, 29, 30, 31, 32, 33, 34, 35, 36, 38] rfl
      replace hD : sm_D A α14 38 := sm_D.of (sm_wX_m σ13 α14) (by rw [eσ13, eα14]; exact hD9.sub [0, 1, 2, 3, 4, 5, 6, 7, 8, 9, 10, 11, 12, 13, 14, 15, 16, 17, 18, 19, 20, 21, 22, 23, 24, 25, 26, 27, 28, 29, 30, 31, 32, 33, 34, 35, 36, 38] (by decide) rfl)
      replace hob : ∀ k : Nat, k < 11 → α14.1 k = β.1 k := fun k hk => by rw [eα14]; exact (va_up_ne _ _ (by omega)).trans (hob k hk)
      replace hl : lv_has ls 6 [(0, .ref (α14.1 10)), (1, .int p1), (2, .int p2), (3, .int p3), (4, .int p4), (5, .int p5)] := by rw [eα14]; exact hl
      refine W.widen (k := mc) (n := ms) (h11) (h12) ?_
      exact B57 σ13 p1 p2 p3 p4 p5 hF α14 H locs ls hob hK hD hP hS (lv_sub hl [0, 1, 2, 3, 4, 5] rfl)
  · replace hF := hF.2 h6
    refine lv_bipush (v := -2) hx hb dX10_feed_13 (by decide) ?_
    refine W.widen (k := mc) (n := ms) (Nat.zero_le _) (Nat.zero_le _) ?_
    exact W.iret (v := (-2)) hx hb hr (fun t ht hW => ⟨⟨(-2), (σ, α), rfl, hF, by rw [ht]; exact hP, va_K.moved hW.alike hK, hD, hob⟩, hS.F ht⟩) hS.2.2 dX10_feed_15
theorem dX2_take_0 : decode cX2_take 0 = .ok (.aload_n 0, 1) := by decide +kernel
theorem dX2_take_1 : decode cX2_take 1 = .ok (.getfield 25, 3) := by decide +kernel
theorem dX2_take_4 : decode cX2_take 4 = .ok (.arraylength, 1) := by decide +kernel
theorem dX2_take_5 : decode cX2_take 5 = .ok (.iload_n 2, 1) := by decide +kernel
theorem dX2_take_6 : decode cX2_take 6 = .ok (.if_icmp .ge 27, 3) := by decide +kernel
theorem dX2_take_9 : decode cX2_take 9 = .ok (.iload_n 2, 1) := by decide +kernel
theorem dX2_take_10 : decode cX2_take 10 = .ok (.aload_n 0, 1) := by decide +kernel
theorem dX2_take_11 : decode cX2_take 11 = .ok (.getfield 25, 3) := by decide +kernel
theorem dX2_take_14 : decode cX2_take 14 = .ok (.arraylength, 1) := by decide +kernel
theorem dX2_take_15 : decode cX2_take 15 = .ok (.invokestatic 33, 3) := by decide +kernel
theorem dX2_take_18 : decode cX2_take 18 = .ok (.istore_n 3, 1) := by decide +kernel
theorem dX2_take_19 : decode cX2_take 19 = .ok (.aload_n 0, 1) := by decide +kernel
theorem dX2_take_20 : decode cX2_take 20 = .ok (.iload_n 3, 1) := by decide +kernel
theorem dX2_take_21 : decode cX2_take 21 = .ok (.newarray .byte, 2) := by decide +kernel
theorem dX2_take_23 : decode cX2_take 23 = .ok (.putfield 25, 3) := by decide +kernel
theorem dX2_take_26 : decode cX2_take 26 = .ok (.aload_n 0, 1) := by decide +kernel
theorem dX2_take_27 : decode cX2_take 27 = .ok (.iload_n 3, 1) := by decide +kernel
theorem dX2_take_28 : decode cX2_take 28 = .ok (.newarray .boolean, 2) := by decide +kernel
theorem dX2_take_30 : decode cX2_take 30 = .ok (.putfield 29, 3) := by decide +kernel
theorem dX2_take_33 : decode cX2_take 33 = .ok (.aload_n 1, 1) := by decide +kernel
theorem dX2_take_34 : decode cX2_take 34 = .ok (.iconst 0, 1) := by decide +kernel
theorem dX2_take_35 : decode cX2_take 35 = .ok (.aload_n 0, 1) := by decide +kernel
theorem dX2_take_36 : decode cX2_take 36 = .ok (.getfield 25, 3) := by decide +kernel
theorem dX2_take_39 : decode cX2_take 39 = .ok (.iconst 0, 1) := by decide +kernel
theorem dX2_take_40 : decode cX2_take 40 = .ok (.iload_n 2, 1) := by decide +kernel
theorem dX2_take_41 : decode cX2_take 41 = .ok (.invokestatic 37, 3) := by decide +kernel
theorem dX2_take_44 : decode cX2_take 44 = .ok (.iconst 0, 1) := by decide +kernel
theorem dX2_take_45 : decode cX2_take 45 = .ok (.istore_n 3, 1) := by decide +kernel
theorem dX2_take_46 : decode cX2_take 46 = .ok (.iload_n 3, 1) := by decide +kernel
theorem dX2_take_47 : decode cX2_take 47 = .ok (.iload_n 2, 1) := by decide +kernel
theorem dX2_take_48 : decode cX2_take 48 = .ok (.if_icmp .ge 16, 3) := by decide +kernel
theorem dX2_take_51 : decode cX2_take 51 = .ok (.aload_n 0, 1) := by decide +kernel
theorem dX2_take_52 : decode cX2_take 52 = .ok (.getfield 29, 3) := by decide +kernel
theorem dX2_take_55 : decode cX2_take 55 = .ok (.iload_n 3, 1) := by decide +kernel
theorem dX2_take_56 : decode cX2_take 56 = .ok (.iconst 0, 1) := by decide +kernel
theorem dX2_take_57 : decode cX2_take 57 = .ok (.bastore, 1) := by decide +kernel
theorem dX2_take_58 : decode cX2_take 58 = .ok (.iinc 3 1, 3) := by decide +kernel
theorem dX2_take_61 : decode cX2_take 61 = .ok (.goto (-15), 3) := by decide +kernel
theorem dX2_take_64 : decode cX2_take 64 = .ok (.aload_n 0, 1) := by decide +kernel
theorem dX2_take_65 : decode cX2_take 65 = .ok (.iload_n 2, 1) := by decide +kernel
theorem dX2_take_66 : decode cX2_take 66 = .ok (.putfield 43, 3) := by decide +kernel
theorem dX2_take_69 : decode cX2_take 69 = .ok (.aload_n 0, 1) := by decide +kernel
theorem dX2_take_70 : decode cX2_take 70 = .ok (.iconst 0, 1) := by decide +kernel
theorem dX2_take_71 : decode cX2_take 71 = .ok (.putfield 47, 3) := by decide +kernel
theorem dX2_take_74 : decode cX2_take 74 = .ok (.return_, 1) := by decide +kernel
def mp_X2_take_46 (mc ms : Nat) (K : sm_S → Prop) : Nat → sm_S → Int32 → Int32 → Prop
  | 0, _, _, _ => False
  | n46 + 1, σ, x2, x3 => ((x2 ≤ x3 → (∀ σ2 : sm_S, σ2 = sm_i σ 14 x2 → ∀ σ3 : sm_S, σ3 = sm_i σ2 15 0 → K σ3)) ∧ (¬ x2 ≤ x3 → (vp_in x3 (σ.2.2.1 19) ∧ ∀ σ5 : sm_S, σ5 = sm_r σ 19 (upd (σ.2.2.2.1 19) x3.toNatClampNeg (vp_nar .boolean 0)) → ∀ v6 : Int32, v6 = x3 + 1 → (mp_X2_take_46 mc ms K n46) σ5 x2 v6)))
def mp_X2_take_33 (mc ms : Nat) (K : sm_S → Prop) (σ : sm_S) (x2 : Int32) : Prop := ¬ (0 : Int32) < 0 ∧ ¬ (0 : Int32) < 0 ∧ ¬ x2 < 0 ∧ (0 : Int32).toNatClampNeg + x2.toNatClampNeg ≤ (σ.2.2.1 37) ∧ (0 : Int32).toNatClampNeg + x2.toNatClampNeg ≤ (σ.2.2.1 18) ∧ (∀ i : Nat, i < x2.toNatClampNeg → fits .byte (.int ((σ.2.2.2.1 37) ((0 : Int32).toNatClampNeg + i))) = true) ∧ ∀ σ7 : sm_S, σ7 = sm_r σ 18 (va_cpy (σ.2.2.2.1 37) (σ.2.2.2.1 18) (0 : Int32).toNatClampNeg (0 : Int32).toNatClampNeg x2.toNatClampNeg) → ∃ n46 : Nat, mp_X2_take_46 mc ms K n46 σ7 x2 0
/-- SteadyMachine$Image.take([BI)V -/
def mp_X2_take (mc ms : Nat) (σ : sm_S) (p2 : Int32) (K : sm_S → Prop) : Prop := ((p2 ≤ (nI (σ.2.2.1 18)) → (mp_X2_take_33 mc ms K σ p2)) ∧ (¬ p2 ≤ (nI (σ.2.2.1 18)) → (mp_X10_roomFor σ p2 (nI (σ.2.2.1 18)) (fun r16 σ15 => ¬ r16 < 0 ∧ r16.toNatClampNeg * 1 ≤ 536870912 ∧ 0 + 1 ≤ mc ∧ 0 + r16.toNatClampNeg ≤ ms ∧ ∀ σ21 : sm_S, σ21 = sm_x σ15 18 r16.toNatClampNeg (fun _ => 0) → ¬ r16 < 0 ∧ r16.toNatClampNeg * 1 ≤ 536870912 ∧ 0 + 1 + 1 ≤ mc ∧ 0 + r16.toNatClampNeg + r16.toNatClampNeg ≤ ms ∧ ∀ σ27 : sm_S, σ27 = sm_x σ21 19 r16.toNatClampNeg (fun _ => 0) → mp_X2_take_33 mc ms K σ27 p2))))
def wp_X2_take : List Cond := .code yX2_take cX2_take 4 none :: (([.fieldLink RX2 43 "SteadyMachine$Image" "size" "I", .fieldLink RX2 47 "SteadyMachine$Image" "instructions" "I", .fieldLink RX2 29 "SteadyMachine$Image" "begins" "[Z", .fieldLink RX2 25 "SteadyMachine$Image" "bytes" "[B", .methodLink RX2 37 arraycopyName, .native arraycopyName, .static arraycopyName, .initialized "java/lang/System", .initialized RX10, .static yX10_roomFor, .arrayClass .byte, .arrayClass .boolean] ++ wp_X10_roomFor) ++ wsX20)
theorem wg_X2_take_X10_roomFor_33 : GoodIn wp_X2_take wp_X10_roomFor := goodIn_sub (fun w h => List.mem_cons_of_mem _ (List.mem_append_left _ (List.mem_append_right _ h))) (by decide +kernel)
theorem wi_X2_take_X2 : ∀ w ∈ wsX20, w ∈ wp_X2_take := fun w h => List.mem_cons_of_mem _ (List.mem_append_right _ h)
set_option maxHeartbeats 4000000 in
set_option maxRecDepth 100000 in
theorem c_X2_take (l : Launch) (D : va_G) (sz t0 : Nat) (σ : sm_S) (β : sm_A) (p2 : Int32) (mc ms : Nat) (K : sm_S → Prop) (hF : mp_X2_take mc ms σ p2 K) : Met l yX2_take wp_X2_take { frames := 2, cells := mc, slots := ms, locals := 47 } (sm_P sm_wX sm_tX 38 D sz t0 σ β [.ref (β.1 2), .ref (β.1 37), .int p2]) (va_Qv (fun u : sm_S × sm_A => K u.1) (sm_Ba sm_wX sm_tX 38 11 D (sm_a β 38 sz) β) (sm_a β 38 sz)) (mc) (ms) (sm_a β 38 sz) := by
  refine Met.ofW (cc := cX2_take) (maxL := 4) (ret := none) (by decide) rfl ?_
  intro p e s m args below meth c s₁ B hml hv
  obtain ⟨rfl, hsz, hP, hK, hD0, hE⟩ := hv
  have hx := B.exec
  have hb := B.bytes
  have hr := B.returns
  have hts := atoms_spec (ws := wp_X2_take) B.pre
  have hown : s.vm.findClass RX2 = some m.cls := findClass_of_methodNamed B.named
  have hlocks := B.notSynchronized
  subst hsz
  have hD : sm_D (sm_a β 38 s.heap.size) β 38 := hD0.own
  have hA : ∀ q : Nat, s.heap.size ≤ q → sm_a β 38 s.heap.size q := fun q h => Or.inr h
  generalize hAe : sm_a β 38 s.heap.size = A at hD hA hE ⊢
  have hS : va_S A s.heap s.heap [] := va_S.rf
  have in_X2 : ∀ w ∈ wsX20, w ∈ wp_X2_take := wi_X2_take_X2
  have k_0 := hts (.fieldLink RX2 43 "SteadyMachine$Image" "size" "I") (by decide +kernel)
  have k_1 := hts (.fieldLink RX2 47 "SteadyMachine$Image" "instructions" "I") (by decide +kernel)
  have k_2 := hts (.fieldLink RX2 29 "SteadyMachine$Image" "begins" "[Z") (by decide +kernel)
  have k_3 := hts (.fieldLink RX2 25 "SteadyMachine$Image" "bytes" "[B") (by decide +kernel)
  have k_4 := hts (.methodLink RX2 37 arraycopyName) (by decide +kernel)
  have k_5 := hts (.native arraycopyName) (by decide +kernel)
  have k_6 := hts (.static arraycopyName) (by decide +kernel)
  have k_7 := hts (.initialized "java/lang/System") (by decide +kernel)
  have k_8 := hts (.initialized RX10) (by decide +kernel)
  have k_9 := hts (.static yX10_roomFor) (by decide +kernel)
  have k_10 := hts (.arrayClass .byte) (by decide +kernel)
  have k_11 := hts (.arrayClass .boolean) (by decide +kernel)
  have hl := lv_entry ([.ref (β.1 2), .ref (β.1 37), .int p2]) (n := 4) (Nat.le_of_ble_eq_true rfl)
  rw [lg_entry_eq]
  generalize (lg_sl ([.ref (β.1 2), .ref (β.1 37), .int p2]) ++ List.replicate (4 - (lg_sl ([.ref (β.1 2), .ref (β.1 37), .int p2])).length) Slot.unset).toArray = ls at hl ⊢
  have B46 : ∀ (n : Nat) (σ : sm_S) (x2 : Int32) (x3 : Int32), mp_X2_take_46 mc ms K n σ x2 x3 → sm_Ja p l e (headSpec wp_X2_take { frames := 2, cells := mc, slots := ms, locals := 47 }).room s m ([.ref (β.1 2), .ref (β.1 37), .int p2] : List Value).toArray below meth c (MQ below (va_Qv (fun u : sm_S × sm_A => K u.1) (sm_Ba sm_wX sm_tX 38 11 D A β) A) ([.ref (β.1 2), .ref (β.1 37), .int p2] : List Value).toArray s (mc) (ms) A) sm_wX sm_tX 38 11 D A β 4 (mc) (ms) σ 46 (fun α => [(0, .ref (α.1 2)), (2, .int x2), (3, .int x3)]) (fun α => []) := by
    intro n46
    induction n46 with
    | zero =>
      intro σ x2 x3 hF
      exact hF.elim
    | succ n46 ih46 =>
      intro σ x2 x3 hF α H locs ls hob hK hD hP hS hl
      dsimp only at hl ⊢
      unfold mp_X2_take_46 at hF
      refine lv_iload_n hx hb dX2_take_46 rfl (lv_at hl 2 rfl) ?_
      refine lv_iload_n hx hb dX2_take_47 rfl (lv_at hl 1 rfl) ?_
      refine lv_icmp_ge (tgt := 64) hx hb dX2_take_48 (by decide) (fun h1 => ?_) (fun h1 => ?_)
      · replace hF := hF.1 h1
        refine lv_aload_n hx hb dX2_take_64 rfl (lv_at hl 0 rfl) ?_
        refine lv_iload_n hx hb dX2_take_65 rfl (lv_at hl 1 rfl) ?_
        refine va_put (D := D) (ci := 2) (v := .int x2) (ty := .int) (C := RX2) (T := TX2) (N := 6) hx hb hts in_X2 tyX2 tyX2_ok nmX2 hown hK hP (hD.to (sm_wX_m _ _)) hS 2 (sm_gX2 σ α) rfl 4 (by decide) k_0 (fun _ h9 => h9) rfl (by decide +kernel) rfl rfl (Nat.le_of_ble_eq_true rfl) dX2_take_66 (fun H locs hP _ hS => ?_)
        rw [sm_iX14] at hP
        obtain ⟨σ2, eσ2⟩ : ∃ x : sm_S, x = sm_i σ 14 x2 := ⟨_, rfl⟩
        replace hF := hF σ2 eσ2
        rw [← eσ2] at hP
        refine lv_aload_n hx hb dX2_take_69 rfl (lv_at hl 0 rfl) ?_
        refine lv_iconst (v := 0) hx hb dX2_take_70 (by decide) ?_
        refine va_put (D := D) (ci := 2) (v := .int 0) (ty := .int) (C := RX2) (T := TX2) (N := 6) hx hb hts in_X2 tyX2 tyX2_ok nmX2 hown hK hP (hD.to (sm_wX_m _ _)) hS 2 (sm_gX2 σ2 α) rfl 5 (by decide) k_1 (fun _ h9 => h9) rfl (by decide +kernel) rfl rfl (Nat.le_of_ble_eq_true rfl) dX2_take_71 (fun H locs hP _ hS => ?_)
        rw [sm_iX15] at hP
        obtain ⟨σ3, eσ3⟩ : ∃ x : sm_S, x = sm_i σ2 15 0 := ⟨_, rfl⟩
        replace hF := hF σ3 eσ3
        rw [← eσ3] at hP
        exact W.vret hx hb hr (fun t ht hW => ⟨⟨(σ3, α), rfl, hF, by rw [ht]; exact hP, va_K.moved hW.alike hK, hD, hob⟩, hS.F ht⟩) hS.2.2 dX2_take_74
      · replace hF := hF.2 h1
        refine lv_aload_n hx hb dX2_take_51 rfl (lv_at hl 0 rfl) ?_
        refine va_get (D := D) (ci := 2) (v := .ref (α.1 19)) (C := RX2) (T := TX2) (N := 6) hx hb hts in_X2 hown hK hP 2 (sm_gX2 σ α) rfl 3 (by decide) k_2 (fun _ h9 => h9) rfl dX2_take_52 ?_
        refine lv_iload_n hx hb dX2_take_55 rfl (lv_at hl 2 rfl) ?_
        refine lv_iconst (v := 0) hx hb dX2_take_56 (by decide) ?_
        obtain ⟨h4, hF⟩ := hF
        refine va_zast (n := (σ.2.2.1 19)) (f := (σ.2.2.2.1 19)) (x := 0) hx hb hK hP (hD.to (sm_wX_m _ _)) hS 19 8 (sm_aX19 σ α) (sm_yX19 α) h4 dX2_take_57 (fun H locs hP _ hS => ?_)
        rw [sm_rX19] at hP
        obtain ⟨σ5, eσ5⟩ : ∃ x : sm_S, x = sm_r σ 19 (upd (σ.2.2.2.1 19) x3.toNatClampNeg (vp_nar .boolean 0)) := ⟨_, rfl⟩
        replace hF := hF σ5 eσ5
        rw [← eσ5] at hP
        obtain ⟨v6, ev6⟩ : ∃ y : Int32, y = x3 + 1 := ⟨_, rfl⟩
        replace hF := hF v6 ev6
        refine lv_iinc (v := v6) (lv' := [(3, .int v6), (0, .ref (α.1 2)), (2, .int x2)]) hx hb dX2_take_58 hl (k := 2) rfl (by rw [ev6]; rfl) (by decide) rfl (fun ls hl => ?_)
        refine lv_goto (tgt := 46) hx hb dX2_take_61 (by decide) ?_
        exact ih46 σ5 x2 v6 hF α H locs ls hob hK hD hP hS (lv_sub hl [1, 2, 0] rfl)
  have B33 : ∀ (σ : sm_S) (x2 : Int32), mp_X2_take_33 mc ms K σ x2 → sm_Ja p l e (headSpec wp_X2_take { frames := 2, cells := mc, slots := ms, locals := 47 }).room s m ([.ref (β.1 2), .ref (β.1 37), .int p2] : List Value).toArray below meth c (MQ below (va_Qv (fun u : sm_S × sm_A => K u.1) (sm_Ba sm_wX sm_tX 38 11 D A β) A) ([.ref (β.1 2), .ref (β.1 37), .int p2] : List Value).toArray s (mc) (ms) A) sm_wX sm_tX 38 11 D A β 4 (mc) (ms) σ 33 (fun α => [(0, .ref (α.1 2)), (1, .ref (α.1 37)), (2, .int x2)]) (fun α => []) := by
    intro σ x2 hF α H locs ls hob hK hD hP hS hl
    dsimp only at hl ⊢
    unfold mp_X2_take_33 at hF
    refine lv_aload_n hx hb dX2_take_33 rfl (lv_at hl 1 rfl) ?_
    refine lv_iconst (v := 0) hx hb dX2_take_34 (by decide) ?_
    refine lv_aload_n hx hb dX2_take_35 rfl (lv_at hl 0 rfl) ?_
    refine va_get (D := D) (ci := 2) (v := .ref (α.1 18)) (C := RX2) (T := TX2) (N := 6) hx hb hts in_X2 hown hK hP 2 (sm_gX2 σ α) rfl 2 (by decide) k_3 (fun _ h9 => h9) rfl dX2_take_36 ?_
    refine lv_iconst (v := 0) hx hb dX2_take_39 (by decide) ?_
    refine lv_iload_n hx hb dX2_take_40 rfl (lv_at hl 2 rfl) ?_
    obtain ⟨h8, h9, h10, h11, h12, h13, hF⟩ := hF
    refine va_copyi (f := (σ.2.2.2.1 37)) (g := (σ.2.2.2.1 18)) hx hb (hml.trans hl.1.symm) hown k_4 k_5 k_6 k_7 hK hP (hD.to (sm_wX_m _ _)) hS 37 18 26 7 (sm_aX37 σ α) (sm_aX18 σ α) (sm_yX37 α) (sm_yX18 α) rfl h8 h9 h10 h11 h12 h13 (Nat.le_of_ble_eq_true rfl) (Nat.le_of_ble_eq_true rfl) dX2_take_41 (fun H locs hP _ hS => ?_)
    rw [sm_rX18] at hP
    obtain ⟨σ7, eσ7⟩ : ∃ x : sm_S, x = sm_r σ 18 (va_cpy (σ.2.2.2.1 37) (σ.2.2.2.1 18) (0 : Int32).toNatClampNeg (0 : Int32).toNatClampNeg x2.toNatClampNeg) := ⟨_, rfl⟩
    replace hF := hF σ7 eσ7
    rw [← eσ7] at hP
    refine lv_iconst (v := 0) hx hb dX2_take_44 (by decide) ?_
    refine lv_istore_n (lv' := [(3, .int 0), (0, .ref (α.1 2)), (1, .ref (α.1 37)), (2, .int x2)]) hx hb dX2_take_45 rfl hl (by decide) rfl (fun ls hl => ?_)
    obtain ⟨n46, hF⟩ := hF
    exact B46 n46 σ7 x2 0 hF α H locs ls hob hK hD hP hS (lv_sub hl [1, 3, 0] rfl)
  unfold mp_X2_take at hF
  suffices h9 : sm_Ja p l e (headSpec wp_X2_take { frames := 2, cells := mc, slots := ms, locals := 47 }).room s m ([.ref (β.1 2), .ref (β.1 37), .int p2] : List Value).toArray below meth c (MQ below (va_Qv (fun u : sm_S × sm_A => K u.1) (sm_Ba sm_wX sm_tX 38 11 D A β) A) ([.ref (β.1 2), .ref (β.1 37), .int p2] : List Value).toArray s (mc) (ms) A) sm_wX sm_tX 38 11 D A β 4 0 0 σ 0 (fun α => [(0, .ref (α.1 2)), (1, .ref (α.1 37)), (2, .int p2)]) (fun α => []) from h9 β s.heap [] ls (fun _ _ => rfl) hK hD hP hS hl
  clear hK hD hP hS hl
  intro α H locs ls hob hK hD hP hS hl
  dsimp only at hl ⊢
  refine lv_aload_n hx hb dX2_take_0 rfl (lv_at hl 0 rfl) ?_
  refine va_get (D := D) (ci := 2) (v := .ref (α.1 18)) (C := RX2) (T := TX2) (N := 6) hx hb hts in_X2 hown hK hP 2 (sm_gX2 σ α) rfl 2 (by decide) k_3 (fun _ h9 => h9) rfl dX2_take_1 ?_
  refine va_alen (v := nI (σ.2.2.1 18)) hx hb hK hP 18 7 (sm_aX18 σ α) (sm_yX18 α) rfl dX2_take_4 ?_
  refine lv_iload_n hx hb dX2_take_5 rfl (lv_at hl 2 rfl) ?_
  refine lv_icmp_ge (tgt := 33) hx hb dX2_take_6 (by decide) (fun h14 => ?_) (fun h14 => ?_)
  · replace hF := hF.1 h14
    refine W.widen (k := mc) (n := ms) (Nat.zero_le _) (Nat.zero_le _) ?_
    exact B33 σ p2 hF α H locs ls hob hK hD hP hS (lv_sub hl [0, 1, 2] rfl)
  · replace hF := hF.2 h14
    refine lv_iload_n hx hb dX2_take_9 rfl (lv_at hl 2 rfl) ?_
    refine lv_aload_n hx hb dX2_take_10 rfl (lv_at hl 0 rfl) ?_
    refine va_get (D := D) (ci := 2) (v := .ref (α.1 18)) (C := RX2) (T := TX2) (N := 6) hx hb hts in_X2 hown hK hP 2 (sm_gX2 σ α) rfl 2 (by decide) k_3 (fun _ h9 => h9) rfl dX2_take_11 ?_
    refine va_alen (v := nI (σ.2.2.1 18)) hx hb hK hP 18 7 (sm_aX18 σ α) (sm_yX18 α) rfl dX2_take_14 ?_
    refine sm_nsi (As := [.int p2, .int (nI (σ.2.2.1 18))]) (rest := []) hP hK hD hE hS hA ⟨hx, hb, hml, hown, hts⟩ hl.1 (c_X10_roomFor l D H.size t0 σ α p2 (nI (σ.2.2.1 18)) _ hF) ⟨va_cnB 2 hts wg_X2_take_X10_roomFor_33 rfl rfl rfl (hE.1 (.methodLinkNest "SteadyMachine$Image" 33 ⟨"SteadyMachine", "roomFor", "(II)I"⟩ "SteadyMachine") (by decide +kernel)) k_8 (by decide +kernel) ⟨Nat.le_of_ble_eq_true rfl, Nat.le_of_ble_eq_true rfl⟩, k_9, trivial⟩ rfl rfl (Nat.le_of_ble_eq_true rfl) dX2_take_15 ⟨Nat.zero_le _, Nat.zero_le _⟩ (fun r16 σ15 H locs hF hP hS => ?_)
    refine lv_istore_n (lv' := [(3, .int r16), (0, .ref (α.1 2)), (1, .ref (α.1 37)), (2, .int p2)]) hx hb dX2_take_18 rfl hl (by decide) rfl (fun ls hl => ?_)
    refine lv_aload_n hx hb dX2_take_19 rfl (lv_at hl 1 rfl) ?_
    refine lv_iload_n hx hb dX2_take_20 rfl (lv_at hl 0 rfl) ?_
    obtain ⟨h17, h18, h19, h20, hF⟩ := hF
    refine va_newa (atype := .byte) (ty := .byte) (n := r16) (N' := r16.toNatClampNeg) (a0 := (r16.toNatClampNeg, .inl (fun _ => 0))) hx hb k_10 rfl hK hP (hD.to (sm_wX_m _ _)) hS hA (fun _ => rfl) h17 rfl h18 h19 h20 dX2_take_21 (fun q cA H hK hP hD9 hS => ?_)
    refine va_put (D := D) (ci := 2) (v := .ref q) (ty := .array .byte) (C := RX2) (T := TX2) (N := 6) hx hb hts in_X2 tyX2 tyX2_ok nmX2 hown hK hP hD9 hS 2 rfl rfl 2 (by decide) k_3 (fun _ h9 => h9) rfl (by decide +kernel) rfl rfl (Nat.le_of_ble_eq_true rfl) dX2_take_23 (fun H locs hP hD9 hS => ?_)
    obtain ⟨σ21, eσ21⟩ : ∃ x : sm_S, x = sm_x σ15 18 r16.toNatClampNeg (fun _ => 0) := ⟨_, rfl⟩
    replace hF := hF σ21 eσ21
    obtain ⟨α22, eα22⟩ : ∃ x : sm_A, x = (va_up α.1 18 q, va_up α.2 18 cA) := ⟨_, rfl⟩
    replace hK : va_K D vwCl (sm_tX α22) s := by rw [eα22]; exact hK.sub [0, 1, 2, 3, 4, 5, 6, 27, 8, 9, 10, 11, 12, 13, 14, 15, 16, 17, 18, 19, 20, 21, 22, 23, 24, 25, 26] rfl
    replace hP : va_P D vwCl (sm_wX σ21 α22) H := by rw [eσ21, eα22]; exact hP.sub [0, 1, 2, 3, 4, 5, 6, 7, 8, 9, 10, 11, 12, 13, 14, 15, 16, 17, 38, 19, 20, 21, 22, 23, 24, 25, 26, 27, 28, 29, 30, 31, 32, 33, 34, 35, 36, 37] rfl
    replace hD : sm_D A α22 38 := sm_D.of (sm_wX_m σ21 α22) (by rw [eσ21, eα22]; exact hD9.sub [0, 1, 2, 3, 4, 5, 6, 7, 8, 9, 10, 11, 12, 13, 14, 15, 16, 17, 38, 19, 20, 21, 22, 23, 24, 25, 26, 27, 28, 29, 30, 31, 32, 33, 34, 35, 36, 37] (by decide) rfl)
    replace hob : ∀ k : Nat, k < 11 → α22.1 k = β.1 k := fun k hk => by rw [eα22]; exact (va_up_ne _ _ (by omega)).trans (hob k hk)
    replace hl : lv_has ls 4 [(3, .int r16), (0, .ref (α22.1 2)), (1, .ref (α22.1 37)), (2, .int p2)] := by rw [eα22]; exact hl
    refine lv_aload_n hx hb dX2_take_26 rfl (lv_at hl 1 rfl) ?_
    refine lv_iload_n hx hb dX2_take_27 rfl (lv_at hl 0 rfl) ?_
    obtain ⟨h23, h24, h25, h26, hF⟩ := hF
    refine va_newa (atype := .boolean) (ty := .boolean) (n := r16) (N' := r16.toNatClampNeg) (a0 := (r16.toNatClampNeg, .inl (fun _ => 0))) hx hb k_11 rfl hK hP (hD.to (sm_wX_m _ _)) hS hA (fun _ => rfl) h23 rfl h24 h25 h26 dX2_take_28 (fun q cA H hK hP hD9 hS => ?_)
    refine va_put (D := D) (ci := 2) (v := .ref q) (ty := .array .boolean) (C := RX2) (T := TX2) (N := 6) hx hb hts in_X2 tyX2 tyX2_ok nmX2 hown hK hP hD9 hS 2 rfl rfl 3 (by decide) k_2 (fun _ h9 => h9) rfl (by decide +kernel) rfl rfl (Nat.le_of_ble_eq_true rfl) dX2_take_30 (fun H locs hP hD9 hS => ?_)
    obtain ⟨σ27, eσ27⟩ : ∃ x : sm_S, x = sm_x σ21 19 r16.toNatClampNeg (fun _ => 0) := ⟨_, rfl⟩
    replace hF := hF σ27 eσ27
    obtain ⟨α2228, eα2228⟩ : ∃ x : sm_A, x = (va_up α22.1 19 q, va_up α22.2 19 cA) := ⟨_, rfl⟩
    replace hK : va_K D vwCl (sm_tX α2228) s := by rw [eα2228]; exact hK.sub [0, 1, 2, 3, 4, 5, 6, 7, 27, 9, 10, 11, 12, 13, 14, 15, 16, 17, 18, 19, 20, 21, 22, 23, 24, 25, 26] rfl
    replace hP : va_P D vwCl (sm_wX σ27 α2228) H := by rw [eσ27, eα2228]; exact hP.sub [0, 1, 2, 3, 4, 5, 6, 7, 8, 9, 10, 11, 12, 13, 14, 15, 16, 17, 18, 38, 20, 21, 22, 23, 24, 25, 26, 27, 28, 29, 30, 31, 32, 33, 34, 35, 36, 37] rfl
    replace hD : sm_D A α2228 38 := sm_D.of (sm_wX_m σ27 α2228) (by rw [eσ27, eα2228]; exact hD9.sub [0, 1, 2, 3, 4, 5, 6, 7, 8, 9, 10, 11, 12, 13, 14, 15, 16, 17, 18, 38, 20, 21, 22, 23, 24, 25, 26, 27, 28, 29, 30, 31, 32, 33, 34, 35, 36, 37] (by decide) rfl)
    replace hob : ∀ k : Nat, k < 11 → α2228.1 k = β.1 k := fun k hk => by rw [eα2228]; exact (va_up_ne _ _ (by omega)).trans (hob k hk)
    replace hl : lv_has ls 4 [(3, .int r16), (0, .ref (α2228.1 2)), (1, .ref (α2228.1 37)), (2, .int p2)] := by rw [eα2228]; exact hl
    refine W.widen (k := mc) (n := ms) (h25) (h26) ?_
    exact B33 σ27 p2 hF α2228 H locs ls hob hK hD hP hS (lv_sub hl [1, 2, 3] rfl)
theorem dX2_at_0 : decode cX2_at 0 = .ok (.iload_n 1, 1) := by decide +kernel
theorem dX2_at_1 : decode cX2_at 1 = .ok (.ifCond .lt 24, 3) := by decide +kernel
theorem dX2_at_4 : decode cX2_at 4 = .ok (.iload_n 1, 1) := by decide +kernel
theorem dX2_at_5 : decode cX2_at 5 = .ok (.aload_n 0, 1) := by decide +kernel
theorem dX2_at_6 : decode cX2_at 6 = .ok (.getfield 43, 3) := by decide +kernel
theorem dX2_at_9 : decode cX2_at 9 = .ok (.if_icmp .ge 16, 3) := by decide +kernel
theorem dX2_at_12 : decode cX2_at 12 = .ok (.aload_n 0, 1) := by decide +kernel
theorem dX2_at_13 : decode cX2_at 13 = .ok (.getfield 25, 3) := by decide +kernel
theorem dX2_at_16 : decode cX2_at 16 = .ok (.iload_n 1, 1) := by decide +kernel
theorem dX2_at_17 : decode cX2_at 17 = .ok (.baload, 1) := by decide +kernel
theorem dX2_at_18 : decode cX2_at 18 = .ok (.sipush 255, 3) := by decide +kernel
theorem dX2_at_21 : decode cX2_at 21 = .ok (.iand, 1) := by decide +kernel
theorem dX2_at_22 : decode cX2_at 22 = .ok (.goto 4, 3) := by decide +kernel
theorem dX2_at_25 : decode cX2_at 25 = .ok (.iconst (-1), 1) := by decide +kernel
theorem dX2_at_26 : decode cX2_at 26 = .ok (.ireturn, 1) := by decide +kernel
def mp_X2_at_26 (K : Int32 → sm_S → Prop) (σ : sm_S) (y0 : Int32) : Prop := K y0 σ
def mp_X2_at_25 (K : Int32 → sm_S → Prop) (σ : sm_S)  : Prop := mp_X2_at_26 K σ (-1)
/-- SteadyMachine$Image.at(I)I -/
def mp_X2_at (σ : sm_S) (p1 : Int32) (K : Int32 → sm_S → Prop) : Prop := ((p1 < 0 → (mp_X2_at_25 K σ)) ∧ (¬ p1 < 0 → (((σ.1 14) ≤ p1 → (mp_X2_at_25 K σ)) ∧ (¬ (σ.1 14) ≤ p1 → (vp_in p1 (σ.2.2.1 18) ∧ mp_X2_at_26 K σ (((σ.2.2.2.1 18) p1.toNatClampNeg) &&& 255))))))
def wp_X2_at : List Cond := .code yX2_at cX2_at 2 (some .int) :: ([.fieldLink RX2 43 "SteadyMachine$Image" "size" "I", .fieldLink RX2 25 "SteadyMachine$Image" "bytes" "[B"] ++ wsX20)
theorem wi_X2_at_X2 : ∀ w ∈ wsX20, w ∈ wp_X2_at := fun w h => List.mem_cons_of_mem _ (List.mem_append_right _ h)
set_option maxHeartbeats 4000000 in
set_option maxRecDepth 100000 in
theorem c_X2_at (l : Launch) (D : va_G) (sz t0 : Nat) (σ : sm_S) (α : sm_A) (p1 : Int32) (K : Int32 → sm_S → Prop) (hF : mp_X2_at σ p1 K) : Met l yX2_at wp_X2_at { frames := 0, cells := 0, slots := 0, locals := 0 } (sm_P sm_wX sm_tX 38 D sz t0 σ α [.ref (α.1 2), .int p1]) (va_Qi K (sm_B sm_wX D α) (sm_a α 38 sz)) 0 0 (sm_a α 38 sz) := by
  refine Met.ofW (cc := cX2_at) (maxL := 2) (ret := (some .int)) (by decide) rfl ?_
  intro p e s m args below meth c s₁ B hml hv
  obtain ⟨rfl, hsz, hP, hK, hD0, hE⟩ := hv
  have hx := B.exec
  have hb := B.bytes
  have hr := B.returns
  have hts := atoms_spec (ws := wp_X2_at) B.pre
  have hown : s.vm.findClass RX2 = some m.cls := findClass_of_methodNamed B.named
  have hlocks := B.notSynchronized
  subst hsz
  have hD : sm_D (sm_a α 38 s.heap.size) α 38 := hD0.own
  have hA : ∀ q : Nat, s.heap.size ≤ q → sm_a α 38 s.heap.size q := fun q h => Or.inr h
  generalize hAe : sm_a α 38 s.heap.size = A at hD hA hE ⊢
  have hS : va_S A s.heap s.heap [] := va_S.rf
  have in_X2 : ∀ w ∈ wsX20, w ∈ wp_X2_at := wi_X2_at_X2
  have k_0 := hts (.fieldLink RX2 43 "SteadyMachine$Image" "size" "I") (by decide +kernel)
  have k_1 := hts (.fieldLink RX2 25 "SteadyMachine$Image" "bytes" "[B") (by decide +kernel)
  have hl := lv_entry ([.ref (α.1 2), .int p1]) (n := 2) (Nat.le_of_ble_eq_true rfl)
  rw [lg_entry_eq]
  generalize (lg_sl ([.ref (α.1 2), .int p1]) ++ List.replicate (2 - (lg_sl ([.ref (α.1 2), .int p1])).length) Slot.unset).toArray = ls at hl ⊢
  have hl : lv_has ls 2 [(0, .ref (α.1 2)), (1, .int p1)] := hl
  have B26 : ∀ (σ : sm_S) (y0 : Int32), mp_X2_at_26 K σ y0 → sm_J p l e (headSpec wp_X2_at { frames := 0, cells := 0, slots := 0, locals := 0 }).room s m ([.ref (α.1 2), .int p1] : List Value).toArray below meth c (MQ below (va_Qi K (sm_B sm_wX D α) A) ([.ref (α.1 2), .int p1] : List Value).toArray s 0 0 A) D A 2 (sm_wX σ α) 26 [] [.int y0] := by
    intro σ y0 hF H locs ls hP hS hl
    unfold mp_X2_at_26 at hF
    exact W.iret (v := y0) hx hb hr (fun t ht hW => ⟨⟨y0, σ, rfl, hF, (by unfold sm_B; rw [ht]; exact hP)⟩, hS.F ht⟩) hS.2.2 dX2_at_26
  have B25 : ∀ (σ : sm_S), mp_X2_at_25 K σ → sm_J p l e (headSpec wp_X2_at { frames := 0, cells := 0, slots := 0, locals := 0 }).room s m ([.ref (α.1 2), .int p1] : List Value).toArray below meth c (MQ below (va_Qi K (sm_B sm_wX D α) A) ([.ref (α.1 2), .int p1] : List Value).toArray s 0 0 A) D A 2 (sm_wX σ α) 25 [] [] := by
    intro σ hF H locs ls hP hS hl
    unfold mp_X2_at_25 at hF
    refine lv_iconst (v := -1) hx hb dX2_at_25 (by decide) ?_
    exact B26 σ (-1) hF H locs ls hP hS (lv_sub hl [] rfl)
  unfold mp_X2_at at hF
  revert hP hS
  generalize hLo : ([] : List Loc) = locs
  suffices h9 : ∀ (H : Heap) (locs : List Loc), va_P D vwCl (sm_wX σ α) H → va_S A s.heap H locs → W p l e (headSpec wp_X2_at { frames := 0, cells := 0, slots := 0, locals := 0 }).room s m ([.ref (α.1 2), .int p1] : List Value).toArray below meth c H locs 0 0 (MQ below (va_Qi K (sm_B sm_wX D α) A) ([.ref (α.1 2), .int p1] : List Value).toArray s 0 0 A) (F0 m 0 ls []) from fun hP hS => h9 s.heap locs hP hS
  intro H locs hP hS
  refine lv_iload_n hx hb dX2_at_0 rfl (lv_at hl 1 rfl) ?_
  refine lv_if_lt (tgt := 25) hx hb dX2_at_1 (by decide) (fun h1 => ?_) (fun h1 => ?_)
  · replace hF := hF.1 h1
    exact B25 σ hF H locs ls hP hS (lv_sub hl [] rfl)
  · replace hF := hF.2 h1
    refine lv_iload_n hx hb dX2_at_4 rfl (lv_at hl 1 rfl) ?_
    refine lv_aload_n hx hb dX2_at_5 rfl (lv_at hl 0 rfl) ?_
    refine va_get (D := D) (ci := 2) (v := .int (σ.1 14)) (C := RX2) (T := TX2) (N := 6) hx hb hts in_X2 hown hK hP 2 (sm_gX2 σ α) rfl 4 (by decide) k_0 (fun _ h9 => h9) rfl dX2_at_6 ?_
    refine lv_icmp_ge (tgt := 25) hx hb dX2_at_9 (by decide) (fun h2 => ?_) (fun h2 => ?_)
    · replace hF := hF.1 h2
      exact B25 σ hF H locs ls hP hS (lv_sub hl [] rfl)
    · replace hF := hF.2 h2
      refine lv_aload_n hx hb dX2_at_12 rfl (lv_at hl 0 rfl) ?_
      refine va_get (D := D) (ci := 2) (v := .ref (α.1 18)) (C := RX2) (T := TX2) (N := 6) hx hb hts in_X2 hown hK hP 2 (sm_gX2 σ α) rfl 2 (by decide) k_1 (fun _ h9 => h9) rfl dX2_at_13 ?_
      refine lv_iload_n hx hb dX2_at_16 rfl (lv_at hl 1 rfl) ?_
      obtain ⟨h3, hF⟩ := hF
      refine va_bald (n := (σ.2.2.1 18)) (f := (σ.2.2.2.1 18)) hx hb hK hP 18 7 (sm_aX18 σ α) (sm_yX18 α) h3 dX2_at_17 ?_
      refine lv_sipush (v := 255) hx hb dX2_at_18 (by decide) ?_
      refine lv_iand hx hb dX2_at_21 ?_
      refine lv_goto (tgt := 26) hx hb dX2_at_22 (by decide) ?_
      exact B26 σ (((σ.2.2.2.1 18) p1.toNatClampNeg) &&& 255) hF H locs ls hP hS (lv_sub hl [] rfl)
theorem dX6_number_0 : decode cX6_number 0 = .ok (.aload_n 0, 1) := by decide +kernel
theorem dX6_number_1 : decode cX6_number 1 = .ok (.getfield 31, 3) := by decide +kernel
theorem dX6_number_4 : decode cX6_number 4 = .ok (.iconst (-1), 1) := by decide +kernel
theorem dX6_number_5 : decode cX6_number 5 = .ok (.if_icmp .eq 5, 3) := by decide +kernel
theorem dX6_number_8 : decode cX6_number 8 = .ok (.iconst 0, 1) := by decide +kernel
theorem dX6_number_9 : decode cX6_number 9 = .ok (.ireturn, 1) := by decide +kernel
theorem dX6_number_10 : decode cX6_number 10 = .ok (.aload_n 0, 1) := by decide +kernel
theorem dX6_number_11 : decode cX6_number 11 = .ok (.getfield 9, 3) := by decide +kernel
theorem dX6_number_14 : decode cX6_number 14 = .ok (.aload_n 0, 1) := by decide +kernel
theorem dX6_number_15 : decode cX6_number 15 = .ok (.getfield 27, 3) := by decide +kernel
theorem dX6_number_18 : decode cX6_number 18 = .ok (.invokevirtual 63, 3) := by decide +kernel
theorem dX6_number_21 : decode cX6_number 21 = .ok (.istore 4, 2) := by decide +kernel
theorem dX6_number_23 : decode cX6_number 23 = .ok (.iload 4, 2) := by decide +kernel
theorem dX6_number_25 : decode cX6_number 25 = .ok (.iconst (-1), 1) := by decide +kernel
theorem dX6_number_26 : decode cX6_number 26 = .ok (.if_icmp .eq 21, 3) := by decide +kernel
theorem dX6_number_29 : decode cX6_number 29 = .ok (.iload 4, 2) := by decide +kernel
theorem dX6_number_31 : decode cX6_number 31 = .ok (.iload_n 1, 1) := by decide +kernel
theorem dX6_number_32 : decode cX6_number 32 = .ok (.if_icmp .lt 9, 3) := by decide +kernel
theorem dX6_number_35 : decode cX6_number 35 = .ok (.iload 4, 2) := by decide +kernel
theorem dX6_number_37 : decode cX6_number 37 = .ok (.iload_n 2, 1) := by decide +kernel
theorem dX6_number_38 : decode cX6_number 38 = .ok (.if_icmp .le 19, 3) := by decide +kernel
theorem dX6_number_41 : decode cX6_number 41 = .ok (.iload 4, 2) := by decide +kernel
theorem dX6_number_43 : decode cX6_number 43 = .ok (.iload_n 3, 1) := by decide +kernel
theorem dX6_number_44 : decode cX6_number 44 = .ok (.if_icmp .eq 13, 3) := by decide +kernel
theorem dX6_number_47 : decode cX6_number 47 = .ok (.aload_n 0, 1) := by decide +kernel
theorem dX6_number_48 : decode cX6_number 48 = .ok (.aload_n 0, 1) := by decide +kernel
theorem dX6_number_49 : decode cX6_number 49 = .ok (.getfield 27, 3) := by decide +kernel
theorem dX6_number_52 : decode cX6_number 52 = .ok (.putfield 31, 3) := by decide +kernel
theorem dX6_number_55 : decode cX6_number 55 = .ok (.iconst 0, 1) := by decide +kernel
theorem dX6_number_56 : decode cX6_number 56 = .ok (.ireturn, 1) := by decide +kernel
theorem dX6_number_57 : decode cX6_number 57 = .ok (.aload_n 0, 1) := by decide +kernel
theorem dX6_number_58 : decode cX6_number 58 = .ok (.dup, 1) := by decide +kernel
theorem dX6_number_59 : decode cX6_number 59 = .ok (.getfield 27, 3) := by decide +kernel
theorem dX6_number_62 : decode cX6_number 62 = .ok (.iconst 1, 1) := by decide +kernel
theorem dX6_number_63 : decode cX6_number 63 = .ok (.iadd, 1) := by decide +kernel
theorem dX6_number_64 : decode cX6_number 64 = .ok (.putfield 27, 3) := by decide +kernel
theorem dX6_number_67 : decode cX6_number 67 = .ok (.iload 4, 2) := by decide +kernel
theorem dX6_number_69 : decode cX6_number 69 = .ok (.ireturn, 1) := by decide +kernel
def mp_X6_number_57 (K : Int32 → sm_S → Prop) (σ : sm_S) (x4 : Int32) : Prop := ∀ σ1 : sm_S, σ1 = sm_i σ 20 ((σ.1 20) + 1) → K x4 σ1
def mp_X6_number_47 (K : Int32 → sm_S → Prop) (σ : sm_S)  : Prop := ∀ σ2 : sm_S, σ2 = sm_i σ 21 (σ.1 20) → K 0 σ2
def mp_X6_number_41 (K : Int32 → sm_S → Prop) (σ : sm_S) (x3 : Int32) (x4 : Int32) : Prop := ((x4 = x3 → (mp_X6_number_57 K σ x4)) ∧ (¬ x4 = x3 → (mp_X6_number_47 K σ)))
/-- SteadyMachine$Reader.number(III)I -/
def mp_X6_number (σ : sm_S) (p1 : Int32) (p2 : Int32) (p3 : Int32) (K : Int32 → sm_S → Prop) : Prop := (((σ.1 21) = (-1) → (mp_X2_at σ (σ.1 20) (fun r6 σ5 => ((r6 = (-1) → (mp_X6_number_47 K σ5)) ∧ (¬ r6 = (-1) → ((r6 < p1 → (mp_X6_number_41 K σ5 p3 r6)) ∧ (¬ r6 < p1 → ((r6 ≤ p2 → (mp_X6_number_57 K σ5 r6)) ∧ (¬ r6 ≤ p2 → (mp_X6_number_41 K σ5 p3 r6)))))))))) ∧ (¬ (σ.1 21) = (-1) → (K 0 σ)))
def wp_X6_number : List Cond := .code yX6_number cX6_number 5 (some .int) :: (([.fieldLink RX6 27 "SteadyMachine$Reader" "at" "I", .fieldLink RX6 31 "SteadyMachine$Reader" "wrong" "I", .fieldLink RX6 9 "SteadyMachine$Reader" "image" "LSteadyMachine$Image;"] ++ (wsV RX6 63 RX2 yX2_at wp_X2_at)) ++ wsX60)
theorem wg_X6_number_X2_at_63 : GoodIn wp_X6_number (wsV RX6 63 RX2 yX2_at wp_X2_at) := goodIn_sub (fun w h => List.mem_cons_of_mem _ (List.mem_append_left _ (List.mem_append_right _ h))) (by decide +kernel)
theorem wi_X6_number_X6 : ∀ w ∈ wsX60, w ∈ wp_X6_number := fun w h => List.mem_cons_of_mem _ (List.mem_append_right _ h)
set_option maxHeartbeats 4000000 in
set_option maxRecDepth 100000 in
theorem c_X6_number (l : Launch) (D : va_G) (sz t0 : Nat) (σ : sm_S) (α : sm_A) (p1 : Int32) (p2 : Int32) (p3 : Int32) (K : Int32 → sm_S → Prop) (hF : mp_X6_number σ p1 p2 p3 K) : Met l yX6_number wp_X6_number { frames := 1, cells := 0, slots := 0, locals := 21 } (sm_P sm_wX sm_tX 38 D sz t0 σ α [.ref (α.1 6), .int p1, .int p2, .int p3]) (va_Qi K (sm_B sm_wX D α) (sm_a α 38 sz)) 0 0 (sm_a α 38 sz) := by
  refine Met.ofW (cc := cX6_number) (maxL := 5) (ret := (some .int)) (by decide) rfl ?_
  intro p e s m args below meth c s₁ B hml hv
  obtain ⟨rfl, hsz, hP, hK, hD0, hE⟩ := hv
  have hx := B.exec
  have hb := B.bytes
  have hr := B.returns
  have hts := atoms_spec (ws := wp_X6_number) B.pre
  have hown : s.vm.findClass RX6 = some m.cls := findClass_of_methodNamed B.named
  have hlocks := B.notSynchronized
  subst hsz
  have hD : sm_D (sm_a α 38 s.heap.size) α 38 := hD0.own
  have hA : ∀ q : Nat, s.heap.size ≤ q → sm_a α 38 s.heap.size q := fun q h => Or.inr h
  generalize hAe : sm_a α 38 s.heap.size = A at hD hA hE ⊢
  have hS : va_S A s.heap s.heap [] := va_S.rf
  have in_X6 : ∀ w ∈ wsX60, w ∈ wp_X6_number := wi_X6_number_X6
  have k_0 := hts (.fieldLink RX6 27 "SteadyMachine$Reader" "at" "I") (by decide +kernel)
  have k_1 := hts (.fieldLink RX6 31 "SteadyMachine$Reader" "wrong" "I") (by decide +kernel)
  have k_2 := hts (.fieldLink RX6 9 "SteadyMachine$Reader" "image" "LSteadyMachine$Image;") (by decide +kernel)
  have hl := lv_entry ([.ref (α.1 6), .int p1, .int p2, .int p3]) (n := 5) (Nat.le_of_ble_eq_true rfl)
  rw [lg_entry_eq]
  generalize (lg_sl ([.ref (α.1 6), .int p1, .int p2, .int p3]) ++ List.replicate (5 - (lg_sl ([.ref (α.1 6), .int p1, .int p2, .int p3])).length) Slot.unset).toArray = ls at hl ⊢
  have hl : lv_has ls 5 [(0, .ref (α.1 6)), (1, .int p1), (2, .int p2), (3, .int p3)] := hl
  have B57 : ∀ (σ : sm_S) (x4 : Int32), mp_X6_number_57 K σ x4 → sm_J p l e (headSpec wp_X6_number { frames := 1, cells := 0, slots := 0, locals := 21 }).room s m ([.ref (α.1 6), .int p1, .int p2, .int p3] : List Value).toArray below meth c (MQ below (va_Qi K (sm_B sm_wX D α) A) ([.ref (α.1 6), .int p1, .int p2, .int p3] : List Value).toArray s 0 0 A) D A 5 (sm_wX σ α) 57 [(0, .ref (α.1 6)), (4, .int x4)] [] := by
    intro σ x4 hF H locs ls hP hS hl
    unfold mp_X6_number_57 at hF
    refine lv_aload_n hx hb dX6_number_57 rfl (lv_at hl 0 rfl) ?_
    refine lv_dup hx hb dX6_number_58 rfl ?_
    refine va_get (D := D) (ci := 6) (v := .int (σ.1 20)) (C := RX6) (T := TX6) (N := 5) hx hb hts in_X6 hown hK hP 6 (sm_gX6 σ α) rfl 3 (by decide) k_0 (fun _ h9 => h9) rfl dX6_number_59 ?_
    refine lv_iconst (v := 1) hx hb dX6_number_62 (by decide) ?_
    refine lv_iadd hx hb dX6_number_63 ?_
    refine va_put (D := D) (ci := 6) (v := .int ((σ.1 20) + 1)) (ty := .int) (C := RX6) (T := TX6) (N := 5) hx hb hts in_X6 tyX6 tyX6_ok nmX6 hown hK hP (hD.to (sm_wX_m _ _)) hS 6 (sm_gX6 σ α) rfl 3 (by decide) k_0 (fun _ h9 => h9) rfl (by decide +kernel) rfl rfl (Nat.le_of_ble_eq_true rfl) dX6_number_64 (fun H locs hP _ hS => ?_)
    rw [sm_iX20] at hP
    obtain ⟨σ1, eσ1⟩ : ∃ x : sm_S, x = sm_i σ 20 ((σ.1 20) + 1) := ⟨_, rfl⟩
    replace hF := hF σ1 eσ1
    rw [← eσ1] at hP
    refine lv_iload hx hb dX6_number_67 (lv_at hl 1 rfl) ?_
    exact W.iret (v := x4) hx hb hr (fun t ht hW => ⟨⟨x4, σ1, rfl, hF, (by unfold sm_B; rw [ht]; exact hP)⟩, hS.F ht⟩) hS.2.2 dX6_number_69
  have B47 : ∀ (σ : sm_S), mp_X6_number_47 K σ → sm_J p l e (headSpec wp_X6_number { frames := 1, cells := 0, slots := 0, locals := 21 }).room s m ([.ref (α.1 6), .int p1, .int p2, .int p3] : List Value).toArray below meth c (MQ below (va_Qi K (sm_B sm_wX D α) A) ([.ref (α.1 6), .int p1, .int p2, .int p3] : List Value).toArray s 0 0 A) D A 5 (sm_wX σ α) 47 [(0, .ref (α.1 6))] [] := by
    intro σ hF H locs ls hP hS hl
    unfold mp_X6_number_47 at hF
    refine lv_aload_n hx hb dX6_number_47 rfl (lv_at hl 0 rfl) ?_
    refine lv_aload_n hx hb dX6_number_48 rfl (lv_at hl 0 rfl) ?_
    refine va_get (D := D) (ci := 6) (v := .int (σ.1 20)) (C := RX6) (T := TX6) (N := 5) hx hb hts in_X6 hown hK hP 6 (sm_gX6 σ α) rfl 3 (by decide) k_0 (fun _ h9 => h9) rfl dX6_number_49 ?_
    refine va_put (D := D) (ci := 6) (v := .int (σ.1 20)) (ty := .int) (C := RX6) (T := TX6) (N := 5) hx hb hts in_X6 tyX6 tyX6_ok nmX6 hown hK hP (hD.to (sm_wX_m _ _)) hS 6 (sm_gX6 σ α) rfl 4 (by decide) k_1 (fun _ h9 => h9) rfl (by decide +kernel) rfl rfl (Nat.le_of_ble_eq_true rfl) dX6_number_52 (fun H locs hP _ hS => ?_)
    rw [sm_iX21] at hP
    obtain ⟨σ2, eσ2⟩ : ∃ x : sm_S, x = sm_i σ 21 (σ.1 20) := ⟨_, rfl⟩
    replace hF := hF σ2 eσ2
    rw [← eσ2] at hP
    refine lv_iconst (v := 0) hx hb dX6_number_55 (by decide) ?_
    exact W.iret (v := 0) hx hb hr (fun t ht hW => ⟨⟨0, σ2, rfl, hF, (by unfold sm_B; rw [ht]; exact hP)⟩, hS.F ht⟩) hS.2.2 dX6_number_56
  have B41 : ∀ (σ : sm_S) (x3 : Int32) (x4 : Int32), mp_X6_number_41 K σ x3 x4 → sm_J p l e (headSpec wp_X6_number { frames := 1, cells := 0, slots := 0, locals := 21 }).room s m ([.ref (α.1 6), .int p1, .int p2, .int p3] : List Value).toArray below meth c (MQ below (va_Qi K (sm_B sm_wX D α) A) ([.ref (α.1 6), .int p1, .int p2, .int p3] : List Value).toArray s 0 0 A) D A 5 (sm_wX σ α) 41 [(0, .ref (α.1 6)), (3, .int x3), (4, .int x4)] [] := by
    intro σ x3 x4 hF H locs ls hP hS hl
    unfold mp_X6_number_41 at hF
    refine lv_iload hx hb dX6_number_41 (lv_at hl 2 rfl) ?_
    refine lv_iload_n hx hb dX6_number_43 rfl (lv_at hl 1 rfl) ?_
    refine lv_icmp_eq (tgt := 57) hx hb dX6_number_44 (by decide) (fun h3 => ?_) (fun h3 => ?_)
    · replace hF := hF.1 h3
      exact B57 σ x4 hF H locs ls hP hS (lv_sub hl [0, 2] rfl)
    · replace hF := hF.2 h3
      exact B47 σ hF H locs ls hP hS (lv_sub hl [0] rfl)
  unfold mp_X6_number at hF
  revert hP hS
  generalize hLo : ([] : List Loc) = locs
  suffices h9 : ∀ (H : Heap) (locs : List Loc), va_P D vwCl (sm_wX σ α) H → va_S A s.heap H locs → W p l e (headSpec wp_X6_number { frames := 1, cells := 0, slots := 0, locals := 21 }).room s m ([.ref (α.1 6), .int p1, .int p2, .int p3] : List Value).toArray below meth c H locs 0 0 (MQ below (va_Qi K (sm_B sm_wX D α) A) ([.ref (α.1 6), .int p1, .int p2, .int p3] : List Value).toArray s 0 0 A) (F0 m 0 ls []) from fun hP hS => h9 s.heap locs hP hS
  intro H locs hP hS
  refine lv_aload_n hx hb dX6_number_0 rfl (lv_at hl 0 rfl) ?_
  refine va_get (D := D) (ci := 6) (v := .int (σ.1 21)) (C := RX6) (T := TX6) (N := 5) hx hb hts in_X6 hown hK hP 6 (sm_gX6 σ α) rfl 4 (by decide) k_1 (fun _ h9 => h9) rfl dX6_number_1 ?_
  refine lv_iconst (v := -1) hx hb dX6_number_4 (by decide) ?_
  refine lv_icmp_eq (tgt := 10) hx hb dX6_number_5 (by decide) (fun h4 => ?_) (fun h4 => ?_)
  · replace hF := hF.1 h4
    refine lv_aload_n hx hb dX6_number_10 rfl (lv_at hl 0 rfl) ?_
    refine va_get (D := D) (ci := 6) (v := .ref (α.1 2)) (C := RX6) (T := TX6) (N := 5) hx hb hts in_X6 hown hK hP 6 (sm_gX6 σ α) rfl 0 (by decide) k_2 (fun _ h9 => h9) rfl dX6_number_11 ?_
    refine lv_aload_n hx hb dX6_number_14 rfl (lv_at hl 0 rfl) ?_
    refine va_get (D := D) (ci := 6) (v := .int (σ.1 20)) (C := RX6) (T := TX6) (N := 5) hx hb hts in_X6 hown hK hP 6 (sm_gX6 σ α) rfl 3 (by decide) k_0 (fun _ h9 => h9) rfl dX6_number_15 ?_
    refine sm_vi (As := [.int (σ.1 20)]) (rest := []) hP hK hD hE hS hA ⟨hx, hb, hml, hown, hts⟩ hl.1 (c_X2_at l D H.size t0 σ α (σ.1 20) _ hF) (cwV 1 hts wg_X6_number_X2_at_63 rfl rfl rfl (by decide +kernel) ⟨Nat.le_of_ble_eq_true rfl, Nat.le_of_ble_eq_true rfl⟩) (va_recv hK hP (ci := 2) (q0 := 2) rfl (sm_gX2 σ α)) rfl rfl (Nat.le_of_ble_eq_true rfl) dX6_number_18 ⟨Nat.zero_le _, Nat.zero_le _⟩ (fun r6 σ5 H locs hF hP hS => ?_)
    refine lv_istore (lv' := [(4, .int r6), (0, .ref (α.1 6)), (1, .int p1), (2, .int p2), (3, .int p3)]) hx hb dX6_number_21 hl (by decide) rfl (fun ls hl => ?_)
    refine lv_iload hx hb dX6_number_23 (lv_at hl 0 rfl) ?_
    refine lv_iconst (v := -1) hx hb dX6_number_25 (by decide) ?_
    refine lv_icmp_eq (tgt := 47) hx hb dX6_number_26 (by decide) (fun h7 => ?_) (fun h7 => ?_)
    · replace hF := hF.1 h7
      exact B47 σ5 hF H locs ls hP hS (lv_sub hl [1] rfl)
    · replace hF := hF.2 h7
      refine lv_iload hx hb dX6_number_29 (lv_at hl 0 rfl) ?_
      refine lv_iload_n hx hb dX6_number_31 rfl (lv_at hl 2 rfl) ?_
      refine lv_icmp_lt (tgt := 41) hx hb dX6_number_32 (by decide) (fun h8 => ?_) (fun h8 => ?_)
      · replace hF := hF.1 h8
        exact B41 σ5 p3 r6 hF H locs ls hP hS (lv_sub hl [1, 4, 0] rfl)
      · replace hF := hF.2 h8
        refine lv_iload hx hb dX6_number_35 (lv_at hl 0 rfl) ?_
        refine lv_iload_n hx hb dX6_number_37 rfl (lv_at hl 3 rfl) ?_
        refine lv_icmp_le (tgt := 57) hx hb dX6_number_38 (by decide) (fun h9 => ?_) (fun h9 => ?_)
        · replace hF := hF.1 h9
          exact B57 σ5 r6 hF H locs ls hP hS (lv_sub hl [1, 0] rfl)
        · replace hF := hF.2 h9
          exact B41 σ5 p3 r6 hF H locs ls hP hS (lv_sub hl [1, 4, 0] rfl)
  · replace hF := hF.2 h4
    refine lv_iconst (v := 0) hx hb dX6_number_8 (by decide) ?_
    exact W.iret (v := 0) hx hb hr (fun t ht hW => ⟨⟨0, σ, rfl, hF, (by unfold sm_B; rw [ht]; exact hP)⟩, hS.F ht⟩) hS.2.2 dX6_number_9
theorem dX6_readFirst_0 : decode cX6_readFirst 0 = .ok (.aload_n 0, 1) := by decide +kernel
theorem dX6_readFirst_1 : decode cX6_readFirst 1 = .ok (.getfield 27, 3) := by decide +kernel
theorem dX6_readFirst_4 : decode cX6_readFirst 4 = .ok (.istore_n 1, 1) := by decide +kernel
theorem dX6_readFirst_5 : decode cX6_readFirst 5 = .ok (.aload_n 0, 1) := by decide +kernel
theorem dX6_readFirst_6 : decode cX6_readFirst 6 = .ok (.iconst 0, 1) := by decide +kernel
theorem dX6_readFirst_7 : decode cX6_readFirst 7 = .ok (.aload_n 0, 1) := by decide +kernel
theorem dX6_readFirst_8 : decode cX6_readFirst 8 = .ok (.getfield 26, 3) := by decide +kernel
theorem dX6_readFirst_11 : decode cX6_readFirst 11 = .ok (.getfield 51, 3) := by decide +kernel
theorem dX6_readFirst_14 : decode cX6_readFirst 14 = .ok (.iconst 1, 1) := by decide +kernel
theorem dX6_readFirst_15 : decode cX6_readFirst 15 = .ok (.isub, 1) := by decide +kernel
theorem dX6_readFirst_16 : decode cX6_readFirst 16 = .ok (.iconst (-1), 1) := by decide +kernel
theorem dX6_readFirst_17 : decode cX6_readFirst 17 = .ok (.invokevirtual 34, 3) := by decide +kernel
theorem dX6_readFirst_20 : decode cX6_readFirst 20 = .ok (.istore_n 2, 1) := by decide +kernel
theorem dX6_readFirst_21 : decode cX6_readFirst 21 = .ok (.aload_n 0, 1) := by decide +kernel
theorem dX6_readFirst_22 : decode cX6_readFirst 22 = .ok (.getfield 31, 3) := by decide +kernel
theorem dX6_readFirst_25 : decode cX6_readFirst 25 = .ok (.iconst (-1), 1) := by decide +kernel
theorem dX6_readFirst_26 : decode cX6_readFirst 26 = .ok (.if_icmp .ne 35, 3) := by decide +kernel
theorem dX6_readFirst_29 : decode cX6_readFirst 29 = .ok (.aload_n 0, 1) := by decide +kernel
theorem dX6_readFirst_30 : decode cX6_readFirst 30 = .ok (.getfield 26, 3) := by decide +kernel
theorem dX6_readFirst_33 : decode cX6_readFirst 33 = .ok (.getfield 88, 3) := by decide +kernel
theorem dX6_readFirst_36 : decode cX6_readFirst 36 = .ok (.iload_n 2, 1) := by decide +kernel
theorem dX6_readFirst_37 : decode cX6_readFirst 37 = .ok (.iaload, 1) := by decide +kernel
theorem dX6_readFirst_38 : decode cX6_readFirst 38 = .ok (.ifCond .ne 18, 3) := by decide +kernel
theorem dX6_readFirst_41 : decode cX6_readFirst 41 = .ok (.aload_n 0, 1) := by decide +kernel
theorem dX6_readFirst_42 : decode cX6_readFirst 42 = .ok (.getfield 26, 3) := by decide +kernel
theorem dX6_readFirst_45 : decode cX6_readFirst 45 = .ok (.getfield 94, 3) := by decide +kernel
theorem dX6_readFirst_48 : decode cX6_readFirst 48 = .ok (.iload_n 2, 1) := by decide +kernel
theorem dX6_readFirst_49 : decode cX6_readFirst 49 = .ok (.iaload, 1) := by decide +kernel
theorem dX6_readFirst_50 : decode cX6_readFirst 50 = .ok (.sipush 255, 3) := by decide +kernel
theorem dX6_readFirst_53 : decode cX6_readFirst 53 = .ok (.if_icmp .eq 8, 3) := by decide +kernel
theorem dX6_readFirst_56 : decode cX6_readFirst 56 = .ok (.aload_n 0, 1) := by decide +kernel
theorem dX6_readFirst_57 : decode cX6_readFirst 57 = .ok (.iload_n 1, 1) := by decide +kernel
theorem dX6_readFirst_58 : decode cX6_readFirst 58 = .ok (.putfield 31, 3) := by decide +kernel
theorem dX6_readFirst_61 : decode cX6_readFirst 61 = .ok (.aload_n 0, 1) := by decide +kernel
theorem dX6_readFirst_62 : decode cX6_readFirst 62 = .ok (.getfield 26, 3) := by decide +kernel
theorem dX6_readFirst_65 : decode cX6_readFirst 65 = .ok (.iload_n 2, 1) := by decide +kernel
theorem dX6_readFirst_66 : decode cX6_readFirst 66 = .ok (.putfield 141, 3) := by decide +kernel
theorem dX6_readFirst_69 : decode cX6_readFirst 69 = .ok (.return_, 1) := by decide +kernel
def mp_X6_readFirst_61 (K : sm_S → Prop) (σ : sm_S) (x2 : Int32) : Prop := ∀ σ1 : sm_S, σ1 = sm_i σ 17 x2 → K σ1
def mp_X6_readFirst_56 (K : sm_S → Prop) (σ : sm_S) (x1 : Int32) (x2 : Int32) : Prop := ∀ σ2 : sm_S, σ2 = sm_i σ 21 x1 → mp_X6_readFirst_61 K σ2 x2
/-- SteadyMachine$Reader.readFirst()V -/
def mp_X6_readFirst (σ : sm_S)  (K : sm_S → Prop) : Prop := ∀ v3 : Int32, v3 = (σ.1 20) → mp_X6_number σ 0 ((σ.1 16) - 1) (-1) (fun r5 σ4 => ((¬ (σ4.1 21) = (-1) → (mp_X6_readFirst_61 K σ4 r5)) ∧ ((σ4.1 21) = (-1) → (vp_in r5 (σ4.2.2.1 21) ∧ ((¬ ((σ4.2.2.2.1 21) r5.toNatClampNeg) = 0 → (mp_X6_readFirst_56 K σ4 v3 r5)) ∧ (((σ4.2.2.2.1 21) r5.toNatClampNeg) = 0 → (vp_in r5 (σ4.2.2.1 23) ∧ ((((σ4.2.2.2.1 23) r5.toNatClampNeg) = 255 → (mp_X6_readFirst_61 K σ4 r5)) ∧ (¬ ((σ4.2.2.2.1 23) r5.toNatClampNeg) = 255 → (mp_X6_readFirst_56 K σ4 v3 r5))))))))))
def wp_X6_readFirst : List Cond := .code yX6_readFirst cX6_readFirst 3 none :: ((([.fieldLink RX6 26 "SteadyMachine$Reader" "methods" "LSteadyMachine$Methods;", .fieldLink RX6 141 "SteadyMachine$Methods" "first" "I", .fieldLink RX6 31 "SteadyMachine$Reader" "wrong" "I", .fieldLink RX6 27 "SteadyMachine$Reader" "at" "I", .fieldLink RX6 51 "SteadyMachine$Methods" "many" "I", .fieldLink RX6 88 "SteadyMachine$Methods" "params" "[I", .fieldLink RX6 94 "SteadyMachine$Methods" "gives" "[I"] ++ (wsV RX6 34 RX6 yX6_number wp_X6_number)) ++ wsX40) ++ wsX60)
theorem wg_X6_readFirst_X6_number_34 : GoodIn wp_X6_readFirst (wsV RX6 34 RX6 yX6_number wp_X6_number) := goodIn_sub (fun w h => List.mem_cons_of_mem _ (List.mem_append_left _ (List.mem_append_left _ (List.mem_append_right _ h)))) (by decide +kernel)
theorem wi_X6_readFirst_X4 : ∀ w ∈ wsX40, w ∈ wp_X6_readFirst := fun w h => List.mem_cons_of_mem _ (List.mem_append_left _ (List.mem_append_right _ h))
theorem wi_X6_readFirst_X6 : ∀ w ∈ wsX60, w ∈ wp_X6_readFirst := fun w h => List.mem_cons_of_mem _ (List.mem_append_right _ h)
set_option maxHeartbeats 4000000 in
set_option maxRecDepth 100000 in
theorem c_X6_readFirst (l : Launch) (D : va_G) (sz t0 : Nat) (σ : sm_S) (α : sm_A) (K : sm_S → Prop) (hF : mp_X6_readFirst σ K) : Met l yX6_readFirst wp_X6_readFirst { frames := 2, cells := 0, slots := 0, locals := 45 } (sm_P sm_wX sm_tX 38 D sz t0 σ α [.ref (α.1 6)]) (va_Qv K (sm_B sm_wX D α) (sm_a α 38 sz)) 0 0 (sm_a α 38 sz) := by
  refine Met.ofW (cc := cX6_readFirst) (maxL := 3) (ret := none) (by decide) rfl ?_
  intro p e s m args below meth c s₁ B hml hv
  obtain ⟨rfl, hsz, hP, hK, hD0, hE⟩ := hv
  have hx := B.exec
  have hb := B.bytes
  have hr := B.returns
  have hts := atoms_spec (ws := wp_X6_readFirst) B.pre
  have hown : s.vm.findClass RX6 = some m.cls := findClass_of_methodNamed B.named
  have hlocks := B.notSynchronized
  subst hsz
  have hD : sm_D (sm_a α 38 s.heap.size) α 38 := hD0.own
  have hA : ∀ q : Nat, s.heap.size ≤ q → sm_a α 38 s.heap.size q := fun q h => Or.inr h
  generalize hAe : sm_a α 38 s.heap.size = A at hD hA hE ⊢
  have hS : va_S A s.heap s.heap [] := va_S.rf
  have in_X4 : ∀ w ∈ wsX40, w ∈ wp_X6_readFirst := wi_X6_readFirst_X4
  have in_X6 : ∀ w ∈ wsX60, w ∈ wp_X6_readFirst := wi_X6_readFirst_X6
  have k_0 := hts (.fieldLink RX6 26 "SteadyMachine$Reader" "methods" "LSteadyMachine$Methods;") (by decide +kernel)
  have k_1 := hts (.fieldLink RX6 141 "SteadyMachine$Methods" "first" "I") (by decide +kernel)
  have k_2 := hts (.fieldLink RX6 31 "SteadyMachine$Reader" "wrong" "I") (by decide +kernel)
  have k_3 := hts (.fieldLink RX6 27 "SteadyMachine$Reader" "at" "I") (by decide +kernel)
  have k_4 := hts (.fieldLink RX6 51 "SteadyMachine$Methods" "many" "I") (by decide +kernel)
  have k_5 := hts (.fieldLink RX6 88 "SteadyMachine$Methods" "params" "[I") (by decide +kernel)
  have k_6 := hts (.fieldLink RX6 94 "SteadyMachine$Methods" "gives" "[I") (by decide +kernel)
  have hl := lv_entry ([.ref (α.1 6)]) (n := 3) (Nat.le_of_ble_eq_true rfl)
  rw [lg_entry_eq]
  generalize (lg_sl ([.ref (α.1 6)]) ++ List.replicate (3 - (lg_sl ([.ref (α.1 6)])).length) Slot.unset).toArray = ls at hl ⊢
  have hl : lv_has ls 3 [(0, .ref (α.1 6))] := hl
  have B61 : ∀ (σ : sm_S) (x2 : Int32), mp_X6_readFirst_61 K σ x2 → sm_J p l e (headSpec wp_X6_readFirst { frames := 2, cells := 0, slots := 0, locals := 45 }).room s m ([.ref (α.1 6)] : List Value).toArray below meth c (MQ below (va_Qv K (sm_B sm_wX D α) A) ([.ref (α.1 6)] : List Value).toArray s 0 0 A) D A 3 (sm_wX σ α) 61 [(0, .ref (α.1 6)), (2, .int x2)] [] := by
    intro σ x2 hF H locs ls hP hS hl
    unfold mp_X6_readFirst_61 at hF
    refine lv_aload_n hx hb dX6_readFirst_61 rfl (lv_at hl 0 rfl) ?_
    refine va_get (D := D) (ci := 6) (v := .ref (α.1 4)) (C := RX6) (T := TX6) (N := 5) hx hb hts in_X6 hown hK hP 6 (sm_gX6 σ α) rfl 2 (by decide) k_0 (fun _ h9 => h9) rfl dX6_readFirst_62 ?_
    refine lv_iload_n hx hb dX6_readFirst_65 rfl (lv_at hl 1 rfl) ?_
    refine va_put (D := D) (ci := 4) (v := .int x2) (ty := .int) (C := RX4) (T := TX4) (N := 12) hx hb hts in_X4 tyX4 tyX4_ok nmX4 hown hK hP (hD.to (sm_wX_m _ _)) hS 4 (sm_gX4 σ α) rfl 1 (by decide) k_1 (fun _ h9 => h9) rfl (by decide +kernel) rfl rfl (Nat.le_of_ble_eq_true rfl) dX6_readFirst_66 (fun H locs hP _ hS => ?_)
    rw [sm_iX17] at hP
    obtain ⟨σ1, eσ1⟩ : ∃ x : sm_S, x = sm_i σ 17 x2 := ⟨_, rfl⟩
    replace hF := hF σ1 eσ1
    rw [← eσ1] at hP
    exact W.vret hx hb hr (fun t ht hW => ⟨⟨σ1, rfl, hF, (by unfold sm_B; rw [ht]; exact hP)⟩, hS.F ht⟩) hS.2.2 dX6_readFirst_69
  have B56 : ∀ (σ : sm_S) (x1 : Int32) (x2 : Int32), mp_X6_readFirst_56 K σ x1 x2 → sm_J p l e (headSpec wp_X6_readFirst { frames := 2, cells := 0, slots := 0, locals := 45 }).room s m ([.ref (α.1 6)] : List Value).toArray below meth c (MQ below (va_Qv K (sm_B sm_wX D α) A) ([.ref (α.1 6)] : List Value).toArray s 0 0 A) D A 3 (sm_wX σ α) 56 [(0, .ref (α.1 6)), (1, .int x1), (2, .int x2)] [] := by
    intro σ x1 x2 hF H locs ls hP hS hl
    unfold mp_X6_readFirst_56 at hF
    refine lv_aload_n hx hb dX6_readFirst_56 rfl (lv_at hl 0 rfl) ?_
    refine lv_iload_n hx hb dX6_readFirst_57 rfl (lv_at hl 1 rfl) ?_
    refine va_put (D := D) (ci := 6) (v := .int x1) (ty := .int) (C := RX6) (T := TX6) (N := 5) hx hb hts in_X6 tyX6 tyX6_ok nmX6 hown hK hP (hD.to (sm_wX_m _ _)) hS 6 (sm_gX6 σ α) rfl 4 (by decide) k_2 (fun _ h9 => h9) rfl (by decide +kernel) rfl rfl (Nat.le_of_ble_eq_true rfl) dX6_readFirst_58 (fun H locs hP _ hS => ?_)
    rw [sm_iX21] at hP
    obtain ⟨σ2, eσ2⟩ : ∃ x : sm_S, x = sm_i σ 21 x1 := ⟨_, rfl⟩
    replace hF := hF σ2 eσ2
    rw [← eσ2] at hP
    exact B61 σ2 x2 hF H locs ls hP hS (lv_sub hl [0, 2] rfl)
  unfold mp_X6_readFirst at hF
  revert hP hS
  generalize hLo : ([] : List Loc) = locs
  suffices h9 : ∀ (H : Heap) (locs : List Loc), va_P D vwCl (sm_wX σ α) H → va_S A s.heap H locs → W p l e (headSpec wp_X6_readFirst { frames := 2, cells := 0, slots := 0, locals := 45 }).room s m ([.ref (α.1 6)] : List Value).toArray below meth c H locs 0 0 (MQ below (va_Qv K (sm_B sm_wX D α) A) ([.ref (α.1 6)] : List Value).toArray s 0 0 A) (F0 m 0 ls []) from fun hP hS => h9 s.heap locs hP hS
  intro H locs hP hS
  refine lv_aload_n hx hb dX6_readFirst_0 rfl (lv_at hl 0 rfl) ?_
  refine va_get (D := D) (ci := 6) (v := .int (σ.1 20)) (C := RX6) (T := TX6) (N := 5) hx hb hts in_X6 hown hK hP 6 (sm_gX6 σ α) rfl 3 (by decide) k_3 (fun _ h9 => h9) rfl dX6_readFirst_1 ?_
  refine lv_topi (fun v3 ev3 => ?_)
  replace hF := hF v3 ev3
  refine lv_istore_n (lv' := [(1, .int v3), (0, .ref (α.1 6))]) hx hb dX6_readFirst_4 rfl hl (by decide) rfl (fun ls hl => ?_)
  refine lv_aload_n hx hb dX6_readFirst_5 rfl (lv_at hl 1 rfl) ?_
  refine lv_iconst (v := 0) hx hb dX6_readFirst_6 (by decide) ?_
  refine lv_aload_n hx hb dX6_readFirst_7 rfl (lv_at hl 1 rfl) ?_
  refine va_get (D := D) (ci := 6) (v := .ref (α.1 4)) (C := RX6) (T := TX6) (N := 5) hx hb hts in_X6 hown hK hP 6 (sm_gX6 σ α) rfl 2 (by decide) k_0 (fun _ h9 => h9) rfl dX6_readFirst_8 ?_
  refine va_get (D := D) (ci := 4) (v := .int (σ.1 16)) (C := RX4) (T := TX4) (N := 12) hx hb hts in_X4 hown hK hP 4 (sm_gX4 σ α) rfl 0 (by decide) k_4 (fun _ h9 => h9) rfl dX6_readFirst_11 ?_
  refine lv_iconst (v := 1) hx hb dX6_readFirst_14 (by decide) ?_
  refine lv_isub hx hb dX6_readFirst_15 ?_
  refine lv_iconst (v := -1) hx hb dX6_readFirst_16 (by decide) ?_
  refine sm_vi (As := [.int 0, .int ((σ.1 16) - 1), .int (-1)]) (rest := []) hP hK hD hE hS hA ⟨hx, hb, hml, hown, hts⟩ hl.1 (c_X6_number l D H.size t0 σ α 0 ((σ.1 16) - 1) (-1) _ hF) (cwV 3 hts wg_X6_readFirst_X6_number_34 rfl rfl rfl (by decide +kernel) ⟨Nat.le_of_ble_eq_true rfl, Nat.le_of_ble_eq_true rfl⟩) (va_recv hK hP (ci := 6) (q0 := 6) rfl (sm_gX6 σ α)) rfl rfl (Nat.le_of_ble_eq_true rfl) dX6_readFirst_17 ⟨Nat.zero_le _, Nat.zero_le _⟩ (fun r5 σ4 H locs hF hP hS => ?_)
  refine lv_istore_n (lv' := [(2, .int r5), (1, .int v3), (0, .ref (α.1 6))]) hx hb dX6_readFirst_20 rfl hl (by decide) rfl (fun ls hl => ?_)
  refine lv_aload_n hx hb dX6_readFirst_21 rfl (lv_at hl 2 rfl) ?_
  refine va_get (D := D) (ci := 6) (v := .int (σ4.1 21)) (C := RX6) (T := TX6) (N := 5) hx hb hts in_X6 hown hK hP 6 (sm_gX6 σ4 α) rfl 4 (by decide) k_2 (fun _ h9 => h9) rfl dX6_readFirst_22 ?_
  refine lv_iconst (v := -1) hx hb dX6_readFirst_25 (by decide) ?_
  refine lv_icmp_ne (tgt := 61) hx hb dX6_readFirst_26 (by decide) (fun h6 => ?_) (fun h6 => ?_)
  · replace hF := hF.1 h6
    exact B61 σ4 r5 hF H locs ls hP hS (lv_sub hl [2, 0] rfl)
  · replace hF := hF.2 h6
    refine lv_aload_n hx hb dX6_readFirst_29 rfl (lv_at hl 2 rfl) ?_
    refine va_get (D := D) (ci := 6) (v := .ref (α.1 4)) (C := RX6) (T := TX6) (N := 5) hx hb hts in_X6 hown hK hP 6 (sm_gX6 σ4 α) rfl 2 (by decide) k_0 (fun _ h9 => h9) rfl dX6_readFirst_30 ?_
    refine va_get (D := D) (ci := 4) (v := .ref (α.1 21)) (C := RX4) (T := TX4) (N := 12) hx hb hts in_X4 hown hK hP 4 (sm_gX4 σ4 α) rfl 3 (by decide) k_5 (fun _ h9 => h9) rfl dX6_readFirst_33 ?_
    refine lv_iload_n hx hb dX6_readFirst_36 rfl (lv_at hl 0 rfl) ?_
    obtain ⟨h7, hF⟩ := hF
    refine va_iald (n := (σ4.2.2.1 21)) (f := (σ4.2.2.2.1 21)) hx hb hK hP 21 10 (sm_aX21 σ4 α) (sm_yX21 α) h7 dX6_readFirst_37 ?_
    refine lv_if_ne (tgt := 56) hx hb dX6_readFirst_38 (by decide) (fun h8 => ?_) (fun h8 => ?_)
    · replace hF := hF.1 h8
      exact B56 σ4 v3 r5 hF H locs ls hP hS (lv_sub hl [2, 1, 0] rfl)
    · replace hF := hF.2 h8
      refine lv_aload_n hx hb dX6_readFirst_41 rfl (lv_at hl 2 rfl) ?_
      refine va_get (D := D) (ci := 6) (v := .ref (α.1 4)) (C := RX6) (T := TX6) (N := 5) hx hb hts in_X6 hown hK hP 6 (sm_gX6 σ4 α) rfl 2 (by decide) k_0 (fun _ h9 => h9) rfl dX6_readFirst_42 ?_
      refine va_get (D := D) (ci := 4) (v := .ref (α.1 23)) (C := RX4) (T := TX4) (N := 12) hx hb hts in_X4 hown hK hP 4 (sm_gX4 σ4 α) rfl 5 (by decide) k_6 (fun _ h9 => h9) rfl dX6_readFirst_45 ?_
      refine lv_iload_n hx hb dX6_readFirst_48 rfl (lv_at hl 0 rfl) ?_
      obtain ⟨h9, hF⟩ := hF
      refine va_iald (n := (σ4.2.2.1 23)) (f := (σ4.2.2.2.1 23)) hx hb hK hP 23 12 (sm_aX23 σ4 α) (sm_yX23 α) h9 dX6_readFirst_49 ?_
      refine lv_sipush (v := 255) hx hb dX6_readFirst_50 (by decide) ?_
      refine lv_icmp_eq (tgt := 61) hx hb dX6_readFirst_53 (by decide) (fun h10 => ?_) (fun h10 => ?_)
      · replace hF := hF.1 h10
        exact B61 σ4 r5 hF H locs ls hP hS (lv_sub hl [2, 0] rfl)
      · replace hF := hF.2 h10
        exact B56 σ4 v3 r5 hF H locs ls hP hS (lv_sub hl [2, 1, 0] rfl)
theorem dX6_firstWrong_0 : decode cX6_firstWrong 0 = .ok (.aload_n 0, 1) := by decide +kernel
theorem dX6_firstWrong_1 : decode cX6_firstWrong 1 = .ok (.iconst 0, 1) := by decide +kernel
theorem dX6_firstWrong_2 : decode cX6_firstWrong 2 = .ok (.putfield 27, 3) := by decide +kernel
theorem dX6_firstWrong_5 : decode cX6_firstWrong 5 = .ok (.aload_n 0, 1) := by decide +kernel
theorem dX6_firstWrong_6 : decode cX6_firstWrong 6 = .ok (.iconst (-1), 1) := by decide +kernel
theorem dX6_firstWrong_7 : decode cX6_firstWrong 7 = .ok (.putfield 31, 3) := by decide +kernel
theorem dX6_firstWrong_10 : decode cX6_firstWrong 10 = .ok (.aload_n 0, 1) := by decide +kernel
theorem dX6_firstWrong_11 : decode cX6_firstWrong 11 = .ok (.getfield 21, 3) := by decide +kernel
theorem dX6_firstWrong_14 : decode cX6_firstWrong 14 = .ok (.aload_n 0, 1) := by decide +kernel
theorem dX6_firstWrong_15 : decode cX6_firstWrong 15 = .ok (.iconst 1, 1) := by decide +kernel
theorem dX6_firstWrong_16 : decode cX6_firstWrong 16 = .ok (.bipush 32, 2) := by decide +kernel
theorem dX6_firstWrong_18 : decode cX6_firstWrong 18 = .ok (.iconst (-1), 1) := by decide +kernel
theorem dX6_firstWrong_19 : decode cX6_firstWrong 19 = .ok (.invokevirtual 34, 3) := by decide +kernel
theorem dX6_firstWrong_22 : decode cX6_firstWrong 22 = .ok (.putfield 38, 3) := by decide +kernel
theorem dX6_firstWrong_25 : decode cX6_firstWrong 25 = .ok (.iconst 0, 1) := by decide +kernel
theorem dX6_firstWrong_26 : decode cX6_firstWrong 26 = .ok (.istore_n 1, 1) := by decide +kernel
theorem dX6_firstWrong_27 : decode cX6_firstWrong 27 = .ok (.iload_n 1, 1) := by decide +kernel
theorem dX6_firstWrong_28 : decode cX6_firstWrong 28 = .ok (.aload_n 0, 1) := by decide +kernel
theorem dX6_firstWrong_29 : decode cX6_firstWrong 29 = .ok (.getfield 21, 3) := by decide +kernel
theorem dX6_firstWrong_32 : decode cX6_firstWrong 32 = .ok (.getfield 38, 3) := by decide +kernel
theorem dX6_firstWrong_35 : decode cX6_firstWrong 35 = .ok (.if_icmp .ge 22, 3) := by decide +kernel
theorem dX6_firstWrong_38 : decode cX6_firstWrong 38 = .ok (.aload_n 0, 1) := by decide +kernel
theorem dX6_firstWrong_39 : decode cX6_firstWrong 39 = .ok (.getfield 31, 3) := by decide +kernel
theorem dX6_firstWrong_42 : decode cX6_firstWrong 42 = .ok (.iconst (-1), 1) := by decide +kernel
theorem dX6_firstWrong_43 : decode cX6_firstWrong 43 = .ok (.if_icmp .ne 14, 3) := by decide +kernel
theorem dX6_firstWrong_46 : decode cX6_firstWrong 46 = .ok (.aload_n 0, 1) := by decide +kernel
theorem dX6_firstWrong_47 : decode cX6_firstWrong 47 = .ok (.iload_n 1, 1) := by decide +kernel
theorem dX6_firstWrong_48 : decode cX6_firstWrong 48 = .ok (.invokevirtual 43, 3) := by decide +kernel
theorem dX6_firstWrong_51 : decode cX6_firstWrong 51 = .ok (.iinc 1 1, 3) := by decide +kernel
theorem dX6_firstWrong_54 : decode cX6_firstWrong 54 = .ok (.goto (-27), 3) := by decide +kernel
theorem dX6_firstWrong_57 : decode cX6_firstWrong 57 = .ok (.iconst 0, 1) := by decide +kernel
theorem dX6_firstWrong_58 : decode cX6_firstWrong 58 = .ok (.istore_n 1, 1) := by decide +kernel
theorem dX6_firstWrong_59 : decode cX6_firstWrong 59 = .ok (.iload_n 1, 1) := by decide +kernel
theorem dX6_firstWrong_60 : decode cX6_firstWrong 60 = .ok (.iconst 5, 1) := by decide +kernel
theorem dX6_firstWrong_61 : decode cX6_firstWrong 61 = .ok (.if_icmp .ge 33, 3) := by decide +kernel
theorem dX6_firstWrong_64 : decode cX6_firstWrong 64 = .ok (.aload_n 0, 1) := by decide +kernel
theorem dX6_firstWrong_65 : decode cX6_firstWrong 65 = .ok (.getfield 21, 3) := by decide +kernel
theorem dX6_firstWrong_68 : decode cX6_firstWrong 68 = .ok (.getfield 47, 3) := by decide +kernel
theorem dX6_firstWrong_71 : decode cX6_firstWrong 71 = .ok (.iload_n 1, 1) := by decide +kernel
theorem dX6_firstWrong_72 : decode cX6_firstWrong 72 = .ok (.aload_n 0, 1) := by decide +kernel
theorem dX6_firstWrong_73 : decode cX6_firstWrong 73 = .ok (.iconst 0, 1) := by decide +kernel
theorem dX6_firstWrong_74 : decode cX6_firstWrong 74 = .ok (.aload_n 0, 1) := by decide +kernel
theorem dX6_firstWrong_75 : decode cX6_firstWrong 75 = .ok (.getfield 21, 3) := by decide +kernel
theorem dX6_firstWrong_78 : decode cX6_firstWrong 78 = .ok (.getfield 38, 3) := by decide +kernel
theorem dX6_firstWrong_81 : decode cX6_firstWrong 81 = .ok (.iconst 1, 1) := by decide +kernel
theorem dX6_firstWrong_82 : decode cX6_firstWrong 82 = .ok (.isub, 1) := by decide +kernel
theorem dX6_firstWrong_83 : decode cX6_firstWrong 83 = .ok (.iconst (-1), 1) := by decide +kernel
theorem dX6_firstWrong_84 : decode cX6_firstWrong 84 = .ok (.invokevirtual 34, 3) := by decide +kernel
theorem dX6_firstWrong_87 : decode cX6_firstWrong 87 = .ok (.iastore, 1) := by decide +kernel
theorem dX6_firstWrong_88 : decode cX6_firstWrong 88 = .ok (.iinc 1 1, 3) := by decide +kernel
theorem dX6_firstWrong_91 : decode cX6_firstWrong 91 = .ok (.goto (-32), 3) := by decide +kernel
theorem dX6_firstWrong_94 : decode cX6_firstWrong 94 = .ok (.aload_n 0, 1) := by decide +kernel
theorem dX6_firstWrong_95 : decode cX6_firstWrong 95 = .ok (.getfield 26, 3) := by decide +kernel
theorem dX6_firstWrong_98 : decode cX6_firstWrong 98 = .ok (.aload_n 0, 1) := by decide +kernel
theorem dX6_firstWrong_99 : decode cX6_firstWrong 99 = .ok (.iconst 1, 1) := by decide +kernel
theorem dX6_firstWrong_100 : decode cX6_firstWrong 100 = .ok (.bipush 64, 2) := by decide +kernel
theorem dX6_firstWrong_102 : decode cX6_firstWrong 102 = .ok (.iconst (-1), 1) := by decide +kernel
theorem dX6_firstWrong_103 : decode cX6_firstWrong 103 = .ok (.invokevirtual 34, 3) := by decide +kernel
theorem dX6_firstWrong_106 : decode cX6_firstWrong 106 = .ok (.putfield 51, 3) := by decide +kernel
theorem dX6_firstWrong_109 : decode cX6_firstWrong 109 = .ok (.iconst 0, 1) := by decide +kernel
theorem dX6_firstWrong_110 : decode cX6_firstWrong 110 = .ok (.istore_n 1, 1) := by decide +kernel
theorem dX6_firstWrong_111 : decode cX6_firstWrong 111 = .ok (.iload_n 1, 1) := by decide +kernel
theorem dX6_firstWrong_112 : decode cX6_firstWrong 112 = .ok (.aload_n 0, 1) := by decide +kernel
theorem dX6_firstWrong_113 : decode cX6_firstWrong 113 = .ok (.getfield 26, 3) := by decide +kernel
theorem dX6_firstWrong_116 : decode cX6_firstWrong 116 = .ok (.getfield 51, 3) := by decide +kernel
theorem dX6_firstWrong_119 : decode cX6_firstWrong 119 = .ok (.if_icmp .ge 22, 3) := by decide +kernel
theorem dX6_firstWrong_122 : decode cX6_firstWrong 122 = .ok (.aload_n 0, 1) := by decide +kernel
theorem dX6_firstWrong_123 : decode cX6_firstWrong 123 = .ok (.getfield 31, 3) := by decide +kernel
theorem dX6_firstWrong_126 : decode cX6_firstWrong 126 = .ok (.iconst (-1), 1) := by decide +kernel
theorem dX6_firstWrong_127 : decode cX6_firstWrong 127 = .ok (.if_icmp .ne 14, 3) := by decide +kernel
theorem dX6_firstWrong_130 : decode cX6_firstWrong 130 = .ok (.aload_n 0, 1) := by decide +kernel
theorem dX6_firstWrong_131 : decode cX6_firstWrong 131 = .ok (.iload_n 1, 1) := by decide +kernel
theorem dX6_firstWrong_132 : decode cX6_firstWrong 132 = .ok (.invokevirtual 54, 3) := by decide +kernel
theorem dX6_firstWrong_135 : decode cX6_firstWrong 135 = .ok (.iinc 1 1, 3) := by decide +kernel
theorem dX6_firstWrong_138 : decode cX6_firstWrong 138 = .ok (.goto (-27), 3) := by decide +kernel
theorem dX6_firstWrong_141 : decode cX6_firstWrong 141 = .ok (.aload_n 0, 1) := by decide +kernel
theorem dX6_firstWrong_142 : decode cX6_firstWrong 142 = .ok (.invokevirtual 57, 3) := by decide +kernel
theorem dX6_firstWrong_145 : decode cX6_firstWrong 145 = .ok (.aload_n 0, 1) := by decide +kernel
theorem dX6_firstWrong_146 : decode cX6_firstWrong 146 = .ok (.getfield 31, 3) := by decide +kernel
theorem dX6_firstWrong_149 : decode cX6_firstWrong 149 = .ok (.iconst (-1), 1) := by decide +kernel
theorem dX6_firstWrong_150 : decode cX6_firstWrong 150 = .ok (.if_icmp .ne 25, 3) := by decide +kernel
theorem dX6_firstWrong_153 : decode cX6_firstWrong 153 = .ok (.aload_n 0, 1) := by decide +kernel
theorem dX6_firstWrong_154 : decode cX6_firstWrong 154 = .ok (.getfield 27, 3) := by decide +kernel
theorem dX6_firstWrong_157 : decode cX6_firstWrong 157 = .ok (.aload_n 0, 1) := by decide +kernel
theorem dX6_firstWrong_158 : decode cX6_firstWrong 158 = .ok (.getfield 9, 3) := by decide +kernel
theorem dX6_firstWrong_161 : decode cX6_firstWrong 161 = .ok (.getfield 60, 3) := by decide +kernel
theorem dX6_firstWrong_164 : decode cX6_firstWrong 164 = .ok (.if_icmp .ge 11, 3) := by decide +kernel
theorem dX6_firstWrong_167 : decode cX6_firstWrong 167 = .ok (.aload_n 0, 1) := by decide +kernel
theorem dX6_firstWrong_168 : decode cX6_firstWrong 168 = .ok (.aload_n 0, 1) := by decide +kernel
theorem dX6_firstWrong_169 : decode cX6_firstWrong 169 = .ok (.getfield 27, 3) := by decide +kernel
theorem dX6_firstWrong_172 : decode cX6_firstWrong 172 = .ok (.putfield 31, 3) := by decide +kernel
theorem dX6_firstWrong_175 : decode cX6_firstWrong 175 = .ok (.aload_n 0, 1) := by decide +kernel
theorem dX6_firstWrong_176 : decode cX6_firstWrong 176 = .ok (.getfield 31, 3) := by decide +kernel
theorem dX6_firstWrong_179 : decode cX6_firstWrong 179 = .ok (.ireturn, 1) := by decide +kernel
def mp_X6_firstWrong_175 (K : Int32 → sm_S → Prop) (σ : sm_S)  : Prop := K (σ.1 21) σ
def mp_X6_firstWrong_141 (K : Int32 → sm_S → Prop) (σ : sm_S)  : Prop := mp_X6_readFirst σ (fun σ1 => ((¬ (σ1.1 21) = (-1) → (mp_X6_firstWrong_175 K σ1)) ∧ ((σ1.1 21) = (-1) → (((σ1.1 14) ≤ (σ1.1 20) → (mp_X6_firstWrong_175 K σ1)) ∧ (¬ (σ1.1 14) ≤ (σ1.1 20) → (∀ σ4 : sm_S, σ4 = sm_i σ1 21 (σ1.1 20) → mp_X6_firstWrong_175 K σ4))))))
def mp_X6_firstWrong_111 (K : Int32 → sm_S → Prop) : Nat → sm_S → Int32 → Prop
  | 0, _, _ => False
  | n111 + 1, σ, x1 => (((σ.1 16) ≤ x1 → (mp_X6_firstWrong_141 K σ)) ∧ (¬ (σ.1 16) ≤ x1 → ((¬ (σ.1 21) = (-1) → (mp_X6_firstWrong_141 K σ)) ∧ ((σ.1 21) = (-1) → (False)))))
def mp_X6_firstWrong_59 (K : Int32 → sm_S → Prop) : Nat → sm_S → Int32 → Prop
  | 0, _, _ => False
  | n59 + 1, σ, x1 => (((5 : Int32) ≤ x1 → (mp_X6_number σ 1 64 (-1) (fun r9 σ8 => ∀ σ10 : sm_S, σ10 = sm_i σ8 16 r9 → ∃ n111 : Nat, mp_X6_firstWrong_111 K n111 σ10 0))) ∧ (¬ (5 : Int32) ≤ x1 → (mp_X6_number σ 0 ((σ.1 0) - 1) (-1) (fun r12 σ11 => vp_in x1 (σ11.2.2.1 16) ∧ ∀ σ14 : sm_S, σ14 = sm_r σ11 16 (upd (σ11.2.2.2.1 16) x1.toNatClampNeg r12) → ∀ v15 : Int32, v15 = x1 + 1 → (mp_X6_firstWrong_59 K n59) σ14 v15))))
def mp_X6_firstWrong_57 (K : Int32 → sm_S → Prop) (σ : sm_S)  : Prop := ∃ n59 : Nat, mp_X6_firstWrong_59 K n59 σ 0
def mp_X6_firstWrong_27 (K : Int32 → sm_S → Prop) : Nat → sm_S → Int32 → Prop
  | 0, _, _ => False
  | n27 + 1, σ, x1 => (((σ.1 0) ≤ x1 → (mp_X6_firstWrong_57 K σ)) ∧ (¬ (σ.1 0) ≤ x1 → ((¬ (σ.1 21) = (-1) → (mp_X6_firstWrong_57 K σ)) ∧ ((σ.1 21) = (-1) → (False)))))
/-- SteadyMachine$Reader.firstWrong()I -/
def mp_X6_firstWrong (σ : sm_S)  (K : Int32 → sm_S → Prop) : Prop := ∀ σ18 : sm_S, σ18 = sm_i σ 20 0 → ∀ σ19 : sm_S, σ19 = sm_i σ18 21 (-1) → mp_X6_number σ19 1 32 (-1) (fun r21 σ20 => ∀ σ22 : sm_S, σ22 = sm_i σ20 0 r21 → ∃ n27 : Nat, mp_X6_firstWrong_27 K n27 σ22 0)
def wp_X6_firstWrong : List Cond := .code yX6_firstWrong cX6_firstWrong 2 (some .int) :: (((((([.fieldLink RX6 31 "SteadyMachine$Reader" "wrong" "I", .fieldLink RX6 27 "SteadyMachine$Reader" "at" "I", .fieldLink RX6 9 "SteadyMachine$Reader" "image" "LSteadyMachine$Image;", .fieldLink RX6 60 "SteadyMachine$Image" "size" "I", .fieldLink RX6 26 "SteadyMachine$Reader" "methods" "LSteadyMachine$Methods;", .fieldLink RX6 51 "SteadyMachine$Methods" "many" "I", .fieldLink RX6 21 "SteadyMachine$Reader" "classes" "LSteadyMachine$Classes;", .fieldLink RX6 47 "SteadyMachine$Classes" "thrown" "[I", .fieldLink RX6 38 "SteadyMachine$Classes" "many" "I"] ++ (wsV RX6 57 RX6 yX6_readFirst wp_X6_readFirst)) ++ (wsV RX6 34 RX6 yX6_number wp_X6_number)) ++ wsX00) ++ wsX20) ++ wsX40) ++ wsX60)
theorem wg_X6_firstWrong_X6_readFirst_57 : GoodIn wp_X6_firstWrong (wsV RX6 57 RX6 yX6_readFirst wp_X6_readFirst) := goodIn_sub (fun w h => List.mem_cons_of_mem _ (List.mem_append_left _ (List.mem_append_left _ (List.mem_append_left _ (List.mem_append_left _ (List.mem_append_left _ (List.mem_append_right _ h))))))) (by decide +kernel)
theorem wg_X6_firstWrong_X6_number_34 : GoodIn wp_X6_firstWrong (wsV RX6 34 RX6 yX6_number wp_X6_number) := goodIn_sub (fun w h => List.mem_cons_of_mem _ (List.mem_append_left _ (List.mem_append_left _ (List.mem_append_left _ (List.mem_append_left _ (List.mem_append_right _ h)))))) (by decide +kernel)
theorem wi_X6_firstWrong_X0 : ∀ w ∈ wsX00, w ∈ wp_X6_firstWrong := fun w h => List.mem_cons_of_mem _ (List.mem_append_left _ (List.mem_append_left _ (List.mem_append_left _ (List.mem_append_right _ h))))
theorem wi_X6_firstWrong_X2 : ∀ w ∈ wsX20, w ∈ wp_X6_firstWrong := fun w h => List.mem_cons_of_mem _ (List.mem_append_left _ (List.mem_append_left _ (List.mem_append_right _ h)))
theorem wi_X6_firstWrong_X4 : ∀ w ∈ wsX40, w ∈ wp_X6_firstWrong := fun w h => List.mem_cons_of_mem _ (List.mem_append_left _ (List.mem_append_right _ h))
theorem wi_X6_firstWrong_X6 : ∀ w ∈ wsX60, w ∈ wp_X6_firstWrong := fun w h => List.mem_cons_of_mem _ (List.mem_append_right _ h)
set_option maxHeartbeats 4000000 in
set_option maxRecDepth 100000 in
theorem c_X6_firstWrong (l : Launch) (D : va_G) (sz t0 : Nat) (σ : sm_S) (α : sm_A) (K : Int32 → sm_S → Prop) (hF : mp_X6_firstWrong σ K) : Met l yX6_firstWrong wp_X6_firstWrong { frames := 3, cells := 0, slots := 0, locals := 67 } (sm_P sm_wX sm_tX 38 D sz t0 σ α [.ref (α.1 6)]) (va_Qi K (sm_B sm_wX D α) (sm_a α 38 sz)) 0 0 (sm_a α 38 sz) := by
  refine Met.ofW (cc := cX6_firstWrong) (maxL := 2) (ret := (some .int)) (by decide) rfl ?_
  intro p e s m args below meth c s₁ B hml hv
  obtain ⟨rfl, hsz, hP, hK, hD0, hE⟩ := hv
  have hx := B.exec
  have hb := B.bytes
  have hr := B.returns
  have hts := atoms_spec (ws := wp_X6_firstWrong) B.pre
  have hown : s.vm.findClass RX6 = some m.cls := findClass_of_methodNamed B.named
  have hlocks := B.notSynchronized
  subst hsz
  have hD : sm_D (sm_a α 38 s.heap.size) α 38 := hD0.own
  have hA : ∀ q : Nat, s.heap.size ≤ q → sm_a α 38 s.heap.size q := fun q h => Or.inr h
  generalize hAe : sm_a α 38 s.heap.size = A at hD hA hE ⊢
  have hS : va_S A s.heap s.heap [] := va_S.rf
  have in_X0 : ∀ w ∈ wsX00, w ∈ wp_X6_firstWrong := wi_X6_firstWrong_X0
  have in_X2 : ∀ w ∈ wsX20, w ∈ wp_X6_firstWrong := wi_X6_firstWrong_X2
  have in_X4 : ∀ w ∈ wsX40, w ∈ wp_X6_firstWrong := wi_X6_firstWrong_X4
  have in_X6 : ∀ w ∈ wsX60, w ∈ wp_X6_firstWrong := wi_X6_firstWrong_X6
  have k_0 := hts (.fieldLink RX6 31 "SteadyMachine$Reader" "wrong" "I") (by decide +kernel)
  have k_1 := hts (.fieldLink RX6 27 "SteadyMachine$Reader" "at" "I") (by decide +kernel)
  have k_2 := hts (.fieldLink RX6 9 "SteadyMachine$Reader" "image" "LSteadyMachine$Image;") (by decide +kernel)
  have k_3 := hts (.fieldLink RX6 60 "SteadyMachine$Image" "size" "I") (by decide +kernel)
  have k_4 := hts (.fieldLink RX6 26 "SteadyMachine$Reader" "methods" "LSteadyMachine$Methods;") (by decide +kernel)
  have k_5 := hts (.fieldLink RX6 51 "SteadyMachine$Methods" "many" "I") (by decide +kernel)
  have k_6 := hts (.fieldLink RX6 21 "SteadyMachine$Reader" "classes" "LSteadyMachine$Classes;") (by decide +kernel)
  have k_7 := hts (.fieldLink RX6 47 "SteadyMachine$Classes" "thrown" "[I") (by decide +kernel)
  have k_8 := hts (.fieldLink RX6 38 "SteadyMachine$Classes" "many" "I") (by decide +kernel)
  have hl := lv_entry ([.ref (α.1 6)]) (n := 2) (Nat.le_of_ble_eq_true rfl)
  rw [lg_entry_eq]
  generalize (lg_sl ([.ref (α.1 6)]) ++ List.replicate (2 - (lg_sl ([.ref (α.1 6)])).length) Slot.unset).toArray = ls at hl ⊢
  have hl : lv_has ls 2 [(0, .ref (α.1 6))] := hl
  have B175 : ∀ (σ : sm_S), mp_X6_firstWrong_175 K σ → sm_J p l e (headSpec wp_X6_firstWrong { frames := 3, cells := 0, slots := 0, locals := 67 }).room s m ([.ref (α.1 6)] : List Value).toArray below meth c (MQ below (va_Qi K (sm_B sm_wX D α) A) ([.ref (α.1 6)] : List Value).toArray s 0 0 A) D A 2 (sm_wX σ α) 175 [(0, .ref (α.1 6))] [] := by
    intro σ hF H locs ls hP hS hl
    unfold mp_X6_firstWrong_175 at hF
    refine lv_aload_n hx hb dX6_firstWrong_175 rfl (lv_at hl 0 rfl) ?_
    refine va_get (D := D) (ci := 6) (v := .int (σ.1 21)) (C := RX6) (T := TX6) (N := 5) hx hb hts in_X6 hown hK hP 6 (sm_gX6 σ α) rfl 4 (by decide) k_0 (fun _ h9 => h9) rfl dX6_firstWrong_176 ?_
    exact W.iret (v := (σ.1 21)) hx hb hr (fun t ht hW => ⟨⟨(σ.1 21), σ, rfl, hF, (by unfold sm_B; rw [ht]; exact hP)⟩, hS.F ht⟩) hS.2.2 dX6_firstWrong_179
  have B141 : ∀ (σ : sm_S), mp_X6_firstWrong_141 K σ → sm_J p l e (headSpec wp_X6_firstWrong { frames := 3, cells := 0, slots := 0, locals := 67 }).room s m ([.ref (α.1 6)] : List Value).toArray below meth c (MQ below (va_Qi K (sm_B sm_wX D α) A) ([.ref (α.1 6)] : List Value).toArray s 0 0 A) D A 2 (sm_wX σ α) 141 [(0, .ref (α.1 6))] [] := by
    intro σ hF H locs ls hP hS hl
    unfold mp_X6_firstWrong_141 at hF
    refine lv_aload_n hx hb dX6_firstWrong_141 rfl (lv_at hl 0 rfl) ?_
    refine sm_vv (As := []) (rest := []) hP hK hD hE hS hA ⟨hx, hb, hml, hown, hts⟩ hl.1 (c_X6_readFirst l D H.size t0 σ α _ hF) (cwV 0 hts wg_X6_firstWrong_X6_readFirst_57 rfl rfl rfl (by decide +kernel) ⟨Nat.le_of_ble_eq_true rfl, Nat.le_of_ble_eq_true rfl⟩) (va_recv hK hP (ci := 6) (q0 := 6) rfl (sm_gX6 σ α)) rfl rfl (Nat.le_of_ble_eq_true rfl) dX6_firstWrong_142 ⟨Nat.zero_le _, Nat.zero_le _⟩ (fun σ1 H locs hF hP hS => ?_)
    refine lv_aload_n hx hb dX6_firstWrong_145 rfl (lv_at hl 0 rfl) ?_
    refine va_get (D := D) (ci := 6) (v := .int (σ1.1 21)) (C := RX6) (T := TX6) (N := 5) hx hb hts in_X6 hown hK hP 6 (sm_gX6 σ1 α) rfl 4 (by decide) k_0 (fun _ h9 => h9) rfl dX6_firstWrong_146 ?_
    refine lv_iconst (v := -1) hx hb dX6_firstWrong_149 (by decide) ?_
    refine lv_icmp_ne (tgt := 175) hx hb dX6_firstWrong_150 (by decide) (fun h2 => ?_) (fun h2 => ?_)
    · replace hF := hF.1 h2
      exact B175 σ1 hF H locs ls hP hS (lv_sub hl [0] rfl)
    · replace hF := hF.2 h2
      refine lv_aload_n hx hb dX6_firstWrong_153 rfl (lv_at hl 0 rfl) ?_
      refine va_get (D := D) (ci := 6) (v := .int (σ1.1 20)) (C := RX6) (T := TX6) (N := 5) hx hb hts in_X6 hown hK hP 6 (sm_gX6 σ1 α) rfl 3 (by decide) k_1 (fun _ h9 => h9) rfl dX6_firstWrong_154 ?_
      refine lv_aload_n hx hb dX6_firstWrong_157 rfl (lv_at hl 0 rfl) ?_
      refine va_get (D := D) (ci := 6) (v := .ref (α.1 2)) (C := RX6) (T := TX6) (N := 5) hx hb hts in_X6 hown hK hP 6 (sm_gX6 σ1 α) rfl 0 (by decide) k_2 (fun _ h9 => h9) rfl dX6_firstWrong_158 ?_
      refine va_get (D := D) (ci := 2) (v := .int (σ1.1 14)) (C := RX2) (T := TX2) (N := 6) hx hb hts in_X2 hown hK hP 2 (sm_gX2 σ1 α) rfl 4 (by decide) k_3 (fun _ h9 => h9) rfl dX6_firstWrong_161 ?_
      refine lv_icmp_ge (tgt := 175) hx hb dX6_firstWrong_164 (by decide) (fun h3 => ?_) (fun h3 => ?_)
      · replace hF := hF.1 h3
        exact B175 σ1 hF H locs ls hP hS (lv_sub hl [0] rfl)
      · replace hF := hF.2 h3
        refine lv_aload_n hx hb dX6_firstWrong_167 rfl (lv_at hl 0 rfl) ?_
        refine lv_aload_n hx hb dX6_firstWrong_168 rfl (lv_at hl 0 rfl) ?_
        refine va_get (D := D) (ci := 6) (v := .int (σ1.1 20)) (C := RX6) (T := TX6) (N := 5) hx hb hts in_X6 hown hK hP 6 (sm_gX6 σ1 α) rfl 3 (by decide) k_1 (fun _ h9 => h9) rfl dX6_firstWrong_169 ?_
        refine va_put (D := D) (ci := 6) (v := .int (σ1.1 20)) (ty := .int) (C := RX6) (T := TX6) (N := 5) hx hb hts in_X6 tyX6 tyX6_ok nmX6 hown hK hP (hD.to (sm_wX_m _ _)) hS 6 (sm_gX6 σ1 α) rfl 4 (by decide) k_0 (fun _ h9 => h9) rfl (by decide +kernel) rfl rfl (Nat.le_of_ble_eq_true rfl) dX6_firstWrong_172 (fun H locs hP _ hS => ?_)
        rw [sm_iX21] at hP
        obtain ⟨σ4, eσ4⟩ : ∃ x : sm_S, x = sm_i σ1 21 (σ1.1 20) := ⟨_, rfl⟩
        replace hF := hF σ4 eσ4
        rw [← eσ4] at hP
        exact B175 σ4 hF H locs ls hP hS (lv_sub hl [0] rfl)
  have B111 : ∀ (n : Nat) (σ : sm_S) (x1 : Int32), mp_X6_firstWrong_111 K n σ x1 → sm_J p l e (headSpec wp_X6_firstWrong { frames := 3, cells := 0, slots := 0, locals := 67 }).room s m ([.ref (α.1 6)] : List Value).toArray below meth c (MQ below (va_Qi K (sm_B sm_wX D α) A) ([.ref (α.1 6)] : List Value).toArray s 0 0 A) D A 2 (sm_wX σ α) 111 [(0, .ref (α.1 6)), (1, .int x1)] [] := by
    intro n111
    induction n111 with
    | zero =>
      intro σ x1 hF
      exact hF.elim
    | succ n111 ih111 =>
      intro σ x1 hF H locs ls hP hS hl
      unfold mp_X6_firstWrong_111 at hF
      refine lv_iload_n hx hb dX6_firstWrong_111 rfl (lv_at hl 1 rfl) ?_
      refine lv_aload_n hx hb dX6_firstWrong_112 rfl (lv_at hl 0 rfl) ?_
      refine va_get (D := D) (ci := 6) (v := .ref (α.1 4)) (C := RX6) (T := TX6) (N := 5) hx hb hts in_X6 hown hK hP 6 (sm_gX6 σ α) rfl 2 (by decide) k_4 (fun _ h9 => h9) rfl dX6_firstWrong_113 ?_
      refine va_get (D := D) (ci := 4) (v := .int (σ.1 16)) (C := RX4) (T := TX4) (N := 12) hx hb hts in_X4 hown hK hP 4 (sm_gX4 σ α) rfl 0 (by decide) k_5 (fun _ h9 => h9) rfl dX6_firstWrong_116 ?_
      refine lv_icmp_ge (tgt := 141) hx hb dX6_firstWrong_119 (by decide) (fun h5 => ?_) (fun h5 => ?_)
      · replace hF := hF.1 h5
        exact B141 σ hF H locs ls hP hS (lv_sub hl [0] rfl)
      · replace hF := hF.2 h5
        refine lv_aload_n hx hb dX6_firstWrong_122 rfl (lv_at hl 0 rfl) ?_
        refine va_get (D := D) (ci := 6) (v := .int (σ.1 21)) (C := RX6) (T := TX6) (N := 5) hx hb hts in_X6 hown hK hP 6 (sm_gX6 σ α) rfl 4 (by decide) k_0 (fun _ h9 => h9) rfl dX6_firstWrong_123 ?_
        refine lv_iconst (v := -1) hx hb dX6_firstWrong_126 (by decide) ?_
        refine lv_icmp_ne (tgt := 141) hx hb dX6_firstWrong_127 (by decide) (fun h6 => ?_) (fun h6 => ?_)
        · replace hF := hF.1 h6
          exact B141 σ hF H locs ls hP hS (lv_sub hl [0] rfl)
        · replace hF := hF.2 h6
          refine lv_aload_n hx hb dX6_firstWrong_130 rfl (lv_at hl 0 rfl) ?_
          refine lv_iload_n hx hb dX6_firstWrong_131 rfl (lv_at hl 1 rfl) ?_
          exact hF.elim
  have B59 : ∀ (n : Nat) (σ : sm_S) (x1 : Int32), mp_X6_firstWrong_59 K n σ x1 → sm_J p l e (headSpec wp_X6_firstWrong { frames := 3, cells := 0, slots := 0, locals := 67 }).room s m ([.ref (α.1 6)] : List Value).toArray below meth c (MQ below (va_Qi K (sm_B sm_wX D α) A) ([.ref (α.1 6)] : List Value).toArray s 0 0 A) D A 2 (sm_wX σ α) 59 [(0, .ref (α.1 6)), (1, .int x1)] [] := by
    intro n59
    induction n59 with
    | zero =>
      intro σ x1 hF
      exact hF.elim
    | succ n59 ih59 =>
      intro σ x1 hF H locs ls hP hS hl
      unfold mp_X6_firstWrong_59 at hF
      refine lv_iload_n hx hb dX6_firstWrong_59 rfl (lv_at hl 1 rfl) ?_
      refine lv_iconst (v := 5) hx hb dX6_firstWrong_60 (by decide) ?_
      refine lv_icmp_ge (tgt := 94) hx hb dX6_firstWrong_61 (by decide) (fun h7 => ?_) (fun h7 => ?_)
      · replace hF := hF.1 h7
        refine lv_aload_n hx hb dX6_firstWrong_94 rfl (lv_at hl 0 rfl) ?_
        refine va_get (D := D) (ci := 6) (v := .ref (α.1 4)) (C := RX6) (T := TX6) (N := 5) hx hb hts in_X6 hown hK hP 6 (sm_gX6 σ α) rfl 2 (by decide) k_4 (fun _ h9 => h9) rfl dX6_firstWrong_95 ?_
        refine lv_aload_n hx hb dX6_firstWrong_98 rfl (lv_at hl 0 rfl) ?_
        refine lv_iconst (v := 1) hx hb dX6_firstWrong_99 (by decide) ?_
        refine lv_bipush (v := 64) hx hb dX6_firstWrong_100 (by decide) ?_
        refine lv_iconst (v := -1) hx hb dX6_firstWrong_102 (by decide) ?_
        refine sm_vi (As := [.int 1, .int 64, .int (-1)]) (rest := [.ref (α.1 4)]) hP hK hD hE hS hA ⟨hx, hb, hml, hown, hts⟩ hl.1 (c_X6_number l D H.size t0 σ α 1 64 (-1) _ hF) (cwV 3 hts wg_X6_firstWrong_X6_number_34 rfl rfl rfl (by decide +kernel) ⟨Nat.le_of_ble_eq_true rfl, Nat.le_of_ble_eq_true rfl⟩) (va_recv hK hP (ci := 6) (q0 := 6) rfl (sm_gX6 σ α)) rfl rfl (Nat.le_of_ble_eq_true rfl) dX6_firstWrong_103 ⟨Nat.zero_le _, Nat.zero_le _⟩ (fun r9 σ8 H locs hF hP hS => ?_)
        refine va_put (D := D) (ci := 4) (v := .int r9) (ty := .int) (C := RX4) (T := TX4) (N := 12) hx hb hts in_X4 tyX4 tyX4_ok nmX4 hown hK hP (hD.to (sm_wX_m _ _)) hS 4 (sm_gX4 σ8 α) rfl 0 (by decide) k_5 (fun _ h9 => h9) rfl (by decide +kernel) rfl rfl (Nat.le_of_ble_eq_true rfl) dX6_firstWrong_106 (fun H locs hP _ hS => ?_)
        rw [sm_iX16] at hP
        obtain ⟨σ10, eσ10⟩ : ∃ x : sm_S, x = sm_i σ8 16 r9 := ⟨_, rfl⟩
        replace hF := hF σ10 eσ10
        rw [← eσ10] at hP
        refine lv_iconst (v := 0) hx hb dX6_firstWrong_109 (by decide) ?_
        refine lv_istore_n (lv' := [(1, .int 0), (0, .ref (α.1 6))]) hx hb dX6_firstWrong_110 rfl hl (by decide) rfl (fun ls hl => ?_)
        obtain ⟨n111, hF⟩ := hF
        exact B111 n111 σ10 0 hF H locs ls hP hS (lv_sub hl [1, 0] rfl)
      · replace hF := hF.2 h7
        refine lv_aload_n hx hb dX6_firstWrong_64 rfl (lv_at hl 0 rfl) ?_
        refine va_get (D := D) (ci := 6) (v := .ref (α.1 0)) (C := RX6) (T := TX6) (N := 5) hx hb hts in_X6 hown hK hP 6 (sm_gX6 σ α) rfl 1 (by decide) k_6 (fun _ h9 => h9) rfl dX6_firstWrong_65 ?_
        refine va_get (D := D) (ci := 0) (v := .ref (α.1 16)) (C := RX0) (T := TX0) (N := 7) hx hb hts in_X0 hown hK hP 0 (sm_gX0 σ α) rfl 6 (by decide) k_7 (fun _ h9 => h9) rfl dX6_firstWrong_68 ?_
        refine lv_iload_n hx hb dX6_firstWrong_71 rfl (lv_at hl 1 rfl) ?_
        refine lv_aload_n hx hb dX6_firstWrong_72 rfl (lv_at hl 0 rfl) ?_
        refine lv_iconst (v := 0) hx hb dX6_firstWrong_73 (by decide) ?_
        refine lv_aload_n hx hb dX6_firstWrong_74 rfl (lv_at hl 0 rfl) ?_
        refine va_get (D := D) (ci := 6) (v := .ref (α.1 0)) (C := RX6) (T := TX6) (N := 5) hx hb hts in_X6 hown hK hP 6 (sm_gX6 σ α) rfl 1 (by decide) k_6 (fun _ h9 => h9) rfl dX6_firstWrong_75 ?_
        refine va_get (D := D) (ci := 0) (v := .int (σ.1 0)) (C := RX0) (T := TX0) (N := 7) hx hb hts in_X0 hown hK hP 0 (sm_gX0 σ α) rfl 0 (by decide) k_8 (fun _ h9 => h9) rfl dX6_firstWrong_78 ?_
        refine lv_iconst (v := 1) hx hb dX6_firstWrong_81 (by decide) ?_
        refine lv_isub hx hb dX6_firstWrong_82 ?_
        refine lv_iconst (v := -1) hx hb dX6_firstWrong_83 (by decide) ?_
        refine sm_vi (As := [.int 0, .int ((σ.1 0) - 1), .int (-1)]) (rest := [.int x1, .ref (α.1 16)]) hP hK hD hE hS hA ⟨hx, hb, hml, hown, hts⟩ hl.1 (c_X6_number l D H.size t0 σ α 0 ((σ.1 0) - 1) (-1) _ hF) (cwV 3 hts wg_X6_firstWrong_X6_number_34 rfl rfl rfl (by decide +kernel) ⟨Nat.le_of_ble_eq_true rfl, Nat.le_of_ble_eq_true rfl⟩) (va_recv hK hP (ci := 6) (q0 := 6) rfl (sm_gX6 σ α)) rfl rfl (Nat.le_of_ble_eq_true rfl) dX6_firstWrong_84 ⟨Nat.zero_le _, Nat.zero_le _⟩ (fun r12 σ11 H locs hF hP hS => ?_)
        obtain ⟨h13, hF⟩ := hF
        refine va_iast (n := (σ11.2.2.1 16)) (f := (σ11.2.2.2.1 16)) (x := r12) hx hb hK hP (hD.to (sm_wX_m _ _)) hS 16 5 (sm_aX16 σ11 α) (sm_yX16 α) h13 dX6_firstWrong_87 (fun H locs hP _ hS => ?_)
        rw [sm_rX16] at hP
        obtain ⟨σ14, eσ14⟩ : ∃ x : sm_S, x = sm_r σ11 16 (upd (σ11.2.2.2.1 16) x1.toNatClampNeg r12) := ⟨_, rfl⟩
        replace hF := hF σ14 eσ14
        rw [← eσ14] at hP
        obtain ⟨v15, ev15⟩ : ∃ y : Int32, y = x1 + 1 := ⟨_, rfl⟩
        replace hF := hF v15 ev15
        refine lv_iinc (v := v15) (lv' := [(1, .int v15), (0, .ref (α.1 6))]) hx hb dX6_firstWrong_88 hl (k := 1) rfl (by rw [ev15]; rfl) (by decide) rfl (fun ls hl => ?_)
        refine lv_goto (tgt := 59) hx hb dX6_firstWrong_91 (by decide) ?_
        exact ih59 σ14 v15 hF H locs ls hP hS (lv_sub hl [1, 0] rfl)
  have B57 : ∀ (σ : sm_S), mp_X6_firstWrong_57 K σ → sm_J p l e (headSpec wp_X6_firstWrong { frames := 3, cells := 0, slots := 0, locals := 67 }).room s m ([.ref (α.1 6)] : List Value).toArray below meth c (MQ below (va_Qi K (sm_B sm_wX D α) A) ([.ref (α.1 6)] : List Value).toArray s 0 0 A) D A 2 (sm_wX σ α) 57 [(0, .ref (α.1 6))] [] := by
    intro σ hF H locs ls hP hS hl
    unfold mp_X6_firstWrong_57 at hF
    refine lv_iconst (v := 0) hx hb dX6_firstWrong_57 (by decide) ?_
    refine lv_istore_n (lv' := [(1, .int 0), (0, .ref (α.1 6))]) hx hb dX6_firstWrong_58 rfl hl (by decide) rfl (fun ls hl => ?_)
    obtain ⟨n59, hF⟩ := hF
    exact B59 n59 σ 0 hF H locs ls hP hS (lv_sub hl [1, 0] rfl)
  have B27 : ∀ (n : Nat) (σ : sm_S) (x1 : Int32), mp_X6_firstWrong_27 K n σ x1 → sm_J p l e (headSpec wp_X6_firstWrong { frames := 3, cells := 0, slots := 0, locals := 67 }).room s m ([.ref (α.1 6)] : List Value).toArray below meth c (MQ below (va_Qi K (sm_B sm_wX D α) A) ([.ref (α.1 6)] : List Value).toArray s 0 0 A) D A 2 (sm_wX σ α) 27 [(0, .ref (α.1 6)), (1, .int x1)] [] := by
    intro n27
    induction n27 with
    | zero =>
      intro σ x1 hF
      exact hF.elim
    | succ n27 ih27 =>
      intro σ x1 hF H locs ls hP hS hl
      unfold mp_X6_firstWrong_27 at hF
      refine lv_iload_n hx hb dX6_firstWrong_27 rfl (lv_at hl 1 rfl) ?_
      refine lv_aload_n hx hb dX6_firstWrong_28 rfl (lv_at hl 0 rfl) ?_
      refine va_get (D := D) (ci := 6) (v := .ref (α.1 0)) (C := RX6) (T := TX6) (N := 5) hx hb hts in_X6 hown hK hP 6 (sm_gX6 σ α) rfl 1 (by decide) k_6 (fun _ h9 => h9) rfl dX6_firstWrong_29 ?_
      refine va_get (D := D) (ci := 0) (v := .int (σ.1 0)) (C := RX0) (T := TX0) (N := 7) hx hb hts in_X0 hown hK hP 0 (sm_gX0 σ α) rfl 0 (by decide) k_8 (fun _ h9 => h9) rfl dX6_firstWrong_32 ?_
      refine lv_icmp_ge (tgt := 57) hx hb dX6_firstWrong_35 (by decide) (fun h16 => ?_) (fun h16 => ?_)
      · replace hF := hF.1 h16
        exact B57 σ hF H locs ls hP hS (lv_sub hl [0] rfl)
      · replace hF := hF.2 h16
        refine lv_aload_n hx hb dX6_firstWrong_38 rfl (lv_at hl 0 rfl) ?_
        refine va_get (D := D) (ci := 6) (v := .int (σ.1 21)) (C := RX6) (T := TX6) (N := 5) hx hb hts in_X6 hown hK hP 6 (sm_gX6 σ α) rfl 4 (by decide) k_0 (fun _ h9 => h9) rfl dX6_firstWrong_39 ?_
        refine lv_iconst (v := -1) hx hb dX6_firstWrong_42 (by decide) ?_
        refine lv_icmp_ne (tgt := 57) hx hb dX6_firstWrong_43 (by decide) (fun h17 => ?_) (fun h17 => ?_)
        · replace hF := hF.1 h17
          exact B57 σ hF H locs ls hP hS (lv_sub hl [0] rfl)
        · replace hF := hF.2 h17
          refine lv_aload_n hx hb dX6_firstWrong_46 rfl (lv_at hl 0 rfl) ?_
          refine lv_iload_n hx hb dX6_firstWrong_47 rfl (lv_at hl 1 rfl) ?_
          exact hF.elim
  unfold mp_X6_firstWrong at hF
  revert hP hS
  generalize hLo : ([] : List Loc) = locs
  suffices h9 : ∀ (H : Heap) (locs : List Loc), va_P D vwCl (sm_wX σ α) H → va_S A s.heap H locs → W p l e (headSpec wp_X6_firstWrong { frames := 3, cells := 0, slots := 0, locals := 67 }).room s m ([.ref (α.1 6)] : List Value).toArray below meth c H locs 0 0 (MQ below (va_Qi K (sm_B sm_wX D α) A) ([.ref (α.1 6)] : List Value).toArray s 0 0 A) (F0 m 0 ls []) from fun hP hS => h9 s.heap locs hP hS
  intro H locs hP hS
  refine lv_aload_n hx hb dX6_firstWrong_0 rfl (lv_at hl 0 rfl) ?_
  refine lv_iconst (v := 0) hx hb dX6_firstWrong_1 (by decide) ?_
  refine va_put (D := D) (ci := 6) (v := .int 0) (ty := .int) (C := RX6) (T := TX6) (N := 5) hx hb hts in_X6 tyX6 tyX6_ok nmX6 hown hK hP (hD.to (sm_wX_m _ _)) hS 6 (sm_gX6 σ α) rfl 3 (by decide) k_1 (fun _ h9 => h9) rfl (by decide +kernel) rfl rfl (Nat.le_of_ble_eq_true rfl) dX6_firstWrong_2 (fun H locs hP _ hS => ?_)
  rw [sm_iX20] at hP
  obtain ⟨σ18, eσ18⟩ : ∃ x : sm_S, x = sm_i σ 20 0 := ⟨_, rfl⟩
  replace hF := hF σ18 eσ18
  rw [← eσ18] at hP
  refine lv_aload_n hx hb dX6_firstWrong_5 rfl (lv_at hl 0 rfl) ?_
  refine lv_iconst (v := -1) hx hb dX6_firstWrong_6 (by decide) ?_
  refine va_put (D := D) (ci := 6) (v := .int (-1)) (ty := .int) (C := RX6) (T := TX6) (N := 5) hx hb hts in_X6 tyX6 tyX6_ok nmX6 hown hK hP (hD.to (sm_wX_m _ _)) hS 6 (sm_gX6 σ18 α) rfl 4 (by decide) k_0 (fun _ h9 => h9) rfl (by decide +kernel) rfl rfl (Nat.le_of_ble_eq_true rfl) dX6_firstWrong_7 (fun H locs hP _ hS => ?_)
  rw [sm_iX21] at hP
  obtain ⟨σ19, eσ19⟩ : ∃ x : sm_S, x = sm_i σ18 21 (-1) := ⟨_, rfl⟩
  replace hF := hF σ19 eσ19
  rw [← eσ19] at hP
  refine lv_aload_n hx hb dX6_firstWrong_10 rfl (lv_at hl 0 rfl) ?_
  refine va_get (D := D) (ci := 6) (v := .ref (α.1 0)) (C := RX6) (T := TX6) (N := 5) hx hb hts in_X6 hown hK hP 6 (sm_gX6 σ19 α) rfl 1 (by decide) k_6 (fun _ h9 => h9) rfl dX6_firstWrong_11 ?_
  refine lv_aload_n hx hb dX6_firstWrong_14 rfl (lv_at hl 0 rfl) ?_
  refine lv_iconst (v := 1) hx hb dX6_firstWrong_15 (by decide) ?_
  refine lv_bipush (v := 32) hx hb dX6_firstWrong_16 (by decide) ?_
  refine lv_iconst (v := -1) hx hb dX6_firstWrong_18 (by decide) ?_
  refine sm_vi (As := [.int 1, .int 32, .int (-1)]) (rest := [.ref (α.1 0)]) hP hK hD hE hS hA ⟨hx, hb, hml, hown, hts⟩ hl.1 (c_X6_number l D H.size t0 σ19 α 1 32 (-1) _ hF) (cwV 3 hts wg_X6_firstWrong_X6_number_34 rfl rfl rfl (by decide +kernel) ⟨Nat.le_of_ble_eq_true rfl, Nat.le_of_ble_eq_true rfl⟩) (va_recv hK hP (ci := 6) (q0 := 6) rfl (sm_gX6 σ19 α)) rfl rfl (Nat.le_of_ble_eq_true rfl) dX6_firstWrong_19 ⟨Nat.zero_le _, Nat.zero_le _⟩ (fun r21 σ20 H locs hF hP hS => ?_)
  refine va_put (D := D) (ci := 0) (v := .int r21) (ty := .int) (C := RX0) (T := TX0) (N := 7) hx hb hts in_X0 tyX0 tyX0_ok nmX0 hown hK hP (hD.to (sm_wX_m _ _)) hS 0 (sm_gX0 σ20 α) rfl 0 (by decide) k_8 (fun _ h9 => h9) rfl (by decide +kernel) rfl rfl (Nat.le_of_ble_eq_true rfl) dX6_firstWrong_22 (fun H locs hP _ hS => ?_)
  rw [sm_iX0] at hP
  obtain ⟨σ22, eσ22⟩ : ∃ x : sm_S, x = sm_i σ20 0 r21 := ⟨_, rfl⟩
  replace hF := hF σ22 eσ22
  rw [← eσ22] at hP
  refine lv_iconst (v := 0) hx hb dX6_firstWrong_25 (by decide) ?_
  refine lv_istore_n (lv' := [(1, .int 0), (0, .ref (α.1 6))]) hx hb dX6_firstWrong_26 rfl hl (by decide) rfl (fun ls hl => ?_)
  obtain ⟨n27, hF⟩ := hF
  exact B27 n27 σ22 0 hF H locs ls hP hS (lv_sub hl [1, 0] rfl)
theorem dX10_end_0 : decode cX10_end 0 = .ok (.aload_n 0, 1) := by decide +kernel
theorem dX10_end_1 : decode cX10_end 1 = .ok (.getfield 85, 3) := by decide +kernel
theorem dX10_end_4 : decode cX10_end 4 = .ok (.istore_n 2, 1) := by decide +kernel
theorem dX10_end_5 : decode cX10_end 5 = .ok (.aload_n 0, 1) := by decide +kernel
theorem dX10_end_6 : decode cX10_end 6 = .ok (.iconst 0, 1) := by decide +kernel
theorem dX10_end_7 : decode cX10_end 7 = .ok (.putfield 85, 3) := by decide +kernel
theorem dX10_end_10 : decode cX10_end 10 = .ok (.iload_n 1, 1) := by decide +kernel
theorem dX10_end_11 : decode cX10_end 11 = .ok (.ifCond .lt 8, 3) := by decide +kernel
theorem dX10_end_14 : decode cX10_end 14 = .ok (.iload_n 1, 1) := by decide +kernel
theorem dX10_end_15 : decode cX10_end 15 = .ok (.iload_n 2, 1) := by decide +kernel
theorem dX10_end_16 : decode cX10_end 16 = .ok (.if_icmp .le 5, 3) := by decide +kernel
theorem dX10_end_19 : decode cX10_end 19 = .ok (.iconst (-1), 1) := by decide +kernel
theorem dX10_end_20 : decode cX10_end 20 = .ok (.ireturn, 1) := by decide +kernel
theorem dX10_end_21 : decode cX10_end 21 = .ok (.aload_n 0, 1) := by decide +kernel
theorem dX10_end_22 : decode cX10_end 22 = .ok (.getfield 72, 3) := by decide +kernel
theorem dX10_end_25 : decode cX10_end 25 = .ok (.iconst 0, 1) := by decide +kernel
theorem dX10_end_26 : decode cX10_end 26 = .ok (.putfield 103, 3) := by decide +kernel
theorem dX10_end_29 : decode cX10_end 29 = .ok (.aload_n 0, 1) := by decide +kernel
theorem dX10_end_30 : decode cX10_end 30 = .ok (.iconst 0, 1) := by decide +kernel
theorem dX10_end_31 : decode cX10_end 31 = .ok (.putfield 106, 3) := by decide +kernel
theorem dX10_end_34 : decode cX10_end 34 = .ok (.aload_n 0, 1) := by decide +kernel
theorem dX10_end_35 : decode cX10_end 35 = .ok (.getfield 16, 3) := by decide +kernel
theorem dX10_end_38 : decode cX10_end 38 = .ok (.aload_n 0, 1) := by decide +kernel
theorem dX10_end_39 : decode cX10_end 39 = .ok (.getfield 7, 3) := by decide +kernel
theorem dX10_end_42 : decode cX10_end 42 = .ok (.iload_n 1, 1) := by decide +kernel
theorem dX10_end_43 : decode cX10_end 43 = .ok (.invokevirtual 110, 3) := by decide +kernel
theorem dX10_end_46 : decode cX10_end 46 = .ok (.aload_n 0, 1) := by decide +kernel
theorem dX10_end_47 : decode cX10_end 47 = .ok (.getfield 25, 3) := by decide +kernel
theorem dX10_end_50 : decode cX10_end 50 = .ok (.invokevirtual 114, 3) := by decide +kernel
theorem dX10_end_53 : decode cX10_end 53 = .ok (.istore_n 3, 1) := by decide +kernel
theorem dX10_end_54 : decode cX10_end 54 = .ok (.iload_n 3, 1) := by decide +kernel
theorem dX10_end_55 : decode cX10_end 55 = .ok (.iconst (-1), 1) := by decide +kernel
theorem dX10_end_56 : decode cX10_end 56 = .ok (.if_icmp .ne 11, 3) := by decide +kernel
theorem dX10_end_59 : decode cX10_end 59 = .ok (.aload_n 0, 1) := by decide +kernel
theorem dX10_end_60 : decode cX10_end 60 = .ok (.getfield 32, 3) := by decide +kernel
theorem dX10_end_63 : decode cX10_end 63 = .ok (.invokevirtual 118, 3) := by decide +kernel
theorem dX10_end_66 : decode cX10_end 66 = .ok (.istore_n 3, 1) := by decide +kernel
theorem dX10_end_67 : decode cX10_end 67 = .ok (.iload_n 3, 1) := by decide +kernel
theorem dX10_end_68 : decode cX10_end 68 = .ok (.iconst (-1), 1) := by decide +kernel
theorem dX10_end_69 : decode cX10_end 69 = .ok (.if_icmp .eq 8, 3) := by decide +kernel
theorem dX10_end_72 : decode cX10_end 72 = .ok (.bipush (-3), 2) := by decide +kernel
theorem dX10_end_74 : decode cX10_end 74 = .ok (.iload_n 3, 1) := by decide +kernel
theorem dX10_end_75 : decode cX10_end 75 = .ok (.isub, 1) := by decide +kernel
theorem dX10_end_76 : decode cX10_end 76 = .ok (.ireturn, 1) := by decide +kernel
theorem dX10_end_77 : decode cX10_end 77 = .ok (.aload_n 0, 1) := by decide +kernel
theorem dX10_end_78 : decode cX10_end 78 = .ok (.getfield 39, 3) := by decide +kernel
theorem dX10_end_81 : decode cX10_end 81 = .ok (.invokevirtual 119, 3) := by decide +kernel
theorem dX10_end_84 : decode cX10_end 84 = .ok (.istore 4, 2) := by decide +kernel
theorem dX10_end_86 : decode cX10_end 86 = .ok (.iload 4, 2) := by decide +kernel
theorem dX10_end_88 : decode cX10_end 88 = .ok (.iconst (-1), 1) := by decide +kernel
theorem dX10_end_89 : decode cX10_end 89 = .ok (.if_icmp .eq 10, 3) := by decide +kernel
theorem dX10_end_92 : decode cX10_end 92 = .ok (.sipush (-10003), 3) := by decide +kernel
theorem dX10_end_95 : decode cX10_end 95 = .ok (.iload 4, 2) := by decide +kernel
theorem dX10_end_97 : decode cX10_end 97 = .ok (.isub, 1) := by decide +kernel
theorem dX10_end_98 : decode cX10_end 98 = .ok (.ireturn, 1) := by decide +kernel
theorem dX10_end_99 : decode cX10_end 99 = .ok (.aload_n 0, 1) := by decide +kernel
theorem dX10_end_100 : decode cX10_end 100 = .ok (.iconst 1, 1) := by decide +kernel
theorem dX10_end_101 : decode cX10_end 101 = .ok (.putfield 106, 3) := by decide +kernel
theorem dX10_end_104 : decode cX10_end 104 = .ok (.aload_n 0, 1) := by decide +kernel
theorem dX10_end_105 : decode cX10_end 105 = .ok (.getfield 16, 3) := by decide +kernel
theorem dX10_end_108 : decode cX10_end 108 = .ok (.getfield 122, 3) := by decide +kernel
theorem dX10_end_111 : decode cX10_end 111 = .ok (.ireturn, 1) := by decide +kernel
def mp_X10_end_67 (mc1 ms1 mc2 ms2 : Nat) (K : Int32 → sm_S → Prop) (σ : sm_S) (x3 : Int32) : Prop := ((x3 = (-1) → (False)) ∧ (¬ x3 = (-1) → (K ((-3) - x3) σ)))
def mp_X10_end_19 (mc1 ms1 mc2 ms2 : Nat) (K : Int32 → sm_S → Prop) (σ : sm_S)  : Prop := K (-1) σ
/-- SteadyMachine.end(I)I -/
def mp_X10_end (mc1 ms1 mc2 ms2 : Nat) (σ : sm_S) (p1 : Int32) (K : Int32 → sm_S → Prop) : Prop := ∀ v2 : Int32, v2 = (σ.1 35) → ∀ σ3 : sm_S, σ3 = sm_i σ 35 0 → ((p1 < 0 → (mp_X10_end_19 mc1 ms1 mc2 ms2 K σ3)) ∧ (¬ p1 < 0 → ((p1 ≤ v2 → (∀ σ6 : sm_S, σ6 = sm_i σ3 22 0 → ∀ σ7 : sm_S, σ7 = sm_i σ6 36 0 → mp_X2_take mc1 ms1 σ7 p1 (fun σ8 => mp_X6_firstWrong σ8 (fun r11 σ10 => ((¬ r11 = (-1) → (mp_X10_end_67 mc1 ms1 mc2 ms2 K σ10 r11)) ∧ (r11 = (-1) → (False))))))) ∧ (¬ p1 ≤ v2 → (mp_X10_end_19 mc1 ms1 mc2 ms2 K σ3)))))
def wp_X10_end : List Cond := .code yX10_end cX10_end 5 (some .int) :: (((([.fieldLink RX10 39 "SteadyMachine" "verifier" "LSteadyMachine$Verifier;", .fieldLink RX10 85 "SteadyMachine" "taped" "I", .fieldLink RX10 72 "SteadyMachine" "runner" "LSteadyMachine$Runner;", .fieldLink RX10 103 "SteadyMachine$Runner" "state" "I", .fieldLink RX10 106 "SteadyMachine" "whole" "Z", .fieldLink RX10 16 "SteadyMachine" "image" "LSteadyMachine$Image;", .fieldLink RX10 7 "SteadyMachine" "tape" "[B", .fieldLink RX10 25 "SteadyMachine" "reader" "LSteadyMachine$Reader;", .fieldLink RX10 32 "SteadyMachine" "linker" "LSteadyMachine$Linker;"] ++ (wsV RX10 110 RX2 yX2_take wp_X2_take)) ++ (wsV RX10 114 RX6 yX6_firstWrong wp_X6_firstWrong)) ++ wsX100) ++ wsX70)
theorem wg_X10_end_X2_take_110 : GoodIn wp_X10_end (wsV RX10 110 RX2 yX2_take wp_X2_take) := goodIn_sub (fun w h => List.mem_cons_of_mem _ (List.mem_append_left _ (List.mem_append_left _ (List.mem_append_left _ (List.mem_append_right _ h))))) (by decide +kernel)
theorem wg_X10_end_X6_firstWrong_114 : GoodIn wp_X10_end (wsV RX10 114 RX6 yX6_firstWrong wp_X6_firstWrong) := goodIn_sub (fun w h => List.mem_cons_of_mem _ (List.mem_append_left _ (List.mem_append_left _ (List.mem_append_right _ h)))) (by decide +kernel)
theorem wi_X10_end_X10 : ∀ w ∈ wsX100, w ∈ wp_X10_end := fun w h => List.mem_cons_of_mem _ (List.mem_append_left _ (List.mem_append_right _ h))
theorem wi_X10_end_X7 : ∀ w ∈ wsX70, w ∈ wp_X10_end := fun w h => List.mem_cons_of_mem _ (List.mem_append_right _ h)
set_option maxHeartbeats 4000000 in
set_option maxRecDepth 100000 in
theorem c_X10_end (l : Launch) (D : va_G) (sz t0 : Nat) (σ : sm_S) (β : sm_A) (p1 : Int32) (mc1 ms1 mc2 ms2 : Nat) (K : Int32 → sm_S → Prop) (hF : mp_X10_end mc1 ms1 mc2 ms2 σ p1 K) : Met l yX10_end wp_X10_end { frames := 4, cells := mc1 + mc2, slots := ms1 + ms2, locals := 88 } (sm_P sm_wX sm_tX 38 D sz t0 σ β [.ref (β.1 10), .int p1]) (va_Qi (fun r (u : sm_S × sm_A) => K r u.1) (sm_Ba sm_wX sm_tX 38 11 D (sm_a β 38 sz) β) (sm_a β 38 sz)) (mc1 + mc2) (ms1 + ms2) (sm_a β 38 sz) := by
  refine Met.ofW (cc := cX10_end) (maxL := 5) (ret := (some .int)) (by decide) rfl ?_
  intro p e s m args below meth c s₁ B hml hv
  obtain ⟨rfl, hsz, hP, hK, hD0, hE⟩ := hv
  have hx := B.exec
  have hb := B.bytes
  have hr := B.returns
  have hts := atoms_spec (ws := wp_X10_end) B.pre
  have hown : s.vm.findClass RX10 = some m.cls := findClass_of_methodNamed B.named
  have hlocks := B.notSynchronized
  subst hsz
  have hD : sm_D (sm_a β 38 s.heap.size) β 38 := hD0.own
  have hA : ∀ q : Nat, s.heap.size ≤ q → sm_a β 38 s.heap.size q := fun q h => Or.inr h
  generalize hAe : sm_a β 38 s.heap.size = A at hD hA hE ⊢
  have hS : va_S A s.heap s.heap [] := va_S.rf
  have in_X10 : ∀ w ∈ wsX100, w ∈ wp_X10_end := wi_X10_end_X10
  have in_X7 : ∀ w ∈ wsX70, w ∈ wp_X10_end := wi_X10_end_X7
  have k_0 := hts (.fieldLink RX10 39 "SteadyMachine" "verifier" "LSteadyMachine$Verifier;") (by decide +kernel)
  have k_1 := hts (.fieldLink RX10 85 "SteadyMachine" "taped" "I") (by decide +kernel)
  have k_2 := hts (.fieldLink RX10 72 "SteadyMachine" "runner" "LSteadyMachine$Runner;") (by decide +kernel)
  have k_3 := hts (.fieldLink RX10 103 "SteadyMachine$Runner" "state" "I") (by decide +kernel)
  have k_4 := hts (.fieldLink RX10 106 "SteadyMachine" "whole" "Z") (by decide +kernel)
  have k_5 := hts (.fieldLink RX10 16 "SteadyMachine" "image" "LSteadyMachine$Image;") (by decide +kernel)
  have k_6 := hts (.fieldLink RX10 7 "SteadyMachine" "tape" "[B") (by decide +kernel)
  have k_7 := hts (.fieldLink RX10 25 "SteadyMachine" "reader" "LSteadyMachine$Reader;") (by decide +kernel)
  have k_8 := hts (.fieldLink RX10 32 "SteadyMachine" "linker" "LSteadyMachine$Linker;") (by decide +kernel)
  have hl := lv_entry ([.ref (β.1 10), .int p1]) (n := 5) (Nat.le_of_ble_eq_true rfl)
  rw [lg_entry_eq]
  generalize (lg_sl ([.ref (β.1 10), .int p1]) ++ List.replicate (5 - (lg_sl ([.ref (β.1 10), .int p1])).length) Slot.unset).toArray = ls at hl ⊢
  have B67 : ∀ (σ : sm_S) (x3 : Int32), mp_X10_end_67 mc1 ms1 mc2 ms2 K σ x3 → sm_Ja p l e (headSpec wp_X10_end { frames := 4, cells := mc1 + mc2, slots := ms1 + ms2, locals := 88 }).room s m ([.ref (β.1 10), .int p1] : List Value).toArray below meth c (MQ below (va_Qi (fun r (u : sm_S × sm_A) => K r u.1) (sm_Ba sm_wX sm_tX 38 11 D A β) A) ([.ref (β.1 10), .int p1] : List Value).toArray s (mc1 + mc2) (ms1 + ms2) A) sm_wX sm_tX 38 11 D A β 5 (0 + mc1) (0 + ms1) σ 67 (fun α => [(0, .ref (α.1 10)), (3, .int x3)]) (fun α => []) := by
    intro σ x3 hF α H locs ls hob hK hD hP hS hl
    dsimp only at hl ⊢
    unfold mp_X10_end_67 at hF
    refine lv_iload_n hx hb dX10_end_67 rfl (lv_at hl 1 rfl) ?_
    refine lv_iconst (v := -1) hx hb dX10_end_68 (by decide) ?_
    refine lv_icmp_eq (tgt := 77) hx hb dX10_end_69 (by decide) (fun h1 => ?_) (fun h1 => ?_)
    · replace hF := hF.1 h1
      refine lv_aload_n hx hb dX10_end_77 rfl (lv_at hl 0 rfl) ?_
      refine va_get (D := D) (ci := 10) (v := .ref (α.1 8)) (C := RX10) (T := TX10) (N := 11) hx hb hts in_X10 hown hK hP 10 (sm_gX10 σ α) rfl 6 (by decide) k_0 (fun _ h9 => h9) rfl dX10_end_78 ?_
      exact hF.elim
    · replace hF := hF.2 h1
      refine lv_bipush (v := -3) hx hb dX10_end_72 (by decide) ?_
      refine lv_iload_n hx hb dX10_end_74 rfl (lv_at hl 1 rfl) ?_
      refine lv_isub hx hb dX10_end_75 ?_
      refine W.widen (k := mc1 + mc2) (n := ms1 + ms2) ((show 0 + mc1 ≤ mc1 + mc2 by omega)) ((show 0 + ms1 ≤ ms1 + ms2 by omega)) ?_
      exact W.iret (v := ((-3) - x3)) hx hb hr (fun t ht hW => ⟨⟨((-3) - x3), (σ, α), rfl, hF, by rw [ht]; exact hP, va_K.moved hW.alike hK, hD, hob⟩, hS.F ht⟩) hS.2.2 dX10_end_76
  have B19 : ∀ (σ : sm_S), mp_X10_end_19 mc1 ms1 mc2 ms2 K σ → sm_Ja p l e (headSpec wp_X10_end { frames := 4, cells := mc1 + mc2, slots := ms1 + ms2, locals := 88 }).room s m ([.ref (β.1 10), .int p1] : List Value).toArray below meth c (MQ below (va_Qi (fun r (u : sm_S × sm_A) => K r u.1) (sm_Ba sm_wX sm_tX 38 11 D A β) A) ([.ref (β.1 10), .int p1] : List Value).toArray s (mc1 + mc2) (ms1 + ms2) A) sm_wX sm_tX 38 11 D A β 5 (mc1 + mc2) (ms1 + ms2) σ 19 (fun α => []) (fun α => []) := by
    intro σ hF α H locs ls hob hK hD hP hS hl
    dsimp only at hl ⊢
    unfold mp_X10_end_19 at hF
    refine lv_iconst (v := -1) hx hb dX10_end_19 (by decide) ?_
    exact W.iret (v := (-1)) hx hb hr (fun t ht hW => ⟨⟨(-1), (σ, α), rfl, hF, by rw [ht]; exact hP, va_K.moved hW.alike hK, hD, hob⟩, hS.F ht⟩) hS.2.2 dX10_end_20
  unfold mp_X10_end at hF
  suffices h9 : sm_Ja p l e (headSpec wp_X10_end { frames := 4, cells := mc1 + mc2, slots := ms1 + ms2, locals := 88 }).room s m ([.ref (β.1 10), .int p1] : List Value).toArray below meth c (MQ below (va_Qi (fun r (u : sm_S × sm_A) => K r u.1) (sm_Ba sm_wX sm_tX 38 11 D A β) A) ([.ref (β.1 10), .int p1] : List Value).toArray s (mc1 + mc2) (ms1 + ms2) A) sm_wX sm_tX 38 11 D A β 5 0 0 σ 0 (fun α => [(0, .ref (α.1 10)), (1, .int p1)]) (fun α => []) from h9 β s.heap [] ls (fun _ _ => rfl) hK hD hP hS hl
  clear hK hD hP hS hl
  intro α H locs ls hob hK hD hP hS hl
  dsimp only at hl ⊢
  refine lv_aload_n hx hb dX10_end_0 rfl (lv_at hl 0 rfl) ?_
  refine va_get (D := D) (ci := 10) (v := .int (σ.1 35)) (C := RX10) (T := TX10) (N := 11) hx hb hts in_X10 hown hK hP 10 (sm_gX10 σ α) rfl 1 (by decide) k_1 (fun _ h9 => h9) rfl dX10_end_1 ?_
  refine lv_topi (fun v2 ev2 => ?_)
  replace hF := hF v2 ev2
  refine lv_istore_n (lv' := [(2, .int v2), (0, .ref (α.1 10)), (1, .int p1)]) hx hb dX10_end_4 rfl hl (by decide) rfl (fun ls hl => ?_)
  refine lv_aload_n hx hb dX10_end_5 rfl (lv_at hl 1 rfl) ?_
  refine lv_iconst (v := 0) hx hb dX10_end_6 (by decide) ?_
  refine va_put (D := D) (ci := 10) (v := .int 0) (ty := .int) (C := RX10) (T := TX10) (N := 11) hx hb hts in_X10 tyX10 tyX10_ok nmX10 hown hK hP (hD.to (sm_wX_m _ _)) hS 10 (sm_gX10 σ α) rfl 1 (by decide) k_1 (fun _ h9 => h9) rfl (by decide +kernel) rfl rfl (Nat.le_of_ble_eq_true rfl) dX10_end_7 (fun H locs hP _ hS => ?_)
  rw [sm_iX35] at hP
  obtain ⟨σ3, eσ3⟩ : ∃ x : sm_S, x = sm_i σ 35 0 := ⟨_, rfl⟩
  replace hF := hF σ3 eσ3
  rw [← eσ3] at hP
  refine lv_iload_n hx hb dX10_end_10 rfl (lv_at hl 2 rfl) ?_
  refine lv_if_lt (tgt := 19) hx hb dX10_end_11 (by decide) (fun h4 => ?_) (fun h4 => ?_)
  · replace hF := hF.1 h4
    refine W.widen (k := mc1 + mc2) (n := ms1 + ms2) (Nat.zero_le _) (Nat.zero_le _) ?_
    exact B19 σ3 hF α H locs ls hob hK hD hP hS (lv_sub hl [] rfl)
  · replace hF := hF.2 h4
    refine lv_iload_n hx hb dX10_end_14 rfl (lv_at hl 2 rfl) ?_
    refine lv_iload_n hx hb dX10_end_15 rfl (lv_at hl 0 rfl) ?_
    refine lv_icmp_le (tgt := 21) hx hb dX10_end_16 (by decide) (fun h5 => ?_) (fun h5 => ?_)
    · replace hF := hF.1 h5
      refine lv_aload_n hx hb dX10_end_21 rfl (lv_at hl 1 rfl) ?_
      refine va_get (D := D) (ci := 10) (v := .ref (α.1 7)) (C := RX10) (T := TX10) (N := 11) hx hb hts in_X10 hown hK hP 10 (sm_gX10 σ3 α) rfl 9 (by decide) k_2 (fun _ h9 => h9) rfl dX10_end_22 ?_
      refine lv_iconst (v := 0) hx hb dX10_end_25 (by decide) ?_
      refine va_put (D := D) (ci := 7) (v := .int 0) (ty := .int) (C := RX7) (T := TX7) (N := 13) hx hb hts in_X7 tyX7 tyX7_ok nmX7 hown hK hP (hD.to (sm_wX_m _ _)) hS 7 (sm_gX7 σ3 α) rfl 5 (by decide) k_3 (fun _ h9 => h9) rfl (by decide +kernel) rfl rfl (Nat.le_of_ble_eq_true rfl) dX10_end_26 (fun H locs hP _ hS => ?_)
      rw [sm_iX22] at hP
      obtain ⟨σ6, eσ6⟩ : ∃ x : sm_S, x = sm_i σ3 22 0 := ⟨_, rfl⟩
      replace hF := hF σ6 eσ6
      rw [← eσ6] at hP
      refine lv_aload_n hx hb dX10_end_29 rfl (lv_at hl 1 rfl) ?_
      refine lv_iconst (v := 0) hx hb dX10_end_30 (by decide) ?_
      refine va_put (D := D) (ci := 10) (v := .int 0) (ty := .boolean) (C := RX10) (T := TX10) (N := 11) hx hb hts in_X10 tyX10 tyX10_ok nmX10 hown hK hP (hD.to (sm_wX_m _ _)) hS 10 (sm_gX10 σ6 α) rfl 2 (by decide) k_4 (fun _ h9 => h9) rfl (by decide +kernel) sm_z0.1 sm_z0.2 (Nat.le_of_ble_eq_true rfl) dX10_end_31 (fun H locs hP _ hS => ?_)
      rw [sm_iX36] at hP
      obtain ⟨σ7, eσ7⟩ : ∃ x : sm_S, x = sm_i σ6 36 0 := ⟨_, rfl⟩
      replace hF := hF σ7 eσ7
      rw [← eσ7] at hP
      refine lv_aload_n hx hb dX10_end_34 rfl (lv_at hl 1 rfl) ?_
      refine va_get (D := D) (ci := 10) (v := .ref (α.1 2)) (C := RX10) (T := TX10) (N := 11) hx hb hts in_X10 hown hK hP 10 (sm_gX10 σ7 α) rfl 3 (by decide) k_5 (fun _ h9 => h9) rfl dX10_end_35 ?_
      refine lv_aload_n hx hb dX10_end_38 rfl (lv_at hl 1 rfl) ?_
      refine va_get (D := D) (ci := 10) (v := .ref (α.1 37)) (C := RX10) (T := TX10) (N := 11) hx hb hts in_X10 hown hK hP 10 (sm_gX10 σ7 α) rfl 0 (by decide) k_6 (fun _ h9 => h9) rfl dX10_end_39 ?_
      refine lv_iload_n hx hb dX10_end_42 rfl (lv_at hl 2 rfl) ?_
      refine sm_avv (nO := 11) (As := [.ref (α.1 37), .int p1]) (rest := []) hP hK hD hE hS hA ⟨hx, hb, hml, hown, hts⟩ hl.1 (c_X2_take l D H.size t0 σ7 α p1 mc1 ms1 _ hF) (cwV 2 hts wg_X10_end_X2_take_110 rfl rfl rfl (by decide +kernel) ⟨Nat.le_of_ble_eq_true rfl, Nat.le_of_ble_eq_true rfl⟩) (va_recv hK hP (ci := 2) (q0 := 2) rfl (sm_gX2 σ7 α)) rfl rfl (Nat.le_of_ble_eq_true rfl) dX10_end_43 ⟨(show 0 + mc1 ≤ mc1 + mc2 by omega), (show 0 + ms1 ≤ ms1 + ms2 by omega)⟩ (fun σ8 α9 H locs hF hβ hK hD hP hS => ?_)
      replace hob : ∀ k : Nat, k < 11 → α9.1 k = β.1 k := fun k hk => (hβ k hk).trans (hob k hk)
      replace hl : lv_has ls 5 [(2, .int v2), (0, .ref (α9.1 10)), (1, .int p1)] := by rw [hβ 10 (by decide)]; exact hl
      refine lv_aload_n hx hb dX10_end_46 rfl (lv_at hl 1 rfl) ?_
      refine va_get (D := D) (ci := 10) (v := .ref (α9.1 6)) (C := RX10) (T := TX10) (N := 11) hx hb hts in_X10 hown hK hP 10 (sm_gX10 σ8 α9) rfl 4 (by decide) k_7 (fun _ h9 => h9) rfl dX10_end_47 ?_
      refine sm_vi (As := []) (rest := []) hP hK hD hE hS hA ⟨hx, hb, hml, hown, hts⟩ hl.1 (c_X6_firstWrong l D H.size t0 σ8 α9 _ hF) (cwV 0 hts wg_X10_end_X6_firstWrong_114 rfl rfl rfl (by decide +kernel) ⟨Nat.le_of_ble_eq_true rfl, Nat.le_of_ble_eq_true rfl⟩) (va_recv hK hP (ci := 6) (q0 := 6) rfl (sm_gX6 σ8 α9)) rfl rfl (Nat.le_of_ble_eq_true rfl) dX10_end_50 ⟨(show 0 + mc1 ≤ mc1 + mc2 by omega), (show 0 + ms1 ≤ ms1 + ms2 by omega)⟩ (fun r11 σ10 H locs hF hP hS => ?_)
      refine lv_istore_n (lv' := [(3, .int r11), (2, .int v2), (0, .ref (α9.1 10)), (1, .int p1)]) hx hb dX10_end_53 rfl hl (by decide) rfl (fun ls hl => ?_)
      refine lv_iload_n hx hb dX10_end_54 rfl (lv_at hl 0 rfl) ?_
      refine lv_iconst (v := -1) hx hb dX10_end_55 (by decide) ?_
      refine lv_icmp_ne (tgt := 67) hx hb dX10_end_56 (by decide) (fun h12 => ?_) (fun h12 => ?_)
      · replace hF := hF.1 h12
        exact B67 σ10 r11 hF α9 H locs ls hob hK hD hP hS (lv_sub hl [2, 0] rfl)
      · replace hF := hF.2 h12
        refine lv_aload_n hx hb dX10_end_59 rfl (lv_at hl 2 rfl) ?_
        refine va_get (D := D) (ci := 10) (v := .ref (α9.1 3)) (C := RX10) (T := TX10) (N := 11) hx hb hts in_X10 hown hK hP 10 (sm_gX10 σ10 α9) rfl 5 (by decide) k_8 (fun _ h9 => h9) rfl dX10_end_60 ?_
        exact hF.elim
    · replace hF := hF.2 h5
      refine W.widen (k := mc1 + mc2) (n := ms1 + ms2) (Nat.zero_le _) (Nat.zero_le _) ?_
      exact B19 σ3 hF α H locs ls hob hK hD hP hS (lv_sub hl [] rfl)
theorem dX5_add_0 : decode cX5_add 0 = .ok (.aload_n 0, 1) := by decide +kernel
theorem dX5_add_1 : decode cX5_add 1 = .ok (.getfield 18, 3) := by decide +kernel
theorem dX5_add_4 : decode cX5_add 4 = .ok (.sipush 1000, 3) := by decide +kernel
theorem dX5_add_7 : decode cX5_add 7 = .ok (.if_icmp .lt 6, 3) := by decide +kernel
theorem dX5_add_10 : decode cX5_add 10 = .ok (.bipush (-2), 2) := by decide +kernel
theorem dX5_add_12 : decode cX5_add 12 = .ok (.ireturn, 1) := by decide +kernel
theorem dX5_add_13 : decode cX5_add 13 = .ok (.aload_n 0, 1) := by decide +kernel
theorem dX5_add_14 : decode cX5_add 14 = .ok (.getfield 9, 3) := by decide +kernel
theorem dX5_add_17 : decode cX5_add 17 = .ok (.aload_n 0, 1) := by decide +kernel
theorem dX5_add_18 : decode cX5_add 18 = .ok (.getfield 18, 3) := by decide +kernel
theorem dX5_add_21 : decode cX5_add 21 = .ok (.iload_n 1, 1) := by decide +kernel
theorem dX5_add_22 : decode cX5_add 22 = .ok (.iastore, 1) := by decide +kernel
theorem dX5_add_23 : decode cX5_add 23 = .ok (.aload_n 0, 1) := by decide +kernel
theorem dX5_add_24 : decode cX5_add 24 = .ok (.dup, 1) := by decide +kernel
theorem dX5_add_25 : decode cX5_add 25 = .ok (.getfield 18, 3) := by decide +kernel
theorem dX5_add_28 : decode cX5_add 28 = .ok (.iconst 1, 1) := by decide +kernel
theorem dX5_add_29 : decode cX5_add 29 = .ok (.iadd, 1) := by decide +kernel
theorem dX5_add_30 : decode cX5_add 30 = .ok (.putfield 18, 3) := by decide +kernel
theorem dX5_add_33 : decode cX5_add 33 = .ok (.aload_n 0, 1) := by decide +kernel
theorem dX5_add_34 : decode cX5_add 34 = .ok (.getfield 18, 3) := by decide +kernel
theorem dX5_add_37 : decode cX5_add 37 = .ok (.ireturn, 1) := by decide +kernel
/-- SteadyMachine$Ports.add(I)I -/
def mp_X5_add (σ : sm_S) (p1 : Int32) (K : Int32 → sm_S → Prop) : Prop := (((σ.1 18) < 1000 → (vp_in (σ.1 18) (σ.2.2.1 30) ∧ ∀ σ3 : sm_S, σ3 = sm_r σ 30 (upd (σ.2.2.2.1 30) (σ.1 18).toNatClampNeg p1) → ∀ σ4 : sm_S, σ4 = sm_i σ3 18 ((σ3.1 18) + 1) → K (σ4.1 18) σ4)) ∧ (¬ (σ.1 18) < 1000 → (K (-2) σ)))
def wp_X5_add : List Cond := .code yX5_add cX5_add 2 (some .int) :: ([.fieldLink RX5 18 "SteadyMachine$Ports" "inputs" "I", .fieldLink RX5 9 "SteadyMachine$Ports" "ins" "[I"] ++ wsX50)
theorem wi_X5_add_X5 : ∀ w ∈ wsX50, w ∈ wp_X5_add := fun w h => List.mem_cons_of_mem _ (List.mem_append_right _ h)
set_option maxHeartbeats 4000000 in
set_option maxRecDepth 100000 in
theorem c_X5_add (l : Launch) (D : va_G) (sz t0 : Nat) (σ : sm_S) (α : sm_A) (p1 : Int32) (K : Int32 → sm_S → Prop) (hF : mp_X5_add σ p1 K) : Met l yX5_add wp_X5_add { frames := 0, cells := 0, slots := 0, locals := 0 } (sm_P sm_wX sm_tX 38 D sz t0 σ α [.ref (α.1 5), .int p1]) (va_Qi K (sm_B sm_wX D α) (sm_a α 38 sz)) 0 0 (sm_a α 38 sz) := by
  refine Met.ofW (cc := cX5_add) (maxL := 2) (ret := (some .int)) (by decide) rfl ?_
  intro p e s m args below meth c s₁ B hml hv
  obtain ⟨rfl, hsz, hP, hK, hD0, hE⟩ := hv
  have hx := B.exec
  have hb := B.bytes
  have hr := B.returns
  have hts := atoms_spec (ws := wp_X5_add) B.pre
  have hown : s.vm.findClass RX5 = some m.cls := findClass_of_methodNamed B.named
  have hlocks := B.notSynchronized
  subst hsz
  have hD : sm_D (sm_a α 38 s.heap.size) α 38 := hD0.own
  have hA : ∀ q : Nat, s.heap.size ≤ q → sm_a α 38 s.heap.size q := fun q h => Or.inr h
  generalize hAe : sm_a α 38 s.heap.size = A at hD hA hE ⊢
  have hS : va_S A s.heap s.heap [] := va_S.rf
  have in_X5 : ∀ w ∈ wsX50, w ∈ wp_X5_add := wi_X5_add_X5
  have k_0 := hts (.fieldLink RX5 18 "SteadyMachine$Ports" "inputs" "I") (by decide +kernel)
  have k_1 := hts (.fieldLink RX5 9 "SteadyMachine$Ports" "ins" "[I") (by decide +kernel)
  have hl := lv_entry ([.ref (α.1 5), .int p1]) (n := 2) (Nat.le_of_ble_eq_true rfl)
  rw [lg_entry_eq]
  generalize (lg_sl ([.ref (α.1 5), .int p1]) ++ List.replicate (2 - (lg_sl ([.ref (α.1 5), .int p1])).length) Slot.unset).toArray = ls at hl ⊢
  have hl : lv_has ls 2 [(0, .ref (α.1 5)), (1, .int p1)] := hl
  unfold mp_X5_add at hF
  revert hP hS
  generalize hLo : ([] : List Loc) = locs
  suffices h9 : ∀ (H : Heap) (locs : List Loc), va_P D vwCl (sm_wX σ α) H → va_S A s.heap H locs → W p l e (headSpec wp_X5_add { frames := 0, cells := 0, slots := 0, locals := 0 }).room s m ([.ref (α.1 5), .int p1] : List Value).toArray below meth c H locs 0 0 (MQ below (va_Qi K (sm_B sm_wX D α) A) ([.ref (α.1 5), .int p1] : List Value).toArray s 0 0 A) (F0 m 0 ls []) from fun hP hS => h9 s.heap locs hP hS
  intro H locs hP hS
  refine lv_aload_n hx hb dX5_add_0 rfl (lv_at hl 0 rfl) ?_
  refine va_get (D := D) (ci := 5) (v := .int (σ.1 18)) (C := RX5) (T := TX5) (N := 5) hx hb hts in_X5 hown hK hP 5 (sm_gX5 σ α) rfl 1 (by decide) k_0 (fun _ h9 => h9) rfl dX5_add_1 ?_
  refine lv_sipush (v := 1000) hx hb dX5_add_4 (by decide) ?_
  refine lv_icmp_lt (tgt := 13) hx hb dX5_add_7 (by decide) (fun h1 => ?_) (fun h1 => ?_)
  · replace hF := hF.1 h1
    refine lv_aload_n hx hb dX5_add_13 rfl (lv_at hl 0 rfl) ?_
    refine va_get (D := D) (ci := 5) (v := .ref (α.1 30)) (C := RX5) (T := TX5) (N := 5) hx hb hts in_X5 hown hK hP 5 (sm_gX5 σ α) rfl 0 (by decide) k_1 (fun _ h9 => h9) rfl dX5_add_14 ?_
    refine lv_aload_n hx hb dX5_add_17 rfl (lv_at hl 0 rfl) ?_
    refine va_get (D := D) (ci := 5) (v := .int (σ.1 18)) (C := RX5) (T := TX5) (N := 5) hx hb hts in_X5 hown hK hP 5 (sm_gX5 σ α) rfl 1 (by decide) k_0 (fun _ h9 => h9) rfl dX5_add_18 ?_
    refine lv_iload_n hx hb dX5_add_21 rfl (lv_at hl 1 rfl) ?_
    obtain ⟨h2, hF⟩ := hF
    refine va_iast (n := (σ.2.2.1 30)) (f := (σ.2.2.2.1 30)) (x := p1) hx hb hK hP (hD.to (sm_wX_m _ _)) hS 30 19 (sm_aX30 σ α) (sm_yX30 α) h2 dX5_add_22 (fun H locs hP _ hS => ?_)
    rw [sm_rX30] at hP
    obtain ⟨σ3, eσ3⟩ : ∃ x : sm_S, x = sm_r σ 30 (upd (σ.2.2.2.1 30) (σ.1 18).toNatClampNeg p1) := ⟨_, rfl⟩
    replace hF := hF σ3 eσ3
    rw [← eσ3] at hP
    refine lv_aload_n hx hb dX5_add_23 rfl (lv_at hl 0 rfl) ?_
    refine lv_dup hx hb dX5_add_24 rfl ?_
    refine va_get (D := D) (ci := 5) (v := .int (σ3.1 18)) (C := RX5) (T := TX5) (N := 5) hx hb hts in_X5 hown hK hP 5 (sm_gX5 σ3 α) rfl 1 (by decide) k_0 (fun _ h9 => h9) rfl dX5_add_25 ?_
    refine lv_iconst (v := 1) hx hb dX5_add_28 (by decide) ?_
    refine lv_iadd hx hb dX5_add_29 ?_
    refine va_put (D := D) (ci := 5) (v := .int ((σ3.1 18) + 1)) (ty := .int) (C := RX5) (T := TX5) (N := 5) hx hb hts in_X5 tyX5 tyX5_ok nmX5 hown hK hP (hD.to (sm_wX_m _ _)) hS 5 (sm_gX5 σ3 α) rfl 1 (by decide) k_0 (fun _ h9 => h9) rfl (by decide +kernel) rfl rfl (Nat.le_of_ble_eq_true rfl) dX5_add_30 (fun H locs hP _ hS => ?_)
    rw [sm_iX18] at hP
    obtain ⟨σ4, eσ4⟩ : ∃ x : sm_S, x = sm_i σ3 18 ((σ3.1 18) + 1) := ⟨_, rfl⟩
    replace hF := hF σ4 eσ4
    rw [← eσ4] at hP
    refine lv_aload_n hx hb dX5_add_33 rfl (lv_at hl 0 rfl) ?_
    refine va_get (D := D) (ci := 5) (v := .int (σ4.1 18)) (C := RX5) (T := TX5) (N := 5) hx hb hts in_X5 hown hK hP 5 (sm_gX5 σ4 α) rfl 1 (by decide) k_0 (fun _ h9 => h9) rfl dX5_add_34 ?_
    exact W.iret (v := (σ4.1 18)) hx hb hr (fun t ht hW => ⟨⟨(σ4.1 18), σ4, rfl, hF, (by unfold sm_B; rw [ht]; exact hP)⟩, hS.F ht⟩) hS.2.2 dX5_add_37
  · replace hF := hF.2 h1
    refine lv_bipush (v := -2) hx hb dX5_add_10 (by decide) ?_
    exact W.iret (v := (-2)) hx hb hr (fun t ht hW => ⟨⟨(-2), σ, rfl, hF, (by unfold sm_B; rw [ht]; exact hP)⟩, hS.F ht⟩) hS.2.2 dX5_add_12
theorem dX10_input_0 : decode cX10_input 0 = .ok (.aload_n 0, 1) := by decide +kernel
theorem dX10_input_1 : decode cX10_input 1 = .ok (.getfield 46, 3) := by decide +kernel
theorem dX10_input_4 : decode cX10_input 4 = .ok (.iload_n 1, 1) := by decide +kernel
theorem dX10_input_5 : decode cX10_input 5 = .ok (.invokevirtual 125, 3) := by decide +kernel
theorem dX10_input_8 : decode cX10_input 8 = .ok (.ireturn, 1) := by decide +kernel
/-- SteadyMachine.input(I)I -/
def mp_X10_input (σ : sm_S) (p1 : Int32) (K : Int32 → sm_S → Prop) : Prop := mp_X5_add σ p1 (fun r2 σ1 => K r2 σ1)
def wp_X10_input : List Cond := .code yX10_input cX10_input 2 (some .int) :: (([.fieldLink RX10 46 "SteadyMachine" "ports" "LSteadyMachine$Ports;"] ++ (wsV RX10 125 RX5 yX5_add wp_X5_add)) ++ wsX100)
theorem wg_X10_input_X5_add_125 : GoodIn wp_X10_input (wsV RX10 125 RX5 yX5_add wp_X5_add) := goodIn_sub (fun w h => List.mem_cons_of_mem _ (List.mem_append_left _ (List.mem_append_right _ h))) (by decide +kernel)
theorem wi_X10_input_X10 : ∀ w ∈ wsX100, w ∈ wp_X10_input := fun w h => List.mem_cons_of_mem _ (List.mem_append_right _ h)
set_option maxHeartbeats 4000000 in
set_option maxRecDepth 100000 in
theorem c_X10_input (l : Launch) (D : va_G) (sz t0 : Nat) (σ : sm_S) (α : sm_A) (p1 : Int32) (K : Int32 → sm_S → Prop) (hF : mp_X10_input σ p1 K) : Met l yX10_input wp_X10_input { frames := 1, cells := 0, slots := 0, locals := 21 } (sm_P sm_wX sm_tX 38 D sz t0 σ α [.ref (α.1 10), .int p1]) (va_Qi K (sm_B sm_wX D α) (sm_a α 38 sz)) 0 0 (sm_a α 38 sz) := by
  refine Met.ofW (cc := cX10_input) (maxL := 2) (ret := (some .int)) (by decide) rfl ?_
  intro p e s m args below meth c s₁ B hml hv
  obtain ⟨rfl, hsz, hP, hK, hD0, hE⟩ := hv
  have hx := B.exec
  have hb := B.bytes
  have hr := B.returns
  have hts := atoms_spec (ws := wp_X10_input) B.pre
  have hown : s.vm.findClass RX10 = some m.cls := findClass_of_methodNamed B.named
  have hlocks := B.notSynchronized
  subst hsz
  have hD : sm_D (sm_a α 38 s.heap.size) α 38 := hD0.own
  have hA : ∀ q : Nat, s.heap.size ≤ q → sm_a α 38 s.heap.size q := fun q h => Or.inr h
  generalize hAe : sm_a α 38 s.heap.size = A at hD hA hE ⊢
  have hS : va_S A s.heap s.heap [] := va_S.rf
  have in_X10 : ∀ w ∈ wsX100, w ∈ wp_X10_input := wi_X10_input_X10
  have k_0 := hts (.fieldLink RX10 46 "SteadyMachine" "ports" "LSteadyMachine$Ports;") (by decide +kernel)
  have hl := lv_entry ([.ref (α.1 10), .int p1]) (n := 2) (Nat.le_of_ble_eq_true rfl)
  rw [lg_entry_eq]
  generalize (lg_sl ([.ref (α.1 10), .int p1]) ++ List.replicate (2 - (lg_sl ([.ref (α.1 10), .int p1])).length) Slot.unset).toArray = ls at hl ⊢
  have hl : lv_has ls 2 [(0, .ref (α.1 10)), (1, .int p1)] := hl
  unfold mp_X10_input at hF
  revert hP hS
  generalize hLo : ([] : List Loc) = locs
  suffices h9 : ∀ (H : Heap) (locs : List Loc), va_P D vwCl (sm_wX σ α) H → va_S A s.heap H locs → W p l e (headSpec wp_X10_input { frames := 1, cells := 0, slots := 0, locals := 21 }).room s m ([.ref (α.1 10), .int p1] : List Value).toArray below meth c H locs 0 0 (MQ below (va_Qi K (sm_B sm_wX D α) A) ([.ref (α.1 10), .int p1] : List Value).toArray s 0 0 A) (F0 m 0 ls []) from fun hP hS => h9 s.heap locs hP hS
  intro H locs hP hS
  refine lv_aload_n hx hb dX10_input_0 rfl (lv_at hl 0 rfl) ?_
  refine va_get (D := D) (ci := 10) (v := .ref (α.1 5)) (C := RX10) (T := TX10) (N := 11) hx hb hts in_X10 hown hK hP 10 (sm_gX10 σ α) rfl 7 (by decide) k_0 (fun _ h9 => h9) rfl dX10_input_1 ?_
  refine lv_iload_n hx hb dX10_input_4 rfl (lv_at hl 1 rfl) ?_
  refine sm_vi (As := [.int p1]) (rest := []) hP hK hD hE hS hA ⟨hx, hb, hml, hown, hts⟩ hl.1 (c_X5_add l D H.size t0 σ α p1 _ hF) (cwV 1 hts wg_X10_input_X5_add_125 rfl rfl rfl (by decide +kernel) ⟨Nat.le_of_ble_eq_true rfl, Nat.le_of_ble_eq_true rfl⟩) (va_recv hK hP (ci := 5) (q0 := 5) rfl (sm_gX5 σ α)) rfl rfl (Nat.le_of_ble_eq_true rfl) dX10_input_5 ⟨Nat.zero_le _, Nat.zero_le _⟩ (fun r2 σ1 H locs hF hP hS => ?_)
  exact W.iret (v := r2) hx hb hr (fun t ht hW => ⟨⟨r2, σ1, rfl, hF, (by unfold sm_B; rw [ht]; exact hP)⟩, hS.F ht⟩) hS.2.2 dX10_input_8
theorem dX10_clear_0 : decode cX10_clear 0 = .ok (.aload_n 0, 1) := by decide +kernel
theorem dX10_clear_1 : decode cX10_clear 1 = .ok (.getfield 46, 3) := by decide +kernel
theorem dX10_clear_4 : decode cX10_clear 4 = .ok (.iconst 0, 1) := by decide +kernel
theorem dX10_clear_5 : decode cX10_clear 5 = .ok (.putfield 129, 3) := by decide +kernel
theorem dX10_clear_8 : decode cX10_clear 8 = .ok (.return_, 1) := by decide +kernel
/-- SteadyMachine.clear()V -/
def mp_X10_clear (σ : sm_S)  (K : sm_S → Prop) : Prop := ∀ σ1 : sm_S, σ1 = sm_i σ 18 0 → K σ1
def wp_X10_clear : List Cond := .code yX10_clear cX10_clear 1 none :: (([.fieldLink RX10 46 "SteadyMachine" "ports" "LSteadyMachine$Ports;", .fieldLink RX10 129 "SteadyMachine$Ports" "inputs" "I"] ++ wsX100) ++ wsX50)
theorem wi_X10_clear_X10 : ∀ w ∈ wsX100, w ∈ wp_X10_clear := fun w h => List.mem_cons_of_mem _ (List.mem_append_left _ (List.mem_append_right _ h))
theorem wi_X10_clear_X5 : ∀ w ∈ wsX50, w ∈ wp_X10_clear := fun w h => List.mem_cons_of_mem _ (List.mem_append_right _ h)
set_option maxHeartbeats 4000000 in
set_option maxRecDepth 100000 in
theorem c_X10_clear (l : Launch) (D : va_G) (sz t0 : Nat) (σ : sm_S) (α : sm_A) (K : sm_S → Prop) (hF : mp_X10_clear σ K) : Met l yX10_clear wp_X10_clear { frames := 0, cells := 0, slots := 0, locals := 0 } (sm_P sm_wX sm_tX 38 D sz t0 σ α [.ref (α.1 10)]) (va_Qv K (sm_B sm_wX D α) (sm_a α 38 sz)) 0 0 (sm_a α 38 sz) := by
  refine Met.ofW (cc := cX10_clear) (maxL := 1) (ret := none) (by decide) rfl ?_
  intro p e s m args below meth c s₁ B hml hv
  obtain ⟨rfl, hsz, hP, hK, hD0, hE⟩ := hv
  have hx := B.exec
  have hb := B.bytes
  have hr := B.returns
  have hts := atoms_spec (ws := wp_X10_clear) B.pre
  have hown : s.vm.findClass RX10 = some m.cls := findClass_of_methodNamed B.named
  have hlocks := B.notSynchronized
  subst hsz
  have hD : sm_D (sm_a α 38 s.heap.size) α 38 := hD0.own
  have hA : ∀ q : Nat, s.heap.size ≤ q → sm_a α 38 s.heap.size q := fun q h => Or.inr h
  generalize hAe : sm_a α 38 s.heap.size = A at hD hA hE ⊢
  have hS : va_S A s.heap s.heap [] := va_S.rf
  have in_X10 : ∀ w ∈ wsX100, w ∈ wp_X10_clear := wi_X10_clear_X10
  have in_X5 : ∀ w ∈ wsX50, w ∈ wp_X10_clear := wi_X10_clear_X5
  have k_0 := hts (.fieldLink RX10 46 "SteadyMachine" "ports" "LSteadyMachine$Ports;") (by decide +kernel)
  have k_1 := hts (.fieldLink RX10 129 "SteadyMachine$Ports" "inputs" "I") (by decide +kernel)
  have hl := lv_entry ([.ref (α.1 10)]) (n := 1) (Nat.le_of_ble_eq_true rfl)
  rw [lg_entry_eq]
  generalize (lg_sl ([.ref (α.1 10)]) ++ List.replicate (1 - (lg_sl ([.ref (α.1 10)])).length) Slot.unset).toArray = ls at hl ⊢
  have hl : lv_has ls 1 [(0, .ref (α.1 10))] := hl
  unfold mp_X10_clear at hF
  revert hP hS
  generalize hLo : ([] : List Loc) = locs
  suffices h9 : ∀ (H : Heap) (locs : List Loc), va_P D vwCl (sm_wX σ α) H → va_S A s.heap H locs → W p l e (headSpec wp_X10_clear { frames := 0, cells := 0, slots := 0, locals := 0 }).room s m ([.ref (α.1 10)] : List Value).toArray below meth c H locs 0 0 (MQ below (va_Qv K (sm_B sm_wX D α) A) ([.ref (α.1 10)] : List Value).toArray s 0 0 A) (F0 m 0 ls []) from fun hP hS => h9 s.heap locs hP hS
  intro H locs hP hS
  refine lv_aload_n hx hb dX10_clear_0 rfl (lv_at hl 0 rfl) ?_
  refine va_get (D := D) (ci := 10) (v := .ref (α.1 5)) (C := RX10) (T := TX10) (N := 11) hx hb hts in_X10 hown hK hP 10 (sm_gX10 σ α) rfl 7 (by decide) k_0 (fun _ h9 => h9) rfl dX10_clear_1 ?_
  refine lv_iconst (v := 0) hx hb dX10_clear_4 (by decide) ?_
  refine va_put (D := D) (ci := 5) (v := .int 0) (ty := .int) (C := RX5) (T := TX5) (N := 5) hx hb hts in_X5 tyX5 tyX5_ok nmX5 hown hK hP (hD.to (sm_wX_m _ _)) hS 5 (sm_gX5 σ α) rfl 1 (by decide) k_1 (fun _ h9 => h9) rfl (by decide +kernel) rfl rfl (Nat.le_of_ble_eq_true rfl) dX10_clear_5 (fun H locs hP _ hS => ?_)
  rw [sm_iX18] at hP
  obtain ⟨σ1, eσ1⟩ : ∃ x : sm_S, x = sm_i σ 18 0 := ⟨_, rfl⟩
  replace hF := hF σ1 eσ1
  rw [← eσ1] at hP
  exact W.vret hx hb hr (fun t ht hW => ⟨⟨σ1, rfl, hF, (by unfold sm_B; rw [ht]; exact hP)⟩, hS.F ht⟩) hS.2.2 dX10_clear_8
theorem dX10_start_0 : decode cX10_start 0 = .ok (.aload_n 0, 1) := by decide +kernel
theorem dX10_start_1 : decode cX10_start 1 = .ok (.getfield 106, 3) := by decide +kernel
theorem dX10_start_4 : decode cX10_start 4 = .ok (.ifCond .ne 5, 3) := by decide +kernel
theorem dX10_start_7 : decode cX10_start 7 = .ok (.iconst 0, 1) := by decide +kernel
theorem dX10_start_8 : decode cX10_start 8 = .ok (.ireturn, 1) := by decide +kernel
theorem dX10_start_9 : decode cX10_start 9 = .ok (.aload_n 0, 1) := by decide +kernel
theorem dX10_start_10 : decode cX10_start 10 = .ok (.getfield 63, 3) := by decide +kernel
theorem dX10_start_13 : decode cX10_start 13 = .ok (.sipush 1024, 3) := by decide +kernel
theorem dX10_start_16 : decode cX10_start 16 = .ok (.ldc 132, 2) := by decide +kernel
theorem dX10_start_18 : decode cX10_start 18 = .ok (.iload_n 1, 1) := by decide +kernel
theorem dX10_start_19 : decode cX10_start 19 = .ok (.invokestatic 133, 3) := by decide +kernel
theorem dX10_start_22 : decode cX10_start 22 = .ok (.invokestatic 138, 3) := by decide +kernel
theorem dX10_start_25 : decode cX10_start 25 = .ok (.iconst 1, 1) := by decide +kernel
theorem dX10_start_26 : decode cX10_start 26 = .ok (.bipush 64, 2) := by decide +kernel
theorem dX10_start_28 : decode cX10_start 28 = .ok (.iload_n 2, 1) := by decide +kernel
theorem dX10_start_29 : decode cX10_start 29 = .ok (.invokestatic 133, 3) := by decide +kernel
theorem dX10_start_32 : decode cX10_start 32 = .ok (.invokestatic 138, 3) := by decide +kernel
theorem dX10_start_35 : decode cX10_start 35 = .ok (.invokevirtual 141, 3) := by decide +kernel
theorem dX10_start_38 : decode cX10_start 38 = .ok (.aload_n 0, 1) := by decide +kernel
theorem dX10_start_39 : decode cX10_start 39 = .ok (.getfield 46, 3) := by decide +kernel
theorem dX10_start_42 : decode cX10_start 42 = .ok (.invokevirtual 145, 3) := by decide +kernel
theorem dX10_start_45 : decode cX10_start 45 = .ok (.aload_n 0, 1) := by decide +kernel
theorem dX10_start_46 : decode cX10_start 46 = .ok (.getfield 72, 3) := by decide +kernel
theorem dX10_start_49 : decode cX10_start 49 = .ok (.invokevirtual 148, 3) := by decide +kernel
theorem dX10_start_52 : decode cX10_start 52 = .ok (.iconst 1, 1) := by decide +kernel
theorem dX10_start_53 : decode cX10_start 53 = .ok (.ireturn, 1) := by decide +kernel
/-- SteadyMachine.start(II)Z -/
def mp_X10_start (mc ms : Nat) (σ : sm_S) (p1 : Int32) (p2 : Int32) (K : Int32 → sm_S → Prop) : Prop := ((¬ (σ.1 36) = 0 → (False)) ∧ ((σ.1 36) = 0 → (K 0 σ)))
def wp_X10_start : List Cond := .code yX10_start cX10_start 3 (some .boolean) :: ([.fieldLink RX10 106 "SteadyMachine" "whole" "Z", .fieldLink RX10 63 "SteadyMachine" "heap" "LSteadyMachine$Heap;", .constant RX10 132 (60000), .methodLink RX10 133 Lib.Math.min.name, .static Lib.Math.min.name, .initialized "java/lang/Math", .code Lib.Math.min.name Lib.Math.min.code 2 (some .int), .methodLink RX10 138 Lib.Math.max.name, .static Lib.Math.max.name, .code Lib.Math.max.name Lib.Math.max.code 2 (some .int)] ++ wsX100)
theorem wi_X10_start_X10 : ∀ w ∈ wsX100, w ∈ wp_X10_start := fun w h => List.mem_cons_of_mem _ (List.mem_append_right _ h)
set_option maxHeartbeats 4000000 in
set_option maxRecDepth 100000 in
theorem c_X10_start (l : Launch) (D : va_G) (sz t0 : Nat) (σ : sm_S) (β : sm_A) (p1 : Int32) (p2 : Int32) (mc ms : Nat) (K : Int32 → sm_S → Prop) (hF : mp_X10_start mc ms σ p1 p2 K) : Met l yX10_start wp_X10_start { frames := 1, cells := mc, slots := ms, locals := 26 } (sm_P sm_wX sm_tX 38 D sz t0 σ β [.ref (β.1 10), .int p1, .int p2]) (va_Qi (fun r (u : sm_S × sm_A) => K r u.1) (sm_Ba sm_wX sm_tX 38 11 D (sm_a β 38 sz) β) (sm_a β 38 sz)) (mc) (ms) (sm_a β 38 sz) := by
  refine Met.ofW (cc := cX10_start) (maxL := 3) (ret := (some .boolean)) (by decide) rfl ?_
  intro p e s m args below meth c s₁ B hml hv
  obtain ⟨rfl, hsz, hP, hK, hD0, hE⟩ := hv
  have hx := B.exec
  have hb := B.bytes
  have hr := B.returns
  have hts := atoms_spec (ws := wp_X10_start) B.pre
  have hown : s.vm.findClass RX10 = some m.cls := findClass_of_methodNamed B.named
  have hlocks := B.notSynchronized
  subst hsz
  have hD : sm_D (sm_a β 38 s.heap.size) β 38 := hD0.own
  have hA : ∀ q : Nat, s.heap.size ≤ q → sm_a β 38 s.heap.size q := fun q h => Or.inr h
  generalize hAe : sm_a β 38 s.heap.size = A at hD hA hE ⊢
  have hS : va_S A s.heap s.heap [] := va_S.rf
  have in_X10 : ∀ w ∈ wsX100, w ∈ wp_X10_start := wi_X10_start_X10
  have k_0 := hts (.fieldLink RX10 106 "SteadyMachine" "whole" "Z") (by decide +kernel)
  have k_1 := hts (.fieldLink RX10 63 "SteadyMachine" "heap" "LSteadyMachine$Heap;") (by decide +kernel)
  have k_2 := hts (.constant RX10 132 (60000)) (by decide +kernel)
  have k_3 := hts (.methodLink RX10 133 Lib.Math.min.name) (by decide +kernel)
  have k_4 := hts (.static Lib.Math.min.name) (by decide +kernel)
  have k_5 := hts (.initialized "java/lang/Math") (by decide +kernel)
  have k_6 := hts (.code Lib.Math.min.name Lib.Math.min.code 2 (some .int)) (by decide +kernel)
  have k_7 := hts (.methodLink RX10 138 Lib.Math.max.name) (by decide +kernel)
  have k_8 := hts (.static Lib.Math.max.name) (by decide +kernel)
  have k_9 := hts (.code Lib.Math.max.name Lib.Math.max.code 2 (some .int)) (by decide +kernel)
  have hl := lv_entry ([.ref (β.1 10), .int p1, .int p2]) (n := 3) (Nat.le_of_ble_eq_true rfl)
  rw [lg_entry_eq]
  generalize (lg_sl ([.ref (β.1 10), .int p1, .int p2]) ++ List.replicate (3 - (lg_sl ([.ref (β.1 10), .int p1, .int p2])).length) Slot.unset).toArray = ls at hl ⊢
  unfold mp_X10_start at hF
  suffices h9 : sm_Ja p l e (headSpec wp_X10_start { frames := 1, cells := mc, slots := ms, locals := 26 }).room s m ([.ref (β.1 10), .int p1, .int p2] : List Value).toArray below meth c (MQ below (va_Qi (fun r (u : sm_S × sm_A) => K r u.1) (sm_Ba sm_wX sm_tX 38 11 D A β) A) ([.ref (β.1 10), .int p1, .int p2] : List Value).toArray s (mc) (ms) A) sm_wX sm_tX 38 11 D A β 3 0 0 σ 0 (fun α => [(0, .ref (α.1 10)), (1, .int p1), (2, .int p2)]) (fun α => []) from h9 β s.heap [] ls (fun _ _ => rfl) hK hD hP hS hl
  clear hK hD hP hS hl
  intro α H locs ls hob hK hD hP hS hl
  dsimp only at hl ⊢
  refine lv_aload_n hx hb dX10_start_0 rfl (lv_at hl 0 rfl) ?_
  refine va_get (D := D) (ci := 10) (v := .int (σ.1 36)) (C := RX10) (T := TX10) (N := 11) hx hb hts in_X10 hown hK hP 10 (sm_gX10 σ α) rfl 2 (by decide) k_0 (fun _ h9 => h9) rfl dX10_start_1 ?_
  refine lv_if_ne (tgt := 9) hx hb dX10_start_4 (by decide) (fun h1 => ?_) (fun h1 => ?_)
  · replace hF := hF.1 h1
    refine lv_aload_n hx hb dX10_start_9 rfl (lv_at hl 0 rfl) ?_
    refine va_get (D := D) (ci := 10) (v := .ref (α.1 1)) (C := RX10) (T := TX10) (N := 11) hx hb hts in_X10 hown hK hP 10 (sm_gX10 σ α) rfl 8 (by decide) k_1 (fun _ h9 => h9) rfl dX10_start_10 ?_
    refine lv_sipush (v := 1024) hx hb dX10_start_13 (by decide) ?_
    refine lv_ldc (v := 60000) hx hb hown k_2 dX10_start_16 ?_
    refine lv_iload_n hx hb dX10_start_18 rfl (lv_at hl 1 rfl) ?_
    refine va_mmin (x := 60000) (y := p1) hx hb (hml.trans hl.1.symm) hown k_3 k_4 k_5 k_6 (Nat.le_of_ble_eq_true rfl) (Nat.le_of_ble_eq_true rfl) (Nat.zero_le _) (Nat.zero_le _) dX10_start_19 ?_
    refine va_mmax (x := 1024) (y := (if p1 < 60000 then p1 else 60000)) hx hb (hml.trans hl.1.symm) hown k_7 k_8 k_5 k_9 (Nat.le_of_ble_eq_true rfl) (Nat.le_of_ble_eq_true rfl) (Nat.zero_le _) (Nat.zero_le _) dX10_start_22 ?_
    refine lv_iconst (v := 1) hx hb dX10_start_25 (by decide) ?_
    refine lv_bipush (v := 64) hx hb dX10_start_26 (by decide) ?_
    refine lv_iload_n hx hb dX10_start_28 rfl (lv_at hl 2 rfl) ?_
    refine va_mmin (x := 64) (y := p2) hx hb (hml.trans hl.1.symm) hown k_3 k_4 k_5 k_6 (Nat.le_of_ble_eq_true rfl) (Nat.le_of_ble_eq_true rfl) (Nat.zero_le _) (Nat.zero_le _) dX10_start_29 ?_
    refine va_mmax (x := 1) (y := (if p2 < 64 then p2 else 64)) hx hb (hml.trans hl.1.symm) hown k_7 k_8 k_5 k_9 (Nat.le_of_ble_eq_true rfl) (Nat.le_of_ble_eq_true rfl) (Nat.zero_le _) (Nat.zero_le _) dX10_start_32 ?_
    exact hF.elim
  · replace hF := hF.2 h1
    refine lv_iconst (v := 0) hx hb dX10_start_7 (by decide) ?_
    refine W.widen (k := mc) (n := ms) (Nat.zero_le _) (Nat.zero_le _) ?_
    exact W.zret (v := 0) hx hb hr sm_z0.1 (fun t ht hW => ⟨⟨0, (σ, α), rfl, hF, by rw [ht]; exact hP, va_K.moved hW.alike hK, hD, hob⟩, hS.F ht⟩) hS.2.2 dX10_start_8
theorem dX10_run_0 : decode cX10_run 0 = .ok (.iload_n 1, 1) := by decide +kernel
theorem dX10_run_1 : decode cX10_run 1 = .ok (.ifCond .lt 21, 3) := by decide +kernel
theorem dX10_run_4 : decode cX10_run 4 = .ok (.iload_n 1, 1) := by decide +kernel
theorem dX10_run_5 : decode cX10_run 5 = .ok (.sipush 20000, 3) := by decide +kernel
theorem dX10_run_8 : decode cX10_run 8 = .ok (.if_icmp .gt 14, 3) := by decide +kernel
theorem dX10_run_11 : decode cX10_run 11 = .ok (.aload_n 0, 1) := by decide +kernel
theorem dX10_run_12 : decode cX10_run 12 = .ok (.getfield 72, 3) := by decide +kernel
theorem dX10_run_15 : decode cX10_run 15 = .ok (.getfield 103, 3) := by decide +kernel
theorem dX10_run_18 : decode cX10_run 18 = .ok (.iconst 1, 1) := by decide +kernel
theorem dX10_run_19 : decode cX10_run 19 = .ok (.if_icmp .eq 5, 3) := by decide +kernel
theorem dX10_run_22 : decode cX10_run 22 = .ok (.iconst (-1), 1) := by decide +kernel
theorem dX10_run_23 : decode cX10_run 23 = .ok (.ireturn, 1) := by decide +kernel
theorem dX10_run_24 : decode cX10_run 24 = .ok (.iconst 0, 1) := by decide +kernel
theorem dX10_run_25 : decode cX10_run 25 = .ok (.istore_n 2, 1) := by decide +kernel
theorem dX10_run_26 : decode cX10_run 26 = .ok (.iconst 0, 1) := by decide +kernel
theorem dX10_run_27 : decode cX10_run 27 = .ok (.istore_n 3, 1) := by decide +kernel
theorem dX10_run_28 : decode cX10_run 28 = .ok (.iload_n 3, 1) := by decide +kernel
theorem dX10_run_29 : decode cX10_run 29 = .ok (.iload_n 1, 1) := by decide +kernel
theorem dX10_run_30 : decode cX10_run 30 = .ok (.if_icmp .ge 33, 3) := by decide +kernel
theorem dX10_run_33 : decode cX10_run 33 = .ok (.aload_n 0, 1) := by decide +kernel
theorem dX10_run_34 : decode cX10_run 34 = .ok (.getfield 72, 3) := by decide +kernel
theorem dX10_run_37 : decode cX10_run 37 = .ok (.getfield 103, 3) := by decide +kernel
theorem dX10_run_40 : decode cX10_run 40 = .ok (.iconst 1, 1) := by decide +kernel
theorem dX10_run_41 : decode cX10_run 41 = .ok (.if_icmp .ne 22, 3) := by decide +kernel
theorem dX10_run_44 : decode cX10_run 44 = .ok (.aload_n 0, 1) := by decide +kernel
theorem dX10_run_45 : decode cX10_run 45 = .ok (.getfield 72, 3) := by decide +kernel
theorem dX10_run_48 : decode cX10_run 48 = .ok (.invokevirtual 151, 3) := by decide +kernel
theorem dX10_run_51 : decode cX10_run 51 = .ok (.ifCond .eq 6, 3) := by decide +kernel
theorem dX10_run_54 : decode cX10_run 54 = .ok (.iinc 2 1, 3) := by decide +kernel
theorem dX10_run_57 : decode cX10_run 57 = .ok (.iinc 3 1, 3) := by decide +kernel
theorem dX10_run_60 : decode cX10_run 60 = .ok (.goto (-32), 3) := by decide +kernel
theorem dX10_run_63 : decode cX10_run 63 = .ok (.iload_n 2, 1) := by decide +kernel
theorem dX10_run_64 : decode cX10_run 64 = .ok (.ireturn, 1) := by decide +kernel
def mp_X10_run_63 (K : Int32 → sm_S → Prop) (σ : sm_S) (x2 : Int32) : Prop := K x2 σ
def mp_X10_run_57 (L28 : sm_S → Int32 → Int32 → Int32 → Prop) (K : Int32 → sm_S → Prop) (σ : sm_S) (x1 : Int32) (x2 : Int32) (x3 : Int32) : Prop := ∀ v1 : Int32, v1 = x3 + 1 → L28 σ x1 x2 v1
def mp_X10_run_28 (K : Int32 → sm_S → Prop) : Nat → sm_S → Int32 → Int32 → Int32 → Prop
  | 0, _, _, _, _ => False
  | n28 + 1, σ, x1, x2, x3 => ((x1 ≤ x3 → (mp_X10_run_63 K σ x2)) ∧ (¬ x1 ≤ x3 → ((¬ (σ.1 22) = 1 → (mp_X10_run_63 K σ x2)) ∧ ((σ.1 22) = 1 → (False)))))
def mp_X10_run_22 (K : Int32 → sm_S → Prop) (σ : sm_S)  : Prop := K (-1) σ
/-- SteadyMachine.run(I)I -/
def mp_X10_run (σ : sm_S) (p1 : Int32) (K : Int32 → sm_S → Prop) : Prop := ((p1 < 0 → (mp_X10_run_22 K σ)) ∧ (¬ p1 < 0 → (((20000 : Int32) < p1 → (mp_X10_run_22 K σ)) ∧ (¬ (20000 : Int32) < p1 → (((σ.1 22) = 1 → (∃ n28 : Nat, mp_X10_run_28 K n28 σ p1 0 0)) ∧ (¬ (σ.1 22) = 1 → (mp_X10_run_22 K σ)))))))
def wp_X10_run : List Cond := .code yX10_run cX10_run 4 (some .int) :: (([.fieldLink RX10 72 "SteadyMachine" "runner" "LSteadyMachine$Runner;", .fieldLink RX10 103 "SteadyMachine$Runner" "state" "I"] ++ wsX100) ++ wsX70)
theorem wi_X10_run_X10 : ∀ w ∈ wsX100, w ∈ wp_X10_run := fun w h => List.mem_cons_of_mem _ (List.mem_append_left _ (List.mem_append_right _ h))
theorem wi_X10_run_X7 : ∀ w ∈ wsX70, w ∈ wp_X10_run := fun w h => List.mem_cons_of_mem _ (List.mem_append_right _ h)
set_option maxHeartbeats 4000000 in
set_option maxRecDepth 100000 in
theorem c_X10_run (l : Launch) (D : va_G) (sz t0 : Nat) (σ : sm_S) (α : sm_A) (p1 : Int32) (K : Int32 → sm_S → Prop) (hF : mp_X10_run σ p1 K) : Met l yX10_run wp_X10_run { frames := 0, cells := 0, slots := 0, locals := 0 } (sm_P sm_wX sm_tX 38 D sz t0 σ α [.ref (α.1 10), .int p1]) (va_Qi K (sm_B sm_wX D α) (sm_a α 38 sz)) 0 0 (sm_a α 38 sz) := by
  refine Met.ofW (cc := cX10_run) (maxL := 4) (ret := (some .int)) (by decide) rfl ?_
  intro p e s m args below meth c s₁ B hml hv
  obtain ⟨rfl, hsz, hP, hK, hD0, hE⟩ := hv
  have hx := B.exec
  have hb := B.bytes
  have hr := B.returns
  have hts := atoms_spec (ws := wp_X10_run) B.pre
  have hown : s.vm.findClass RX10 = some m.cls := findClass_of_methodNamed B.named
  have hlocks := B.notSynchronized
  subst hsz
  have hD : sm_D (sm_a α 38 s.heap.size) α 38 := hD0.own
  have hA : ∀ q : Nat, s.heap.size ≤ q → sm_a α 38 s.heap.size q := fun q h => Or.inr h
  generalize hAe : sm_a α 38 s.heap.size = A at hD hA hE ⊢
  have hS : va_S A s.heap s.heap [] := va_S.rf
  have in_X10 : ∀ w ∈ wsX100, w ∈ wp_X10_run := wi_X10_run_X10
  have in_X7 : ∀ w ∈ wsX70, w ∈ wp_X10_run := wi_X10_run_X7
  have k_0 := hts (.fieldLink RX10 72 "SteadyMachine" "runner" "LSteadyMachine$Runner;") (by decide +kernel)
  have k_1 := hts (.fieldLink RX10 103 "SteadyMachine$Runner" "state" "I") (by decide +kernel)
  have hl := lv_entry ([.ref (α.1 10), .int p1]) (n := 4) (Nat.le_of_ble_eq_true rfl)
  rw [lg_entry_eq]
  generalize (lg_sl ([.ref (α.1 10), .int p1]) ++ List.replicate (4 - (lg_sl ([.ref (α.1 10), .int p1])).length) Slot.unset).toArray = ls at hl ⊢
  have hl : lv_has ls 4 [(0, .ref (α.1 10)), (1, .int p1)] := hl
  have B63 : ∀ (σ : sm_S) (x2 : Int32), mp_X10_run_63 K σ x2 → sm_J p l e (headSpec wp_X10_run { frames := 0, cells := 0, slots := 0, locals := 0 }).room s m ([.ref (α.1 10), .int p1] : List Value).toArray below meth c (MQ below (va_Qi K (sm_B sm_wX D α) A) ([.ref (α.1 10), .int p1] : List Value).toArray s 0 0 A) D A 4 (sm_wX σ α) 63 [(2, .int x2)] [] := by
    intro σ x2 hF H locs ls hP hS hl
    unfold mp_X10_run_63 at hF
    refine lv_iload_n hx hb dX10_run_63 rfl (lv_at hl 0 rfl) ?_
    exact W.iret (v := x2) hx hb hr (fun t ht hW => ⟨⟨x2, σ, rfl, hF, (by unfold sm_B; rw [ht]; exact hP)⟩, hS.F ht⟩) hS.2.2 dX10_run_64
  have B57 : ∀ (L28 : sm_S → Int32 → Int32 → Int32 → Prop) (hL28 : ∀ (σ : sm_S) (x1 : Int32) (x2 : Int32) (x3 : Int32), L28 σ x1 x2 x3 → sm_J p l e (headSpec wp_X10_run { frames := 0, cells := 0, slots := 0, locals := 0 }).room s m ([.ref (α.1 10), .int p1] : List Value).toArray below meth c (MQ below (va_Qi K (sm_B sm_wX D α) A) ([.ref (α.1 10), .int p1] : List Value).toArray s 0 0 A) D A 4 (sm_wX σ α) 28 [(0, .ref (α.1 10)), (1, .int x1), (2, .int x2), (3, .int x3)] []) (σ : sm_S) (x1 : Int32) (x2 : Int32) (x3 : Int32), mp_X10_run_57 L28 K σ x1 x2 x3 → sm_J p l e (headSpec wp_X10_run { frames := 0, cells := 0, slots := 0, locals := 0 }).room s m ([.ref (α.1 10), .int p1] : List Value).toArray below meth c (MQ below (va_Qi K (sm_B sm_wX D α) A) ([.ref (α.1 10), .int p1] : List Value).toArray s 0 0 A) D A 4 (sm_wX σ α) 57 [(0, .ref (α.1 10)), (1, .int x1), (2, .int x2), (3, .int x3)] [] := by
    intro L28 hL28 σ x1 x2 x3 hF H locs ls hP hS hl
    unfold mp_X10_run_57 at hF
    obtain ⟨v1, ev1⟩ : ∃ y : Int32, y = x3 + 1 := ⟨_, rfl⟩
    replace hF := hF v1 ev1
    refine lv_iinc (v := v1) (lv' := [(3, .int v1), (0, .ref (α.1 10)), (1, .int x1), (2, .int x2)]) hx hb dX10_run_57 hl (k := 3) rfl (by rw [ev1]; rfl) (by decide) rfl (fun ls hl => ?_)
    refine lv_goto (tgt := 28) hx hb dX10_run_60 (by decide) ?_
    exact hL28 σ x1 x2 v1 hF H locs ls hP hS (lv_sub hl [1, 2, 3, 0] rfl)
  have B28 : ∀ (n : Nat) (σ : sm_S) (x1 : Int32) (x2 : Int32) (x3 : Int32), mp_X10_run_28 K n σ x1 x2 x3 → sm_J p l e (headSpec wp_X10_run { frames := 0, cells := 0, slots := 0, locals := 0 }).room s m ([.ref (α.1 10), .int p1] : List Value).toArray below meth c (MQ below (va_Qi K (sm_B sm_wX D α) A) ([.ref (α.1 10), .int p1] : List Value).toArray s 0 0 A) D A 4 (sm_wX σ α) 28 [(0, .ref (α.1 10)), (1, .int x1), (2, .int x2), (3, .int x3)] [] := by
    intro n28
    induction n28 with
    | zero =>
      intro σ x1 x2 x3 hF
      exact hF.elim
    | succ n28 ih28 =>
      intro σ x1 x2 x3 hF H locs ls hP hS hl
      unfold mp_X10_run_28 at hF
      refine lv_iload_n hx hb dX10_run_28 rfl (lv_at hl 3 rfl) ?_
      refine lv_iload_n hx hb dX10_run_29 rfl (lv_at hl 1 rfl) ?_
      refine lv_icmp_ge (tgt := 63) hx hb dX10_run_30 (by decide) (fun h2 => ?_) (fun h2 => ?_)
      · replace hF := hF.1 h2
        exact B63 σ x2 hF H locs ls hP hS (lv_sub hl [2] rfl)
      · replace hF := hF.2 h2
        refine lv_aload_n hx hb dX10_run_33 rfl (lv_at hl 0 rfl) ?_
        refine va_get (D := D) (ci := 10) (v := .ref (α.1 7)) (C := RX10) (T := TX10) (N := 11) hx hb hts in_X10 hown hK hP 10 (sm_gX10 σ α) rfl 9 (by decide) k_0 (fun _ h9 => h9) rfl dX10_run_34 ?_
        refine va_get (D := D) (ci := 7) (v := .int (σ.1 22)) (C := RX7) (T := TX7) (N := 13) hx hb hts in_X7 hown hK hP 7 (sm_gX7 σ α) rfl 5 (by decide) k_1 (fun _ h9 => h9) rfl dX10_run_37 ?_
        refine lv_iconst (v := 1) hx hb dX10_run_40 (by decide) ?_
        refine lv_icmp_ne (tgt := 63) hx hb dX10_run_41 (by decide) (fun h3 => ?_) (fun h3 => ?_)
        · replace hF := hF.1 h3
          exact B63 σ x2 hF H locs ls hP hS (lv_sub hl [2] rfl)
        · replace hF := hF.2 h3
          refine lv_aload_n hx hb dX10_run_44 rfl (lv_at hl 0 rfl) ?_
          refine va_get (D := D) (ci := 10) (v := .ref (α.1 7)) (C := RX10) (T := TX10) (N := 11) hx hb hts in_X10 hown hK hP 10 (sm_gX10 σ α) rfl 9 (by decide) k_0 (fun _ h9 => h9) rfl dX10_run_45 ?_
          exact hF.elim
  have B22 : ∀ (σ : sm_S), mp_X10_run_22 K σ → sm_J p l e (headSpec wp_X10_run { frames := 0, cells := 0, slots := 0, locals := 0 }).room s m ([.ref (α.1 10), .int p1] : List Value).toArray below meth c (MQ below (va_Qi K (sm_B sm_wX D α) A) ([.ref (α.1 10), .int p1] : List Value).toArray s 0 0 A) D A 4 (sm_wX σ α) 22 [] [] := by
    intro σ hF H locs ls hP hS hl
    unfold mp_X10_run_22 at hF
    refine lv_iconst (v := -1) hx hb dX10_run_22 (by decide) ?_
    exact W.iret (v := (-1)) hx hb hr (fun t ht hW => ⟨⟨(-1), σ, rfl, hF, (by unfold sm_B; rw [ht]; exact hP)⟩, hS.F ht⟩) hS.2.2 dX10_run_23
  unfold mp_X10_run at hF
  revert hP hS
  generalize hLo : ([] : List Loc) = locs
  suffices h9 : ∀ (H : Heap) (locs : List Loc), va_P D vwCl (sm_wX σ α) H → va_S A s.heap H locs → W p l e (headSpec wp_X10_run { frames := 0, cells := 0, slots := 0, locals := 0 }).room s m ([.ref (α.1 10), .int p1] : List Value).toArray below meth c H locs 0 0 (MQ below (va_Qi K (sm_B sm_wX D α) A) ([.ref (α.1 10), .int p1] : List Value).toArray s 0 0 A) (F0 m 0 ls []) from fun hP hS => h9 s.heap locs hP hS
  intro H locs hP hS
  refine lv_iload_n hx hb dX10_run_0 rfl (lv_at hl 1 rfl) ?_
  refine lv_if_lt (tgt := 22) hx hb dX10_run_1 (by decide) (fun h4 => ?_) (fun h4 => ?_)
  · replace hF := hF.1 h4
    exact B22 σ hF H locs ls hP hS (lv_sub hl [] rfl)
  · replace hF := hF.2 h4
    refine lv_iload_n hx hb dX10_run_4 rfl (lv_at hl 1 rfl) ?_
    refine lv_sipush (v := 20000) hx hb dX10_run_5 (by decide) ?_
    refine lv_icmp_gt (tgt := 22) hx hb dX10_run_8 (by decide) (fun h5 => ?_) (fun h5 => ?_)
    · replace hF := hF.1 h5
      exact B22 σ hF H locs ls hP hS (lv_sub hl [] rfl)
    · replace hF := hF.2 h5
      refine lv_aload_n hx hb dX10_run_11 rfl (lv_at hl 0 rfl) ?_
      refine va_get (D := D) (ci := 10) (v := .ref (α.1 7)) (C := RX10) (T := TX10) (N := 11) hx hb hts in_X10 hown hK hP 10 (sm_gX10 σ α) rfl 9 (by decide) k_0 (fun _ h9 => h9) rfl dX10_run_12 ?_
      refine va_get (D := D) (ci := 7) (v := .int (σ.1 22)) (C := RX7) (T := TX7) (N := 13) hx hb hts in_X7 hown hK hP 7 (sm_gX7 σ α) rfl 5 (by decide) k_1 (fun _ h9 => h9) rfl dX10_run_15 ?_
      refine lv_iconst (v := 1) hx hb dX10_run_18 (by decide) ?_
      refine lv_icmp_eq (tgt := 24) hx hb dX10_run_19 (by decide) (fun h6 => ?_) (fun h6 => ?_)
      · replace hF := hF.1 h6
        refine lv_iconst (v := 0) hx hb dX10_run_24 (by decide) ?_
        refine lv_istore_n (lv' := [(2, .int 0), (0, .ref (α.1 10)), (1, .int p1)]) hx hb dX10_run_25 rfl hl (by decide) rfl (fun ls hl => ?_)
        refine lv_iconst (v := 0) hx hb dX10_run_26 (by decide) ?_
        refine lv_istore_n (lv' := [(3, .int 0), (2, .int 0), (0, .ref (α.1 10)), (1, .int p1)]) hx hb dX10_run_27 rfl hl (by decide) rfl (fun ls hl => ?_)
        obtain ⟨n28, hF⟩ := hF
        exact B28 n28 σ p1 0 0 hF H locs ls hP hS (lv_sub hl [2, 3, 1, 0] rfl)
      · replace hF := hF.2 h6
        exact B22 σ hF H locs ls hP hS (lv_sub hl [] rfl)
theorem dX10_state_0 : decode cX10_state 0 = .ok (.aload_n 0, 1) := by decide +kernel
theorem dX10_state_1 : decode cX10_state 1 = .ok (.getfield 72, 3) := by decide +kernel
theorem dX10_state_4 : decode cX10_state 4 = .ok (.getfield 103, 3) := by decide +kernel
theorem dX10_state_7 : decode cX10_state 7 = .ok (.ireturn, 1) := by decide +kernel
/-- SteadyMachine.state()I -/
def mp_X10_state (σ : sm_S)  (K : Int32 → sm_S → Prop) : Prop := K (σ.1 22) σ
def wp_X10_state : List Cond := .code yX10_state cX10_state 1 (some .int) :: (([.fieldLink RX10 72 "SteadyMachine" "runner" "LSteadyMachine$Runner;", .fieldLink RX10 103 "SteadyMachine$Runner" "state" "I"] ++ wsX100) ++ wsX70)
theorem wi_X10_state_X10 : ∀ w ∈ wsX100, w ∈ wp_X10_state := fun w h => List.mem_cons_of_mem _ (List.mem_append_left _ (List.mem_append_right _ h))
theorem wi_X10_state_X7 : ∀ w ∈ wsX70, w ∈ wp_X10_state := fun w h => List.mem_cons_of_mem _ (List.mem_append_right _ h)
set_option maxHeartbeats 4000000 in
set_option maxRecDepth 100000 in
theorem c_X10_state (l : Launch) (D : va_G) (sz t0 : Nat) (σ : sm_S) (α : sm_A) (K : Int32 → sm_S → Prop) (hF : mp_X10_state σ K) : Met l yX10_state wp_X10_state { frames := 0, cells := 0, slots := 0, locals := 0 } (sm_P sm_wX sm_tX 38 D sz t0 σ α [.ref (α.1 10)]) (va_Qi K (sm_B sm_wX D α) (sm_a α 38 sz)) 0 0 (sm_a α 38 sz) := by
  refine Met.ofW (cc := cX10_state) (maxL := 1) (ret := (some .int)) (by decide) rfl ?_
  intro p e s m args below meth c s₁ B hml hv
  obtain ⟨rfl, hsz, hP, hK, hD0, hE⟩ := hv
  have hx := B.exec
  have hb := B.bytes
  have hr := B.returns
  have hts := atoms_spec (ws := wp_X10_state) B.pre
  have hown : s.vm.findClass RX10 = some m.cls := findClass_of_methodNamed B.named
  have hlocks := B.notSynchronized
  subst hsz
  have hD : sm_D (sm_a α 38 s.heap.size) α 38 := hD0.own
  have hA : ∀ q : Nat, s.heap.size ≤ q → sm_a α 38 s.heap.size q := fun q h => Or.inr h
  generalize hAe : sm_a α 38 s.heap.size = A at hD hA hE ⊢
  have hS : va_S A s.heap s.heap [] := va_S.rf
  have in_X10 : ∀ w ∈ wsX100, w ∈ wp_X10_state := wi_X10_state_X10
  have in_X7 : ∀ w ∈ wsX70, w ∈ wp_X10_state := wi_X10_state_X7
  have k_0 := hts (.fieldLink RX10 72 "SteadyMachine" "runner" "LSteadyMachine$Runner;") (by decide +kernel)
  have k_1 := hts (.fieldLink RX10 103 "SteadyMachine$Runner" "state" "I") (by decide +kernel)
  have hl := lv_entry ([.ref (α.1 10)]) (n := 1) (Nat.le_of_ble_eq_true rfl)
  rw [lg_entry_eq]
  generalize (lg_sl ([.ref (α.1 10)]) ++ List.replicate (1 - (lg_sl ([.ref (α.1 10)])).length) Slot.unset).toArray = ls at hl ⊢
  have hl : lv_has ls 1 [(0, .ref (α.1 10))] := hl
  unfold mp_X10_state at hF
  revert hP hS
  generalize hLo : ([] : List Loc) = locs
  suffices h9 : ∀ (H : Heap) (locs : List Loc), va_P D vwCl (sm_wX σ α) H → va_S A s.heap H locs → W p l e (headSpec wp_X10_state { frames := 0, cells := 0, slots := 0, locals := 0 }).room s m ([.ref (α.1 10)] : List Value).toArray below meth c H locs 0 0 (MQ below (va_Qi K (sm_B sm_wX D α) A) ([.ref (α.1 10)] : List Value).toArray s 0 0 A) (F0 m 0 ls []) from fun hP hS => h9 s.heap locs hP hS
  intro H locs hP hS
  refine lv_aload_n hx hb dX10_state_0 rfl (lv_at hl 0 rfl) ?_
  refine va_get (D := D) (ci := 10) (v := .ref (α.1 7)) (C := RX10) (T := TX10) (N := 11) hx hb hts in_X10 hown hK hP 10 (sm_gX10 σ α) rfl 9 (by decide) k_0 (fun _ h9 => h9) rfl dX10_state_1 ?_
  refine va_get (D := D) (ci := 7) (v := .int (σ.1 22)) (C := RX7) (T := TX7) (N := 13) hx hb hts in_X7 hown hK hP 7 (sm_gX7 σ α) rfl 5 (by decide) k_1 (fun _ h9 => h9) rfl dX10_state_4 ?_
  exact W.iret (v := (σ.1 22)) hx hb hr (fun t ht hW => ⟨⟨(σ.1 22), σ, rfl, hF, (by unfold sm_B; rw [ht]; exact hP)⟩, hS.F ht⟩) hS.2.2 dX10_state_7
theorem dX10_count_0 : decode cX10_count 0 = .ok (.aload_n 0, 1) := by decide +kernel
theorem dX10_count_1 : decode cX10_count 1 = .ok (.getfield 72, 3) := by decide +kernel
theorem dX10_count_4 : decode cX10_count 4 = .ok (.getfield 103, 3) := by decide +kernel
theorem dX10_count_7 : decode cX10_count 7 = .ok (.ifCond .eq 7, 3) := by decide +kernel
theorem dX10_count_10 : decode cX10_count 10 = .ok (.iconst 1, 1) := by decide +kernel
theorem dX10_count_11 : decode cX10_count 11 = .ok (.goto 4, 3) := by decide +kernel
theorem dX10_count_14 : decode cX10_count 14 = .ok (.iconst 0, 1) := by decide +kernel
theorem dX10_count_15 : decode cX10_count 15 = .ok (.istore_n 2, 1) := by decide +kernel
theorem dX10_count_16 : decode cX10_count 16 = .ok (.iload_n 1, 1) := by decide +kernel
theorem dX10_count_17 : decode cX10_count 17 = .ok (.tableswitch 175 0 6 #[43, 59, 76, 92, 109, 129, 152], 43) := by decide +kernel
theorem dX10_count_60 : decode cX10_count 60 = .ok (.iload_n 2, 1) := by decide +kernel
theorem dX10_count_61 : decode cX10_count 61 = .ok (.ifCond .eq 13, 3) := by decide +kernel
theorem dX10_count_64 : decode cX10_count 64 = .ok (.aload_n 0, 1) := by decide +kernel
theorem dX10_count_65 : decode cX10_count 65 = .ok (.getfield 72, 3) := by decide +kernel
theorem dX10_count_68 : decode cX10_count 68 = .ok (.getfield 155, 3) := by decide +kernel
theorem dX10_count_71 : decode cX10_count 71 = .ok (.goto 4, 3) := by decide +kernel
theorem dX10_count_74 : decode cX10_count 74 = .ok (.lconst 0, 1) := by decide +kernel
theorem dX10_count_75 : decode cX10_count 75 = .ok (.lreturn, 1) := by decide +kernel
theorem dX10_count_76 : decode cX10_count 76 = .ok (.iload_n 2, 1) := by decide +kernel
theorem dX10_count_77 : decode cX10_count 77 = .ok (.ifCond .eq 14, 3) := by decide +kernel
theorem dX10_count_80 : decode cX10_count 80 = .ok (.aload_n 0, 1) := by decide +kernel
theorem dX10_count_81 : decode cX10_count 81 = .ok (.getfield 46, 3) := by decide +kernel
theorem dX10_count_84 : decode cX10_count 84 = .ok (.getfield 159, 3) := by decide +kernel
theorem dX10_count_87 : decode cX10_count 87 = .ok (.i2l, 1) := by decide +kernel
theorem dX10_count_88 : decode cX10_count 88 = .ok (.goto 4, 3) := by decide +kernel
theorem dX10_count_91 : decode cX10_count 91 = .ok (.lconst 0, 1) := by decide +kernel
theorem dX10_count_92 : decode cX10_count 92 = .ok (.lreturn, 1) := by decide +kernel
theorem dX10_count_93 : decode cX10_count 93 = .ok (.iload_n 2, 1) := by decide +kernel
theorem dX10_count_94 : decode cX10_count 94 = .ok (.ifCond .eq 13, 3) := by decide +kernel
theorem dX10_count_97 : decode cX10_count 97 = .ok (.aload_n 0, 1) := by decide +kernel
theorem dX10_count_98 : decode cX10_count 98 = .ok (.getfield 46, 3) := by decide +kernel
theorem dX10_count_101 : decode cX10_count 101 = .ok (.getfield 162, 3) := by decide +kernel
theorem dX10_count_104 : decode cX10_count 104 = .ok (.goto 4, 3) := by decide +kernel
theorem dX10_count_107 : decode cX10_count 107 = .ok (.lconst 0, 1) := by decide +kernel
theorem dX10_count_108 : decode cX10_count 108 = .ok (.lreturn, 1) := by decide +kernel
theorem dX10_count_109 : decode cX10_count 109 = .ok (.iload_n 2, 1) := by decide +kernel
theorem dX10_count_110 : decode cX10_count 110 = .ok (.ifCond .eq 14, 3) := by decide +kernel
theorem dX10_count_113 : decode cX10_count 113 = .ok (.aload_n 0, 1) := by decide +kernel
theorem dX10_count_114 : decode cX10_count 114 = .ok (.getfield 72, 3) := by decide +kernel
theorem dX10_count_117 : decode cX10_count 117 = .ok (.getfield 165, 3) := by decide +kernel
theorem dX10_count_120 : decode cX10_count 120 = .ok (.i2l, 1) := by decide +kernel
theorem dX10_count_121 : decode cX10_count 121 = .ok (.goto 4, 3) := by decide +kernel
theorem dX10_count_124 : decode cX10_count 124 = .ok (.lconst 0, 1) := by decide +kernel
theorem dX10_count_125 : decode cX10_count 125 = .ok (.lreturn, 1) := by decide +kernel
theorem dX10_count_126 : decode cX10_count 126 = .ok (.iload_n 2, 1) := by decide +kernel
theorem dX10_count_127 : decode cX10_count 127 = .ok (.ifCond .eq 17, 3) := by decide +kernel
theorem dX10_count_130 : decode cX10_count 130 = .ok (.aload_n 0, 1) := by decide +kernel
theorem dX10_count_131 : decode cX10_count 131 = .ok (.getfield 63, 3) := by decide +kernel
theorem dX10_count_134 : decode cX10_count 134 = .ok (.getfield 168, 3) := by decide +kernel
theorem dX10_count_137 : decode cX10_count 137 = .ok (.ifCond .eq 7, 3) := by decide +kernel
theorem dX10_count_140 : decode cX10_count 140 = .ok (.lconst 1, 1) := by decide +kernel
theorem dX10_count_141 : decode cX10_count 141 = .ok (.goto 4, 3) := by decide +kernel
theorem dX10_count_144 : decode cX10_count 144 = .ok (.lconst 0, 1) := by decide +kernel
theorem dX10_count_145 : decode cX10_count 145 = .ok (.lreturn, 1) := by decide +kernel
theorem dX10_count_146 : decode cX10_count 146 = .ok (.aload_n 0, 1) := by decide +kernel
theorem dX10_count_147 : decode cX10_count 147 = .ok (.getfield 106, 3) := by decide +kernel
theorem dX10_count_150 : decode cX10_count 150 = .ok (.ifCond .eq 17, 3) := by decide +kernel
theorem dX10_count_153 : decode cX10_count 153 = .ok (.aload_n 0, 1) := by decide +kernel
theorem dX10_count_154 : decode cX10_count 154 = .ok (.getfield 16, 3) := by decide +kernel
theorem dX10_count_157 : decode cX10_count 157 = .ok (.getfield 52, 3) := by decide +kernel
theorem dX10_count_160 : decode cX10_count 160 = .ok (.getfield 171, 3) := by decide +kernel
theorem dX10_count_163 : decode cX10_count 163 = .ok (.i2l, 1) := by decide +kernel
theorem dX10_count_164 : decode cX10_count 164 = .ok (.goto 4, 3) := by decide +kernel
theorem dX10_count_167 : decode cX10_count 167 = .ok (.lconst 0, 1) := by decide +kernel
theorem dX10_count_168 : decode cX10_count 168 = .ok (.lreturn, 1) := by decide +kernel
theorem dX10_count_169 : decode cX10_count 169 = .ok (.aload_n 0, 1) := by decide +kernel
theorem dX10_count_170 : decode cX10_count 170 = .ok (.getfield 106, 3) := by decide +kernel
theorem dX10_count_173 : decode cX10_count 173 = .ok (.ifCond .eq 17, 3) := by decide +kernel
theorem dX10_count_176 : decode cX10_count 176 = .ok (.aload_n 0, 1) := by decide +kernel
theorem dX10_count_177 : decode cX10_count 177 = .ok (.getfield 16, 3) := by decide +kernel
theorem dX10_count_180 : decode cX10_count 180 = .ok (.getfield 56, 3) := by decide +kernel
theorem dX10_count_183 : decode cX10_count 183 = .ok (.getfield 176, 3) := by decide +kernel
theorem dX10_count_186 : decode cX10_count 186 = .ok (.i2l, 1) := by decide +kernel
theorem dX10_count_187 : decode cX10_count 187 = .ok (.goto 4, 3) := by decide +kernel
theorem dX10_count_190 : decode cX10_count 190 = .ok (.lconst 0, 1) := by decide +kernel
theorem dX10_count_191 : decode cX10_count 191 = .ok (.lreturn, 1) := by decide +kernel
theorem dX10_count_192 : decode cX10_count 192 = .ok (.ldc2_w 179, 3) := by decide +kernel
theorem dX10_count_195 : decode cX10_count 195 = .ok (.lreturn, 1) := by decide +kernel
def mp_X10_count_191 (K : Int64 → sm_S → Prop) (σ : sm_S) (y0 : Int64) : Prop := K y0 σ
def mp_X10_count_168 (K : Int64 → sm_S → Prop) (σ : sm_S) (y0 : Int64) : Prop := K y0 σ
def mp_X10_count_145 (K : Int64 → sm_S → Prop) (σ : sm_S) (y0 : Int64) : Prop := K y0 σ
def mp_X10_count_144 (K : Int64 → sm_S → Prop) (σ : sm_S)  : Prop := mp_X10_count_145 K σ 0
def mp_X10_count_125 (K : Int64 → sm_S → Prop) (σ : sm_S) (y0 : Int64) : Prop := K y0 σ
def mp_X10_count_108 (K : Int64 → sm_S → Prop) (σ : sm_S) (y0 : Int64) : Prop := K y0 σ
def mp_X10_count_92 (K : Int64 → sm_S → Prop) (σ : sm_S) (y0 : Int64) : Prop := K y0 σ
def mp_X10_count_75 (K : Int64 → sm_S → Prop) (σ : sm_S) (y0 : Int64) : Prop := K y0 σ
def mp_X10_count_15 (K : Int64 → sm_S → Prop) (σ : sm_S) (x1 : Int32) (y0 : Int32) : Prop := ((x1 = 0 → ((y0 = 0 → (mp_X10_count_75 K σ 0)) ∧ (¬ y0 = 0 → (mp_X10_count_75 K σ (σ.2.1 1))))) ∧ (x1 = 1 → ((y0 = 0 → (mp_X10_count_92 K σ 0)) ∧ (¬ y0 = 0 → (mp_X10_count_92 K σ ((σ.1 19).toInt64))))) ∧ (x1 = 2 → ((y0 = 0 → (mp_X10_count_108 K σ 0)) ∧ (¬ y0 = 0 → (mp_X10_count_108 K σ (σ.2.1 0))))) ∧ (x1 = 3 → ((y0 = 0 → (mp_X10_count_125 K σ 0)) ∧ (¬ y0 = 0 → (mp_X10_count_125 K σ ((σ.1 23).toInt64))))) ∧ (x1 = 4 → ((y0 = 0 → (mp_X10_count_144 K σ)) ∧ (¬ y0 = 0 → (((σ.1 11) = 0 → (mp_X10_count_144 K σ)) ∧ (¬ (σ.1 11) = 0 → (mp_X10_count_145 K σ 1)))))) ∧ (x1 = 5 → (((σ.1 36) = 0 → (mp_X10_count_168 K σ 0)) ∧ (¬ (σ.1 36) = 0 → (mp_X10_count_168 K σ ((σ.1 0).toInt64))))) ∧ (x1 = 6 → (((σ.1 36) = 0 → (mp_X10_count_191 K σ 0)) ∧ (¬ (σ.1 36) = 0 → (mp_X10_count_191 K σ ((σ.1 16).toInt64))))) ∧ (¬ x1 = 0 → ¬ x1 = 1 → ¬ x1 = 2 → ¬ x1 = 3 → ¬ x1 = 4 → ¬ x1 = 5 → ¬ x1 = 6 → (K (-1) σ)))
/-- SteadyMachine.count(I)J -/
def mp_X10_count (σ : sm_S) (p1 : Int32) (K : Int64 → sm_S → Prop) : Prop := (((σ.1 22) = 0 → (mp_X10_count_15 K σ p1 0)) ∧ (¬ (σ.1 22) = 0 → (mp_X10_count_15 K σ p1 1)))
def wp_X10_count : List Cond := .code yX10_count cX10_count 3 (some .long) :: ((((((([.fieldLink RX10 72 "SteadyMachine" "runner" "LSteadyMachine$Runner;", .fieldLink RX10 155 "SteadyMachine$Runner" "steps" "J", .fieldLink RX10 46 "SteadyMachine" "ports" "LSteadyMachine$Ports;", .fieldLink RX10 159 "SteadyMachine$Ports" "taken" "I", .fieldLink RX10 162 "SteadyMachine$Ports" "given" "J", .fieldLink RX10 165 "SteadyMachine$Runner" "frames" "I", .fieldLink RX10 63 "SteadyMachine" "heap" "LSteadyMachine$Heap;", .fieldLink RX10 168 "SteadyMachine$Heap" "flies" "I", .fieldLink RX10 106 "SteadyMachine" "whole" "Z", .fieldLink RX10 16 "SteadyMachine" "image" "LSteadyMachine$Image;", .fieldLink RX10 52 "SteadyMachine$Image" "classes" "LSteadyMachine$Classes;", .fieldLink RX10 171 "SteadyMachine$Classes" "many" "I", .fieldLink RX10 56 "SteadyMachine$Image" "methods" "LSteadyMachine$Methods;", .fieldLink RX10 176 "SteadyMachine$Methods" "many" "I", .constantLong RX10 179 (-1), .fieldLink RX10 103 "SteadyMachine$Runner" "state" "I"] ++ wsX00) ++ wsX10) ++ wsX100) ++ wsX20) ++ wsX40) ++ wsX50) ++ wsX70)
theorem wi_X10_count_X0 : ∀ w ∈ wsX00, w ∈ wp_X10_count := fun w h => List.mem_cons_of_mem _ (List.mem_append_left _ (List.mem_append_left _ (List.mem_append_left _ (List.mem_append_left _ (List.mem_append_left _ (List.mem_append_left _ (List.mem_append_right _ h)))))))
theorem wi_X10_count_X1 : ∀ w ∈ wsX10, w ∈ wp_X10_count := fun w h => List.mem_cons_of_mem _ (List.mem_append_left _ (List.mem_append_left _ (List.mem_append_left _ (List.mem_append_left _ (List.mem_append_left _ (List.mem_append_right _ h))))))
theorem wi_X10_count_X10 : ∀ w ∈ wsX100, w ∈ wp_X10_count := fun w h => List.mem_cons_of_mem _ (List.mem_append_left _ (List.mem_append_left _ (List.mem_append_left _ (List.mem_append_left _ (List.mem_append_right _ h)))))
theorem wi_X10_count_X2 : ∀ w ∈ wsX20, w ∈ wp_X10_count := fun w h => List.mem_cons_of_mem _ (List.mem_append_left _ (List.mem_append_left _ (List.mem_append_left _ (List.mem_append_right _ h))))
theorem wi_X10_count_X4 : ∀ w ∈ wsX40, w ∈ wp_X10_count := fun w h => List.mem_cons_of_mem _ (List.mem_append_left _ (List.mem_append_left _ (List.mem_append_right _ h)))
theorem wi_X10_count_X5 : ∀ w ∈ wsX50, w ∈ wp_X10_count := fun w h => List.mem_cons_of_mem _ (List.mem_append_left _ (List.mem_append_right _ h))
theorem wi_X10_count_X7 : ∀ w ∈ wsX70, w ∈ wp_X10_count := fun w h => List.mem_cons_of_mem _ (List.mem_append_right _ h)
set_option maxHeartbeats 4000000 in
set_option maxRecDepth 100000 in
theorem c_X10_count (l : Launch) (D : va_G) (sz t0 : Nat) (σ : sm_S) (α : sm_A) (p1 : Int32) (K : Int64 → sm_S → Prop) (hF : mp_X10_count σ p1 K) : Met l yX10_count wp_X10_count { frames := 0, cells := 0, slots := 0, locals := 0 } (sm_P sm_wX sm_tX 38 D sz t0 σ α [.ref (α.1 10), .int p1]) (va_Ql K (sm_B sm_wX D α) (sm_a α 38 sz)) 0 0 (sm_a α 38 sz) := by
  refine Met.ofW (cc := cX10_count) (maxL := 3) (ret := (some .long)) (by decide) rfl ?_
  intro p e s m args below meth c s₁ B hml hv
  obtain ⟨rfl, hsz, hP, hK, hD0, hE⟩ := hv
  have hx := B.exec
  have hb := B.bytes
  have hr := B.returns
  have hts := atoms_spec (ws := wp_X10_count) B.pre
  have hown : s.vm.findClass RX10 = some m.cls := findClass_of_methodNamed B.named
  have hlocks := B.notSynchronized
  subst hsz
  have hD : sm_D (sm_a α 38 s.heap.size) α 38 := hD0.own
  have hA : ∀ q : Nat, s.heap.size ≤ q → sm_a α 38 s.heap.size q := fun q h => Or.inr h
  generalize hAe : sm_a α 38 s.heap.size = A at hD hA hE ⊢
  have hS : va_S A s.heap s.heap [] := va_S.rf
  have in_X0 : ∀ w ∈ wsX00, w ∈ wp_X10_count := wi_X10_count_X0
  have in_X1 : ∀ w ∈ wsX10, w ∈ wp_X10_count := wi_X10_count_X1
  have in_X10 : ∀ w ∈ wsX100, w ∈ wp_X10_count := wi_X10_count_X10
  have in_X2 : ∀ w ∈ wsX20, w ∈ wp_X10_count := wi_X10_count_X2
  have in_X4 : ∀ w ∈ wsX40, w ∈ wp_X10_count := wi_X10_count_X4
  have in_X5 : ∀ w ∈ wsX50, w ∈ wp_X10_count := wi_X10_count_X5
  have in_X7 : ∀ w ∈ wsX70, w ∈ wp_X10_count := wi_X10_count_X7
  have k_0 := hts (.fieldLink RX10 72 "SteadyMachine" "runner" "LSteadyMachine$Runner;") (by decide +kernel)
  have k_1 := hts (.fieldLink RX10 155 "SteadyMachine$Runner" "steps" "J") (by decide +kernel)
  have k_2 := hts (.fieldLink RX10 46 "SteadyMachine" "ports" "LSteadyMachine$Ports;") (by decide +kernel)
  have k_3 := hts (.fieldLink RX10 159 "SteadyMachine$Ports" "taken" "I") (by decide +kernel)
  have k_4 := hts (.fieldLink RX10 162 "SteadyMachine$Ports" "given" "J") (by decide +kernel)
  have k_5 := hts (.fieldLink RX10 165 "SteadyMachine$Runner" "frames" "I") (by decide +kernel)
  have k_6 := hts (.fieldLink RX10 63 "SteadyMachine" "heap" "LSteadyMachine$Heap;") (by decide +kernel)
  have k_7 := hts (.fieldLink RX10 168 "SteadyMachine$Heap" "flies" "I") (by decide +kernel)
  have k_8 := hts (.fieldLink RX10 106 "SteadyMachine" "whole" "Z") (by decide +kernel)
  have k_9 := hts (.fieldLink RX10 16 "SteadyMachine" "image" "LSteadyMachine$Image;") (by decide +kernel)
  have k_10 := hts (.fieldLink RX10 52 "SteadyMachine$Image" "classes" "LSteadyMachine$Classes;") (by decide +kernel)
  have k_11 := hts (.fieldLink RX10 171 "SteadyMachine$Classes" "many" "I") (by decide +kernel)
  have k_12 := hts (.fieldLink RX10 56 "SteadyMachine$Image" "methods" "LSteadyMachine$Methods;") (by decide +kernel)
  have k_13 := hts (.fieldLink RX10 176 "SteadyMachine$Methods" "many" "I") (by decide +kernel)
  have k_14 := hts (.constantLong RX10 179 (-1)) (by decide +kernel)
  have k_15 := hts (.fieldLink RX10 103 "SteadyMachine$Runner" "state" "I") (by decide +kernel)
  have hl := lv_entry ([.ref (α.1 10), .int p1]) (n := 3) (Nat.le_of_ble_eq_true rfl)
  rw [lg_entry_eq]
  generalize (lg_sl ([.ref (α.1 10), .int p1]) ++ List.replicate (3 - (lg_sl ([.ref (α.1 10), .int p1])).length) Slot.unset).toArray = ls at hl ⊢
  have hl : lv_has ls 3 [(0, .ref (α.1 10)), (1, .int p1)] := hl
  have B191 : ∀ (σ : sm_S) (y0 : Int64), mp_X10_count_191 K σ y0 → sm_J p l e (headSpec wp_X10_count { frames := 0, cells := 0, slots := 0, locals := 0 }).room s m ([.ref (α.1 10), .int p1] : List Value).toArray below meth c (MQ below (va_Ql K (sm_B sm_wX D α) A) ([.ref (α.1 10), .int p1] : List Value).toArray s 0 0 A) D A 3 (sm_wX σ α) 191 [] [.long y0] := by
    intro σ y0 hF H locs ls hP hS hl
    unfold mp_X10_count_191 at hF
    exact W.lret (v := y0) hx hb hr (fun t ht hW => ⟨⟨y0, σ, rfl, hF, (by unfold sm_B; rw [ht]; exact hP)⟩, hS.F ht⟩) hS.2.2 dX10_count_191
  have B168 : ∀ (σ : sm_S) (y0 : Int64), mp_X10_count_168 K σ y0 → sm_J p l e (headSpec wp_X10_count { frames := 0, cells := 0, slots := 0, locals := 0 }).room s m ([.ref (α.1 10), .int p1] : List Value).toArray below meth c (MQ below (va_Ql K (sm_B sm_wX D α) A) ([.ref (α.1 10), .int p1] : List Value).toArray s 0 0 A) D A 3 (sm_wX σ α) 168 [] [.long y0] := by
    intro σ y0 hF H locs ls hP hS hl
    unfold mp_X10_count_168 at hF
    exact W.lret (v := y0) hx hb hr (fun t ht hW => ⟨⟨y0, σ, rfl, hF, (by unfold sm_B; rw [ht]; exact hP)⟩, hS.F ht⟩) hS.2.2 dX10_count_168
  have B145 : ∀ (σ : sm_S) (y0 : Int64), mp_X10_count_145 K σ y0 → sm_J p l e (headSpec wp_X10_count { frames := 0, cells := 0, slots := 0, locals := 0 }).room s m ([.ref (α.1 10), .int p1] : List Value).toArray below meth c (MQ below (va_Ql K (sm_B sm_wX D α) A) ([.ref (α.1 10), .int p1] : List Value).toArray s 0 0 A) D A 3 (sm_wX σ α) 145 [] [.long y0] := by
    intro σ y0 hF H locs ls hP hS hl
    unfold mp_X10_count_145 at hF
    exact W.lret (v := y0) hx hb hr (fun t ht hW => ⟨⟨y0, σ, rfl, hF, (by unfold sm_B; rw [ht]; exact hP)⟩, hS.F ht⟩) hS.2.2 dX10_count_145
  have B144 : ∀ (σ : sm_S), mp_X10_count_144 K σ → sm_J p l e (headSpec wp_X10_count { frames := 0, cells := 0, slots := 0, locals := 0 }).room s m ([.ref (α.1 10), .int p1] : List Value).toArray below meth c (MQ below (va_Ql K (sm_B sm_wX D α) A) ([.ref (α.1 10), .int p1] : List Value).toArray s 0 0 A) D A 3 (sm_wX σ α) 144 [] [] := by
    intro σ hF H locs ls hP hS hl
    unfold mp_X10_count_144 at hF
    refine lv_lconst (v := 0) hx hb dX10_count_144 (by decide) ?_
    exact B145 σ 0 hF H locs ls hP hS (lv_sub hl [] rfl)
  have B125 : ∀ (σ : sm_S) (y0 : Int64), mp_X10_count_125 K σ y0 → sm_J p l e (headSpec wp_X10_count { frames := 0, cells := 0, slots := 0, locals := 0 }).room s m ([.ref (α.1 10), .int p1] : List Value).toArray below meth c (MQ below (va_Ql K (sm_B sm_wX D α) A) ([.ref (α.1 10), .int p1] : List Value).toArray s 0 0 A) D A 3 (sm_wX σ α) 125 [] [.long y0] := by
    intro σ y0 hF H locs ls hP hS hl
    unfold mp_X10_count_125 at hF
    exact W.lret (v := y0) hx hb hr (fun t ht hW => ⟨⟨y0, σ, rfl, hF, (by unfold sm_B; rw [ht]; exact hP)⟩, hS.F ht⟩) hS.2.2 dX10_count_125
  have B108 : ∀ (σ : sm_S) (y0 : Int64), mp_X10_count_108 K σ y0 → sm_J p l e (headSpec wp_X10_count { frames := 0, cells := 0, slots := 0, locals := 0 }).room s m ([.ref (α.1 10), .int p1] : List Value).toArray below meth c (MQ below (va_Ql K (sm_B sm_wX D α) A) ([.ref (α.1 10), .int p1] : List Value).toArray s 0 0 A) D A 3 (sm_wX σ α) 108 [] [.long y0] := by
    intro σ y0 hF H locs ls hP hS hl
    unfold mp_X10_count_108 at hF
    exact W.lret (v := y0) hx hb hr (fun t ht hW => ⟨⟨y0, σ, rfl, hF, (by unfold sm_B; rw [ht]; exact hP)⟩, hS.F ht⟩) hS.2.2 dX10_count_108
  have B92 : ∀ (σ : sm_S) (y0 : Int64), mp_X10_count_92 K σ y0 → sm_J p l e (headSpec wp_X10_count { frames := 0, cells := 0, slots := 0, locals := 0 }).room s m ([.ref (α.1 10), .int p1] : List Value).toArray below meth c (MQ below (va_Ql K (sm_B sm_wX D α) A) ([.ref (α.1 10), .int p1] : List Value).toArray s 0 0 A) D A 3 (sm_wX σ α) 92 [] [.long y0] := by
    intro σ y0 hF H locs ls hP hS hl
    unfold mp_X10_count_92 at hF
    exact W.lret (v := y0) hx hb hr (fun t ht hW => ⟨⟨y0, σ, rfl, hF, (by unfold sm_B; rw [ht]; exact hP)⟩, hS.F ht⟩) hS.2.2 dX10_count_92
  have B75 : ∀ (σ : sm_S) (y0 : Int64), mp_X10_count_75 K σ y0 → sm_J p l e (headSpec wp_X10_count { frames := 0, cells := 0, slots := 0, locals := 0 }).room s m ([.ref (α.1 10), .int p1] : List Value).toArray below meth c (MQ below (va_Ql K (sm_B sm_wX D α) A) ([.ref (α.1 10), .int p1] : List Value).toArray s 0 0 A) D A 3 (sm_wX σ α) 75 [] [.long y0] := by
    intro σ y0 hF H locs ls hP hS hl
    unfold mp_X10_count_75 at hF
    exact W.lret (v := y0) hx hb hr (fun t ht hW => ⟨⟨y0, σ, rfl, hF, (by unfold sm_B; rw [ht]; exact hP)⟩, hS.F ht⟩) hS.2.2 dX10_count_75
  have B15 : ∀ (σ : sm_S) (x1 : Int32) (y0 : Int32), mp_X10_count_15 K σ x1 y0 → sm_J p l e (headSpec wp_X10_count { frames := 0, cells := 0, slots := 0, locals := 0 }).room s m ([.ref (α.1 10), .int p1] : List Value).toArray below meth c (MQ below (va_Ql K (sm_B sm_wX D α) A) ([.ref (α.1 10), .int p1] : List Value).toArray s 0 0 A) D A 3 (sm_wX σ α) 15 [(0, .ref (α.1 10)), (1, .int x1)] [.int y0] := by
    intro σ x1 y0 hF H locs ls hP hS hl
    unfold mp_X10_count_15 at hF
    refine lv_istore_n (lv' := [(2, .int y0), (0, .ref (α.1 10)), (1, .int x1)]) hx hb dX10_count_15 rfl hl (by decide) rfl (fun ls hl => ?_)
    refine lv_iload_n hx hb dX10_count_16 rfl (lv_at hl 2 rfl) ?_
    by_cases h1 : x1 = 0
    · refine lv_tableIn (tgt := 60) hx hb dX10_count_17 (by rw [h1]; decide) (by rw [h1]; decide) (by rw [h1]; rfl) (by decide) ?_
      replace hF := hF.1 h1
      refine lv_iload_n hx hb dX10_count_60 rfl (lv_at hl 0 rfl) ?_
      refine lv_if_eq (tgt := 74) hx hb dX10_count_61 (by decide) (fun h2 => ?_) (fun h2 => ?_)
      · replace hF := hF.1 h2
        refine lv_lconst (v := 0) hx hb dX10_count_74 (by decide) ?_
        exact B75 σ 0 hF H locs ls hP hS (lv_sub hl [] rfl)
      · replace hF := hF.2 h2
        refine lv_aload_n hx hb dX10_count_64 rfl (lv_at hl 1 rfl) ?_
        refine va_get (D := D) (ci := 10) (v := .ref (α.1 7)) (C := RX10) (T := TX10) (N := 11) hx hb hts in_X10 hown hK hP 10 (sm_gX10 σ α) rfl 9 (by decide) k_0 (fun _ h9 => h9) rfl dX10_count_65 ?_
        refine va_get (D := D) (ci := 7) (v := .long (σ.2.1 1)) (C := RX7) (T := TX7) (N := 13) hx hb hts in_X7 hown hK hP 7 (sm_gX7 σ α) rfl 7 (by decide) k_1 (fun _ h9 => h9) rfl dX10_count_68 ?_
        refine lv_goto (tgt := 75) hx hb dX10_count_71 (by decide) ?_
        exact B75 σ (σ.2.1 1) hF H locs ls hP hS (lv_sub hl [] rfl)
    by_cases h3 : x1 = 1
    · refine lv_tableIn (tgt := 76) hx hb dX10_count_17 (by rw [h3]; decide) (by rw [h3]; decide) (by rw [h3]; rfl) (by decide) ?_
      replace hF := hF.2.1 h3
      refine lv_iload_n hx hb dX10_count_76 rfl (lv_at hl 0 rfl) ?_
      refine lv_if_eq (tgt := 91) hx hb dX10_count_77 (by decide) (fun h4 => ?_) (fun h4 => ?_)
      · replace hF := hF.1 h4
        refine lv_lconst (v := 0) hx hb dX10_count_91 (by decide) ?_
        exact B92 σ 0 hF H locs ls hP hS (lv_sub hl [] rfl)
      · replace hF := hF.2 h4
        refine lv_aload_n hx hb dX10_count_80 rfl (lv_at hl 1 rfl) ?_
        refine va_get (D := D) (ci := 10) (v := .ref (α.1 5)) (C := RX10) (T := TX10) (N := 11) hx hb hts in_X10 hown hK hP 10 (sm_gX10 σ α) rfl 7 (by decide) k_2 (fun _ h9 => h9) rfl dX10_count_81 ?_
        refine va_get (D := D) (ci := 5) (v := .int (σ.1 19)) (C := RX5) (T := TX5) (N := 5) hx hb hts in_X5 hown hK hP 5 (sm_gX5 σ α) rfl 2 (by decide) k_3 (fun _ h9 => h9) rfl dX10_count_84 ?_
        refine lv_i2l hx hb dX10_count_87 rfl ?_
        refine lv_goto (tgt := 92) hx hb dX10_count_88 (by decide) ?_
        exact B92 σ ((σ.1 19).toInt64) hF H locs ls hP hS (lv_sub hl [] rfl)
    by_cases h5 : x1 = 2
    · refine lv_tableIn (tgt := 93) hx hb dX10_count_17 (by rw [h5]; decide) (by rw [h5]; decide) (by rw [h5]; rfl) (by decide) ?_
      replace hF := hF.2.2.1 h5
      refine lv_iload_n hx hb dX10_count_93 rfl (lv_at hl 0 rfl) ?_
      refine lv_if_eq (tgt := 107) hx hb dX10_count_94 (by decide) (fun h6 => ?_) (fun h6 => ?_)
      · replace hF := hF.1 h6
        refine lv_lconst (v := 0) hx hb dX10_count_107 (by decide) ?_
        exact B108 σ 0 hF H locs ls hP hS (lv_sub hl [] rfl)
      · replace hF := hF.2 h6
        refine lv_aload_n hx hb dX10_count_97 rfl (lv_at hl 1 rfl) ?_
        refine va_get (D := D) (ci := 10) (v := .ref (α.1 5)) (C := RX10) (T := TX10) (N := 11) hx hb hts in_X10 hown hK hP 10 (sm_gX10 σ α) rfl 7 (by decide) k_2 (fun _ h9 => h9) rfl dX10_count_98 ?_
        refine va_get (D := D) (ci := 5) (v := .long (σ.2.1 0)) (C := RX5) (T := TX5) (N := 5) hx hb hts in_X5 hown hK hP 5 (sm_gX5 σ α) rfl 4 (by decide) k_4 (fun _ h9 => h9) rfl dX10_count_101 ?_
        refine lv_goto (tgt := 108) hx hb dX10_count_104 (by decide) ?_
        exact B108 σ (σ.2.1 0) hF H locs ls hP hS (lv_sub hl [] rfl)
    by_cases h7 : x1 = 3
    · refine lv_tableIn (tgt := 109) hx hb dX10_count_17 (by rw [h7]; decide) (by rw [h7]; decide) (by rw [h7]; rfl) (by decide) ?_
      replace hF := hF.2.2.2.1 h7
      refine lv_iload_n hx hb dX10_count_109 rfl (lv_at hl 0 rfl) ?_
      refine lv_if_eq (tgt := 124) hx hb dX10_count_110 (by decide) (fun h8 => ?_) (fun h8 => ?_)
      · replace hF := hF.1 h8
        refine lv_lconst (v := 0) hx hb dX10_count_124 (by decide) ?_
        exact B125 σ 0 hF H locs ls hP hS (lv_sub hl [] rfl)
      · replace hF := hF.2 h8
        refine lv_aload_n hx hb dX10_count_113 rfl (lv_at hl 1 rfl) ?_
        refine va_get (D := D) (ci := 10) (v := .ref (α.1 7)) (C := RX10) (T := TX10) (N := 11) hx hb hts in_X10 hown hK hP 10 (sm_gX10 σ α) rfl 9 (by decide) k_0 (fun _ h9 => h9) rfl dX10_count_114 ?_
        refine va_get (D := D) (ci := 7) (v := .int (σ.1 23)) (C := RX7) (T := TX7) (N := 13) hx hb hts in_X7 hown hK hP 7 (sm_gX7 σ α) rfl 6 (by decide) k_5 (fun _ h9 => h9) rfl dX10_count_117 ?_
        refine lv_i2l hx hb dX10_count_120 rfl ?_
        refine lv_goto (tgt := 125) hx hb dX10_count_121 (by decide) ?_
        exact B125 σ ((σ.1 23).toInt64) hF H locs ls hP hS (lv_sub hl [] rfl)
    by_cases h9 : x1 = 4
    · refine lv_tableIn (tgt := 126) hx hb dX10_count_17 (by rw [h9]; decide) (by rw [h9]; decide) (by rw [h9]; rfl) (by decide) ?_
      replace hF := hF.2.2.2.2.1 h9
      refine lv_iload_n hx hb dX10_count_126 rfl (lv_at hl 0 rfl) ?_
      refine lv_if_eq (tgt := 144) hx hb dX10_count_127 (by decide) (fun h10 => ?_) (fun h10 => ?_)
      · replace hF := hF.1 h10
        exact B144 σ hF H locs ls hP hS (lv_sub hl [] rfl)
      · replace hF := hF.2 h10
        refine lv_aload_n hx hb dX10_count_130 rfl (lv_at hl 1 rfl) ?_
        refine va_get (D := D) (ci := 10) (v := .ref (α.1 1)) (C := RX10) (T := TX10) (N := 11) hx hb hts in_X10 hown hK hP 10 (sm_gX10 σ α) rfl 8 (by decide) k_6 (fun _ h9 => h9) rfl dX10_count_131 ?_
        refine va_get (D := D) (ci := 1) (v := .int (σ.1 11)) (C := RX1) (T := TX1) (N := 16) hx hb hts in_X1 hown hK hP 1 (sm_gX1 σ α) rfl 13 (by decide) k_7 (fun _ h9 => h9) rfl dX10_count_134 ?_
        refine lv_if_eq (tgt := 144) hx hb dX10_count_137 (by decide) (fun h11 => ?_) (fun h11 => ?_)
        · replace hF := hF.1 h11
          exact B144 σ hF H locs ls hP hS (lv_sub hl [] rfl)
        · replace hF := hF.2 h11
          refine lv_lconst (v := 1) hx hb dX10_count_140 (by decide) ?_
          refine lv_goto (tgt := 145) hx hb dX10_count_141 (by decide) ?_
          exact B145 σ 1 hF H locs ls hP hS (lv_sub hl [] rfl)
    by_cases h12 : x1 = 5
    · refine lv_tableIn (tgt := 146) hx hb dX10_count_17 (by rw [h12]; decide) (by rw [h12]; decide) (by rw [h12]; rfl) (by decide) ?_
      replace hF := hF.2.2.2.2.2.1 h12
      refine lv_aload_n hx hb dX10_count_146 rfl (lv_at hl 1 rfl) ?_
      refine va_get (D := D) (ci := 10) (v := .int (σ.1 36)) (C := RX10) (T := TX10) (N := 11) hx hb hts in_X10 hown hK hP 10 (sm_gX10 σ α) rfl 2 (by decide) k_8 (fun _ h9 => h9) rfl dX10_count_147 ?_
      refine lv_if_eq (tgt := 167) hx hb dX10_count_150 (by decide) (fun h13 => ?_) (fun h13 => ?_)
      · replace hF := hF.1 h13
        refine lv_lconst (v := 0) hx hb dX10_count_167 (by decide) ?_
        exact B168 σ 0 hF H locs ls hP hS (lv_sub hl [] rfl)
      · replace hF := hF.2 h13
        refine lv_aload_n hx hb dX10_count_153 rfl (lv_at hl 1 rfl) ?_
        refine va_get (D := D) (ci := 10) (v := .ref (α.1 2)) (C := RX10) (T := TX10) (N := 11) hx hb hts in_X10 hown hK hP 10 (sm_gX10 σ α) rfl 3 (by decide) k_9 (fun _ h9 => h9) rfl dX10_count_154 ?_
        refine va_get (D := D) (ci := 2) (v := .ref (α.1 0)) (C := RX2) (T := TX2) (N := 6) hx hb hts in_X2 hown hK hP 2 (sm_gX2 σ α) rfl 0 (by decide) k_10 (fun _ h9 => h9) rfl dX10_count_157 ?_
        refine va_get (D := D) (ci := 0) (v := .int (σ.1 0)) (C := RX0) (T := TX0) (N := 7) hx hb hts in_X0 hown hK hP 0 (sm_gX0 σ α) rfl 0 (by decide) k_11 (fun _ h9 => h9) rfl dX10_count_160 ?_
        refine lv_i2l hx hb dX10_count_163 rfl ?_
        refine lv_goto (tgt := 168) hx hb dX10_count_164 (by decide) ?_
        exact B168 σ ((σ.1 0).toInt64) hF H locs ls hP hS (lv_sub hl [] rfl)
    by_cases h14 : x1 = 6
    · refine lv_tableIn (tgt := 169) hx hb dX10_count_17 (by rw [h14]; decide) (by rw [h14]; decide) (by rw [h14]; rfl) (by decide) ?_
      replace hF := hF.2.2.2.2.2.2.1 h14
      refine lv_aload_n hx hb dX10_count_169 rfl (lv_at hl 1 rfl) ?_
      refine va_get (D := D) (ci := 10) (v := .int (σ.1 36)) (C := RX10) (T := TX10) (N := 11) hx hb hts in_X10 hown hK hP 10 (sm_gX10 σ α) rfl 2 (by decide) k_8 (fun _ h9 => h9) rfl dX10_count_170 ?_
      refine lv_if_eq (tgt := 190) hx hb dX10_count_173 (by decide) (fun h15 => ?_) (fun h15 => ?_)
      · replace hF := hF.1 h15
        refine lv_lconst (v := 0) hx hb dX10_count_190 (by decide) ?_
        exact B191 σ 0 hF H locs ls hP hS (lv_sub hl [] rfl)
      · replace hF := hF.2 h15
        refine lv_aload_n hx hb dX10_count_176 rfl (lv_at hl 1 rfl) ?_
        refine va_get (D := D) (ci := 10) (v := .ref (α.1 2)) (C := RX10) (T := TX10) (N := 11) hx hb hts in_X10 hown hK hP 10 (sm_gX10 σ α) rfl 3 (by decide) k_9 (fun _ h9 => h9) rfl dX10_count_177 ?_
        refine va_get (D := D) (ci := 2) (v := .ref (α.1 4)) (C := RX2) (T := TX2) (N := 6) hx hb hts in_X2 hown hK hP 2 (sm_gX2 σ α) rfl 1 (by decide) k_12 (fun _ h9 => h9) rfl dX10_count_180 ?_
        refine va_get (D := D) (ci := 4) (v := .int (σ.1 16)) (C := RX4) (T := TX4) (N := 12) hx hb hts in_X4 hown hK hP 4 (sm_gX4 σ α) rfl 0 (by decide) k_13 (fun _ h9 => h9) rfl dX10_count_183 ?_
        refine lv_i2l hx hb dX10_count_186 rfl ?_
        refine lv_goto (tgt := 191) hx hb dX10_count_187 (by decide) ?_
        exact B191 σ ((σ.1 16).toInt64) hF H locs ls hP hS (lv_sub hl [] rfl)
    refine lv_tableOut (tgt := 192) hx hb dX10_count_17 (by have q0 := lv_neT h1 (show Int32.toInt 0 = 0 by decide); have q1 := lv_neT h3 (show Int32.toInt 1 = 1 by decide); have q2 := lv_neT h5 (show Int32.toInt 2 = 2 by decide); have q3 := lv_neT h7 (show Int32.toInt 3 = 3 by decide); have q4 := lv_neT h9 (show Int32.toInt 4 = 4 by decide); have q5 := lv_neT h12 (show Int32.toInt 5 = 5 by decide); have q6 := lv_neT h14 (show Int32.toInt 6 = 6 by decide); omega) (by decide) ?_
    replace hF := hF.2.2.2.2.2.2.2 h1 h3 h5 h7 h9 h12 h14
    refine lv_ldc2 (v := -1) hx hb hown k_14 dX10_count_192 ?_
    exact W.lret (v := (-1)) hx hb hr (fun t ht hW => ⟨⟨(-1), σ, rfl, hF, (by unfold sm_B; rw [ht]; exact hP)⟩, hS.F ht⟩) hS.2.2 dX10_count_195
  unfold mp_X10_count at hF
  revert hP hS
  generalize hLo : ([] : List Loc) = locs
  suffices h9 : ∀ (H : Heap) (locs : List Loc), va_P D vwCl (sm_wX σ α) H → va_S A s.heap H locs → W p l e (headSpec wp_X10_count { frames := 0, cells := 0, slots := 0, locals := 0 }).room s m ([.ref (α.1 10), .int p1] : List Value).toArray below meth c H locs 0 0 (MQ below (va_Ql K (sm_B sm_wX D α) A) ([.ref (α.1 10), .int p1] : List Value).toArray s 0 0 A) (F0 m 0 ls []) from fun hP hS => h9 s.heap locs hP hS
  intro H locs hP hS
  refine lv_aload_n hx hb dX10_count_0 rfl (lv_at hl 0 rfl) ?_
  refine va_get (D := D) (ci := 10) (v := .ref (α.1 7)) (C := RX10) (T := TX10) (N := 11) hx hb hts in_X10 hown hK hP 10 (sm_gX10 σ α) rfl 9 (by decide) k_0 (fun _ h9 => h9) rfl dX10_count_1 ?_
  refine va_get (D := D) (ci := 7) (v := .int (σ.1 22)) (C := RX7) (T := TX7) (N := 13) hx hb hts in_X7 hown hK hP 7 (sm_gX7 σ α) rfl 5 (by decide) k_15 (fun _ h9 => h9) rfl dX10_count_4 ?_
  refine lv_if_eq (tgt := 14) hx hb dX10_count_7 (by decide) (fun h16 => ?_) (fun h16 => ?_)
  · replace hF := hF.1 h16
    refine lv_iconst (v := 0) hx hb dX10_count_14 (by decide) ?_
    exact B15 σ p1 0 hF H locs ls hP hS (lv_sub hl [0, 1] rfl)
  · replace hF := hF.2 h16
    refine lv_iconst (v := 1) hx hb dX10_count_10 (by decide) ?_
    refine lv_goto (tgt := 15) hx hb dX10_count_11 (by decide) ?_
    exact B15 σ p1 1 hF H locs ls hP hS (lv_sub hl [0, 1] rfl)
theorem dX10_out_0 : decode cX10_out 0 = .ok (.aload_n 0, 1) := by decide +kernel
theorem dX10_out_1 : decode cX10_out 1 = .ok (.getfield 72, 3) := by decide +kernel
theorem dX10_out_4 : decode cX10_out 4 = .ok (.getfield 103, 3) := by decide +kernel
theorem dX10_out_7 : decode cX10_out 7 = .ok (.ifCond .eq 31, 3) := by decide +kernel
theorem dX10_out_10 : decode cX10_out 10 = .ok (.iload_n 1, 1) := by decide +kernel
theorem dX10_out_11 : decode cX10_out 11 = .ok (.ifCond .lt 27, 3) := by decide +kernel
theorem dX10_out_14 : decode cX10_out 14 = .ok (.iload_n 1, 1) := by decide +kernel
theorem dX10_out_15 : decode cX10_out 15 = .ok (.sipush 1000, 3) := by decide +kernel
theorem dX10_out_18 : decode cX10_out 18 = .ok (.if_icmp .ge 20, 3) := by decide +kernel
theorem dX10_out_21 : decode cX10_out 21 = .ok (.iload_n 1, 1) := by decide +kernel
theorem dX10_out_22 : decode cX10_out 22 = .ok (.i2l, 1) := by decide +kernel
theorem dX10_out_23 : decode cX10_out 23 = .ok (.aload_n 0, 1) := by decide +kernel
theorem dX10_out_24 : decode cX10_out 24 = .ok (.getfield 46, 3) := by decide +kernel
theorem dX10_out_27 : decode cX10_out 27 = .ok (.getfield 162, 3) := by decide +kernel
theorem dX10_out_30 : decode cX10_out 30 = .ok (.lcmp, 1) := by decide +kernel
theorem dX10_out_31 : decode cX10_out 31 = .ok (.ifCond .ge 7, 3) := by decide +kernel
theorem dX10_out_34 : decode cX10_out 34 = .ok (.iconst 1, 1) := by decide +kernel
theorem dX10_out_35 : decode cX10_out 35 = .ok (.goto 4, 3) := by decide +kernel
theorem dX10_out_38 : decode cX10_out 38 = .ok (.iconst 0, 1) := by decide +kernel
theorem dX10_out_39 : decode cX10_out 39 = .ok (.istore_n 2, 1) := by decide +kernel
theorem dX10_out_40 : decode cX10_out 40 = .ok (.iload_n 2, 1) := by decide +kernel
theorem dX10_out_41 : decode cX10_out 41 = .ok (.ifCond .eq 15, 3) := by decide +kernel
theorem dX10_out_44 : decode cX10_out 44 = .ok (.aload_n 0, 1) := by decide +kernel
theorem dX10_out_45 : decode cX10_out 45 = .ok (.getfield 46, 3) := by decide +kernel
theorem dX10_out_48 : decode cX10_out 48 = .ok (.getfield 181, 3) := by decide +kernel
theorem dX10_out_51 : decode cX10_out 51 = .ok (.iload_n 1, 1) := by decide +kernel
theorem dX10_out_52 : decode cX10_out 52 = .ok (.iaload, 1) := by decide +kernel
theorem dX10_out_53 : decode cX10_out 53 = .ok (.goto 4, 3) := by decide +kernel
theorem dX10_out_56 : decode cX10_out 56 = .ok (.iconst 0, 1) := by decide +kernel
theorem dX10_out_57 : decode cX10_out 57 = .ok (.ireturn, 1) := by decide +kernel
def mp_X10_out_57 (K : Int32 → sm_S → Prop) (σ : sm_S) (y0 : Int32) : Prop := K y0 σ
def mp_X10_out_39 (K : Int32 → sm_S → Prop) (σ : sm_S) (x1 : Int32) (y0 : Int32) : Prop := ((y0 = 0 → (mp_X10_out_57 K σ 0)) ∧ (¬ y0 = 0 → (vp_in x1 (σ.2.2.1 31) ∧ mp_X10_out_57 K σ ((σ.2.2.2.1 31) x1.toNatClampNeg))))
def mp_X10_out_38 (K : Int32 → sm_S → Prop) (σ : sm_S) (x1 : Int32) : Prop := mp_X10_out_39 K σ x1 0
/-- SteadyMachine.out(I)I -/
def mp_X10_out (σ : sm_S) (p1 : Int32) (K : Int32 → sm_S → Prop) : Prop := (((σ.1 22) = 0 → (mp_X10_out_38 K σ p1)) ∧ (¬ (σ.1 22) = 0 → ((p1 < 0 → (mp_X10_out_38 K σ p1)) ∧ (¬ p1 < 0 → (((1000 : Int32) ≤ p1 → (mp_X10_out_38 K σ p1)) ∧ (¬ (1000 : Int32) ≤ p1 → (((0 : Int32) ≤ (lg_cmp p1.toInt64 (σ.2.1 0)) → (mp_X10_out_38 K σ p1)) ∧ (¬ (0 : Int32) ≤ (lg_cmp p1.toInt64 (σ.2.1 0)) → (mp_X10_out_39 K σ p1 1)))))))))
def wp_X10_out : List Cond := .code yX10_out cX10_out 3 (some .int) :: ((([.fieldLink RX10 46 "SteadyMachine" "ports" "LSteadyMachine$Ports;", .fieldLink RX10 181 "SteadyMachine$Ports" "outs" "[I", .fieldLink RX10 72 "SteadyMachine" "runner" "LSteadyMachine$Runner;", .fieldLink RX10 103 "SteadyMachine$Runner" "state" "I", .fieldLink RX10 162 "SteadyMachine$Ports" "given" "J"] ++ wsX100) ++ wsX50) ++ wsX70)
theorem wi_X10_out_X10 : ∀ w ∈ wsX100, w ∈ wp_X10_out := fun w h => List.mem_cons_of_mem _ (List.mem_append_left _ (List.mem_append_left _ (List.mem_append_right _ h)))
theorem wi_X10_out_X5 : ∀ w ∈ wsX50, w ∈ wp_X10_out := fun w h => List.mem_cons_of_mem _ (List.mem_append_left _ (List.mem_append_right _ h))
theorem wi_X10_out_X7 : ∀ w ∈ wsX70, w ∈ wp_X10_out := fun w h => List.mem_cons_of_mem _ (List.mem_append_right _ h)
set_option maxHeartbeats 4000000 in
set_option maxRecDepth 100000 in
theorem c_X10_out (l : Launch) (D : va_G) (sz t0 : Nat) (σ : sm_S) (α : sm_A) (p1 : Int32) (K : Int32 → sm_S → Prop) (hF : mp_X10_out σ p1 K) : Met l yX10_out wp_X10_out { frames := 0, cells := 0, slots := 0, locals := 0 } (sm_P sm_wX sm_tX 38 D sz t0 σ α [.ref (α.1 10), .int p1]) (va_Qi K (sm_B sm_wX D α) (sm_a α 38 sz)) 0 0 (sm_a α 38 sz) := by
  refine Met.ofW (cc := cX10_out) (maxL := 3) (ret := (some .int)) (by decide) rfl ?_
  intro p e s m args below meth c s₁ B hml hv
  obtain ⟨rfl, hsz, hP, hK, hD0, hE⟩ := hv
  have hx := B.exec
  have hb := B.bytes
  have hr := B.returns
  have hts := atoms_spec (ws := wp_X10_out) B.pre
  have hown : s.vm.findClass RX10 = some m.cls := findClass_of_methodNamed B.named
  have hlocks := B.notSynchronized
  subst hsz
  have hD : sm_D (sm_a α 38 s.heap.size) α 38 := hD0.own
  have hA : ∀ q : Nat, s.heap.size ≤ q → sm_a α 38 s.heap.size q := fun q h => Or.inr h
  generalize hAe : sm_a α 38 s.heap.size = A at hD hA hE ⊢
  have hS : va_S A s.heap s.heap [] := va_S.rf
  have in_X10 : ∀ w ∈ wsX100, w ∈ wp_X10_out := wi_X10_out_X10
  have in_X5 : ∀ w ∈ wsX50, w ∈ wp_X10_out := wi_X10_out_X5
  have in_X7 : ∀ w ∈ wsX70, w ∈ wp_X10_out := wi_X10_out_X7
  have k_0 := hts (.fieldLink RX10 46 "SteadyMachine" "ports" "LSteadyMachine$Ports;") (by decide +kernel)
  have k_1 := hts (.fieldLink RX10 181 "SteadyMachine$Ports" "outs" "[I") (by decide +kernel)
  have k_2 := hts (.fieldLink RX10 72 "SteadyMachine" "runner" "LSteadyMachine$Runner;") (by decide +kernel)
  have k_3 := hts (.fieldLink RX10 103 "SteadyMachine$Runner" "state" "I") (by decide +kernel)
  have k_4 := hts (.fieldLink RX10 162 "SteadyMachine$Ports" "given" "J") (by decide +kernel)
  have hl := lv_entry ([.ref (α.1 10), .int p1]) (n := 3) (Nat.le_of_ble_eq_true rfl)
  rw [lg_entry_eq]
  generalize (lg_sl ([.ref (α.1 10), .int p1]) ++ List.replicate (3 - (lg_sl ([.ref (α.1 10), .int p1])).length) Slot.unset).toArray = ls at hl ⊢
  have hl : lv_has ls 3 [(0, .ref (α.1 10)), (1, .int p1)] := hl
  have B57 : ∀ (σ : sm_S) (y0 : Int32), mp_X10_out_57 K σ y0 → sm_J p l e (headSpec wp_X10_out { frames := 0, cells := 0, slots := 0, locals := 0 }).room s m ([.ref (α.1 10), .int p1] : List Value).toArray below meth c (MQ below (va_Qi K (sm_B sm_wX D α) A) ([.ref (α.1 10), .int p1] : List Value).toArray s 0 0 A) D A 3 (sm_wX σ α) 57 [] [.int y0] := by
    intro σ y0 hF H locs ls hP hS hl
    unfold mp_X10_out_57 at hF
    exact W.iret (v := y0) hx hb hr (fun t ht hW => ⟨⟨y0, σ, rfl, hF, (by unfold sm_B; rw [ht]; exact hP)⟩, hS.F ht⟩) hS.2.2 dX10_out_57
  have B39 : ∀ (σ : sm_S) (x1 : Int32) (y0 : Int32), mp_X10_out_39 K σ x1 y0 → sm_J p l e (headSpec wp_X10_out { frames := 0, cells := 0, slots := 0, locals := 0 }).room s m ([.ref (α.1 10), .int p1] : List Value).toArray below meth c (MQ below (va_Qi K (sm_B sm_wX D α) A) ([.ref (α.1 10), .int p1] : List Value).toArray s 0 0 A) D A 3 (sm_wX σ α) 39 [(0, .ref (α.1 10)), (1, .int x1)] [.int y0] := by
    intro σ x1 y0 hF H locs ls hP hS hl
    unfold mp_X10_out_39 at hF
    refine lv_istore_n (lv' := [(2, .int y0), (0, .ref (α.1 10)), (1, .int x1)]) hx hb dX10_out_39 rfl hl (by decide) rfl (fun ls hl => ?_)
    refine lv_iload_n hx hb dX10_out_40 rfl (lv_at hl 0 rfl) ?_
    refine lv_if_eq (tgt := 56) hx hb dX10_out_41 (by decide) (fun h1 => ?_) (fun h1 => ?_)
    · replace hF := hF.1 h1
      refine lv_iconst (v := 0) hx hb dX10_out_56 (by decide) ?_
      exact B57 σ 0 hF H locs ls hP hS (lv_sub hl [] rfl)
    · replace hF := hF.2 h1
      refine lv_aload_n hx hb dX10_out_44 rfl (lv_at hl 1 rfl) ?_
      refine va_get (D := D) (ci := 10) (v := .ref (α.1 5)) (C := RX10) (T := TX10) (N := 11) hx hb hts in_X10 hown hK hP 10 (sm_gX10 σ α) rfl 7 (by decide) k_0 (fun _ h9 => h9) rfl dX10_out_45 ?_
      refine va_get (D := D) (ci := 5) (v := .ref (α.1 31)) (C := RX5) (T := TX5) (N := 5) hx hb hts in_X5 hown hK hP 5 (sm_gX5 σ α) rfl 3 (by decide) k_1 (fun _ h9 => h9) rfl dX10_out_48 ?_
      refine lv_iload_n hx hb dX10_out_51 rfl (lv_at hl 2 rfl) ?_
      obtain ⟨h2, hF⟩ := hF
      refine va_iald (n := (σ.2.2.1 31)) (f := (σ.2.2.2.1 31)) hx hb hK hP 31 20 (sm_aX31 σ α) (sm_yX31 α) h2 dX10_out_52 ?_
      refine lv_goto (tgt := 57) hx hb dX10_out_53 (by decide) ?_
      exact B57 σ ((σ.2.2.2.1 31) x1.toNatClampNeg) hF H locs ls hP hS (lv_sub hl [] rfl)
  have B38 : ∀ (σ : sm_S) (x1 : Int32), mp_X10_out_38 K σ x1 → sm_J p l e (headSpec wp_X10_out { frames := 0, cells := 0, slots := 0, locals := 0 }).room s m ([.ref (α.1 10), .int p1] : List Value).toArray below meth c (MQ below (va_Qi K (sm_B sm_wX D α) A) ([.ref (α.1 10), .int p1] : List Value).toArray s 0 0 A) D A 3 (sm_wX σ α) 38 [(0, .ref (α.1 10)), (1, .int x1)] [] := by
    intro σ x1 hF H locs ls hP hS hl
    unfold mp_X10_out_38 at hF
    refine lv_iconst (v := 0) hx hb dX10_out_38 (by decide) ?_
    exact B39 σ x1 0 hF H locs ls hP hS (lv_sub hl [0, 1] rfl)
  unfold mp_X10_out at hF
  revert hP hS
  generalize hLo : ([] : List Loc) = locs
  suffices h9 : ∀ (H : Heap) (locs : List Loc), va_P D vwCl (sm_wX σ α) H → va_S A s.heap H locs → W p l e (headSpec wp_X10_out { frames := 0, cells := 0, slots := 0, locals := 0 }).room s m ([.ref (α.1 10), .int p1] : List Value).toArray below meth c H locs 0 0 (MQ below (va_Qi K (sm_B sm_wX D α) A) ([.ref (α.1 10), .int p1] : List Value).toArray s 0 0 A) (F0 m 0 ls []) from fun hP hS => h9 s.heap locs hP hS
  intro H locs hP hS
  refine lv_aload_n hx hb dX10_out_0 rfl (lv_at hl 0 rfl) ?_
  refine va_get (D := D) (ci := 10) (v := .ref (α.1 7)) (C := RX10) (T := TX10) (N := 11) hx hb hts in_X10 hown hK hP 10 (sm_gX10 σ α) rfl 9 (by decide) k_2 (fun _ h9 => h9) rfl dX10_out_1 ?_
  refine va_get (D := D) (ci := 7) (v := .int (σ.1 22)) (C := RX7) (T := TX7) (N := 13) hx hb hts in_X7 hown hK hP 7 (sm_gX7 σ α) rfl 5 (by decide) k_3 (fun _ h9 => h9) rfl dX10_out_4 ?_
  refine lv_if_eq (tgt := 38) hx hb dX10_out_7 (by decide) (fun h3 => ?_) (fun h3 => ?_)
  · replace hF := hF.1 h3
    exact B38 σ p1 hF H locs ls hP hS (lv_sub hl [0, 1] rfl)
  · replace hF := hF.2 h3
    refine lv_iload_n hx hb dX10_out_10 rfl (lv_at hl 1 rfl) ?_
    refine lv_if_lt (tgt := 38) hx hb dX10_out_11 (by decide) (fun h4 => ?_) (fun h4 => ?_)
    · replace hF := hF.1 h4
      exact B38 σ p1 hF H locs ls hP hS (lv_sub hl [0, 1] rfl)
    · replace hF := hF.2 h4
      refine lv_iload_n hx hb dX10_out_14 rfl (lv_at hl 1 rfl) ?_
      refine lv_sipush (v := 1000) hx hb dX10_out_15 (by decide) ?_
      refine lv_icmp_ge (tgt := 38) hx hb dX10_out_18 (by decide) (fun h5 => ?_) (fun h5 => ?_)
      · replace hF := hF.1 h5
        exact B38 σ p1 hF H locs ls hP hS (lv_sub hl [0, 1] rfl)
      · replace hF := hF.2 h5
        refine lv_iload_n hx hb dX10_out_21 rfl (lv_at hl 1 rfl) ?_
        refine lv_i2l hx hb dX10_out_22 rfl ?_
        refine lv_aload_n hx hb dX10_out_23 rfl (lv_at hl 0 rfl) ?_
        refine va_get (D := D) (ci := 10) (v := .ref (α.1 5)) (C := RX10) (T := TX10) (N := 11) hx hb hts in_X10 hown hK hP 10 (sm_gX10 σ α) rfl 7 (by decide) k_0 (fun _ h9 => h9) rfl dX10_out_24 ?_
        refine va_get (D := D) (ci := 5) (v := .long (σ.2.1 0)) (C := RX5) (T := TX5) (N := 5) hx hb hts in_X5 hown hK hP 5 (sm_gX5 σ α) rfl 4 (by decide) k_4 (fun _ h9 => h9) rfl dX10_out_27 ?_
        refine W.lcmp hx hb dX10_out_30 ?_
        refine lv_if_ge (tgt := 38) hx hb dX10_out_31 (by decide) (fun h6 => ?_) (fun h6 => ?_)
        · replace hF := hF.1 h6
          exact B38 σ p1 hF H locs ls hP hS (lv_sub hl [0, 1] rfl)
        · replace hF := hF.2 h6
          refine lv_iconst (v := 1) hx hb dX10_out_34 (by decide) ?_
          refine lv_goto (tgt := 39) hx hb dX10_out_35 (by decide) ?_
          exact B39 σ p1 1 hF H locs ls hP hS (lv_sub hl [0, 1] rfl)
theorem dX10_frame_0 : decode cX10_frame 0 = .ok (.aload_n 0, 1) := by decide +kernel
theorem dX10_frame_1 : decode cX10_frame 1 = .ok (.getfield 72, 3) := by decide +kernel
theorem dX10_frame_4 : decode cX10_frame 4 = .ok (.getfield 103, 3) := by decide +kernel
theorem dX10_frame_7 : decode cX10_frame 7 = .ok (.ifCond .ne 7, 3) := by decide +kernel
theorem dX10_frame_10 : decode cX10_frame 10 = .ok (.iconst 0, 1) := by decide +kernel
theorem dX10_frame_11 : decode cX10_frame 11 = .ok (.goto 11, 3) := by decide +kernel
theorem dX10_frame_14 : decode cX10_frame 14 = .ok (.aload_n 0, 1) := by decide +kernel
theorem dX10_frame_15 : decode cX10_frame 15 = .ok (.getfield 81, 3) := by decide +kernel
theorem dX10_frame_18 : decode cX10_frame 18 = .ok (.iload_n 1, 1) := by decide +kernel
theorem dX10_frame_19 : decode cX10_frame 19 = .ok (.invokevirtual 185, 3) := by decide +kernel
theorem dX10_frame_22 : decode cX10_frame 22 = .ok (.istore_n 3, 1) := by decide +kernel
theorem dX10_frame_23 : decode cX10_frame 23 = .ok (.iload_n 3, 1) := by decide +kernel
theorem dX10_frame_24 : decode cX10_frame 24 = .ok (.ifCond .ne 7, 3) := by decide +kernel
theorem dX10_frame_27 : decode cX10_frame 27 = .ok (.iconst (-1), 1) := by decide +kernel
theorem dX10_frame_28 : decode cX10_frame 28 = .ok (.goto 12, 3) := by decide +kernel
theorem dX10_frame_31 : decode cX10_frame 31 = .ok (.aload_n 0, 1) := by decide +kernel
theorem dX10_frame_32 : decode cX10_frame 32 = .ok (.getfield 81, 3) := by decide +kernel
theorem dX10_frame_35 : decode cX10_frame 35 = .ok (.iload_n 3, 1) := by decide +kernel
theorem dX10_frame_36 : decode cX10_frame 36 = .ok (.iload_n 2, 1) := by decide +kernel
theorem dX10_frame_37 : decode cX10_frame 37 = .ok (.invokevirtual 188, 3) := by decide +kernel
theorem dX10_frame_40 : decode cX10_frame 40 = .ok (.ireturn, 1) := by decide +kernel
def mp_X10_frame_40 (K : Int32 → sm_S → Prop) (σ : sm_S) (y0 : Int32) : Prop := K y0 σ
def mp_X10_frame_22 (K : Int32 → sm_S → Prop) (σ : sm_S) (x2 : Int32) (y0 : Int32) : Prop := ((¬ y0 = 0 → (False)) ∧ (y0 = 0 → (mp_X10_frame_40 K σ (-1))))
/-- SteadyMachine.frame(II)I -/
def mp_X10_frame (σ : sm_S) (p1 : Int32) (p2 : Int32) (K : Int32 → sm_S → Prop) : Prop := ((¬ (σ.1 22) = 0 → (False)) ∧ ((σ.1 22) = 0 → (mp_X10_frame_22 K σ p2 0)))
def wp_X10_frame : List Cond := .code yX10_frame cX10_frame 4 (some .int) :: (([.fieldLink RX10 81 "SteadyMachine" "view" "LSteadyMachine$View;", .fieldLink RX10 72 "SteadyMachine" "runner" "LSteadyMachine$Runner;", .fieldLink RX10 103 "SteadyMachine$Runner" "state" "I"] ++ wsX100) ++ wsX70)
theorem wi_X10_frame_X10 : ∀ w ∈ wsX100, w ∈ wp_X10_frame := fun w h => List.mem_cons_of_mem _ (List.mem_append_left _ (List.mem_append_right _ h))
theorem wi_X10_frame_X7 : ∀ w ∈ wsX70, w ∈ wp_X10_frame := fun w h => List.mem_cons_of_mem _ (List.mem_append_right _ h)
set_option maxHeartbeats 4000000 in
set_option maxRecDepth 100000 in
theorem c_X10_frame (l : Launch) (D : va_G) (sz t0 : Nat) (σ : sm_S) (α : sm_A) (p1 : Int32) (p2 : Int32) (K : Int32 → sm_S → Prop) (hF : mp_X10_frame σ p1 p2 K) : Met l yX10_frame wp_X10_frame { frames := 0, cells := 0, slots := 0, locals := 0 } (sm_P sm_wX sm_tX 38 D sz t0 σ α [.ref (α.1 10), .int p1, .int p2]) (va_Qi K (sm_B sm_wX D α) (sm_a α 38 sz)) 0 0 (sm_a α 38 sz) := by
  refine Met.ofW (cc := cX10_frame) (maxL := 4) (ret := (some .int)) (by decide) rfl ?_
  intro p e s m args below meth c s₁ B hml hv
  obtain ⟨rfl, hsz, hP, hK, hD0, hE⟩ := hv
  have hx := B.exec
  have hb := B.bytes
  have hr := B.returns
  have hts := atoms_spec (ws := wp_X10_frame) B.pre
  have hown : s.vm.findClass RX10 = some m.cls := findClass_of_methodNamed B.named
  have hlocks := B.notSynchronized
  subst hsz
  have hD : sm_D (sm_a α 38 s.heap.size) α 38 := hD0.own
  have hA : ∀ q : Nat, s.heap.size ≤ q → sm_a α 38 s.heap.size q := fun q h => Or.inr h
  generalize hAe : sm_a α 38 s.heap.size = A at hD hA hE ⊢
  have hS : va_S A s.heap s.heap [] := va_S.rf
  have in_X10 : ∀ w ∈ wsX100, w ∈ wp_X10_frame := wi_X10_frame_X10
  have in_X7 : ∀ w ∈ wsX70, w ∈ wp_X10_frame := wi_X10_frame_X7
  have k_0 := hts (.fieldLink RX10 81 "SteadyMachine" "view" "LSteadyMachine$View;") (by decide +kernel)
  have k_1 := hts (.fieldLink RX10 72 "SteadyMachine" "runner" "LSteadyMachine$Runner;") (by decide +kernel)
  have k_2 := hts (.fieldLink RX10 103 "SteadyMachine$Runner" "state" "I") (by decide +kernel)
  have hl := lv_entry ([.ref (α.1 10), .int p1, .int p2]) (n := 4) (Nat.le_of_ble_eq_true rfl)
  rw [lg_entry_eq]
  generalize (lg_sl ([.ref (α.1 10), .int p1, .int p2]) ++ List.replicate (4 - (lg_sl ([.ref (α.1 10), .int p1, .int p2])).length) Slot.unset).toArray = ls at hl ⊢
  have hl : lv_has ls 4 [(0, .ref (α.1 10)), (1, .int p1), (2, .int p2)] := hl
  have B40 : ∀ (σ : sm_S) (y0 : Int32), mp_X10_frame_40 K σ y0 → sm_J p l e (headSpec wp_X10_frame { frames := 0, cells := 0, slots := 0, locals := 0 }).room s m ([.ref (α.1 10), .int p1, .int p2] : List Value).toArray below meth c (MQ below (va_Qi K (sm_B sm_wX D α) A) ([.ref (α.1 10), .int p1, .int p2] : List Value).toArray s 0 0 A) D A 4 (sm_wX σ α) 40 [] [.int y0] := by
    intro σ y0 hF H locs ls hP hS hl
    unfold mp_X10_frame_40 at hF
    exact W.iret (v := y0) hx hb hr (fun t ht hW => ⟨⟨y0, σ, rfl, hF, (by unfold sm_B; rw [ht]; exact hP)⟩, hS.F ht⟩) hS.2.2 dX10_frame_40
  have B22 : ∀ (σ : sm_S) (x2 : Int32) (y0 : Int32), mp_X10_frame_22 K σ x2 y0 → sm_J p l e (headSpec wp_X10_frame { frames := 0, cells := 0, slots := 0, locals := 0 }).room s m ([.ref (α.1 10), .int p1, .int p2] : List Value).toArray below meth c (MQ below (va_Qi K (sm_B sm_wX D α) A) ([.ref (α.1 10), .int p1, .int p2] : List Value).toArray s 0 0 A) D A 4 (sm_wX σ α) 22 [(0, .ref (α.1 10)), (2, .int x2)] [.int y0] := by
    intro σ x2 y0 hF H locs ls hP hS hl
    unfold mp_X10_frame_22 at hF
    refine lv_istore_n (lv' := [(3, .int y0), (0, .ref (α.1 10)), (2, .int x2)]) hx hb dX10_frame_22 rfl hl (by decide) rfl (fun ls hl => ?_)
    refine lv_iload_n hx hb dX10_frame_23 rfl (lv_at hl 0 rfl) ?_
    refine lv_if_ne (tgt := 31) hx hb dX10_frame_24 (by decide) (fun h1 => ?_) (fun h1 => ?_)
    · replace hF := hF.1 h1
      refine lv_aload_n hx hb dX10_frame_31 rfl (lv_at hl 1 rfl) ?_
      refine va_get (D := D) (ci := 10) (v := .ref (α.1 9)) (C := RX10) (T := TX10) (N := 11) hx hb hts in_X10 hown hK hP 10 (sm_gX10 σ α) rfl 10 (by decide) k_0 (fun _ h9 => h9) rfl dX10_frame_32 ?_
      refine lv_iload_n hx hb dX10_frame_35 rfl (lv_at hl 0 rfl) ?_
      refine lv_iload_n hx hb dX10_frame_36 rfl (lv_at hl 2 rfl) ?_
      exact hF.elim
    · replace hF := hF.2 h1
      refine lv_iconst (v := -1) hx hb dX10_frame_27 (by decide) ?_
      refine lv_goto (tgt := 40) hx hb dX10_frame_28 (by decide) ?_
      exact B40 σ (-1) hF H locs ls hP hS (lv_sub hl [] rfl)
  unfold mp_X10_frame at hF
  revert hP hS
  generalize hLo : ([] : List Loc) = locs
  suffices h9 : ∀ (H : Heap) (locs : List Loc), va_P D vwCl (sm_wX σ α) H → va_S A s.heap H locs → W p l e (headSpec wp_X10_frame { frames := 0, cells := 0, slots := 0, locals := 0 }).room s m ([.ref (α.1 10), .int p1, .int p2] : List Value).toArray below meth c H locs 0 0 (MQ below (va_Qi K (sm_B sm_wX D α) A) ([.ref (α.1 10), .int p1, .int p2] : List Value).toArray s 0 0 A) (F0 m 0 ls []) from fun hP hS => h9 s.heap locs hP hS
  intro H locs hP hS
  refine lv_aload_n hx hb dX10_frame_0 rfl (lv_at hl 0 rfl) ?_
  refine va_get (D := D) (ci := 10) (v := .ref (α.1 7)) (C := RX10) (T := TX10) (N := 11) hx hb hts in_X10 hown hK hP 10 (sm_gX10 σ α) rfl 9 (by decide) k_1 (fun _ h9 => h9) rfl dX10_frame_1 ?_
  refine va_get (D := D) (ci := 7) (v := .int (σ.1 22)) (C := RX7) (T := TX7) (N := 13) hx hb hts in_X7 hown hK hP 7 (sm_gX7 σ α) rfl 5 (by decide) k_2 (fun _ h9 => h9) rfl dX10_frame_4 ?_
  refine lv_if_ne (tgt := 14) hx hb dX10_frame_7 (by decide) (fun h2 => ?_) (fun h2 => ?_)
  · replace hF := hF.1 h2
    refine lv_aload_n hx hb dX10_frame_14 rfl (lv_at hl 0 rfl) ?_
    refine va_get (D := D) (ci := 10) (v := .ref (α.1 9)) (C := RX10) (T := TX10) (N := 11) hx hb hts in_X10 hown hK hP 10 (sm_gX10 σ α) rfl 10 (by decide) k_0 (fun _ h9 => h9) rfl dX10_frame_15 ?_
    refine lv_iload_n hx hb dX10_frame_18 rfl (lv_at hl 1 rfl) ?_
    exact hF.elim
  · replace hF := hF.2 h2
    refine lv_iconst (v := 0) hx hb dX10_frame_10 (by decide) ?_
    refine lv_goto (tgt := 22) hx hb dX10_frame_11 (by decide) ?_
    exact B22 σ p2 0 hF H locs ls hP hS (lv_sub hl [0, 2] rfl)
theorem dX10_value_0 : decode cX10_value 0 = .ok (.aload_n 0, 1) := by decide +kernel
theorem dX10_value_1 : decode cX10_value 1 = .ok (.getfield 72, 3) := by decide +kernel
theorem dX10_value_4 : decode cX10_value 4 = .ok (.getfield 103, 3) := by decide +kernel
theorem dX10_value_7 : decode cX10_value 7 = .ok (.ifCond .eq 14, 3) := by decide +kernel
theorem dX10_value_10 : decode cX10_value 10 = .ok (.iload 5, 2) := by decide +kernel
theorem dX10_value_12 : decode cX10_value 12 = .ok (.ifCond .lt 9, 3) := by decide +kernel
theorem dX10_value_15 : decode cX10_value 15 = .ok (.iload 5, 2) := by decide +kernel
theorem dX10_value_17 : decode cX10_value 17 = .ok (.iconst 2, 1) := by decide +kernel
theorem dX10_value_18 : decode cX10_value 18 = .ok (.if_icmp .le 7, 3) := by decide +kernel
theorem dX10_value_21 : decode cX10_value 21 = .ok (.ldc2_w 179, 3) := by decide +kernel
theorem dX10_value_24 : decode cX10_value 24 = .ok (.lreturn, 1) := by decide +kernel
theorem dX10_value_25 : decode cX10_value 25 = .ok (.iload_n 1, 1) := by decide +kernel
theorem dX10_value_26 : decode cX10_value 26 = .ok (.iconst (-1), 1) := by decide +kernel
theorem dX10_value_27 : decode cX10_value 27 = .ok (.if_icmp .ne 14, 3) := by decide +kernel
theorem dX10_value_30 : decode cX10_value 30 = .ok (.aload_n 0, 1) := by decide +kernel
theorem dX10_value_31 : decode cX10_value 31 = .ok (.getfield 81, 3) := by decide +kernel
theorem dX10_value_34 : decode cX10_value 34 = .ok (.iload_n 2, 1) := by decide +kernel
theorem dX10_value_35 : decode cX10_value 35 = .ok (.invokevirtual 191, 3) := by decide +kernel
theorem dX10_value_38 : decode cX10_value 38 = .ok (.goto 19, 3) := by decide +kernel
theorem dX10_value_41 : decode cX10_value 41 = .ok (.aload_n 0, 1) := by decide +kernel
theorem dX10_value_42 : decode cX10_value 42 = .ok (.getfield 81, 3) := by decide +kernel
theorem dX10_value_45 : decode cX10_value 45 = .ok (.aload_n 0, 1) := by decide +kernel
theorem dX10_value_46 : decode cX10_value 46 = .ok (.getfield 81, 3) := by decide +kernel
theorem dX10_value_49 : decode cX10_value 49 = .ok (.iload_n 1, 1) := by decide +kernel
theorem dX10_value_50 : decode cX10_value 50 = .ok (.invokevirtual 185, 3) := by decide +kernel
theorem dX10_value_53 : decode cX10_value 53 = .ok (.iload_n 2, 1) := by decide +kernel
theorem dX10_value_54 : decode cX10_value 54 = .ok (.invokevirtual 195, 3) := by decide +kernel
theorem dX10_value_57 : decode cX10_value 57 = .ok (.lstore 6, 2) := by decide +kernel
theorem dX10_value_59 : decode cX10_value 59 = .ok (.aload_n 0, 1) := by decide +kernel
theorem dX10_value_60 : decode cX10_value 60 = .ok (.getfield 81, 3) := by decide +kernel
theorem dX10_value_63 : decode cX10_value 63 = .ok (.aload_n 0, 1) := by decide +kernel
theorem dX10_value_64 : decode cX10_value 64 = .ok (.getfield 81, 3) := by decide +kernel
theorem dX10_value_67 : decode cX10_value 67 = .ok (.lload 6, 2) := by decide +kernel
theorem dX10_value_69 : decode cX10_value 69 = .ok (.lload_n 3, 1) := by decide +kernel
theorem dX10_value_70 : decode cX10_value 70 = .ok (.invokevirtual 199, 3) := by decide +kernel
theorem dX10_value_73 : decode cX10_value 73 = .ok (.iload 5, 2) := by decide +kernel
theorem dX10_value_75 : decode cX10_value 75 = .ok (.invokevirtual 203, 3) := by decide +kernel
theorem dX10_value_78 : decode cX10_value 78 = .ok (.lreturn, 1) := by decide +kernel
def mp_X10_value_57 (K : Int64 → sm_S → Prop) (σ : sm_S) (x3 : Int64) (x5 : Int32) (y0 : Int64) : Prop := False
def mp_X10_value_21 (K : Int64 → sm_S → Prop) (σ : sm_S)  : Prop := K (-1) σ
/-- SteadyMachine.value(IIJI)J -/
def mp_X10_value (σ : sm_S) (p1 : Int32) (p2 : Int32) (p3 : Int64) (p4 : Int32) (K : Int64 → sm_S → Prop) : Prop := (((σ.1 22) = 0 → (mp_X10_value_21 K σ)) ∧ (¬ (σ.1 22) = 0 → ((p4 < 0 → (mp_X10_value_21 K σ)) ∧ (¬ p4 < 0 → ((p4 ≤ 2 → ((¬ p1 = (-1) → (False)) ∧ (p1 = (-1) → (False)))) ∧ (¬ p4 ≤ 2 → (mp_X10_value_21 K σ)))))))
def wp_X10_value : List Cond := .code yX10_value cX10_value 8 (some .long) :: (([.fieldLink RX10 81 "SteadyMachine" "view" "LSteadyMachine$View;", .constantLong RX10 179 (-1), .fieldLink RX10 72 "SteadyMachine" "runner" "LSteadyMachine$Runner;", .fieldLink RX10 103 "SteadyMachine$Runner" "state" "I"] ++ wsX100) ++ wsX70)
theorem wi_X10_value_X10 : ∀ w ∈ wsX100, w ∈ wp_X10_value := fun w h => List.mem_cons_of_mem _ (List.mem_append_left _ (List.mem_append_right _ h))
theorem wi_X10_value_X7 : ∀ w ∈ wsX70, w ∈ wp_X10_value := fun w h => List.mem_cons_of_mem _ (List.mem_append_right _ h)
set_option maxHeartbeats 4000000 in
set_option maxRecDepth 100000 in
theorem c_X10_value (l : Launch) (D : va_G) (sz t0 : Nat) (σ : sm_S) (α : sm_A) (p1 : Int32) (p2 : Int32) (p3 : Int64) (p4 : Int32) (K : Int64 → sm_S → Prop) (hF : mp_X10_value σ p1 p2 p3 p4 K) : Met l yX10_value wp_X10_value { frames := 0, cells := 0, slots := 0, locals := 0 } (sm_P sm_wX sm_tX 38 D sz t0 σ α [.ref (α.1 10), .int p1, .int p2, .long p3, .int p4]) (va_Ql K (sm_B sm_wX D α) (sm_a α 38 sz)) 0 0 (sm_a α 38 sz) := by
  refine Met.ofW (cc := cX10_value) (maxL := 8) (ret := (some .long)) (by decide) rfl ?_
  intro p e s m args below meth c s₁ B hml hv
  obtain ⟨rfl, hsz, hP, hK, hD0, hE⟩ := hv
  have hx := B.exec
  have hb := B.bytes
  have hr := B.returns
  have hts := atoms_spec (ws := wp_X10_value) B.pre
  have hown : s.vm.findClass RX10 = some m.cls := findClass_of_methodNamed B.named
  have hlocks := B.notSynchronized
  subst hsz
  have hD : sm_D (sm_a α 38 s.heap.size) α 38 := hD0.own
  have hA : ∀ q : Nat, s.heap.size ≤ q → sm_a α 38 s.heap.size q := fun q h => Or.inr h
  generalize hAe : sm_a α 38 s.heap.size = A at hD hA hE ⊢
  have hS : va_S A s.heap s.heap [] := va_S.rf
  have in_X10 : ∀ w ∈ wsX100, w ∈ wp_X10_value := wi_X10_value_X10
  have in_X7 : ∀ w ∈ wsX70, w ∈ wp_X10_value := wi_X10_value_X7
  have k_0 := hts (.fieldLink RX10 81 "SteadyMachine" "view" "LSteadyMachine$View;") (by decide +kernel)
  have k_1 := hts (.constantLong RX10 179 (-1)) (by decide +kernel)
  have k_2 := hts (.fieldLink RX10 72 "SteadyMachine" "runner" "LSteadyMachine$Runner;") (by decide +kernel)
  have k_3 := hts (.fieldLink RX10 103 "SteadyMachine$Runner" "state" "I") (by decide +kernel)
  have hl := lv_entry ([.ref (α.1 10), .int p1, .int p2, .long p3, .int p4]) (n := 8) (Nat.le_of_ble_eq_true rfl)
  rw [lg_entry_eq]
  generalize (lg_sl ([.ref (α.1 10), .int p1, .int p2, .long p3, .int p4]) ++ List.replicate (8 - (lg_sl ([.ref (α.1 10), .int p1, .int p2, .long p3, .int p4])).length) Slot.unset).toArray = ls at hl ⊢
  have hl : lv_has ls 8 [(0, .ref (α.1 10)), (1, .int p1), (2, .int p2), (3, .long p3), (5, .int p4)] := hl
  have B57 : ∀ (σ : sm_S) (x3 : Int64) (x5 : Int32) (y0 : Int64), mp_X10_value_57 K σ x3 x5 y0 → sm_J p l e (headSpec wp_X10_value { frames := 0, cells := 0, slots := 0, locals := 0 }).room s m ([.ref (α.1 10), .int p1, .int p2, .long p3, .int p4] : List Value).toArray below meth c (MQ below (va_Ql K (sm_B sm_wX D α) A) ([.ref (α.1 10), .int p1, .int p2, .long p3, .int p4] : List Value).toArray s 0 0 A) D A 8 (sm_wX σ α) 57 [(0, .ref (α.1 10)), (3, .long x3), (5, .int x5)] [.long y0] := by
    intro σ x3 x5 y0 hF H locs ls hP hS hl
    unfold mp_X10_value_57 at hF
    refine lv_lstore (lv' := [(6, .long y0), (0, .ref (α.1 10)), (3, .long x3), (5, .int x5)]) hx hb dX10_value_57 hl (by decide) rfl (fun ls hl => ?_)
    refine lv_aload_n hx hb dX10_value_59 rfl (lv_at hl 1 rfl) ?_
    refine va_get (D := D) (ci := 10) (v := .ref (α.1 9)) (C := RX10) (T := TX10) (N := 11) hx hb hts in_X10 hown hK hP 10 (sm_gX10 σ α) rfl 10 (by decide) k_0 (fun _ h9 => h9) rfl dX10_value_60 ?_
    refine lv_aload_n hx hb dX10_value_63 rfl (lv_at hl 1 rfl) ?_
    refine va_get (D := D) (ci := 10) (v := .ref (α.1 9)) (C := RX10) (T := TX10) (N := 11) hx hb hts in_X10 hown hK hP 10 (sm_gX10 σ α) rfl 10 (by decide) k_0 (fun _ h9 => h9) rfl dX10_value_64 ?_
    refine lv_lload hx hb dX10_value_67 (lv_at hl 0 rfl) ?_
    refine lv_lload_n hx hb dX10_value_69 rfl (lv_at hl 2 rfl) ?_
    exact hF.elim
  have B21 : ∀ (σ : sm_S), mp_X10_value_21 K σ → sm_J p l e (headSpec wp_X10_value { frames := 0, cells := 0, slots := 0, locals := 0 }).room s m ([.ref (α.1 10), .int p1, .int p2, .long p3, .int p4] : List Value).toArray below meth c (MQ below (va_Ql K (sm_B sm_wX D α) A) ([.ref (α.1 10), .int p1, .int p2, .long p3, .int p4] : List Value).toArray s 0 0 A) D A 8 (sm_wX σ α) 21 [] [] := by
    intro σ hF H locs ls hP hS hl
    unfold mp_X10_value_21 at hF
    refine lv_ldc2 (v := -1) hx hb hown k_1 dX10_value_21 ?_
    exact W.lret (v := (-1)) hx hb hr (fun t ht hW => ⟨⟨(-1), σ, rfl, hF, (by unfold sm_B; rw [ht]; exact hP)⟩, hS.F ht⟩) hS.2.2 dX10_value_24
  unfold mp_X10_value at hF
  revert hP hS
  generalize hLo : ([] : List Loc) = locs
  suffices h9 : ∀ (H : Heap) (locs : List Loc), va_P D vwCl (sm_wX σ α) H → va_S A s.heap H locs → W p l e (headSpec wp_X10_value { frames := 0, cells := 0, slots := 0, locals := 0 }).room s m ([.ref (α.1 10), .int p1, .int p2, .long p3, .int p4] : List Value).toArray below meth c H locs 0 0 (MQ below (va_Ql K (sm_B sm_wX D α) A) ([.ref (α.1 10), .int p1, .int p2, .long p3, .int p4] : List Value).toArray s 0 0 A) (F0 m 0 ls []) from fun hP hS => h9 s.heap locs hP hS
  intro H locs hP hS
  refine lv_aload_n hx hb dX10_value_0 rfl (lv_at hl 0 rfl) ?_
  refine va_get (D := D) (ci := 10) (v := .ref (α.1 7)) (C := RX10) (T := TX10) (N := 11) hx hb hts in_X10 hown hK hP 10 (sm_gX10 σ α) rfl 9 (by decide) k_2 (fun _ h9 => h9) rfl dX10_value_1 ?_
  refine va_get (D := D) (ci := 7) (v := .int (σ.1 22)) (C := RX7) (T := TX7) (N := 13) hx hb hts in_X7 hown hK hP 7 (sm_gX7 σ α) rfl 5 (by decide) k_3 (fun _ h9 => h9) rfl dX10_value_4 ?_
  refine lv_if_eq (tgt := 21) hx hb dX10_value_7 (by decide) (fun h1 => ?_) (fun h1 => ?_)
  · replace hF := hF.1 h1
    exact B21 σ hF H locs ls hP hS (lv_sub hl [] rfl)
  · replace hF := hF.2 h1
    refine lv_iload hx hb dX10_value_10 (lv_at hl 4 rfl) ?_
    refine lv_if_lt (tgt := 21) hx hb dX10_value_12 (by decide) (fun h2 => ?_) (fun h2 => ?_)
    · replace hF := hF.1 h2
      exact B21 σ hF H locs ls hP hS (lv_sub hl [] rfl)
    · replace hF := hF.2 h2
      refine lv_iload hx hb dX10_value_15 (lv_at hl 4 rfl) ?_
      refine lv_iconst (v := 2) hx hb dX10_value_17 (by decide) ?_
      refine lv_icmp_le (tgt := 25) hx hb dX10_value_18 (by decide) (fun h3 => ?_) (fun h3 => ?_)
      · replace hF := hF.1 h3
        refine lv_iload_n hx hb dX10_value_25 rfl (lv_at hl 1 rfl) ?_
        refine lv_iconst (v := -1) hx hb dX10_value_26 (by decide) ?_
        refine lv_icmp_ne (tgt := 41) hx hb dX10_value_27 (by decide) (fun h4 => ?_) (fun h4 => ?_)
        · replace hF := hF.1 h4
          refine lv_aload_n hx hb dX10_value_41 rfl (lv_at hl 0 rfl) ?_
          refine va_get (D := D) (ci := 10) (v := .ref (α.1 9)) (C := RX10) (T := TX10) (N := 11) hx hb hts in_X10 hown hK hP 10 (sm_gX10 σ α) rfl 10 (by decide) k_0 (fun _ h9 => h9) rfl dX10_value_42 ?_
          refine lv_aload_n hx hb dX10_value_45 rfl (lv_at hl 0 rfl) ?_
          refine va_get (D := D) (ci := 10) (v := .ref (α.1 9)) (C := RX10) (T := TX10) (N := 11) hx hb hts in_X10 hown hK hP 10 (sm_gX10 σ α) rfl 10 (by decide) k_0 (fun _ h9 => h9) rfl dX10_value_46 ?_
          refine lv_iload_n hx hb dX10_value_49 rfl (lv_at hl 1 rfl) ?_
          exact hF.elim
        · replace hF := hF.2 h4
          refine lv_aload_n hx hb dX10_value_30 rfl (lv_at hl 0 rfl) ?_
          refine va_get (D := D) (ci := 10) (v := .ref (α.1 9)) (C := RX10) (T := TX10) (N := 11) hx hb hts in_X10 hown hK hP 10 (sm_gX10 σ α) rfl 10 (by decide) k_0 (fun _ h9 => h9) rfl dX10_value_31 ?_
          refine lv_iload_n hx hb dX10_value_34 rfl (lv_at hl 2 rfl) ?_
          exact hF.elim
      · replace hF := hF.2 h3
        exact B21 σ hF H locs ls hP hS (lv_sub hl [] rfl)
theorem dX10_same_0 : decode cX10_same 0 = .ok (.aload_n 0, 1) := by decide +kernel
theorem dX10_same_1 : decode cX10_same 1 = .ok (.getfield 72, 3) := by decide +kernel
theorem dX10_same_4 : decode cX10_same 4 = .ok (.getfield 103, 3) := by decide +kernel
theorem dX10_same_7 : decode cX10_same 7 = .ok (.ifCond .ne 5, 3) := by decide +kernel
theorem dX10_same_10 : decode cX10_same 10 = .ok (.iconst 0, 1) := by decide +kernel
theorem dX10_same_11 : decode cX10_same 11 = .ok (.ireturn, 1) := by decide +kernel
theorem dX10_same_12 : decode cX10_same 12 = .ok (.aload_n 0, 1) := by decide +kernel
theorem dX10_same_13 : decode cX10_same 13 = .ok (.getfield 81, 3) := by decide +kernel
theorem dX10_same_16 : decode cX10_same 16 = .ok (.iconst 0, 1) := by decide +kernel
theorem dX10_same_17 : decode cX10_same 17 = .ok (.invokevirtual 185, 3) := by decide +kernel
theorem dX10_same_20 : decode cX10_same 20 = .ok (.istore_n 3, 1) := by decide +kernel
theorem dX10_same_21 : decode cX10_same 21 = .ok (.aload_n 0, 1) := by decide +kernel
theorem dX10_same_22 : decode cX10_same 22 = .ok (.getfield 81, 3) := by decide +kernel
theorem dX10_same_25 : decode cX10_same 25 = .ok (.aload_n 0, 1) := by decide +kernel
theorem dX10_same_26 : decode cX10_same 26 = .ok (.getfield 81, 3) := by decide +kernel
theorem dX10_same_29 : decode cX10_same 29 = .ok (.iload_n 3, 1) := by decide +kernel
theorem dX10_same_30 : decode cX10_same 30 = .ok (.iload_n 1, 1) := by decide +kernel
theorem dX10_same_31 : decode cX10_same 31 = .ok (.invokevirtual 195, 3) := by decide +kernel
theorem dX10_same_34 : decode cX10_same 34 = .ok (.aload_n 0, 1) := by decide +kernel
theorem dX10_same_35 : decode cX10_same 35 = .ok (.getfield 81, 3) := by decide +kernel
theorem dX10_same_38 : decode cX10_same 38 = .ok (.iload_n 3, 1) := by decide +kernel
theorem dX10_same_39 : decode cX10_same 39 = .ok (.iload_n 2, 1) := by decide +kernel
theorem dX10_same_40 : decode cX10_same 40 = .ok (.invokevirtual 195, 3) := by decide +kernel
theorem dX10_same_43 : decode cX10_same 43 = .ok (.invokevirtual 207, 3) := by decide +kernel
theorem dX10_same_46 : decode cX10_same 46 = .ok (.ireturn, 1) := by decide +kernel
/-- SteadyMachine.same(II)Z -/
def mp_X10_same (σ : sm_S) (p1 : Int32) (p2 : Int32) (K : Int32 → sm_S → Prop) : Prop := ((¬ (σ.1 22) = 0 → (False)) ∧ ((σ.1 22) = 0 → (K 0 σ)))
def wp_X10_same : List Cond := .code yX10_same cX10_same 4 (some .boolean) :: (([.fieldLink RX10 72 "SteadyMachine" "runner" "LSteadyMachine$Runner;", .fieldLink RX10 103 "SteadyMachine$Runner" "state" "I", .fieldLink RX10 81 "SteadyMachine" "view" "LSteadyMachine$View;"] ++ wsX100) ++ wsX70)
theorem wi_X10_same_X10 : ∀ w ∈ wsX100, w ∈ wp_X10_same := fun w h => List.mem_cons_of_mem _ (List.mem_append_left _ (List.mem_append_right _ h))
theorem wi_X10_same_X7 : ∀ w ∈ wsX70, w ∈ wp_X10_same := fun w h => List.mem_cons_of_mem _ (List.mem_append_right _ h)
set_option maxHeartbeats 4000000 in
set_option maxRecDepth 100000 in
theorem c_X10_same (l : Launch) (D : va_G) (sz t0 : Nat) (σ : sm_S) (α : sm_A) (p1 : Int32) (p2 : Int32) (K : Int32 → sm_S → Prop) (hF : mp_X10_same σ p1 p2 K) : Met l yX10_same wp_X10_same { frames := 0, cells := 0, slots := 0, locals := 0 } (sm_P sm_wX sm_tX 38 D sz t0 σ α [.ref (α.1 10), .int p1, .int p2]) (va_Qi K (sm_B sm_wX D α) (sm_a α 38 sz)) 0 0 (sm_a α 38 sz) := by
  refine Met.ofW (cc := cX10_same) (maxL := 4) (ret := (some .boolean)) (by decide) rfl ?_
  intro p e s m args below meth c s₁ B hml hv
  obtain ⟨rfl, hsz, hP, hK, hD0, hE⟩ := hv
  have hx := B.exec
  have hb := B.bytes
  have hr := B.returns
  have hts := atoms_spec (ws := wp_X10_same) B.pre
  have hown : s.vm.findClass RX10 = some m.cls := findClass_of_methodNamed B.named
  have hlocks := B.notSynchronized
  subst hsz
  have hD : sm_D (sm_a α 38 s.heap.size) α 38 := hD0.own
  have hA : ∀ q : Nat, s.heap.size ≤ q → sm_a α 38 s.heap.size q := fun q h => Or.inr h
  generalize hAe : sm_a α 38 s.heap.size = A at hD hA hE ⊢
  have hS : va_S A s.heap s.heap [] := va_S.rf
  have in_X10 : ∀ w ∈ wsX100, w ∈ wp_X10_same := wi_X10_same_X10
  have in_X7 : ∀ w ∈ wsX70, w ∈ wp_X10_same := wi_X10_same_X7
  have k_0 := hts (.fieldLink RX10 72 "SteadyMachine" "runner" "LSteadyMachine$Runner;") (by decide +kernel)
  have k_1 := hts (.fieldLink RX10 103 "SteadyMachine$Runner" "state" "I") (by decide +kernel)
  have k_2 := hts (.fieldLink RX10 81 "SteadyMachine" "view" "LSteadyMachine$View;") (by decide +kernel)
  have hl := lv_entry ([.ref (α.1 10), .int p1, .int p2]) (n := 4) (Nat.le_of_ble_eq_true rfl)
  rw [lg_entry_eq]
  generalize (lg_sl ([.ref (α.1 10), .int p1, .int p2]) ++ List.replicate (4 - (lg_sl ([.ref (α.1 10), .int p1, .int p2])).length) Slot.unset).toArray = ls at hl ⊢
  have hl : lv_has ls 4 [(0, .ref (α.1 10)), (1, .int p1), (2, .int p2)] := hl
  unfold mp_X10_same at hF
  revert hP hS
  generalize hLo : ([] : List Loc) = locs
  suffices h9 : ∀ (H : Heap) (locs : List Loc), va_P D vwCl (sm_wX σ α) H → va_S A s.heap H locs → W p l e (headSpec wp_X10_same { frames := 0, cells := 0, slots := 0, locals := 0 }).room s m ([.ref (α.1 10), .int p1, .int p2] : List Value).toArray below meth c H locs 0 0 (MQ below (va_Qi K (sm_B sm_wX D α) A) ([.ref (α.1 10), .int p1, .int p2] : List Value).toArray s 0 0 A) (F0 m 0 ls []) from fun hP hS => h9 s.heap locs hP hS
  intro H locs hP hS
  refine lv_aload_n hx hb dX10_same_0 rfl (lv_at hl 0 rfl) ?_
  refine va_get (D := D) (ci := 10) (v := .ref (α.1 7)) (C := RX10) (T := TX10) (N := 11) hx hb hts in_X10 hown hK hP 10 (sm_gX10 σ α) rfl 9 (by decide) k_0 (fun _ h9 => h9) rfl dX10_same_1 ?_
  refine va_get (D := D) (ci := 7) (v := .int (σ.1 22)) (C := RX7) (T := TX7) (N := 13) hx hb hts in_X7 hown hK hP 7 (sm_gX7 σ α) rfl 5 (by decide) k_1 (fun _ h9 => h9) rfl dX10_same_4 ?_
  refine lv_if_ne (tgt := 12) hx hb dX10_same_7 (by decide) (fun h1 => ?_) (fun h1 => ?_)
  · replace hF := hF.1 h1
    refine lv_aload_n hx hb dX10_same_12 rfl (lv_at hl 0 rfl) ?_
    refine va_get (D := D) (ci := 10) (v := .ref (α.1 9)) (C := RX10) (T := TX10) (N := 11) hx hb hts in_X10 hown hK hP 10 (sm_gX10 σ α) rfl 10 (by decide) k_2 (fun _ h9 => h9) rfl dX10_same_13 ?_
    refine lv_iconst (v := 0) hx hb dX10_same_16 (by decide) ?_
    exact hF.elim
  · replace hF := hF.2 h1
    refine lv_iconst (v := 0) hx hb dX10_same_10 (by decide) ?_
    exact W.zret (v := 0) hx hb hr sm_z0.1 (fun t ht hW => ⟨⟨0, σ, rfl, hF, (by unfold sm_B; rw [ht]; exact hP)⟩, hS.F ht⟩) hS.2.2 dX10_same_11
theorem dX10_told_0 : decode cX10_told 0 = .ok (.aload_n 0, 1) := by decide +kernel
theorem dX10_told_1 : decode cX10_told 1 = .ok (.getfield 72, 3) := by decide +kernel
theorem dX10_told_4 : decode cX10_told 4 = .ok (.getfield 103, 3) := by decide +kernel
theorem dX10_told_7 : decode cX10_told 7 = .ok (.ifCond .ne 5, 3) := by decide +kernel
theorem dX10_told_10 : decode cX10_told 10 = .ok (.iconst (-1), 1) := by decide +kernel
theorem dX10_told_11 : decode cX10_told 11 = .ok (.ireturn, 1) := by decide +kernel
theorem dX10_told_12 : decode cX10_told 12 = .ok (.iload_n 1, 1) := by decide +kernel
theorem dX10_told_13 : decode cX10_told 13 = .ok (.tableswitch 97 0 4 #[35, 43, 59, 81, 89], 35) := by decide +kernel
theorem dX10_told_48 : decode cX10_told 48 = .ok (.aload_n 0, 1) := by decide +kernel
theorem dX10_told_49 : decode cX10_told 49 = .ok (.getfield 63, 3) := by decide +kernel
theorem dX10_told_52 : decode cX10_told 52 = .ok (.getfield 211, 3) := by decide +kernel
theorem dX10_told_55 : decode cX10_told 55 = .ok (.ireturn, 1) := by decide +kernel
theorem dX10_told_56 : decode cX10_told 56 = .ok (.aload_n 0, 1) := by decide +kernel
theorem dX10_told_57 : decode cX10_told 57 = .ok (.getfield 63, 3) := by decide +kernel
theorem dX10_told_60 : decode cX10_told 60 = .ok (.invokevirtual 214, 3) := by decide +kernel
theorem dX10_told_63 : decode cX10_told 63 = .ok (.ifCond .eq 7, 3) := by decide +kernel
theorem dX10_told_66 : decode cX10_told 66 = .ok (.iconst 1, 1) := by decide +kernel
theorem dX10_told_67 : decode cX10_told 67 = .ok (.goto 4, 3) := by decide +kernel
theorem dX10_told_70 : decode cX10_told 70 = .ok (.iconst 0, 1) := by decide +kernel
theorem dX10_told_71 : decode cX10_told 71 = .ok (.ireturn, 1) := by decide +kernel
theorem dX10_told_72 : decode cX10_told 72 = .ok (.aload_n 0, 1) := by decide +kernel
theorem dX10_told_73 : decode cX10_told 73 = .ok (.getfield 63, 3) := by decide +kernel
theorem dX10_told_76 : decode cX10_told 76 = .ok (.invokevirtual 214, 3) := by decide +kernel
theorem dX10_told_79 : decode cX10_told 79 = .ok (.ifCond .eq 13, 3) := by decide +kernel
theorem dX10_told_82 : decode cX10_told 82 = .ok (.aload_n 0, 1) := by decide +kernel
theorem dX10_told_83 : decode cX10_told 83 = .ok (.getfield 63, 3) := by decide +kernel
theorem dX10_told_86 : decode cX10_told 86 = .ok (.invokevirtual 217, 3) := by decide +kernel
theorem dX10_told_89 : decode cX10_told 89 = .ok (.goto 4, 3) := by decide +kernel
theorem dX10_told_92 : decode cX10_told 92 = .ok (.iconst (-1), 1) := by decide +kernel
theorem dX10_told_93 : decode cX10_told 93 = .ok (.ireturn, 1) := by decide +kernel
theorem dX10_told_94 : decode cX10_told 94 = .ok (.aload_n 0, 1) := by decide +kernel
theorem dX10_told_95 : decode cX10_told 95 = .ok (.getfield 63, 3) := by decide +kernel
theorem dX10_told_98 : decode cX10_told 98 = .ok (.getfield 220, 3) := by decide +kernel
theorem dX10_told_101 : decode cX10_told 101 = .ok (.ireturn, 1) := by decide +kernel
theorem dX10_told_102 : decode cX10_told 102 = .ok (.aload_n 0, 1) := by decide +kernel
theorem dX10_told_103 : decode cX10_told 103 = .ok (.getfield 63, 3) := by decide +kernel
theorem dX10_told_106 : decode cX10_told 106 = .ok (.getfield 223, 3) := by decide +kernel
theorem dX10_told_109 : decode cX10_told 109 = .ok (.ireturn, 1) := by decide +kernel
theorem dX10_told_110 : decode cX10_told 110 = .ok (.iconst (-1), 1) := by decide +kernel
theorem dX10_told_111 : decode cX10_told 111 = .ok (.ireturn, 1) := by decide +kernel
def mp_X10_told_93 (K : Int32 → sm_S → Prop) (σ : sm_S) (y0 : Int32) : Prop := K y0 σ
def mp_X10_told_71 (K : Int32 → sm_S → Prop) (σ : sm_S) (y0 : Int32) : Prop := K y0 σ
/-- SteadyMachine.told(I)I -/
def mp_X10_told (σ : sm_S) (p1 : Int32) (K : Int32 → sm_S → Prop) : Prop := ((¬ (σ.1 22) = 0 → ((p1 = 0 → (K (σ.1 9) σ)) ∧ (p1 = 1 → (False)) ∧ (p1 = 2 → (False)) ∧ (p1 = 3 → (K (σ.1 8) σ)) ∧ (p1 = 4 → (K (σ.1 7) σ)) ∧ (¬ p1 = 0 → ¬ p1 = 1 → ¬ p1 = 2 → ¬ p1 = 3 → ¬ p1 = 4 → (K (-1) σ)))) ∧ ((σ.1 22) = 0 → (K (-1) σ)))
def wp_X10_told : List Cond := .code yX10_told cX10_told 2 (some .int) :: ((([.fieldLink RX10 72 "SteadyMachine" "runner" "LSteadyMachine$Runner;", .fieldLink RX10 103 "SteadyMachine$Runner" "state" "I", .fieldLink RX10 63 "SteadyMachine" "heap" "LSteadyMachine$Heap;", .fieldLink RX10 211 "SteadyMachine$Heap" "cycles" "I", .fieldLink RX10 220 "SteadyMachine$Heap" "made" "I", .fieldLink RX10 223 "SteadyMachine$Heap" "limit" "I"] ++ wsX10) ++ wsX100) ++ wsX70)
theorem wi_X10_told_X1 : ∀ w ∈ wsX10, w ∈ wp_X10_told := fun w h => List.mem_cons_of_mem _ (List.mem_append_left _ (List.mem_append_left _ (List.mem_append_right _ h)))
theorem wi_X10_told_X10 : ∀ w ∈ wsX100, w ∈ wp_X10_told := fun w h => List.mem_cons_of_mem _ (List.mem_append_left _ (List.mem_append_right _ h))
theorem wi_X10_told_X7 : ∀ w ∈ wsX70, w ∈ wp_X10_told := fun w h => List.mem_cons_of_mem _ (List.mem_append_right _ h)
set_option maxHeartbeats 4000000 in
set_option maxRecDepth 100000 in
theorem c_X10_told (l : Launch) (D : va_G) (sz t0 : Nat) (σ : sm_S) (α : sm_A) (p1 : Int32) (K : Int32 → sm_S → Prop) (hF : mp_X10_told σ p1 K) : Met l yX10_told wp_X10_told { frames := 0, cells := 0, slots := 0, locals := 0 } (sm_P sm_wX sm_tX 38 D sz t0 σ α [.ref (α.1 10), .int p1]) (va_Qi K (sm_B sm_wX D α) (sm_a α 38 sz)) 0 0 (sm_a α 38 sz) := by
  refine Met.ofW (cc := cX10_told) (maxL := 2) (ret := (some .int)) (by decide) rfl ?_
  intro p e s m args below meth c s₁ B hml hv
  obtain ⟨rfl, hsz, hP, hK, hD0, hE⟩ := hv
  have hx := B.exec
  have hb := B.bytes
  have hr := B.returns
  have hts := atoms_spec (ws := wp_X10_told) B.pre
  have hown : s.vm.findClass RX10 = some m.cls := findClass_of_methodNamed B.named
  have hlocks := B.notSynchronized
  subst hsz
  have hD : sm_D (sm_a α 38 s.heap.size) α 38 := hD0.own
  have hA : ∀ q : Nat, s.heap.size ≤ q → sm_a α 38 s.heap.size q := fun q h => Or.inr h
  generalize hAe : sm_a α 38 s.heap.size = A at hD hA hE ⊢
  have hS : va_S A s.heap s.heap [] := va_S.rf
  have in_X1 : ∀ w ∈ wsX10, w ∈ wp_X10_told := wi_X10_told_X1
  have in_X10 : ∀ w ∈ wsX100, w ∈ wp_X10_told := wi_X10_told_X10
  have in_X7 : ∀ w ∈ wsX70, w ∈ wp_X10_told := wi_X10_told_X7
  have k_0 := hts (.fieldLink RX10 72 "SteadyMachine" "runner" "LSteadyMachine$Runner;") (by decide +kernel)
  have k_1 := hts (.fieldLink RX10 103 "SteadyMachine$Runner" "state" "I") (by decide +kernel)
  have k_2 := hts (.fieldLink RX10 63 "SteadyMachine" "heap" "LSteadyMachine$Heap;") (by decide +kernel)
  have k_3 := hts (.fieldLink RX10 211 "SteadyMachine$Heap" "cycles" "I") (by decide +kernel)
  have k_4 := hts (.fieldLink RX10 220 "SteadyMachine$Heap" "made" "I") (by decide +kernel)
  have k_5 := hts (.fieldLink RX10 223 "SteadyMachine$Heap" "limit" "I") (by decide +kernel)
  have hl := lv_entry ([.ref (α.1 10), .int p1]) (n := 2) (Nat.le_of_ble_eq_true rfl)
  rw [lg_entry_eq]
  generalize (lg_sl ([.ref (α.1 10), .int p1]) ++ List.replicate (2 - (lg_sl ([.ref (α.1 10), .int p1])).length) Slot.unset).toArray = ls at hl ⊢
  have hl : lv_has ls 2 [(0, .ref (α.1 10)), (1, .int p1)] := hl
  have B93 : ∀ (σ : sm_S) (y0 : Int32), mp_X10_told_93 K σ y0 → sm_J p l e (headSpec wp_X10_told { frames := 0, cells := 0, slots := 0, locals := 0 }).room s m ([.ref (α.1 10), .int p1] : List Value).toArray below meth c (MQ below (va_Qi K (sm_B sm_wX D α) A) ([.ref (α.1 10), .int p1] : List Value).toArray s 0 0 A) D A 2 (sm_wX σ α) 93 [] [.int y0] := by
    intro σ y0 hF H locs ls hP hS hl
    unfold mp_X10_told_93 at hF
    exact W.iret (v := y0) hx hb hr (fun t ht hW => ⟨⟨y0, σ, rfl, hF, (by unfold sm_B; rw [ht]; exact hP)⟩, hS.F ht⟩) hS.2.2 dX10_told_93
  have B71 : ∀ (σ : sm_S) (y0 : Int32), mp_X10_told_71 K σ y0 → sm_J p l e (headSpec wp_X10_told { frames := 0, cells := 0, slots := 0, locals := 0 }).room s m ([.ref (α.1 10), .int p1] : List Value).toArray below meth c (MQ below (va_Qi K (sm_B sm_wX D α) A) ([.ref (α.1 10), .int p1] : List Value).toArray s 0 0 A) D A 2 (sm_wX σ α) 71 [] [.int y0] := by
    intro σ y0 hF H locs ls hP hS hl
    unfold mp_X10_told_71 at hF
    exact W.iret (v := y0) hx hb hr (fun t ht hW => ⟨⟨y0, σ, rfl, hF, (by unfold sm_B; rw [ht]; exact hP)⟩, hS.F ht⟩) hS.2.2 dX10_told_71
  unfold mp_X10_told at hF
  revert hP hS
  generalize hLo : ([] : List Loc) = locs
  suffices h9 : ∀ (H : Heap) (locs : List Loc), va_P D vwCl (sm_wX σ α) H → va_S A s.heap H locs → W p l e (headSpec wp_X10_told { frames := 0, cells := 0, slots := 0, locals := 0 }).room s m ([.ref (α.1 10), .int p1] : List Value).toArray below meth c H locs 0 0 (MQ below (va_Qi K (sm_B sm_wX D α) A) ([.ref (α.1 10), .int p1] : List Value).toArray s 0 0 A) (F0 m 0 ls []) from fun hP hS => h9 s.heap locs hP hS
  intro H locs hP hS
  refine lv_aload_n hx hb dX10_told_0 rfl (lv_at hl 0 rfl) ?_
  refine va_get (D := D) (ci := 10) (v := .ref (α.1 7)) (C := RX10) (T := TX10) (N := 11) hx hb hts in_X10 hown hK hP 10 (sm_gX10 σ α) rfl 9 (by decide) k_0 (fun _ h9 => h9) rfl dX10_told_1 ?_
  refine va_get (D := D) (ci := 7) (v := .int (σ.1 22)) (C := RX7) (T := TX7) (N := 13) hx hb hts in_X7 hown hK hP 7 (sm_gX7 σ α) rfl 5 (by decide) k_1 (fun _ h9 => h9) rfl dX10_told_4 ?_
  refine lv_if_ne (tgt := 12) hx hb dX10_told_7 (by decide) (fun h1 => ?_) (fun h1 => ?_)
  · replace hF := hF.1 h1
    refine lv_iload_n hx hb dX10_told_12 rfl (lv_at hl 1 rfl) ?_
    by_cases h2 : p1 = 0
    · refine lv_tableIn (tgt := 48) hx hb dX10_told_13 (by rw [h2]; decide) (by rw [h2]; decide) (by rw [h2]; rfl) (by decide) ?_
      replace hF := hF.1 h2
      refine lv_aload_n hx hb dX10_told_48 rfl (lv_at hl 0 rfl) ?_
      refine va_get (D := D) (ci := 10) (v := .ref (α.1 1)) (C := RX10) (T := TX10) (N := 11) hx hb hts in_X10 hown hK hP 10 (sm_gX10 σ α) rfl 8 (by decide) k_2 (fun _ h9 => h9) rfl dX10_told_49 ?_
      refine va_get (D := D) (ci := 1) (v := .int (σ.1 9)) (C := RX1) (T := TX1) (N := 16) hx hb hts in_X1 hown hK hP 1 (sm_gX1 σ α) rfl 11 (by decide) k_3 (fun _ h9 => h9) rfl dX10_told_52 ?_
      exact W.iret (v := (σ.1 9)) hx hb hr (fun t ht hW => ⟨⟨(σ.1 9), σ, rfl, hF, (by unfold sm_B; rw [ht]; exact hP)⟩, hS.F ht⟩) hS.2.2 dX10_told_55
    by_cases h3 : p1 = 1
    · refine lv_tableIn (tgt := 56) hx hb dX10_told_13 (by rw [h3]; decide) (by rw [h3]; decide) (by rw [h3]; rfl) (by decide) ?_
      replace hF := hF.2.1 h3
      refine lv_aload_n hx hb dX10_told_56 rfl (lv_at hl 0 rfl) ?_
      refine va_get (D := D) (ci := 10) (v := .ref (α.1 1)) (C := RX10) (T := TX10) (N := 11) hx hb hts in_X10 hown hK hP 10 (sm_gX10 σ α) rfl 8 (by decide) k_2 (fun _ h9 => h9) rfl dX10_told_57 ?_
      exact hF.elim
    by_cases h4 : p1 = 2
    · refine lv_tableIn (tgt := 72) hx hb dX10_told_13 (by rw [h4]; decide) (by rw [h4]; decide) (by rw [h4]; rfl) (by decide) ?_
      replace hF := hF.2.2.1 h4
      refine lv_aload_n hx hb dX10_told_72 rfl (lv_at hl 0 rfl) ?_
      refine va_get (D := D) (ci := 10) (v := .ref (α.1 1)) (C := RX10) (T := TX10) (N := 11) hx hb hts in_X10 hown hK hP 10 (sm_gX10 σ α) rfl 8 (by decide) k_2 (fun _ h9 => h9) rfl dX10_told_73 ?_
      exact hF.elim
    by_cases h5 : p1 = 3
    · refine lv_tableIn (tgt := 94) hx hb dX10_told_13 (by rw [h5]; decide) (by rw [h5]; decide) (by rw [h5]; rfl) (by decide) ?_
      replace hF := hF.2.2.2.1 h5
      refine lv_aload_n hx hb dX10_told_94 rfl (lv_at hl 0 rfl) ?_
      refine va_get (D := D) (ci := 10) (v := .ref (α.1 1)) (C := RX10) (T := TX10) (N := 11) hx hb hts in_X10 hown hK hP 10 (sm_gX10 σ α) rfl 8 (by decide) k_2 (fun _ h9 => h9) rfl dX10_told_95 ?_
      refine va_get (D := D) (ci := 1) (v := .int (σ.1 8)) (C := RX1) (T := TX1) (N := 16) hx hb hts in_X1 hown hK hP 1 (sm_gX1 σ α) rfl 10 (by decide) k_4 (fun _ h9 => h9) rfl dX10_told_98 ?_
      exact W.iret (v := (σ.1 8)) hx hb hr (fun t ht hW => ⟨⟨(σ.1 8), σ, rfl, hF, (by unfold sm_B; rw [ht]; exact hP)⟩, hS.F ht⟩) hS.2.2 dX10_told_101
    by_cases h6 : p1 = 4
    · refine lv_tableIn (tgt := 102) hx hb dX10_told_13 (by rw [h6]; decide) (by rw [h6]; decide) (by rw [h6]; rfl) (by decide) ?_
      replace hF := hF.2.2.2.2.1 h6
      refine lv_aload_n hx hb dX10_told_102 rfl (lv_at hl 0 rfl) ?_
      refine va_get (D := D) (ci := 10) (v := .ref (α.1 1)) (C := RX10) (T := TX10) (N := 11) hx hb hts in_X10 hown hK hP 10 (sm_gX10 σ α) rfl 8 (by decide) k_2 (fun _ h9 => h9) rfl dX10_told_103 ?_
      refine va_get (D := D) (ci := 1) (v := .int (σ.1 7)) (C := RX1) (T := TX1) (N := 16) hx hb hts in_X1 hown hK hP 1 (sm_gX1 σ α) rfl 9 (by decide) k_5 (fun _ h9 => h9) rfl dX10_told_106 ?_
      exact W.iret (v := (σ.1 7)) hx hb hr (fun t ht hW => ⟨⟨(σ.1 7), σ, rfl, hF, (by unfold sm_B; rw [ht]; exact hP)⟩, hS.F ht⟩) hS.2.2 dX10_told_109
    refine lv_tableOut (tgt := 110) hx hb dX10_told_13 (by have q0 := lv_neT h2 (show Int32.toInt 0 = 0 by decide); have q1 := lv_neT h3 (show Int32.toInt 1 = 1 by decide); have q2 := lv_neT h4 (show Int32.toInt 2 = 2 by decide); have q3 := lv_neT h5 (show Int32.toInt 3 = 3 by decide); have q4 := lv_neT h6 (show Int32.toInt 4 = 4 by decide); omega) (by decide) ?_
    replace hF := hF.2.2.2.2.2 h2 h3 h4 h5 h6
    refine lv_iconst (v := -1) hx hb dX10_told_110 (by decide) ?_
    exact W.iret (v := (-1)) hx hb hr (fun t ht hW => ⟨⟨(-1), σ, rfl, hF, (by unfold sm_B; rw [ht]; exact hP)⟩, hS.F ht⟩) hS.2.2 dX10_told_111
  · replace hF := hF.2 h1
    refine lv_iconst (v := -1) hx hb dX10_told_10 (by decide) ?_
    exact W.iret (v := (-1)) hx hb hr (fun t ht hW => ⟨⟨(-1), σ, rfl, hF, (by unfold sm_B; rw [ht]; exact hP)⟩, hS.F ht⟩) hS.2.2 dX10_told_11
theorem dX10_steady_0 : decode cX10_steady 0 = .ok (.aload_n 0, 1) := by decide +kernel
theorem dX10_steady_1 : decode cX10_steady 1 = .ok (.getfield 72, 3) := by decide +kernel
theorem dX10_steady_4 : decode cX10_steady 4 = .ok (.getfield 103, 3) := by decide +kernel
theorem dX10_steady_7 : decode cX10_steady 7 = .ok (.ifCond .eq 13, 3) := by decide +kernel
theorem dX10_steady_10 : decode cX10_steady 10 = .ok (.aload_n 0, 1) := by decide +kernel
theorem dX10_steady_11 : decode cX10_steady 11 = .ok (.getfield 63, 3) := by decide +kernel
theorem dX10_steady_14 : decode cX10_steady 14 = .ok (.getfield 226, 3) := by decide +kernel
theorem dX10_steady_17 : decode cX10_steady 17 = .ok (.ifCond .eq 7, 3) := by decide +kernel
theorem dX10_steady_20 : decode cX10_steady 20 = .ok (.iconst 1, 1) := by decide +kernel
theorem dX10_steady_21 : decode cX10_steady 21 = .ok (.goto 4, 3) := by decide +kernel
theorem dX10_steady_24 : decode cX10_steady 24 = .ok (.iconst 0, 1) := by decide +kernel
theorem dX10_steady_25 : decode cX10_steady 25 = .ok (.ireturn, 1) := by decide +kernel
def mp_X10_steady_25 (K : Int32 → sm_S → Prop) (σ : sm_S) (y0 : Int32) : Prop := sm_z y0 ∧ K y0 σ
def mp_X10_steady_20 (K : Int32 → sm_S → Prop) (σ : sm_S)  : Prop := mp_X10_steady_25 K σ 1
/-- SteadyMachine.steady()Z -/
def mp_X10_steady (σ : sm_S)  (K : Int32 → sm_S → Prop) : Prop := (((σ.1 22) = 0 → (mp_X10_steady_20 K σ)) ∧ (¬ (σ.1 22) = 0 → (((σ.1 12) = 0 → (mp_X10_steady_25 K σ 0)) ∧ (¬ (σ.1 12) = 0 → (mp_X10_steady_20 K σ)))))
def wp_X10_steady : List Cond := .code yX10_steady cX10_steady 1 (some .boolean) :: ((([.fieldLink RX10 72 "SteadyMachine" "runner" "LSteadyMachine$Runner;", .fieldLink RX10 103 "SteadyMachine$Runner" "state" "I", .fieldLink RX10 63 "SteadyMachine" "heap" "LSteadyMachine$Heap;", .fieldLink RX10 226 "SteadyMachine$Heap" "steady" "Z"] ++ wsX10) ++ wsX100) ++ wsX70)
theorem wi_X10_steady_X1 : ∀ w ∈ wsX10, w ∈ wp_X10_steady := fun w h => List.mem_cons_of_mem _ (List.mem_append_left _ (List.mem_append_left _ (List.mem_append_right _ h)))
theorem wi_X10_steady_X10 : ∀ w ∈ wsX100, w ∈ wp_X10_steady := fun w h => List.mem_cons_of_mem _ (List.mem_append_left _ (List.mem_append_right _ h))
theorem wi_X10_steady_X7 : ∀ w ∈ wsX70, w ∈ wp_X10_steady := fun w h => List.mem_cons_of_mem _ (List.mem_append_right _ h)
set_option maxHeartbeats 4000000 in
set_option maxRecDepth 100000 in
theorem c_X10_steady (l : Launch) (D : va_G) (sz t0 : Nat) (σ : sm_S) (α : sm_A) (K : Int32 → sm_S → Prop) (hF : mp_X10_steady σ K) : Met l yX10_steady wp_X10_steady { frames := 0, cells := 0, slots := 0, locals := 0 } (sm_P sm_wX sm_tX 38 D sz t0 σ α [.ref (α.1 10)]) (va_Qi K (sm_B sm_wX D α) (sm_a α 38 sz)) 0 0 (sm_a α 38 sz) := by
  refine Met.ofW (cc := cX10_steady) (maxL := 1) (ret := (some .boolean)) (by decide) rfl ?_
  intro p e s m args below meth c s₁ B hml hv
  obtain ⟨rfl, hsz, hP, hK, hD0, hE⟩ := hv
  have hx := B.exec
  have hb := B.bytes
  have hr := B.returns
  have hts := atoms_spec (ws := wp_X10_steady) B.pre
  have hown : s.vm.findClass RX10 = some m.cls := findClass_of_methodNamed B.named
  have hlocks := B.notSynchronized
  subst hsz
  have hD : sm_D (sm_a α 38 s.heap.size) α 38 := hD0.own
  have hA : ∀ q : Nat, s.heap.size ≤ q → sm_a α 38 s.heap.size q := fun q h => Or.inr h
  generalize hAe : sm_a α 38 s.heap.size = A at hD hA hE ⊢
  have hS : va_S A s.heap s.heap [] := va_S.rf
  have in_X1 : ∀ w ∈ wsX10, w ∈ wp_X10_steady := wi_X10_steady_X1
  have in_X10 : ∀ w ∈ wsX100, w ∈ wp_X10_steady := wi_X10_steady_X10
  have in_X7 : ∀ w ∈ wsX70, w ∈ wp_X10_steady := wi_X10_steady_X7
  have k_0 := hts (.fieldLink RX10 72 "SteadyMachine" "runner" "LSteadyMachine$Runner;") (by decide +kernel)
  have k_1 := hts (.fieldLink RX10 103 "SteadyMachine$Runner" "state" "I") (by decide +kernel)
  have k_2 := hts (.fieldLink RX10 63 "SteadyMachine" "heap" "LSteadyMachine$Heap;") (by decide +kernel)
  have k_3 := hts (.fieldLink RX10 226 "SteadyMachine$Heap" "steady" "Z") (by decide +kernel)
  have hl := lv_entry ([.ref (α.1 10)]) (n := 1) (Nat.le_of_ble_eq_true rfl)
  rw [lg_entry_eq]
  generalize (lg_sl ([.ref (α.1 10)]) ++ List.replicate (1 - (lg_sl ([.ref (α.1 10)])).length) Slot.unset).toArray = ls at hl ⊢
  have hl : lv_has ls 1 [(0, .ref (α.1 10))] := hl
  have B25 : ∀ (σ : sm_S) (y0 : Int32), mp_X10_steady_25 K σ y0 → sm_J p l e (headSpec wp_X10_steady { frames := 0, cells := 0, slots := 0, locals := 0 }).room s m ([.ref (α.1 10)] : List Value).toArray below meth c (MQ below (va_Qi K (sm_B sm_wX D α) A) ([.ref (α.1 10)] : List Value).toArray s 0 0 A) D A 1 (sm_wX σ α) 25 [] [.int y0] := by
    intro σ y0 hF H locs ls hP hS hl
    unfold mp_X10_steady_25 at hF
    obtain ⟨h1, hF⟩ := hF
    exact W.zret (v := y0) hx hb hr h1.1 (fun t ht hW => ⟨⟨y0, σ, rfl, hF, (by unfold sm_B; rw [ht]; exact hP)⟩, hS.F ht⟩) hS.2.2 dX10_steady_25
  have B20 : ∀ (σ : sm_S), mp_X10_steady_20 K σ → sm_J p l e (headSpec wp_X10_steady { frames := 0, cells := 0, slots := 0, locals := 0 }).room s m ([.ref (α.1 10)] : List Value).toArray below meth c (MQ below (va_Qi K (sm_B sm_wX D α) A) ([.ref (α.1 10)] : List Value).toArray s 0 0 A) D A 1 (sm_wX σ α) 20 [] [] := by
    intro σ hF H locs ls hP hS hl
    unfold mp_X10_steady_20 at hF
    refine lv_iconst (v := 1) hx hb dX10_steady_20 (by decide) ?_
    refine lv_goto (tgt := 25) hx hb dX10_steady_21 (by decide) ?_
    exact B25 σ 1 hF H locs ls hP hS (lv_sub hl [] rfl)
  unfold mp_X10_steady at hF
  revert hP hS
  generalize hLo : ([] : List Loc) = locs
  suffices h9 : ∀ (H : Heap) (locs : List Loc), va_P D vwCl (sm_wX σ α) H → va_S A s.heap H locs → W p l e (headSpec wp_X10_steady { frames := 0, cells := 0, slots := 0, locals := 0 }).room s m ([.ref (α.1 10)] : List Value).toArray below meth c H locs 0 0 (MQ below (va_Qi K (sm_B sm_wX D α) A) ([.ref (α.1 10)] : List Value).toArray s 0 0 A) (F0 m 0 ls []) from fun hP hS => h9 s.heap locs hP hS
  intro H locs hP hS
  refine lv_aload_n hx hb dX10_steady_0 rfl (lv_at hl 0 rfl) ?_
  refine va_get (D := D) (ci := 10) (v := .ref (α.1 7)) (C := RX10) (T := TX10) (N := 11) hx hb hts in_X10 hown hK hP 10 (sm_gX10 σ α) rfl 9 (by decide) k_0 (fun _ h9 => h9) rfl dX10_steady_1 ?_
  refine va_get (D := D) (ci := 7) (v := .int (σ.1 22)) (C := RX7) (T := TX7) (N := 13) hx hb hts in_X7 hown hK hP 7 (sm_gX7 σ α) rfl 5 (by decide) k_1 (fun _ h9 => h9) rfl dX10_steady_4 ?_
  refine lv_if_eq (tgt := 20) hx hb dX10_steady_7 (by decide) (fun h2 => ?_) (fun h2 => ?_)
  · replace hF := hF.1 h2
    exact B20 σ hF H locs ls hP hS (lv_sub hl [] rfl)
  · replace hF := hF.2 h2
    refine lv_aload_n hx hb dX10_steady_10 rfl (lv_at hl 0 rfl) ?_
    refine va_get (D := D) (ci := 10) (v := .ref (α.1 1)) (C := RX10) (T := TX10) (N := 11) hx hb hts in_X10 hown hK hP 10 (sm_gX10 σ α) rfl 8 (by decide) k_2 (fun _ h9 => h9) rfl dX10_steady_11 ?_
    refine va_get (D := D) (ci := 1) (v := .int (σ.1 12)) (C := RX1) (T := TX1) (N := 16) hx hb hts in_X1 hown hK hP 1 (sm_gX1 σ α) rfl 14 (by decide) k_3 (fun _ h9 => h9) rfl dX10_steady_14 ?_
    refine lv_if_eq (tgt := 24) hx hb dX10_steady_17 (by decide) (fun h3 => ?_) (fun h3 => ?_)
    · replace hF := hF.1 h3
      refine lv_iconst (v := 0) hx hb dX10_steady_24 (by decide) ?_
      exact B25 σ 0 hF H locs ls hP hS (lv_sub hl [] rfl)
    · replace hF := hF.2 h3
      exact B20 σ hF H locs ls hP hS (lv_sub hl [] rfl)
theorem dX10_stands_0 : decode cX10_stands 0 = .ok (.aload_n 0, 1) := by decide +kernel
theorem dX10_stands_1 : decode cX10_stands 1 = .ok (.getfield 106, 3) := by decide +kernel
theorem dX10_stands_4 : decode cX10_stands 4 = .ok (.ifCond .eq 18, 3) := by decide +kernel
theorem dX10_stands_7 : decode cX10_stands 7 = .ok (.aload_n 0, 1) := by decide +kernel
theorem dX10_stands_8 : decode cX10_stands 8 = .ok (.getfield 39, 3) := by decide +kernel
theorem dX10_stands_11 : decode cX10_stands 11 = .ok (.iload_n 1, 1) := by decide +kernel
theorem dX10_stands_12 : decode cX10_stands 12 = .ok (.iload_n 2, 1) := by decide +kernel
theorem dX10_stands_13 : decode cX10_stands 13 = .ok (.iload_n 3, 1) := by decide +kernel
theorem dX10_stands_14 : decode cX10_stands 14 = .ok (.iload 4, 2) := by decide +kernel
theorem dX10_stands_16 : decode cX10_stands 16 = .ok (.invokevirtual 229, 3) := by decide +kernel
theorem dX10_stands_19 : decode cX10_stands 19 = .ok (.goto 4, 3) := by decide +kernel
theorem dX10_stands_22 : decode cX10_stands 22 = .ok (.iconst (-1), 1) := by decide +kernel
theorem dX10_stands_23 : decode cX10_stands 23 = .ok (.ireturn, 1) := by decide +kernel
def mp_X10_stands_23 (K : Int32 → sm_S → Prop) (σ : sm_S) (y0 : Int32) : Prop := K y0 σ
/-- SteadyMachine.stands(IIII)I -/
def mp_X10_stands (σ : sm_S) (p1 : Int32) (p2 : Int32) (p3 : Int32) (p4 : Int32) (K : Int32 → sm_S → Prop) : Prop := (((σ.1 36) = 0 → (mp_X10_stands_23 K σ (-1))) ∧ (¬ (σ.1 36) = 0 → (False)))
def wp_X10_stands : List Cond := .code yX10_stands cX10_stands 5 (some .int) :: ([.fieldLink RX10 106 "SteadyMachine" "whole" "Z", .fieldLink RX10 39 "SteadyMachine" "verifier" "LSteadyMachine$Verifier;"] ++ wsX100)
theorem wi_X10_stands_X10 : ∀ w ∈ wsX100, w ∈ wp_X10_stands := fun w h => List.mem_cons_of_mem _ (List.mem_append_right _ h)
set_option maxHeartbeats 4000000 in
set_option maxRecDepth 100000 in
theorem c_X10_stands (l : Launch) (D : va_G) (sz t0 : Nat) (σ : sm_S) (α : sm_A) (p1 : Int32) (p2 : Int32) (p3 : Int32) (p4 : Int32) (K : Int32 → sm_S → Prop) (hF : mp_X10_stands σ p1 p2 p3 p4 K) : Met l yX10_stands wp_X10_stands { frames := 0, cells := 0, slots := 0, locals := 0 } (sm_P sm_wX sm_tX 38 D sz t0 σ α [.ref (α.1 10), .int p1, .int p2, .int p3, .int p4]) (va_Qi K (sm_B sm_wX D α) (sm_a α 38 sz)) 0 0 (sm_a α 38 sz) := by
  refine Met.ofW (cc := cX10_stands) (maxL := 5) (ret := (some .int)) (by decide) rfl ?_
  intro p e s m args below meth c s₁ B hml hv
  obtain ⟨rfl, hsz, hP, hK, hD0, hE⟩ := hv
  have hx := B.exec
  have hb := B.bytes
  have hr := B.returns
  have hts := atoms_spec (ws := wp_X10_stands) B.pre
  have hown : s.vm.findClass RX10 = some m.cls := findClass_of_methodNamed B.named
  have hlocks := B.notSynchronized
  subst hsz
  have hD : sm_D (sm_a α 38 s.heap.size) α 38 := hD0.own
  have hA : ∀ q : Nat, s.heap.size ≤ q → sm_a α 38 s.heap.size q := fun q h => Or.inr h
  generalize hAe : sm_a α 38 s.heap.size = A at hD hA hE ⊢
  have hS : va_S A s.heap s.heap [] := va_S.rf
  have in_X10 : ∀ w ∈ wsX100, w ∈ wp_X10_stands := wi_X10_stands_X10
  have k_0 := hts (.fieldLink RX10 106 "SteadyMachine" "whole" "Z") (by decide +kernel)
  have k_1 := hts (.fieldLink RX10 39 "SteadyMachine" "verifier" "LSteadyMachine$Verifier;") (by decide +kernel)
  have hl := lv_entry ([.ref (α.1 10), .int p1, .int p2, .int p3, .int p4]) (n := 5) (Nat.le_of_ble_eq_true rfl)
  rw [lg_entry_eq]
  generalize (lg_sl ([.ref (α.1 10), .int p1, .int p2, .int p3, .int p4]) ++ List.replicate (5 - (lg_sl ([.ref (α.1 10), .int p1, .int p2, .int p3, .int p4])).length) Slot.unset).toArray = ls at hl ⊢
  have hl : lv_has ls 5 [(0, .ref (α.1 10)), (1, .int p1), (2, .int p2), (3, .int p3), (4, .int p4)] := hl
  have B23 : ∀ (σ : sm_S) (y0 : Int32), mp_X10_stands_23 K σ y0 → sm_J p l e (headSpec wp_X10_stands { frames := 0, cells := 0, slots := 0, locals := 0 }).room s m ([.ref (α.1 10), .int p1, .int p2, .int p3, .int p4] : List Value).toArray below meth c (MQ below (va_Qi K (sm_B sm_wX D α) A) ([.ref (α.1 10), .int p1, .int p2, .int p3, .int p4] : List Value).toArray s 0 0 A) D A 5 (sm_wX σ α) 23 [] [.int y0] := by
    intro σ y0 hF H locs ls hP hS hl
    unfold mp_X10_stands_23 at hF
    exact W.iret (v := y0) hx hb hr (fun t ht hW => ⟨⟨y0, σ, rfl, hF, (by unfold sm_B; rw [ht]; exact hP)⟩, hS.F ht⟩) hS.2.2 dX10_stands_23
  unfold mp_X10_stands at hF
  revert hP hS
  generalize hLo : ([] : List Loc) = locs
  suffices h9 : ∀ (H : Heap) (locs : List Loc), va_P D vwCl (sm_wX σ α) H → va_S A s.heap H locs → W p l e (headSpec wp_X10_stands { frames := 0, cells := 0, slots := 0, locals := 0 }).room s m ([.ref (α.1 10), .int p1, .int p2, .int p3, .int p4] : List Value).toArray below meth c H locs 0 0 (MQ below (va_Qi K (sm_B sm_wX D α) A) ([.ref (α.1 10), .int p1, .int p2, .int p3, .int p4] : List Value).toArray s 0 0 A) (F0 m 0 ls []) from fun hP hS => h9 s.heap locs hP hS
  intro H locs hP hS
  refine lv_aload_n hx hb dX10_stands_0 rfl (lv_at hl 0 rfl) ?_
  refine va_get (D := D) (ci := 10) (v := .int (σ.1 36)) (C := RX10) (T := TX10) (N := 11) hx hb hts in_X10 hown hK hP 10 (sm_gX10 σ α) rfl 2 (by decide) k_0 (fun _ h9 => h9) rfl dX10_stands_1 ?_
  refine lv_if_eq (tgt := 22) hx hb dX10_stands_4 (by decide) (fun h1 => ?_) (fun h1 => ?_)
  · replace hF := hF.1 h1
    refine lv_iconst (v := -1) hx hb dX10_stands_22 (by decide) ?_
    exact B23 σ (-1) hF H locs ls hP hS (lv_sub hl [] rfl)
  · replace hF := hF.2 h1
    refine lv_aload_n hx hb dX10_stands_7 rfl (lv_at hl 0 rfl) ?_
    refine va_get (D := D) (ci := 10) (v := .ref (α.1 8)) (C := RX10) (T := TX10) (N := 11) hx hb hts in_X10 hown hK hP 10 (sm_gX10 σ α) rfl 6 (by decide) k_1 (fun _ h9 => h9) rfl dX10_stands_8 ?_
    refine lv_iload_n hx hb dX10_stands_11 rfl (lv_at hl 1 rfl) ?_
    refine lv_iload_n hx hb dX10_stands_12 rfl (lv_at hl 2 rfl) ?_
    refine lv_iload_n hx hb dX10_stands_13 rfl (lv_at hl 3 rfl) ?_
    refine lv_iload hx hb dX10_stands_14 (lv_at hl 4 rfl) ?_
    exact hF.elim
