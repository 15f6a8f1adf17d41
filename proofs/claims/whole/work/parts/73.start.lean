theorem lx_split {A : Nat → Prop} {ws1 ws2 : va_W} {α β : sm_A} {N1 N2 : Nat} (hm1 : ws1.map Prod.fst = (List.range N1).map α.1) (hm2 : ws2.map Prod.fst = (List.range N2).map β.1) (h : va_D A (ws1 ++ ws2)) : sm_D A α N1 ∧ sm_D A β N2 ∧ ∀ i j : Nat, i < N1 → j < N2 → α.1 i ≠ β.1 j := by
  have l1 : ws1.length = N1 := by
    have := congrArg List.length hm1
    simpa using this
  have key : ∀ {ws : va_W} {γ : sm_A} {N : Nat}, ws.map Prod.fst = (List.range N).map γ.1 → ∀ k : Nat, k < N → ∃ q : Nat × va_E, ws[k]? = some q ∧ q.1 = γ.1 k := by
    intro ws γ N hm k hk
    have h1 : (ws.map Prod.fst)[k]? = some (γ.1 k) := by rw [hm, List.getElem?_map, List.getElem?_range hk]; rfl
    rw [List.getElem?_map] at h1
    cases hq : ws[k]? with
    | none => rw [hq] at h1; simp at h1
    | some q => rw [hq] at h1; exact ⟨q, rfl, Option.some.inj h1⟩
  have e1 : ∀ (k : Nat) (q : Nat × va_E), ws1[k]? = some q → (ws1 ++ ws2)[k]? = some q := fun k q hq => by
    rw [List.getElem?_append_left (List.getElem?_eq_some_iff.mp hq).1]
    exact hq
  have e2 : ∀ (k : Nat) (q : Nat × va_E), ws2[k]? = some q → (ws1 ++ ws2)[N1 + k]? = some q := fun k q hq => by
    rw [List.getElem?_append_right (by omega), show N1 + k - ws1.length = k by omega]
    exact hq
  refine ⟨sm_D.of hm1 ⟨fun i j p q hp hq he => h.1 i j p q (e1 i p hp) (e1 j q hq) he, fun k q hk => h.2 k q (e1 k q hk)⟩, sm_D.of hm2 ⟨fun i j p q hp hq he => ?_, fun k q hk => h.2 _ q (e2 k q hk)⟩, fun i j hi hj he => ?_⟩
  · have := h.1 (N1 + i) (N1 + j) p q (e2 i p hp) (e2 j q hq) he
    omega
  · obtain ⟨p, p1, p2⟩ := key hm1 i hi
    obtain ⟨q, q1, q2⟩ := key hm2 j hj
    have := h.1 i (N1 + j) p q (e1 i p p1) (e2 j q q1) (by rw [p2, q2]; exact he)
    omega
theorem sm_nest_in : ∀ w ∈ sm_nest, w ∈ lw_tbl := by decide +kernel
theorem sm_size_in : ∀ j : Fin 42, Cond.eq (.elem (.static "SteadyMachine" "SIZE" "[I") (.int (Int32.ofNat j.val))) (.int (sm_sz j.val)) ∈ flatC (Jvm.Cond.and given_1 narrow_1) := by decide +kernel
theorem sm_E0 {p : Program} {s : State} {m : MethodId} {meth : Method} {c : Code} {b L : Nat} {xs : Nat → Int32} (C0 : lw_At p s m meth c b L xs) : ∃ t0 : Nat, sm_E t0 (fun q : Nat => s.heap.size ≤ q) s := by
  obtain ⟨hx, hb, hr, hml, hown, hts, hX, hbl, hlocks, hgv⟩ := C0
  have hs := flat_of_before _ hgv
  have hA : ∀ a : Nat, a < s.heap.size → ¬ (fun q : Nat => s.heap.size ≤ q) a := fun a h q => absurd q (Nat.not_le.mpr h)
  obtain ⟨t, h1, h2⟩ := va_Tof (tm := .static "SteadyMachine" "SIZE" "[I") (ty := .int) (N := 42) (f := sm_size) (A := fun q : Nat => s.heap.size ≤ q) (by decide) (hs (Cond.arrayOf (.static "SteadyMachine" "SIZE" "[I") .int) (by decide +kernel)) (va_eqt (hs (Cond.eq (.length (.static "SteadyMachine" "SIZE" "[I")) (.int 42)) (by decide +kernel))) (fun j hj => va_eqt (hs _ (sm_size_in ⟨j, hj⟩))) hA
  exact ⟨t, fun w hw => va_Nw.of (sm_nest_ok w hw) (hts w (sm_nest_in w hw)), va_Zref (hts (.laysStatic "SteadyMachine" "SIZE" "[I") (by decide +kernel)) (hts (.initialized "SteadyMachine") (by decide +kernel)) h1 hA, h2⟩
theorem lk_0 : ∀ w ∈ wsX00, w ∈ lw_tbl := by decide +kernel
theorem lk_1 : ∀ w ∈ wsX10, w ∈ lw_tbl := by decide +kernel
theorem lk_2 : ∀ w ∈ wsX20, w ∈ lw_tbl := by decide +kernel
theorem lk_3 : ∀ w ∈ wsX30, w ∈ lw_tbl := by decide +kernel
theorem lk_4 : ∀ w ∈ wsX40, w ∈ lw_tbl := by decide +kernel
theorem lk_5 : ∀ w ∈ wsX50, w ∈ lw_tbl := by decide +kernel
theorem lk_6 : ∀ w ∈ wsX60, w ∈ lw_tbl := by decide +kernel
theorem lk_7 : ∀ w ∈ wsX70, w ∈ lw_tbl := by decide +kernel
theorem lk_8 : ∀ w ∈ wsX80, w ∈ lw_tbl := by decide +kernel
theorem lk_9 : ∀ w ∈ wsX90, w ∈ lw_tbl := by decide +kernel
theorem lk_10 : ∀ w ∈ wsX100, w ∈ lw_tbl := by decide +kernel
theorem lk_11 : ∀ w ∈ wsX110, w ∈ lw_tbl := by decide +kernel
theorem lk_12 : ∀ w ∈ wsX120, w ∈ lw_tbl := by decide +kernel
set_option maxHeartbeats 8000000 in
set_option maxRecDepth 100000 in
theorem lw_start {p : Program} {e : Env} {s : State} {m : MethodId} {below : List Frame} {meth : Method} {c : Code} (l : Launch) {b L : Nat} {xs : Nat → Int32} (hL : L ≤ 3072) (C0 : lw_At p s m meth c b L xs) {Inv : Nat → sm_S → sm_S → Nat → Nat → Prop} (hSim : lw_Sim L Inv) (hI : Inv 0 sm_0X sm_0M 59923 7291540) : W p l e room_1 s m #[Value.ref b] below meth c s.heap [] 0 0 (lw_Z below #[Value.ref b] s) (entryFrame m ([Value.ref b] : List Value).toArray 4) := by
  obtain ⟨t0, hE⟩ := sm_E0 C0
  obtain ⟨hx, hb, hr, hml, hown, hts, hX, hbl, hlocks, hgv⟩ := id C0
  have hN := hE.1
  have hA : ∀ q : Nat, s.heap.size ≤ q → (fun q : Nat => s.heap.size ≤ q) q := fun _ h => h
  obtain ⟨c0, i0, hk0⟩ := u_known (C := RX0) (T := TX0) (N := 7) (n := 7) hts lk_0 (hts (.instantiable RX0 7) (by decide +kernel))
  obtain ⟨c1, i1, hk1⟩ := u_known (C := RX1) (T := TX1) (N := 16) (n := 16) hts lk_1 (hts (.instantiable RX1 16) (by decide +kernel))
  obtain ⟨c2, i2, hk2⟩ := u_known (C := RX2) (T := TX2) (N := 6) (n := 6) hts lk_2 (hts (.instantiable RX2 6) (by decide +kernel))
  obtain ⟨c3, i3, hk3⟩ := u_known (C := RX3) (T := TX3) (N := 3) (n := 3) hts lk_3 (hts (.instantiable RX3 3) (by decide +kernel))
  obtain ⟨c4, i4, hk4⟩ := u_known (C := RX4) (T := TX4) (N := 12) (n := 12) hts lk_4 (hts (.instantiable RX4 12) (by decide +kernel))
  obtain ⟨c5, i5, hk5⟩ := u_known (C := RX5) (T := TX5) (N := 5) (n := 5) hts lk_5 (hts (.instantiable RX5 5) (by decide +kernel))
  obtain ⟨c6, i6, hk6⟩ := u_known (C := RX6) (T := TX6) (N := 5) (n := 5) hts lk_6 (hts (.instantiable RX6 5) (by decide +kernel))
  obtain ⟨c7, i7, hk7⟩ := u_known (C := RX7) (T := TX7) (N := 13) (n := 13) hts lk_7 (hts (.instantiable RX7 13) (by decide +kernel))
  obtain ⟨c8, i8, hk8⟩ := u_known (C := RX8) (T := TX8) (N := 13) (n := 13) hts lk_8 (hts (.instantiable RX8 13) (by decide +kernel))
  obtain ⟨c9, i9, hk9⟩ := u_known (C := RX9) (T := TX9) (N := 3) (n := 3) hts lk_9 (hts (.instantiable RX9 3) (by decide +kernel))
  obtain ⟨c10, i10, hk10⟩ := u_known (C := RX10) (T := TX10) (N := 11) (n := 11) hts lk_10 (hts (.instantiable RX10 11) (by decide +kernel))
  obtain ⟨c11, i11, hk11⟩ := u_known (C := RX11) (T := TX11) (N := 28) (n := 28) hts lk_11 (hts (.instantiable RX11 28) (by decide +kernel))
  obtain ⟨c12, i12, hk12⟩ := u_known (C := RX12) (T := TX12) (N := 42) (n := 42) hts lk_12 (hts (.instantiable RX12 42) (by decide +kernel))
  obtain ⟨D, hKc⟩ : ∃ D : va_G, ∀ (k : Nat) (q : vw_C), vwCl[k]? = some q → u_Kn s q.1 q.2.1 q.2.2 (D.1 k) (D.2 k) := by
    refine ⟨(fun k => if k = 0 then c0 else if k = 1 then c1 else if k = 2 then c2 else if k = 3 then c3 else if k = 4 then c4 else if k = 5 then c5 else if k = 6 then c6 else if k = 7 then c7 else if k = 8 then c8 else if k = 9 then c9 else if k = 10 then c10 else if k = 11 then c11 else c12, fun k => if k = 0 then i0 else if k = 1 then i1 else if k = 2 then i2 else if k = 3 then i3 else if k = 4 then i4 else if k = 5 then i5 else if k = 6 then i6 else if k = 7 then i7 else if k = 8 then i8 else if k = 9 then i9 else if k = 10 then i10 else if k = 11 then i11 else i12), ?_⟩
    intro k q hq
    match k, hq with
    | 0, hq => cases hq; exact hk0
    | 1, hq => cases hq; exact hk1
    | 2, hq => cases hq; exact hk2
    | 3, hq => cases hq; exact hk3
    | 4, hq => cases hq; exact hk4
    | 5, hq => cases hq; exact hk5
    | 6, hq => cases hq; exact hk6
    | 7, hq => cases hq; exact hk7
    | 8, hq => cases hq; exact hk8
    | 9, hq => cases hq; exact hk9
    | 10, hq => cases hq; exact hk10
    | 11, hq => cases hq; exact hk11
    | 12, hq => cases hq; exact hk12
    | k + 13, hq => simp [vwCl] at hq
  have hS : va_S (fun q : Nat => s.heap.size ≤ q) s.heap s.heap [] := va_S.rf
  have hK : va_K D vwCl [] s := ⟨hKc, fun k q h => by simp at h⟩
  have hP : va_P D vwCl [] s.heap := fun k q h => by simp at h
  have hD : va_D (fun q : Nat => s.heap.size ≤ q) [] := ⟨fun i j p q h => by simp at h, fun k q h => by simp at h⟩
  have hl := lv_entry ([.ref b]) (n := 4) (Nat.le_of_ble_eq_true rfl)
  rw [lg_entry_eq]
  generalize (lg_sl ([.ref b]) ++ List.replicate (4 - (lg_sl ([.ref b])).length) Slot.unset).toArray = ls at hl ⊢
  have hl : lv_has ls 4 [(0, .ref b)] := hl
  refine va_new (ci := 10) (fs := [.null, .int 0, .int 0, .null, .null, .null, .null, .null, .null, .null, .null]) (C := RX10) (T := TX10) (N := 11) hx hb hts lk_10 tyX10 tyX10_ok hown (hts (.classLink RL 7 RX10) (by decide +kernel)) (hts (.instantiable RX10 11) (by decide +kernel)) (hts (.initialized RX10) (by decide +kernel)) hK hP hD hS hA rfl (fun j hj => by rcases (show j = 0 ∨ j = 1 ∨ j = 2 ∨ j = 3 ∨ j = 4 ∨ j = 5 ∨ j = 6 ∨ j = 7 ∨ j = 8 ∨ j = 9 ∨ j = 10 by omega) with rfl | rfl | rfl | rfl | rfl | rfl | rfl | rfl | rfl | rfl | rfl <;> rfl) (Nat.le_of_ble_eq_true rfl) (Nat.le_of_ble_eq_true rfl) dL_law_0 (fun q1 H hP hD hS => ?_)
  have hP : va_P D vwCl [(q1, .inr (10, [.null, .int 0, .int 0, .null, .null, .null, .null, .null, .null, .null, .null]))] H := hP
  have hD : va_D (fun q : Nat => s.heap.size ≤ q) [(q1, .inr (10, [.null, .int 0, .int 0, .null, .null, .null, .null, .null, .null, .null, .null]))] := hD
  refine W.widen (k := 1) (n := 11) (by omega) (by omega) ?_
  refine lv_dup hx hb dL_law_3 rfl ?_
  have hPc := hP
  have hDc := hD
  have hKc := hK
  have hFc := va_free (wc := [(q1, .inr (10, [.null, .int 0, .int 0, .null, .null, .null, .null, .null, .null, .null, .null]))]) hD hS hA [0] rfl
  refine va_callv (va_runI (As := []) (rest := [.ref q1]) ⟨hx, hb, hml, hown, hts⟩ (c_X10_init l D q1 H.size) (cwI 0 hts gw_X10_init rfl rfl rfl (hts (.initialized RX10) (by decide +kernel)) (hts (.methodLink RL 9 yX10_init) (by decide +kernel)) (hts (.instanceMethod yX10_init) (by decide +kernel)) rfl (by decide +kernel) ⟨Nat.le_of_ble_eq_true rfl, Nat.le_of_ble_eq_true rfl⟩) ⟨fun a U g mk q => by obtain ⟨q0, q1, qP, qK, qD, qN⟩ := q; exact ⟨q0, q1, qP, va_K.moved (u := U) (U := U.calling g mk a) (Vm.Alike.refl U.vm) qK, qD, fun w hw => va_Nw.same (u := U) (U := U.calling g mk a) (sm_nest_ok w hw) rfl (qN w hw)⟩, fun U hU hW => ⟨rfl, by rw [hU], by rw [hU]; exact hPc, va_K.moved hW.alike hKc, hDc.weaken (fun _ _ _ _ => trivial), sm_warm hW hN⟩⟩ rfl rfl hl.1 rfl (lv_room (Nat.le_of_ble_eq_true rfl)) dL_law_4 ⟨Nat.le_of_ble_eq_true rfl, Nat.le_of_ble_eq_true rfl⟩) hS (fun q _ h => hFc q h) hFc (fun u1 t H1 locs ht hvm hw hB hz1 hk1 hS => ?_)
  obtain ⟨hP1, hK1, hD1⟩ := hB
  rw [ht] at hP1
  have hK1 := va_K.moved hvm.symm hK1
  have hD1 := hD1.weaken (fun _ q _ h => hFc q.1 h)
  generalize H1 = H at hP1 hS ⊢
  obtain ⟨α, eα⟩ : ∃ x : sm_A, x = (fun k => if k = 0 then u1.1 1 else if k = 1 then u1.1 31 else if k = 2 then u1.1 35 else if k = 3 then u1.1 22 else if k = 4 then u1.1 8 else if k = 5 then u1.1 28 else if k = 6 then u1.1 21 else if k = 7 then u1.1 33 else if k = 8 then u1.1 23 else if k = 9 then u1.1 34 else if k = 10 then q1 else if k = 11 then u1.1 2 else if k = 12 then u1.1 3 else if k = 13 then u1.1 4 else if k = 14 then u1.1 5 else if k = 15 then u1.1 6 else if k = 16 then u1.1 7 else if k = 17 then u1.1 32 else if k = 18 then u1.1 19 else if k = 19 then u1.1 20 else if k = 20 then u1.1 9 else if k = 21 then u1.1 10 else if k = 22 then u1.1 11 else if k = 23 then u1.1 12 else if k = 24 then u1.1 13 else if k = 25 then u1.1 14 else if k = 26 then u1.1 15 else if k = 27 then u1.1 16 else if k = 28 then u1.1 17 else if k = 29 then u1.1 18 else if k = 30 then u1.1 29 else if k = 31 then u1.1 30 else if k = 32 then u1.1 24 else if k = 33 then u1.1 25 else if k = 34 then u1.1 26 else if k = 35 then u1.1 27 else if k = 36 then u1.1 0 else 0, fun k => if k = 11 then u1.2 2 else if k = 12 then u1.2 3 else if k = 13 then u1.2 4 else if k = 14 then u1.2 5 else if k = 15 then u1.2 6 else if k = 16 then u1.2 7 else if k = 17 then u1.2 32 else if k = 18 then u1.2 19 else if k = 19 then u1.2 20 else if k = 20 then u1.2 9 else if k = 21 then u1.2 10 else if k = 22 then u1.2 11 else if k = 23 then u1.2 12 else if k = 24 then u1.2 13 else if k = 25 then u1.2 14 else if k = 26 then u1.2 15 else if k = 27 then u1.2 16 else if k = 28 then u1.2 17 else if k = 29 then u1.2 18 else if k = 30 then u1.2 29 else if k = 31 then u1.2 30 else if k = 32 then u1.2 24 else if k = 33 then u1.2 25 else if k = 34 then u1.2 26 else if k = 35 then u1.2 27 else if k = 36 then u1.2 0 else u1.2 2) := ⟨_, rfl⟩
  have hP : va_P D vwCl (sm_wX sm_0X α) H := by rw [eα]; exact hP1.sub [2, 32, 36, 23, 9, 29, 22, 34, 24, 35, 0, 3, 4, 5, 6, 7, 8, 33, 20, 21, 10, 11, 12, 13, 14, 15, 16, 17, 18, 19, 30, 31, 25, 26, 27, 28, 1] rfl
  have hD : va_D (fun q : Nat => s.heap.size ≤ q) (sm_wX sm_0X α) := by rw [eα]; exact hD1.sub [2, 32, 36, 23, 9, 29, 22, 34, 24, 35, 0, 3, 4, 5, 6, 7, 8, 33, 20, 21, 10, 11, 12, 13, 14, 15, 16, 17, 18, 19, 30, 31, 25, 26, 27, 28, 1] (by decide) rfl
  have hK : va_K D vwCl (sm_tX α) s := by rw [eα]; exact hK1.sub [1, 2, 3, 4, 5, 6, 25, 17, 18, 7, 8, 9, 10, 11, 12, 13, 14, 15, 16, 23, 24, 19, 20, 21, 22, 0] rfl
  have hq1 : q1 = α.1 10 := by rw [eα]; rfl
  clear hP1 hD1 hK1 hPc hDc hKc hFc
  refine W.widen (k := 37) (n := 4767) (by omega) (by omega) ?_
  refine lv_astore_n (lv' := [(1, .ref q1), (0, .ref b)]) hx hb dL_law_7 rfl hl (by decide) rfl (fun ls hl => ?_)
  rw [hq1] at hl
  refine va_new (ci := 12) (fs := [.null, .null, .null, .null, .null, .int 0, .int 0, .int 0, .null, .null, .null, .null, .null, .null, .int 0, .int 0, .null, .null, .int 0, .null, .null, .null, .null, .null, .int 0, .int 0, .int 0, .long 0, .int 0, .int 0, .null, .int 0, .long 0, .null, .int 0, .int 0, .int 0, .long 0, .int 0, .int 0, .int 0, .int 0]) (C := RX12) (T := TX12) (N := 42) hx hb hts lk_12 tyX12 tyX12_ok hown (hts (.classLink RL 10 RX12) (by decide +kernel)) (hts (.instantiable RX12 42) (by decide +kernel)) (hts (.initialized RX12) (by decide +kernel)) hK hP hD hS hA rfl (fun j hj => by rcases (show j = 0 ∨ j = 1 ∨ j = 2 ∨ j = 3 ∨ j = 4 ∨ j = 5 ∨ j = 6 ∨ j = 7 ∨ j = 8 ∨ j = 9 ∨ j = 10 ∨ j = 11 ∨ j = 12 ∨ j = 13 ∨ j = 14 ∨ j = 15 ∨ j = 16 ∨ j = 17 ∨ j = 18 ∨ j = 19 ∨ j = 20 ∨ j = 21 ∨ j = 22 ∨ j = 23 ∨ j = 24 ∨ j = 25 ∨ j = 26 ∨ j = 27 ∨ j = 28 ∨ j = 29 ∨ j = 30 ∨ j = 31 ∨ j = 32 ∨ j = 33 ∨ j = 34 ∨ j = 35 ∨ j = 36 ∨ j = 37 ∨ j = 38 ∨ j = 39 ∨ j = 40 ∨ j = 41 by omega) with rfl | rfl | rfl | rfl | rfl | rfl | rfl | rfl | rfl | rfl | rfl | rfl | rfl | rfl | rfl | rfl | rfl | rfl | rfl | rfl | rfl | rfl | rfl | rfl | rfl | rfl | rfl | rfl | rfl | rfl | rfl | rfl | rfl | rfl | rfl | rfl | rfl | rfl | rfl | rfl | rfl | rfl <;> rfl) (Nat.le_of_ble_eq_true rfl) (Nat.le_of_ble_eq_true rfl) dL_law_8 (fun q2 H hP hD hS => ?_)
  refine W.widen (k := 38) (n := 4809) (by omega) (by omega) ?_
  refine lv_dup hx hb dL_law_11 rfl ?_
  have hPc := hP.sub (ws' := [(q2, .inr (12, [.null, .null, .null, .null, .null, .int 0, .int 0, .int 0, .null, .null, .null, .null, .null, .null, .int 0, .int 0, .null, .null, .int 0, .null, .null, .null, .null, .null, .int 0, .int 0, .int 0, .long 0, .int 0, .int 0, .null, .int 0, .long 0, .null, .int 0, .int 0, .int 0, .long 0, .int 0, .int 0, .int 0, .int 0]))]) [37] rfl
  have hDc := hD.sub (ws' := [(q2, .inr (12, [.null, .null, .null, .null, .null, .int 0, .int 0, .int 0, .null, .null, .null, .null, .null, .null, .int 0, .int 0, .null, .null, .int 0, .null, .null, .null, .null, .null, .int 0, .int 0, .int 0, .long 0, .int 0, .int 0, .null, .int 0, .long 0, .null, .int 0, .int 0, .int 0, .long 0, .int 0, .int 0, .int 0, .int 0]))]) [37] (by decide) rfl
  have hKc := hK.sub (tys' := []) [] rfl
  have hFc := va_free (wc := [(q2, .inr (12, [.null, .null, .null, .null, .null, .int 0, .int 0, .int 0, .null, .null, .null, .null, .null, .null, .int 0, .int 0, .null, .null, .int 0, .null, .null, .null, .null, .null, .int 0, .int 0, .int 0, .long 0, .int 0, .int 0, .null, .int 0, .long 0, .null, .int 0, .int 0, .int 0, .long 0, .int 0, .int 0, .int 0, .int 0]))]) hD hS hA [37] rfl
  refine va_callv (va_runI (As := []) (rest := [.ref q2]) ⟨hx, hb, hml, hown, hts⟩ (c_X12_init l D q2 H.size) (cwI 0 hts gw_X12_init rfl rfl rfl (hts (.initialized RX12) (by decide +kernel)) (hts (.methodLink RL 12 yX12_init) (by decide +kernel)) (hts (.instanceMethod yX12_init) (by decide +kernel)) rfl (by decide +kernel) ⟨Nat.le_of_ble_eq_true rfl, Nat.le_of_ble_eq_true rfl⟩) ⟨fun a U g mk q => by obtain ⟨q0, q1, qP, qK, qD, qN⟩ := q; exact ⟨q0, q1, qP, va_K.moved (u := U) (U := U.calling g mk a) (Vm.Alike.refl U.vm) qK, qD, fun w hw => va_Nw.same (u := U) (U := U.calling g mk a) (sm_nest_ok w hw) rfl (qN w hw)⟩, fun U hU hW => ⟨rfl, by rw [hU], by rw [hU]; exact hPc, va_K.moved hW.alike hKc, hDc.weaken (fun _ _ _ _ => trivial), sm_warm hW hN⟩⟩ rfl rfl hl.1 rfl (lv_room (Nat.le_of_ble_eq_true rfl)) dL_law_12 ⟨Nat.le_of_ble_eq_true rfl, Nat.le_of_ble_eq_true rfl⟩) hS (fun q _ h => hFc q h) hFc (fun u2 t H1 locs ht hvm hw hB hz1 hk1 hS => ?_)
  obtain ⟨hP1, hK1, hD1⟩ := hB
  rw [ht] at hP1
  have hK1 := va_K.moved hvm.symm hK1
  obtain ⟨hP, hD⟩ := va_join (wr := sm_wX sm_0X α) (w1 := [(q2, .inr (12, [.ref (u2.1 0), .ref (u2.1 20), .ref (u2.1 21), .ref (u2.1 22), .ref (u2.1 23), .int 0, .int 0, .int 0, .ref (u2.1 24), .ref (u2.1 25), .ref (u2.1 26), .ref (u2.1 27), .ref (u2.1 28), .ref (u2.1 29), .int 0, .int 0, .ref (u2.1 30), .ref (u2.1 31), .int 0, .ref (u2.1 32), .ref (u2.1 33), .ref (u2.1 34), .ref (u2.1 35), .ref (u2.1 36), .int 0, .int 0, .int 0, .long 0, .int 0, .int 0, .ref (u2.1 37), .int 0, .long 0, .ref (u2.1 38), .int 0, .int 0, .int 0, .long 0, .int 0, .int 0, .int 0, .int 0])), (u2.1 0, .inr (11, [.ref (u2.1 1), .int 0, .ref (u2.1 2), .ref (u2.1 3), .int 0, .int 0, .int 0, .int 0, .int 0, .ref (u2.1 4), .ref (u2.1 5), .ref (u2.1 6), .ref (u2.1 7), .ref (u2.1 8), .ref (u2.1 9), .int 0, .ref (u2.1 10), .ref (u2.1 11), .ref (u2.1 12), .ref (u2.1 13), .ref (u2.1 14), .ref (u2.1 15), .ref (u2.1 16), .ref (u2.1 17), .ref (u2.1 18), .ref (u2.1 19), .int 0, .int 0])), (u2.1 1, .inl (u2.2 1, 8000, .inl (fun _ => 0))), (u2.1 2, .inl (u2.2 2, 8000, .inl (fun _ => 0))), (u2.1 3, .inl (u2.2 3, 8000, .inl (fun _ => 0))), (u2.1 4, .inl (u2.2 4, 32, .inl (fun _ => 0))), (u2.1 5, .inl (u2.2 5, 32, .inl (fun _ => 0))), (u2.1 6, .inl (u2.2 6, 480, .inl (fun _ => 0))), (u2.1 7, .inl (u2.2 7, 512, .inl (fun _ => 0))), (u2.1 8, .inl (u2.2 8, 512, .inl (fun _ => 0))), (u2.1 9, .inl (u2.2 9, 5, .inl (fun _ => 0))), (u2.1 10, .inl (u2.2 10, 64, .inl (fun _ => 0))), (u2.1 11, .inl (u2.2 11, 64, .inl (fun _ => 0))), (u2.1 12, .inl (u2.2 12, 512, .inl (fun _ => 0))), (u2.1 13, .inl (u2.2 13, 64, .inl (fun _ => 0))), (u2.1 14, .inl (u2.2 14, 64, .inl (fun _ => 0))), (u2.1 15, .inl (u2.2 15, 64, .inl (fun _ => 0))), (u2.1 16, .inl (u2.2 16, 64, .inl (fun _ => 0))), (u2.1 17, .inl (u2.2 17, 64, .inl (fun _ => 0))), (u2.1 18, .inl (u2.2 18, 64, .inl (fun _ => 0))), (u2.1 19, .inl (u2.2 19, 64, .inl (fun _ => 0))), (u2.1 20, .inl (u2.2 20, 8000, .inl (fun _ => 0))), (u2.1 21, .inl (u2.2 21, 96000, .inl (fun _ => 0))), (u2.1 22, .inl (u2.2 22, 8000, .inl (fun _ => 0))), (u2.1 23, .inl (u2.2 23, 12, .inl (fun _ => 0))), (u2.1 24, .inl (u2.2 24, 140000, .inl (fun _ => 0))), (u2.1 25, .inl (u2.2 25, 140000, .inl (fun _ => 0))), (u2.1 26, .inl (u2.2 26, 140000, .inl (fun _ => 0))), (u2.1 27, .inl (u2.2 27, 140000, .inl (fun _ => 0))), (u2.1 28, .inl (u2.2 28, 140000, .inl (fun _ => 0))), (u2.1 29, .inl (u2.2 29, 140000, .inl (fun _ => 0))), (u2.1 30, .inl (u2.2 30, 300000, .inl (fun _ => 0))), (u2.1 31, .inl (u2.2 31, 140000, .inl (fun _ => 0))), (u2.1 32, .inl (u2.2 32, 7600, .inl (fun _ => 0))), (u2.1 33, .inl (u2.2 33, 7600, .inl (fun _ => 0))), (u2.1 34, .inl (u2.2 34, 7600, .inl (fun _ => 0))), (u2.1 35, .inl (u2.2 35, 91200, .inl (fun _ => 0))), (u2.1 36, .inl (u2.2 36, 91200, .inl (fun _ => 0))), (u2.1 37, .inl (u2.2 37, 1000, .inl (fun _ => 0))), (u2.1 38, .inl (u2.2 38, 1000, .inl (fun _ => 0)))]) hP hD [37] [0, 1, 2, 3, 4, 5, 6, 7, 8, 9, 10, 11, 12, 13, 14, 15, 16, 17, 18, 19, 20, 21, 22, 23, 24, 25, 26, 27, 28, 29, 30, 31, 32, 33, 34, 35, 36] rfl rfl (by decide) (by decide) hk1 hFc hP1 hD1
  generalize H1 = H at hP hP1 hS ⊢
  obtain ⟨β, eβ⟩ : ∃ x : sm_A, x = (fun k => if k = 0 then u2.1 0 else if k = 1 then q2 else if k = 2 then u2.1 1 else if k = 3 then u2.1 2 else if k = 4 then u2.1 3 else if k = 5 then u2.1 4 else if k = 6 then u2.1 5 else if k = 7 then u2.1 6 else if k = 8 then u2.1 7 else if k = 9 then u2.1 8 else if k = 10 then u2.1 9 else if k = 11 then u2.1 10 else if k = 12 then u2.1 11 else if k = 13 then u2.1 12 else if k = 14 then u2.1 13 else if k = 15 then u2.1 14 else if k = 16 then u2.1 15 else if k = 17 then u2.1 16 else if k = 18 then u2.1 17 else if k = 19 then u2.1 18 else if k = 20 then u2.1 19 else if k = 21 then u2.1 20 else if k = 22 then u2.1 21 else if k = 23 then u2.1 22 else if k = 24 then u2.1 23 else if k = 25 then u2.1 24 else if k = 26 then u2.1 25 else if k = 27 then u2.1 26 else if k = 28 then u2.1 27 else if k = 29 then u2.1 28 else if k = 30 then u2.1 29 else if k = 31 then u2.1 30 else if k = 32 then u2.1 31 else if k = 33 then u2.1 32 else if k = 34 then u2.1 33 else if k = 35 then u2.1 34 else if k = 36 then u2.1 35 else if k = 37 then u2.1 36 else if k = 38 then u2.1 37 else if k = 39 then u2.1 38 else 0, fun k => if k = 2 then u2.2 1 else if k = 3 then u2.2 2 else if k = 4 then u2.2 3 else if k = 5 then u2.2 4 else if k = 6 then u2.2 5 else if k = 7 then u2.2 6 else if k = 8 then u2.2 7 else if k = 9 then u2.2 8 else if k = 10 then u2.2 9 else if k = 11 then u2.2 10 else if k = 12 then u2.2 11 else if k = 13 then u2.2 12 else if k = 14 then u2.2 13 else if k = 15 then u2.2 14 else if k = 16 then u2.2 15 else if k = 17 then u2.2 16 else if k = 18 then u2.2 17 else if k = 19 then u2.2 18 else if k = 20 then u2.2 19 else if k = 21 then u2.2 20 else if k = 22 then u2.2 21 else if k = 23 then u2.2 22 else if k = 24 then u2.2 23 else if k = 25 then u2.2 24 else if k = 26 then u2.2 25 else if k = 27 then u2.2 26 else if k = 28 then u2.2 27 else if k = 29 then u2.2 28 else if k = 30 then u2.2 29 else if k = 31 then u2.2 30 else if k = 32 then u2.2 31 else if k = 33 then u2.2 32 else if k = 34 then u2.2 33 else if k = 35 then u2.2 34 else if k = 36 then u2.2 35 else if k = 37 then u2.2 36 else if k = 38 then u2.2 37 else if k = 39 then u2.2 38 else u2.2 1) := ⟨_, rfl⟩
  have hPX : va_P D vwCl (sm_wX sm_0X α) H := hP.sub [0, 1, 2, 3, 4, 5, 6, 7, 8, 9, 10, 11, 12, 13, 14, 15, 16, 17, 18, 19, 20, 21, 22, 23, 24, 25, 26, 27, 28, 29, 30, 31, 32, 33, 34, 35, 36] rfl
  have hPM : va_P D vwCl (sm_wM sm_0M β) H := by rw [eβ]; exact hP1.sub [1, 0, 2, 3, 4, 5, 6, 7, 8, 9, 10, 11, 12, 13, 14, 15, 16, 17, 18, 19, 20, 21, 22, 23, 24, 25, 26, 27, 28, 29, 30, 31, 32, 33, 34, 35, 36, 37, 38, 39] rfl
  have hDA : va_D (fun q : Nat => s.heap.size ≤ q) (sm_wX sm_0X α ++ sm_wM sm_0M β) := by rw [eβ]; exact hD.sub [0, 1, 2, 3, 4, 5, 6, 7, 8, 9, 10, 11, 12, 13, 14, 15, 16, 17, 18, 19, 20, 21, 22, 23, 24, 25, 26, 27, 28, 29, 30, 31, 32, 33, 34, 35, 36, 38, 37, 39, 40, 41, 42, 43, 44, 45, 46, 47, 48, 49, 50, 51, 52, 53, 54, 55, 56, 57, 58, 59, 60, 61, 62, 63, 64, 65, 66, 67, 68, 69, 70, 71, 72, 73, 74, 75, 76] (by decide) rfl
  have hKM : va_K D vwCl (sm_tM β) s := by rw [eβ]; exact hK1.sub [0, 1, 2, 3, 4, 5, 6, 7, 8, 9, 10, 11, 12, 13, 14, 15, 16, 17, 18, 19, 20, 21, 22, 23, 24, 25, 26, 27, 28, 29, 30, 31, 32, 33, 34, 35, 36, 37] rfl
  have hq2 : q2 = β.1 1 := by rw [eβ]; rfl
  obtain ⟨hDX, hDM, hdis⟩ := lx_split (sm_wX_m sm_0X α) (sm_wM_m sm_0M β) hDA
  clear hP hD hP1 hD1 hK1 hPc hDc hKc hFc hDA
  refine W.widen (k := 77) (n := 1630710) (by omega) (by omega) ?_
  refine lv_astore_n (lv' := [(2, .ref q2), (1, .ref (α.1 10)), (0, .ref b)]) hx hb dL_law_15 rfl hl (by decide) rfl (fun ls hl => ?_)
  rw [hq2] at hl
  refine lv_iconst (v := 0) hx hb dL_law_16 (by decide) ?_
  refine lv_istore_n (lv' := [(3, .int 0), (2, .ref (β.1 1)), (1, .ref (α.1 10)), (0, .ref b)]) hx hb dL_law_17 rfl hl (by decide) rfl (fun ls hl => ?_)
  exact lw_loop hL C0 hE hSim (L + 2) 0 0 (by omega) (by omega) rfl sm_0X sm_0M α β 59923 7291540 hI H locs 77 1630710 (by omega) (by omega) hK hKM hDX hDM hdis hPX hPM hS ls (lv_sub hl [3, 2, 1, 0] rfl)
