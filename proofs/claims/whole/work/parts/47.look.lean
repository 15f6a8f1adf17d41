/-! ===== one look, both sides: the state, taking up, coming ===== -/
def IVX (k : Nat) : Prop := 29 ≤ k ∧ k ≤ 34
def AVX (T : Nat → Nat → Nat) (m r j : Nat) : Prop := r = 35 ∨ AmW T m r j
def AVx (r _ : Nat) : Prop := 32 ≤ r ∧ r ≤ 35
def IVM (k : Nat) : Prop := k = 9 ∨ k = 10
def AVM (T : Nat → Nat → Nat) (m r j : Nat) : Prop := r = 24 ∨ AmV T m r j
def AVm (r _ : Nat) : Prop := 21 ≤ r ∧ r ≤ 24
theorem frX_v {T : Nat → Nat → Nat} {m : Nat} {σ σ' : sm_S} (h : fr IvX AvX σ σ') : fr IVX (AVX T m) σ σ' := h.m (fun k q => by unfold IvX at q; unfold IVX; omega) (fun r j q => Or.inl q)
theorem frX_w {T : Nat → Nat → Nat} {m : Nat} {σ σ' : sm_S} (h : fr IwX (AmW T m) σ σ') : fr IVX (AVX T m) σ σ' := h.m (fun k q => by unfold IwX at q; unfold IVX; omega) (fun r j q => Or.inr q)
theorem frX_x {T : Nat → Nat → Nat} {m : Nat} {σ σ' : sm_S} (h : fr IVX (AVX T m) σ σ') : fr IVX AVx σ σ' := h.m (fun k q => q) (fun r j q => by unfold AVX AmW at q; unfold AVx; omega)
theorem frX_b {σ σ' : sm_S} (h : fr IwX AwX σ σ') : fr IVX AVx σ σ' := h.m (fun k q => by unfold IwX at q; unfold IVX; omega) (fun r j q => by unfold AwX at q; unfold AVx; omega)
theorem frM_v {T : Nat → Nat → Nat} {m : Nat} {σ σ' : sm_S} (h : fr IvM AvM σ σ') : fr IVM (AVM T m) σ σ' := h.m (fun k q => by unfold IvM at q; unfold IVM; omega) (fun r j q => Or.inl q)
theorem frM_w {T : Nat → Nat → Nat} {m : Nat} {σ σ' : sm_S} (h : fr IwM (AmV T m) σ σ') : fr IVM (AVM T m) σ σ' := h.m (fun k q => by unfold IwM at q; unfold IVM; omega) (fun r j q => Or.inr q)
theorem frM_x {T : Nat → Nat → Nat} {m : Nat} {σ σ' : sm_S} (h : fr IVM (AVM T m) σ σ') : fr IVM AVm σ σ' := h.m (fun k q => q) (fun r j q => by unfold AVM AmV at q; unfold AVm; omega)
theorem frM_b {σ σ' : sm_S} (h : fr IwM AwM σ σ') : fr IVM AVm σ σ' := h.m (fun k q => by unfold IwM at q; unfold IVM; omega) (fun r j q => by unfold AwM at q; unfold AVm; omega)
/-- the state between two steps of the verifiers: tables h ty mk, the lowest mark -/
def vst (σ μ : sm_S) (T : Nat → Nat → Nat) (b : Nat → Nat) (m l0 : Nat) (h ty mk : Nat → Nat) : Prop := bX σ T b m ∧ bM μ T b ∧ lwX σ (T 0 4) ∧ (μ.2.2.1 21 = 8000 ∧ μ.2.2.1 22 = 96000 ∧ μ.2.2.1 23 = 8000) ∧ σ.1 32 = nI l0 ∧ (T 17 m ≤ l0 ∧ l0 ≤ T 17 m + T 18 m) ∧ (∀ q, inC T m q → mk q = 1 → l0 ≤ q) ∧ σ.1 34 = -1 ∧ vtb σ μ T m h ty mk ∧ tbv T m h ty mk
theorem vtb.f {σ μ σ' μ' : sm_S} {T : Nat → Nat → Nat} {m : Nat} {h ty mk : Nat → Nat} (hv : vtb σ μ T m h ty mk) (x32 : σ'.2.2.2.1 32 = σ.2.2.2.1 32) (x33 : σ'.2.2.2.1 33 = σ.2.2.2.1 33) (x34 : σ'.2.2.2.1 34 = σ.2.2.2.1 34) (y21 : μ'.2.2.2.1 21 = μ.2.2.2.1 21) (y22 : μ'.2.2.2.1 22 = μ.2.2.2.1 22) (y23 : μ'.2.2.2.1 23 = μ.2.2.2.1 23) : vtb σ' μ' T m h ty mk := by
  unfold vtb at hv ⊢
  rw [x32, x33, x34, y21, y22, y23]
  exact hv
theorem vst.v {σ μ σ' μ' : sm_S} {T : Nat → Nat → Nat} {b : Nat → Nat} {m l0 : Nat} {h ty mk : Nat → Nat} (hv : vst σ μ T b m l0 h ty mk) (fx : fr IvX AvX σ σ') (fm : fr IvM AvM μ μ') : vst σ' μ' T b m l0 h ty mk := by
  obtain ⟨v1, v2, v3, v4, v5, v6, v7, v8, v9, v10⟩ := hv
  refine ⟨v1.v fx, v2.v fm, by unfold lwX; rw [fx.2.1]; exact v3, by rw [fm.2.1]; exact v4, by rw [fx.2.2.2.1 32 (by unfold IvX; omega)]; exact v5, v6, v7, by rw [fx.2.2.2.1 34 (by unfold IvX; omega)]; exact v8, v9.f ?_ ?_ ?_ ?_ ?_ ?_, v10⟩
  · exact fx.row (fun j => (by unfold AvX; omega))
  · exact fx.row (fun j => (by unfold AvX; omega))
  · exact fx.row (fun j => (by unfold AvX; omega))
  · exact fm.row (fun j => (by unfold AvM; omega))
  · exact fm.row (fun j => (by unfold AvM; omega))
  · exact fm.row (fun j => (by unfold AvM; omega))
theorem e_tws {σ0 : sm_S} {T : Nat → Nat → Nat} {b : Nat → Nat} {m p : Nat} {h ty : Nat → Nat} (hb : bX σ0 T b m) (hw : wf T b) (hm : m < T 0 1) (hp : inC T m p) (hl : lwX σ0 (T 0 4)) (hh : σ0.2.2.2.1 32 p = oN (h p)) (h0 : h p ≠ 0) (hle : h p ≤ T 16 m + 1) (hty : ∀ i, i < T 15 m + (h p - 1) → σ0.2.2.2.1 33 (12 * p + i) = nI (ty (12 * p + i))) :
    et (fun K => mp_X8_takeWhatStands σ0 (nI p) (fun σ => K 0 σ)) (fun _ σ' => fr IvX AvX σ0 σ' ∧ σ'.1 29 = nI (h p - 1) ∧ ∀ i, i < T 15 m + (h p - 1) → σ'.2.2.2.1 35 i = nI (ty (12 * p + i))) := by
  have w5 := hw.2.2.2.2.1
  obtain ⟨-, -, -, -, -, -, h12, y8, y9, y10, y11, y12, -⟩ := hw.2.2.2.2.2.2.2.2.1 m hm
  obtain ⟨b1, b2, b3, b4⟩ := hb
  obtain ⟨l1, l2, l3, l4, l5, l6⟩ := hl
  obtain ⟨p1, p2⟩ := hp
  have loop : ∀ (d i : Nat) (σ : sm_S), i + d = T 15 m + (h p - 1) → fr IvX AvX σ0 σ → σ.1 29 = nI (h p - 1) → (∀ k, k < i → σ.2.2.2.1 35 k = nI (ty (12 * p + k))) → et (fun K => mp_X8_takeWhatStands_12 (fun σ => K 0 σ) (d + 1) σ (nI p) (nI i)) (fun _ σ' => fr IvX AvX σ0 σ' ∧ σ'.1 29 = nI (h p - 1) ∧ ∀ i, i < T 15 m + (h p - 1) → σ'.2.2.2.1 35 i = nI (ty (12 * p + i))) := by
    intro d
    induction d with
    | zero =>
      intro i σ hid f s29 hk
      have e : i = T 15 m + (h p - 1) := by omega
      subst e
      have s31 : σ.1 31 = nI (T 15 m) := by rw [f.2.2.2.1 31 (by unfold IvX; omega)]; exact b3
      unfold mp_X8_takeWhatStands_12
      simp (disch := (first | ((try simp (disch := omega) only [va_up_self, va_up_ne, ne_eq, reduceCtorEq, Nat.reduceEqDiff, not_false_eq_true, l_0, l_2, l_3, l_4, l_5, l_6, l_7, l_8, l_9, l_10, l_11, l_12, l_13, l_14, l_15, l_16, l_17, l_18, l_19, l_20, l_21, l_22, l_23, l_24, l_25, l_26, l_27, l_28, l_29, l_30, l_31, l_32, l_33, l_34, l_35, l_36, l_37, l_38, l_39, l_40, l_41, l_42, l_43, l_44, l_45, l_46, l_47, l_48, l_49, l_50, l_51, l_52, l_53, l_54, l_55, l_56, l_57, l_58, l_59, l_60, l_61, l_62, l_63, l_64, l_97, l_98, l_99, l_200, l_225, l_232, l_255, l_256, l_700, l_1000, l_1024, l_3375, l_4095, l_8000, l_20000, l_60000, vp_nIs, zz0, zz1, e10, nI_leI, nI_ltI, nI_eq, nI_1, nI_1a, nI_add, nI_sub, nI_sub1, pk_mul, nI_clamp, nI_le1, nI_le1', nI_lt1, nI_lt1', nI_eq1, nI_eqm, m1_eqN, m1_le, m1_lt, m1_leN, m1_ltN, nI_am, not_true_eq_false, not_false_eq_true, oN_eqm, s29, s31]) <;> omega) | fail)) only [↓numW, ↓zb_t, ↓zb_f, ↓zb_tt, ↓zb_ff, ↓zb_i, ↓zb_z0, ↓zb_z1, ↓zb_z, ↓zb_l, ↓zb_v, vi32, vi64, true_and, pk_us, Int32.add_zero, Nat.add_sub_cancel, nI_add, nI_1, nI_1a, nI_clamp, k7, k7', k8, k8', k12, k12', k15, k15', k16, k16', nI_sub1, va_up_self, va_up_ne, ne_eq, reduceCtorEq, Nat.reduceEqDiff, not_false_eq_true, s29, s31]
      exact et_e ⟨f, s29, hk⟩
    | succ d ih =>
      intro i σ hid f s29 hk
      have s31 : σ.1 31 = nI (T 15 m) := by rw [f.2.2.2.1 31 (by unfold IvX; omega)]; exact b3
      have v33 : σ.2.2.2.1 33 (12 * p + i) = nI (ty (12 * p + i)) := by rw [f.row (r := 33) (fun j => (by unfold AvX; omega))]; exact hty i (by omega)
      have k33 : σ.2.2.1 33 = σ0.2.2.1 33 := f.ln 33
      have k35 : σ.2.2.1 35 = 12 := (f.ln 35).trans b4
      have := ih (i + 1) (sm_r σ 35 (upd (σ.2.2.2.1 35) i (nI (ty (12 * p + i))))) (by omega) (f.u rfl (by unfold AvX; omega)) s29 (fun k hk2 => by
        show va_up σ.2.2.2.1 35 (upd (σ.2.2.2.1 35) i (nI (ty (12 * p + i)))) 35 k = _
        rw [va_up_self]
        by_cases e : k = i
        · rw [e, pk_us]
        · rw [pk_un e]; exact hk k (by omega))
      unfold mp_X8_takeWhatStands_12
      simp (disch := (first | ((try simp (disch := omega) only [va_up_self, va_up_ne, ne_eq, reduceCtorEq, Nat.reduceEqDiff, not_false_eq_true, l_0, l_2, l_3, l_4, l_5, l_6, l_7, l_8, l_9, l_10, l_11, l_12, l_13, l_14, l_15, l_16, l_17, l_18, l_19, l_20, l_21, l_22, l_23, l_24, l_25, l_26, l_27, l_28, l_29, l_30, l_31, l_32, l_33, l_34, l_35, l_36, l_37, l_38, l_39, l_40, l_41, l_42, l_43, l_44, l_45, l_46, l_47, l_48, l_49, l_50, l_51, l_52, l_53, l_54, l_55, l_56, l_57, l_58, l_59, l_60, l_61, l_62, l_63, l_64, l_97, l_98, l_99, l_200, l_225, l_232, l_255, l_256, l_700, l_1000, l_1024, l_3375, l_4095, l_8000, l_20000, l_60000, vp_nIs, zz0, zz1, e10, nI_leI, nI_ltI, nI_eq, nI_1, nI_1a, nI_add, nI_sub, nI_sub1, pk_mul, nI_clamp, nI_le1, nI_le1', nI_lt1, nI_lt1', nI_eq1, nI_eqm, m1_eqN, m1_le, m1_lt, m1_leN, m1_ltN, nI_am, not_true_eq_false, not_false_eq_true, oN_eqm, s29, s31, v33, k33, k35]) <;> omega) | fail)) only [↓numW, ↓zb_t, ↓zb_f, ↓zb_tt, ↓zb_ff, ↓zb_i, ↓zb_z0, ↓zb_z1, ↓zb_z, ↓zb_l, ↓zb_v, vi32, vi64, true_and, pk_us, Int32.add_zero, Nat.add_sub_cancel, nI_add, nI_1, nI_1a, nI_clamp, k7, k7', k8, k8', k12, k12', k15, k15', k16, k16', nI_sub1, va_up_self, va_up_ne, ne_eq, reduceCtorEq, Nat.reduceEqDiff, not_false_eq_true, s29, s31, v33, k33, k35]
      exact this
  have key := loop (T 15 m + (h p - 1)) 0 (sm_i σ0 29 (nI (h p - 1))) (by omega) (fr_r.i (by unfold IvX; omega)) rfl (fun k hk => absurd hk (by omega))
  rw [oN_p (by omega)] at hh
  unfold mp_X8_takeWhatStands
  refine et_x (fun K q => ?_) (et_n (A := fun n K => mp_X8_takeWhatStands_12 (fun σ => K 0 σ) n (sm_i σ0 29 (nI (h p - 1))) (nI p) (nI 0)) _ key)
  simp (disch := (first | ((try simp (disch := omega) only [va_up_self, va_up_ne, ne_eq, reduceCtorEq, Nat.reduceEqDiff, not_false_eq_true, l_0, l_2, l_3, l_4, l_5, l_6, l_7, l_8, l_9, l_10, l_11, l_12, l_13, l_14, l_15, l_16, l_17, l_18, l_19, l_20, l_21, l_22, l_23, l_24, l_25, l_26, l_27, l_28, l_29, l_30, l_31, l_32, l_33, l_34, l_35, l_36, l_37, l_38, l_39, l_40, l_41, l_42, l_43, l_44, l_45, l_46, l_47, l_48, l_49, l_50, l_51, l_52, l_53, l_54, l_55, l_56, l_57, l_58, l_59, l_60, l_61, l_62, l_63, l_64, l_97, l_98, l_99, l_200, l_225, l_232, l_255, l_256, l_700, l_1000, l_1024, l_3375, l_4095, l_8000, l_20000, l_60000, vp_nIs, zz0, zz1, e10, nI_leI, nI_ltI, nI_eq, nI_1, nI_1a, nI_add, nI_sub, nI_sub1, pk_mul, nI_clamp, nI_le1, nI_le1', nI_lt1, nI_lt1', nI_eq1, nI_eqm, m1_eqN, m1_le, m1_lt, m1_leN, m1_ltN, nI_am, not_true_eq_false, not_false_eq_true, oN_eqm, hh]) <;> omega) | fail)) only [↓numW, ↓zb_t, ↓zb_f, ↓zb_tt, ↓zb_ff, ↓zb_i, ↓zb_z0, ↓zb_z1, ↓zb_z, ↓zb_l, ↓zb_v, vi32, vi64, true_and, pk_us, Int32.add_zero, Nat.add_sub_cancel, nI_add, nI_1, nI_1a, nI_clamp, k7, k7', k8, k8', k12, k12', k15, k15', k16, k16', nI_sub1, va_up_self, va_up_ne, ne_eq, reduceCtorEq, Nat.reduceEqDiff, not_false_eq_true, hh]
  exact q
theorem eM_tup {μ0 : sm_S} {T : Nat → Nat → Nat} {b : Nat → Nat} {m p : Nat} {h ty : Nat → Nat} (hb : bM μ0 T b) (hw : wf T b) (hm : m < T 0 1) (hp : inC T m p) (l21 : μ0.2.2.1 21 = 8000) (l22 : μ0.2.2.1 22 = 96000) (hh : μ0.2.2.2.1 21 p = oN (h p)) (h0 : h p ≠ 0) (hle : h p ≤ T 16 m + 1) (hty : ∀ i, i < T 15 m + (h p - 1) → μ0.2.2.2.1 22 (12 * p + i) = nI (ty (12 * p + i)) ∧ vt T (ty (12 * p + i))) :
    et (fun K => mp_X12_takeUp μ0 (nI m) (nI p) (fun σ => K 0 σ)) (fun _ μ' => fr IvM AvM μ0 μ' ∧ gM μ' T m (h p - 1) (fun i => ty (12 * p + i))) := by
  have w4 := hw.2.2.2.1
  have w5 := hw.2.2.2.2.1
  obtain ⟨-, -, -, -, -, -, h12, y8, y9, y10, y11, y12, -⟩ := hw.2.2.2.2.2.2.2.2.1 m hm
  obtain ⟨b1, b2, b3⟩ := hb
  have hLM := b1.2.1
  have r15 := (b1.2.2.2.2.2.2.2 m hm).2.2.2.2.1
  obtain ⟨p1, p2⟩ := hp
  have loop : ∀ (d i : Nat) (μ : sm_S), i + d = T 15 m + (h p - 1) → fr IvM AvM μ0 μ → μ.1 9 = nI (h p - 1) → (∀ k, k < i → μ.2.2.2.1 24 k = nI (ty (12 * p + k))) → et (fun K => mp_X12_takeUp_12 (fun σ => K 0 σ) (d + 1) μ (nI m) (nI p) (nI i)) (fun _ μ' => fr IvM AvM μ0 μ' ∧ gM μ' T m (h p - 1) (fun i => ty (12 * p + i))) := by
    intro d
    induction d with
    | zero =>
      intro i μ hid f s9 hk
      have e : i = T 15 m + (h p - 1) := by omega
      subst e
      have q15 : μ.2.2.2.1 15 m = nI (T 15 m) := by rw [f.row (r := 15) (fun j => (by unfold AvM; omega))]; exact r15
      have k15 : μ.2.2.1 15 = 64 := (f.ln 15).trans (lm15 hLM)
      unfold mp_X12_takeUp_12
      simp (disch := (first | ((try simp (disch := omega) only [va_up_self, va_up_ne, ne_eq, reduceCtorEq, Nat.reduceEqDiff, not_false_eq_true, l_0, l_2, l_3, l_4, l_5, l_6, l_7, l_8, l_9, l_10, l_11, l_12, l_13, l_14, l_15, l_16, l_17, l_18, l_19, l_20, l_21, l_22, l_23, l_24, l_25, l_26, l_27, l_28, l_29, l_30, l_31, l_32, l_33, l_34, l_35, l_36, l_37, l_38, l_39, l_40, l_41, l_42, l_43, l_44, l_45, l_46, l_47, l_48, l_49, l_50, l_51, l_52, l_53, l_54, l_55, l_56, l_57, l_58, l_59, l_60, l_61, l_62, l_63, l_64, l_97, l_98, l_99, l_200, l_225, l_232, l_255, l_256, l_700, l_1000, l_1024, l_3375, l_4095, l_8000, l_20000, l_60000, vp_nIs, zz0, zz1, e10, nI_leI, nI_ltI, nI_eq, nI_1, nI_1a, nI_add, nI_sub, nI_sub1, pk_mul, nI_clamp, nI_le1, nI_le1', nI_lt1, nI_lt1', nI_eq1, nI_eqm, m1_eqN, m1_le, m1_lt, m1_leN, m1_ltN, nI_am, not_true_eq_false, not_false_eq_true, oN_eqm, s9, q15, k15]) <;> omega) | fail)) only [↓numW, ↓zb_t, ↓zb_f, ↓zb_tt, ↓zb_ff, ↓zb_i, ↓zb_z0, ↓zb_z1, ↓zb_z, ↓zb_l, ↓zb_v, vi32, vi64, true_and, pk_us, Int32.add_zero, Nat.add_sub_cancel, nI_add, nI_1, nI_1a, nI_clamp, k7, k7', k8, k8', k12, k12', k15, k15', k16, k16', nI_sub1, va_up_self, va_up_ne, ne_eq, reduceCtorEq, Nat.reduceEqDiff, not_false_eq_true, s9, q15, k15]
      exact et_e ⟨f, s9, by omega, fun i hi => ⟨hk i hi, (hty i hi).2⟩⟩
    | succ d ih =>
      intro i μ hid f s9 hk
      have q15 : μ.2.2.2.1 15 m = nI (T 15 m) := by rw [f.row (r := 15) (fun j => (by unfold AvM; omega))]; exact r15
      have k15 : μ.2.2.1 15 = 64 := (f.ln 15).trans (lm15 hLM)
      have v22 : μ.2.2.2.1 22 (12 * p + i) = nI (ty (12 * p + i)) := by rw [f.row (r := 22) (fun j => (by unfold AvM; omega))]; exact (hty i (by omega)).1
      have k22 : μ.2.2.1 22 = 96000 := (f.ln 22).trans l22
      have k24 : μ.2.2.1 24 = 12 := (f.ln 24).trans b3
      have := ih (i + 1) (sm_r μ 24 (upd (μ.2.2.2.1 24) i (nI (ty (12 * p + i))))) (by omega) (f.u rfl (by unfold AvM; omega)) s9 (fun k hk2 => by
        show va_up μ.2.2.2.1 24 (upd (μ.2.2.2.1 24) i (nI (ty (12 * p + i)))) 24 k = _
        rw [va_up_self]
        by_cases e : k = i
        · rw [e, pk_us]
        · rw [pk_un e]; exact hk k (by omega))
      unfold mp_X12_takeUp_12
      simp (disch := (first | ((try simp (disch := omega) only [va_up_self, va_up_ne, ne_eq, reduceCtorEq, Nat.reduceEqDiff, not_false_eq_true, l_0, l_2, l_3, l_4, l_5, l_6, l_7, l_8, l_9, l_10, l_11, l_12, l_13, l_14, l_15, l_16, l_17, l_18, l_19, l_20, l_21, l_22, l_23, l_24, l_25, l_26, l_27, l_28, l_29, l_30, l_31, l_32, l_33, l_34, l_35, l_36, l_37, l_38, l_39, l_40, l_41, l_42, l_43, l_44, l_45, l_46, l_47, l_48, l_49, l_50, l_51, l_52, l_53, l_54, l_55, l_56, l_57, l_58, l_59, l_60, l_61, l_62, l_63, l_64, l_97, l_98, l_99, l_200, l_225, l_232, l_255, l_256, l_700, l_1000, l_1024, l_3375, l_4095, l_8000, l_20000, l_60000, vp_nIs, zz0, zz1, e10, nI_leI, nI_ltI, nI_eq, nI_1, nI_1a, nI_add, nI_sub, nI_sub1, pk_mul, nI_clamp, nI_le1, nI_le1', nI_lt1, nI_lt1', nI_eq1, nI_eqm, m1_eqN, m1_le, m1_lt, m1_leN, m1_ltN, nI_am, not_true_eq_false, not_false_eq_true, oN_eqm, s9, q15, k15, v22, k22, k24]) <;> omega) | fail)) only [↓numW, ↓zb_t, ↓zb_f, ↓zb_tt, ↓zb_ff, ↓zb_i, ↓zb_z0, ↓zb_z1, ↓zb_z, ↓zb_l, ↓zb_v, vi32, vi64, true_and, pk_us, Int32.add_zero, Nat.add_sub_cancel, nI_add, nI_1, nI_1a, nI_clamp, k7, k7', k8, k8', k12, k12', k15, k15', k16, k16', nI_sub1, va_up_self, va_up_ne, ne_eq, reduceCtorEq, Nat.reduceEqDiff, not_false_eq_true, s9, q15, k15, v22, k22, k24]
      exact this
  have key := loop (T 15 m + (h p - 1)) 0 (sm_i μ0 9 (nI (h p - 1))) (by omega) (fr_r.i (by unfold IvM; omega)) rfl (fun k hk => absurd hk (by omega))
  rw [oN_p (by omega)] at hh
  unfold mp_X12_takeUp
  refine et_x (fun K q => ?_) (et_n (A := fun n K => mp_X12_takeUp_12 (fun σ => K 0 σ) n (sm_i μ0 9 (nI (h p - 1))) (nI m) (nI p) (nI 0)) _ key)
  simp (disch := (first | ((try simp (disch := omega) only [va_up_self, va_up_ne, ne_eq, reduceCtorEq, Nat.reduceEqDiff, not_false_eq_true, l_0, l_2, l_3, l_4, l_5, l_6, l_7, l_8, l_9, l_10, l_11, l_12, l_13, l_14, l_15, l_16, l_17, l_18, l_19, l_20, l_21, l_22, l_23, l_24, l_25, l_26, l_27, l_28, l_29, l_30, l_31, l_32, l_33, l_34, l_35, l_36, l_37, l_38, l_39, l_40, l_41, l_42, l_43, l_44, l_45, l_46, l_47, l_48, l_49, l_50, l_51, l_52, l_53, l_54, l_55, l_56, l_57, l_58, l_59, l_60, l_61, l_62, l_63, l_64, l_97, l_98, l_99, l_200, l_225, l_232, l_255, l_256, l_700, l_1000, l_1024, l_3375, l_4095, l_8000, l_20000, l_60000, vp_nIs, zz0, zz1, e10, nI_leI, nI_ltI, nI_eq, nI_1, nI_1a, nI_add, nI_sub, nI_sub1, pk_mul, nI_clamp, nI_le1, nI_le1', nI_lt1, nI_lt1', nI_eq1, nI_eqm, m1_eqN, m1_le, m1_lt, m1_leN, m1_ltN, nI_am, not_true_eq_false, not_false_eq_true, oN_eqm, hh, l21]) <;> omega) | fail)) only [↓numW, ↓zb_t, ↓zb_f, ↓zb_tt, ↓zb_ff, ↓zb_i, ↓zb_z0, ↓zb_z1, ↓zb_z, ↓zb_l, ↓zb_v, vi32, vi64, true_and, pk_us, Int32.add_zero, Nat.add_sub_cancel, nI_add, nI_1, nI_1a, nI_clamp, k7, k7', k8, k8', k12, k12', k15, k15', k16, k16', nI_sub1, va_up_self, va_up_ne, ne_eq, reduceCtorEq, Nat.reduceEqDiff, not_false_eq_true, hh, l21]
  exact q
/-- what a coming leaves on both sides -/
def jcR (σ μ : sm_S) (T : Nat → Nat → Nat) (b : Nat → Nat) (m q t : Nat) (w h ty mk : Nat → Nat) (_ : Int32) (σ' : sm_S) (r' : Int32) (μ' : sm_S) : Prop := (r' = 1 ∧ μ'.1 10 = μ.1 10 ∧ fr IwX (AmW T m) σ σ' ∧ fr IwM (AmV T m) μ μ' ∧ ∃ l0' h' ty' mk', cst T m q t w h ty mk h' ty' mk' ∧ vst σ' μ' T b m l0' h' ty' mk') ∨ (r' = 0 ∧ cbd T (T 15 m) q t h ty w ∧ fr IwX AwX σ σ' ∧ fr IwM AwM μ μ' ∧ σ'.1 34 = nI q ∧ μ'.1 10 = nI q)
theorem j_come {σ μ : sm_S} {T : Nat → Nat → Nat} {b : Nat → Nat} {m q a t l0 : Nat} {h ty mk w : Nat → Nat} (hw : wf T b) (hm : m < T 0 1) (ha : q = T 17 m + a) (hq : inC T m q) (h4 : T 4 q = 1) (hv : vst σ μ T b m l0 h ty mk) (ht : t ≤ T 16 m) (hx : ∀ i, i < T 15 m + t → σ.2.2.2.1 35 i = nI (w i)) (hg : gM μ T m t w) (ok : okw T (T 15 m) t w) : jt (fun K => mp_X8_come σ (nI q) (nI t) (fun σ => K 0 σ)) (fun K => mp_X12_come μ (nI m) (nI a) K) (jcR σ μ T b m q t w h ty mk) := by
  have w5 := hw.2.2.2.2.1
  obtain ⟨-, -, -, -, -, -, h12, y8, y9, y10, y11, y12, -⟩ := hw.2.2.2.2.2.2.2.2.1 m hm
  obtain ⟨v1, v2, v3, v4, v5, v6, v7, v8, v9, v10⟩ := hv
  obtain ⟨q1, q2⟩ := hq
  obtain ⟨t1, t2, t3, t4, t5, t6, t7, t8⟩ := v9 q q1 q2
  have hvw : ∀ i, i < T 15 m + t → vt T (w i) := fun i hi => (ok i hi).1
  have ex := e_come (σ0 := σ) (T := T) (b := b) (lo := T 15 m) (p := q) (t := t) (n := T 0 4) (l0 := l0) (h := h) (ty := ty) (w := w) v1.1 hw v3 (by omega) w5 (by omega) v1.2.2.1 v1.2.2.2 v5 (by omega) (fun i hi => ⟨hx i hi, hvw i hi⟩) t1 (by omega) (fun z i hi => ⟨(t8 z i hi).1, (t8 z i hi).2.2.1⟩)
  have em := eM_come (μ0 := μ) (T := T) (b := b) (m := m) (a := a) (p := q) (t := t) (mk := mk q) (h := h) (ty := ty) (w := w) v2 hw hm (by omega) ha hg (fun i i1 i2 => (ok i i2).2 i1) v4.2.1 v4.2.2 v4.1 t5 t6 t2 (by omega) (fun z i hi => ⟨(t8 z i hi).2.1, (t8 z i hi).2.2.1⟩)
  refine jt_w (jv_come hw hm q1 q2 ht v5 v9 hvw ex em) (fun r σ' r' μ' k => ?_)
  obtain ⟨f1, f2, k⟩ := k
  rcases k with ⟨k1, k2, k3, k4, k5, k6, v, k7, k8⟩ | ⟨k1, k2, k3, k4⟩
  · have hc : cst T m q t w h ty mk (va_up h q (t + 1)) (nty T q (T 15 m + t) h ty w) (va_up mk q v) := ⟨k1, rfl, rfl, v, rfl, k8.elim (fun z => Or.inl ⟨z.1, z.2.1⟩) (fun z => Or.inr ⟨z.1, z.2.1⟩)⟩
    obtain ⟨-, -, c3⟩ := hc.f hw hm ⟨q1, q2⟩ h4 ht v10 hvw
    have hl0 : ∃ l0', σ'.1 32 = nI l0' ∧ (T 17 m ≤ l0' ∧ l0' ≤ T 17 m + T 18 m) ∧ l0' ≤ l0 ∧ (v = 1 → l0' ≤ q) := by
      rcases k8 with ⟨z1, z2, z3⟩ | ⟨z1, z2, z3⟩
      · refine ⟨_, z3, ?_, ?_, fun _ => ?_⟩ <;> split <;> omega
      · exact ⟨l0, z3, v6, Nat.le_refl _, fun z => v7 q ⟨q1, q2⟩ (by omega)⟩
    obtain ⟨l0', u1, u2, u3, u4⟩ := hl0
    refine Or.inl ⟨k2, k3, k4, k5, l0', _, _, _, hc, ⟨v1.1.f f1 (fun k q => by unfold IwX; omega) (fun r j a c d => by unfold AwX; omega), by rw [f1.2.2.2.1 30 (by unfold IwX; omega)]; exact v1.2.1, by rw [f1.2.2.2.1 31 (by unfold IwX; omega)]; exact v1.2.2.1, by rw [f1.ln]; exact v1.2.2.2⟩, ⟨v2.1.w f2, by rw [f2.2.2.2.1 4 (by unfold IwM; omega)]; exact v2.2.1, by rw [f2.ln]; exact v2.2.2⟩, by unfold lwX; rw [f1.2.1]; exact v3, by rw [f2.2.1]; exact v4, u1, u2, fun z z1 z2 => ?_, by rw [k6]; exact v8, k7, c3⟩
    by_cases e : z = q
    · rw [e, va_up_self] at z2
      rw [e]; exact u4 z2
    · rw [va_up_ne _ _ e] at z2
      have := v7 z z1 z2
      omega
  · exact Or.inr ⟨k2, k1, f1, f2, k3, k4⟩
