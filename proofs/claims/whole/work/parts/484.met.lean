/-! ===== a method from its first place on ===== -/
/-- the types as a method begins -/
def w0T (T : Nat → Nat → Nat) (m i : Nat) : Nat := if i < T 12 m then T 13 (8 * m + i) else 99
theorem l_argX {σ1 : sm_S} {T : Nat → Nat → Nat} {b : Nat → Nat} {m : Nat} (hb : bX σ1 T b m) (hw : wf T b) (hm : m < T 0 1) : ∀ (d i : Nat) (σ : sm_S), i + d = T 15 m → fr IvX AvX σ1 σ → (∀ k, k < i → σ.2.2.2.1 35 k = nI (w0T T m k)) → ∃ σ', fr IvX AvX σ1 σ' ∧ (∀ k, k < T 15 m → σ'.2.2.2.1 35 k = nI (w0T T m k)) ∧ ∀ K, mp_X8_verifyMethod_20 K 1 σ' (nI m) (nI (T 15 m)) → mp_X8_verifyMethod_20 K (d + 1) σ (nI m) (nI i) := by
  have w4 := hw.2.2.2.1
  obtain ⟨-, y2, -, y4, -, y6, h12, -⟩ := hw.2.2.2.2.2.2.2.2.1 m hm
  have w2 := hw.2.1
  intro d
  induction d with
  | zero =>
    intro i σ hi f hk
    have e : i = T 15 m := by omega
    subst e
    exact ⟨σ, f, hk, fun K z => z⟩
  | succ d ih =>
    intro i σ hi f hk
    have b2 := hb.v f
    have hLX := b2.1.2.1
    have s31 := b2.2.2.1
    have k35 := b2.2.2.2
    obtain ⟨-, r21, r22, -⟩ := b2.1.2.2.2.2.2.2.2.2 m hm
    obtain ⟨σ', f', h1, h2⟩ := ih (i + 1) (sm_r σ 35 (upd (σ.2.2.2.1 35) i (nI (w0T T m i)))) (by omega) (f.u rfl (by unfold AvX; omega)) (fun k hk2 => by
      show va_up σ.2.2.2.1 35 (upd (σ.2.2.2.1 35) i (nI (w0T T m i))) 35 k = _
      rw [va_up_self]
      by_cases e : k = i
      · rw [e, pk_us]
      · rw [pk_un e]; exact hk k (by omega))
    refine ⟨σ', f', h1, fun K z => ?_⟩
    have z := h2 K z
    unfold w0T at z
    unfold mp_X8_verifyMethod_20 mp_X8_verifyMethod_65
    by_cases c : i < T 12 m
    · rw [if_pos c] at z
      have r := r22 i c
      simp (disch := (first | ((try simp (disch := omega) only [va_up_self, va_up_ne, ne_eq, reduceCtorEq, Nat.reduceEqDiff, not_false_eq_true, l_0, l_2, l_3, l_4, l_5, l_6, l_7, l_8, l_9, l_10, l_11, l_12, l_13, l_14, l_15, l_16, l_17, l_18, l_19, l_20, l_21, l_22, l_23, l_24, l_25, l_26, l_27, l_28, l_29, l_30, l_31, l_32, l_33, l_34, l_35, l_36, l_37, l_38, l_39, l_40, l_41, l_42, l_43, l_44, l_45, l_46, l_47, l_48, l_49, l_50, l_51, l_52, l_53, l_54, l_55, l_56, l_57, l_58, l_59, l_60, l_61, l_62, l_63, l_64, l_97, l_98, l_99, l_200, l_225, l_232, l_255, l_256, l_700, l_1000, l_1024, l_3375, l_4095, l_8000, l_20000, l_60000, vp_nIs, zz0, zz1, e10, nI_leI, nI_ltI, nI_eq, nI_1, nI_1a, nI_add, nI_sub, nI_sub1, pk_mul, nI_clamp, nI_le1, nI_le1', nI_lt1, nI_lt1', nI_eq1, nI_eqm, m1_eqN, m1_le, m1_lt, m1_leN, m1_ltN, nI_am, not_true_eq_false, not_false_eq_true, oN_eqm, s31, k35, r21, r, lx21 hLX, lx22 hLX]) <;> omega) | fail)) only [↓numW, ↓zb_t, ↓zb_f, ↓zb_tt, ↓zb_ff, ↓zb_i, ↓zb_z0, ↓zb_z1, ↓zb_z, ↓zb_l, ↓zb_v, vi32, vi64, true_and, pk_us, Int32.add_zero, Nat.add_sub_cancel, nI_add, nI_1, nI_1a, nI_clamp, k7, k7', k8, k8', k12, k12', k15, k15', k16, k16', nI_sub1, va_up_self, va_up_ne, ne_eq, reduceCtorEq, Nat.reduceEqDiff, not_false_eq_true, s31, k35, r21, r, lx21 hLX, lx22 hLX]
      exact z
    · rw [if_neg c] at z
      simp (disch := (first | ((try simp (disch := omega) only [va_up_self, va_up_ne, ne_eq, reduceCtorEq, Nat.reduceEqDiff, not_false_eq_true, l_0, l_2, l_3, l_4, l_5, l_6, l_7, l_8, l_9, l_10, l_11, l_12, l_13, l_14, l_15, l_16, l_17, l_18, l_19, l_20, l_21, l_22, l_23, l_24, l_25, l_26, l_27, l_28, l_29, l_30, l_31, l_32, l_33, l_34, l_35, l_36, l_37, l_38, l_39, l_40, l_41, l_42, l_43, l_44, l_45, l_46, l_47, l_48, l_49, l_50, l_51, l_52, l_53, l_54, l_55, l_56, l_57, l_58, l_59, l_60, l_61, l_62, l_63, l_64, l_97, l_98, l_99, l_200, l_225, l_232, l_255, l_256, l_700, l_1000, l_1024, l_3375, l_4095, l_8000, l_20000, l_60000, vp_nIs, zz0, zz1, e10, nI_leI, nI_ltI, nI_eq, nI_1, nI_1a, nI_add, nI_sub, nI_sub1, pk_mul, nI_clamp, nI_le1, nI_le1', nI_lt1, nI_lt1', nI_eq1, nI_eqm, m1_eqN, m1_le, m1_lt, m1_leN, m1_ltN, nI_am, not_true_eq_false, not_false_eq_true, oN_eqm, s31, k35, r21, lx21 hLX]) <;> omega) | fail)) only [↓numW, ↓zb_t, ↓zb_f, ↓zb_tt, ↓zb_ff, ↓zb_i, ↓zb_z0, ↓zb_z1, ↓zb_z, ↓zb_l, ↓zb_v, vi32, vi64, true_and, pk_us, Int32.add_zero, Nat.add_sub_cancel, nI_add, nI_1, nI_1a, nI_clamp, k7, k7', k8, k8', k12, k12', k15, k15', k16, k16', nI_sub1, va_up_self, va_up_ne, ne_eq, reduceCtorEq, Nat.reduceEqDiff, not_false_eq_true, s31, k35, r21, lx21 hLX]
      exact z
theorem l_argM {μ1 : sm_S} {T : Nat → Nat → Nat} {b : Nat → Nat} {m : Nat} (hb : bM μ1 T b) (hw : wf T b) (hm : m < T 0 1) : ∀ (d i : Nat) (μ : sm_S), i + d = T 15 m → fr IvM AvM μ1 μ → μ.1 9 = 0 → (∀ k, k < i → μ.2.2.2.1 24 k = nI (w0T T m k)) → ∃ μ', fr IvM AvM μ1 μ' ∧ μ'.1 9 = 0 ∧ (∀ k, k < T 15 m → μ'.2.2.2.1 24 k = nI (w0T T m k)) ∧ ∀ K, mp_X12_verify_7 K 1 μ' (nI m) (nI (T 15 m)) → mp_X12_verify_7 K (d + 1) μ (nI m) (nI i) := by
  have w4 := hw.2.2.2.1
  obtain ⟨-, y2, -, y4, -, y6, h12, -⟩ := hw.2.2.2.2.2.2.2.2.1 m hm
  have w2 := hw.2.1
  intro d
  induction d with
  | zero =>
    intro i μ hi f h9 hk
    have e : i = T 15 m := by omega
    subst e
    exact ⟨μ, f, h9, hk, fun K z => z⟩
  | succ d ih =>
    intro i μ hi f h9 hk
    have b2 := hb.v f
    have hLM := b2.1.2.1
    have k24 := b2.2.2
    obtain ⟨-, r12, r13, -, r15, -⟩ := b2.1.2.2.2.2.2.2.2 m hm
    obtain ⟨μ', f', h0, h1, h2⟩ := ih (i + 1) (sm_r μ 24 (upd (μ.2.2.2.1 24) i (nI (w0T T m i)))) (by omega) (f.u rfl (by unfold AvM; omega)) h9 (fun k hk2 => by
      show va_up μ.2.2.2.1 24 (upd (μ.2.2.2.1 24) i (nI (w0T T m i))) 24 k = _
      rw [va_up_self]
      by_cases e : k = i
      · rw [e, pk_us]
      · rw [pk_un e]; exact hk k (by omega))
    refine ⟨μ', f', h0, h1, fun K z => ?_⟩
    have z := h2 K z
    unfold w0T at z
    unfold mp_X12_verify_7 mp_X12_verify_57
    by_cases c : i < T 12 m
    · rw [if_pos c] at z
      have r := r13 i c
      simp (disch := (first | ((try simp (disch := omega) only [va_up_self, va_up_ne, ne_eq, reduceCtorEq, Nat.reduceEqDiff, not_false_eq_true, l_0, l_2, l_3, l_4, l_5, l_6, l_7, l_8, l_9, l_10, l_11, l_12, l_13, l_14, l_15, l_16, l_17, l_18, l_19, l_20, l_21, l_22, l_23, l_24, l_25, l_26, l_27, l_28, l_29, l_30, l_31, l_32, l_33, l_34, l_35, l_36, l_37, l_38, l_39, l_40, l_41, l_42, l_43, l_44, l_45, l_46, l_47, l_48, l_49, l_50, l_51, l_52, l_53, l_54, l_55, l_56, l_57, l_58, l_59, l_60, l_61, l_62, l_63, l_64, l_97, l_98, l_99, l_200, l_225, l_232, l_255, l_256, l_700, l_1000, l_1024, l_3375, l_4095, l_8000, l_20000, l_60000, vp_nIs, zz0, zz1, e10, nI_leI, nI_ltI, nI_eq, nI_1, nI_1a, nI_add, nI_sub, nI_sub1, pk_mul, nI_clamp, nI_le1, nI_le1', nI_lt1, nI_lt1', nI_eq1, nI_eqm, m1_eqN, m1_le, m1_lt, m1_leN, m1_ltN, nI_am, not_true_eq_false, not_false_eq_true, oN_eqm, r12, r15, r, k24, lm12 hLM, lm13 hLM, lm15 hLM]) <;> omega) | fail)) only [↓numW, ↓zb_t, ↓zb_f, ↓zb_tt, ↓zb_ff, ↓zb_i, ↓zb_z0, ↓zb_z1, ↓zb_z, ↓zb_l, ↓zb_v, vi32, vi64, true_and, pk_us, Int32.add_zero, Nat.add_sub_cancel, nI_add, nI_1, nI_1a, nI_clamp, k7, k7', k8, k8', k12, k12', k15, k15', k16, k16', nI_sub1, va_up_self, va_up_ne, ne_eq, reduceCtorEq, Nat.reduceEqDiff, not_false_eq_true, r12, r15, r, k24, lm12 hLM, lm13 hLM, lm15 hLM]
      exact z
    · rw [if_neg c] at z
      simp (disch := (first | ((try simp (disch := omega) only [va_up_self, va_up_ne, ne_eq, reduceCtorEq, Nat.reduceEqDiff, not_false_eq_true, l_0, l_2, l_3, l_4, l_5, l_6, l_7, l_8, l_9, l_10, l_11, l_12, l_13, l_14, l_15, l_16, l_17, l_18, l_19, l_20, l_21, l_22, l_23, l_24, l_25, l_26, l_27, l_28, l_29, l_30, l_31, l_32, l_33, l_34, l_35, l_36, l_37, l_38, l_39, l_40, l_41, l_42, l_43, l_44, l_45, l_46, l_47, l_48, l_49, l_50, l_51, l_52, l_53, l_54, l_55, l_56, l_57, l_58, l_59, l_60, l_61, l_62, l_63, l_64, l_97, l_98, l_99, l_200, l_225, l_232, l_255, l_256, l_700, l_1000, l_1024, l_3375, l_4095, l_8000, l_20000, l_60000, vp_nIs, zz0, zz1, e10, nI_leI, nI_ltI, nI_eq, nI_1, nI_1a, nI_add, nI_sub, nI_sub1, pk_mul, nI_clamp, nI_le1, nI_le1', nI_lt1, nI_lt1', nI_eq1, nI_eqm, m1_eqN, m1_le, m1_lt, m1_leN, m1_ltN, nI_am, not_true_eq_false, not_false_eq_true, oN_eqm, r12, r15, k24, lm12 hLM, lm15 hLM]) <;> omega) | fail)) only [↓numW, ↓zb_t, ↓zb_f, ↓zb_tt, ↓zb_ff, ↓zb_i, ↓zb_z0, ↓zb_z1, ↓zb_z, ↓zb_l, ↓zb_v, vi32, vi64, true_and, pk_us, Int32.add_zero, Nat.add_sub_cancel, nI_add, nI_1, nI_1a, nI_clamp, k7, k7', k8, k8', k12, k12', k15, k15', k16, k16', nI_sub1, va_up_self, va_up_ne, ne_eq, reduceCtorEq, Nat.reduceEqDiff, not_false_eq_true, r12, r15, k24, lm12 hLM, lm15 hLM]
      exact z
/-- nothing came to method m yet -/
def vnw (σ μ : sm_S) (T : Nat → Nat → Nat) (m : Nat) : Prop := ∀ p, inC T m p → σ.2.2.2.1 32 p = -1 ∧ μ.2.2.2.1 21 p = -1 ∧ σ.2.2.2.1 34 p = nI 0 ∧ μ.2.2.2.1 23 p = nI 0
/-- what both verifiers need of the rest of the state -/
def vbs (σ μ : sm_S) (T : Nat → Nat → Nat) (b : Nat → Nat) : Prop := imX σ T b ∧ bM μ T b ∧ lwX σ (T 0 4) ∧ (μ.2.2.1 21 = 8000 ∧ μ.2.2.1 22 = 96000 ∧ μ.2.2.1 23 = 8000) ∧ σ.2.2.1 35 = 12
theorem j_met {σ μ : sm_S} {T : Nat → Nat → Nat} {b : Nat → Nat} {m : Nat} (hw : wf T b) (lk : lkd T b) (hm : m < T 0 1) (hv : vbs σ μ T b) (s34 : σ.1 34 = -1) (hn : vnw σ μ T m) : jt (fun K => mp_X8_verifyMethod σ (nI m) (fun σ => K 0 σ)) (fun K => mp_X12_verify μ (nI m) K) (vfR σ μ T b m (w0T T m)) := by
  have w2 := hw.2.1
  have w4 := hw.2.2.2.1
  have w5 := hw.2.2.2.2.1
  obtain ⟨-, y2, -, y4, -, y6, h12, y8, y9, y10, y11, y12, y13, y14, -⟩ := hw.2.2.2.2.2.2.2.2.1 m hm
  obtain ⟨v1, v2, v3, v4, v5⟩ := hv
  have hLX := v1.2.1
  have hLM := v2.1.2.1
  obtain ⟨-, -, -, -, r24, r25, r26, r27, -⟩ := v1.2.2.2.2.2.2.2.2 m hm
  obtain ⟨-, -, -, -, q15, q16, q17, q18, -⟩ := v2.1.2.2.2.2.2.2.2 m hm
  obtain ⟨σ1, e1⟩ : ∃ σ1, σ1 = sm_i (sm_i σ 30 (nI m)) 31 (nI (T 15 m)) := ⟨_, rfl⟩
  have f1 : fr IVX (AVX T m) σ σ1 := by rw [e1]; exact (fr_r.i (by unfold IVX; omega)).i (by unfold IVX; omega)
  have b1 : bX σ1 T b m := ⟨v1.f f1 (fun k q => by unfold IVX; omega) (fun r j a c d => by unfold AVX AmW; omega), by rw [e1]; rfl, by rw [e1]; rfl, by rw [e1]; exact v5⟩
  obtain ⟨σ2, f2, h2, a2⟩ := l_argX b1 hw hm (T 15 m) 0 σ1 (by omega) fr_r (fun k hk => absurd hk (by omega))
  obtain ⟨μ2, g2, i9, k2, c2⟩ := l_argM v2 hw hm (T 15 m) 0 (sm_i μ 9 0) (by omega) (fr_r.i (by unfold IvM; omega)) rfl (fun k hk => absurd hk (by omega))
  have b2 := b1.v f2
  have bm2 := v2.v g2
  have r26' := (b2.1.2.2.2.2.2.2.2.2 m hm).2.2.2.2.2.2.1
  have hLX2 := b2.1.2.1
  have s31' := b2.2.2.1
  obtain ⟨-, -, -, -, q15', q16', q17', q18', -⟩ := bm2.1.2.2.2.2.2.2.2 m hm
  have hLM2 := bm2.1.2.1
  have hx : fr IVX (AVX T m) σ (sm_i σ2 32 (nI (T 17 m))) := (f1.t (frX_v f2)).i (by unfold IVX; omega)
  have hmm : fr IVM (AVM T m) μ μ2 := frM_v g2
  have hin : inC T m (T 17 m) := ⟨Nat.le_refl _, by omega⟩
  have okw0 : okw T (T 15 m) 0 (w0T T m) := fun i hi => by
    refine ⟨?_, fun z => by omega⟩
    unfold w0T
    by_cases c : i < T 12 m
    · rw [if_pos c]; exact vt_ty (y4 i c)
    · rw [if_neg c]; exact Or.inr (Or.inr (Or.inr (Or.inr rfl)))
  have gx35 : ∀ r, r ≠ 35 → σ2.2.2.2.1 r = σ.2.2.2.1 r := fun r hr => by
    rw [f2.row (r := r) (fun j => (by unfold AvX; omega)), e1]
  have gm24 : ∀ r, r ≠ 24 → μ2.2.2.2.1 r = μ.2.2.2.1 r := fun r hr => g2.row (r := r) (fun j => (by unfold AvM; omega))
  have hv0 : vst (sm_i σ2 32 (nI (T 17 m))) μ2 T b m (T 17 m) (fun _ => 0) (fun _ => 0) (fun _ => 0) := by
    refine ⟨⟨v1.f hx (fun k q => by unfold IVX; omega) (fun r j a c d => by unfold AVX AmW; omega), b2.2.1, b2.2.2.1, b2.2.2.2⟩, bm2, by unfold lwX; rw [hx.2.1]; exact v3, by rw [g2.2.1]; exact v4, rfl, ⟨Nat.le_refl _, by omega⟩, fun q _ z => absurd z Nat.zero_ne_one, ?_, fun q q1 q2 => ?_, fun q q1 => ⟨Nat.zero_le _, Nat.zero_le _, fun _ => rfl, fun z => absurd rfl z⟩⟩
    · show σ2.1 34 = -1
      rw [f2.2.2.2.1 34 (by unfold IvX; omega), e1]; exact s34
    · obtain ⟨n1, n2, n3, n4⟩ := hn q ⟨q1, q2⟩
      show σ2.2.2.2.1 32 q = _ ∧ μ2.2.2.2.1 21 q = _ ∧ _ ∧ σ2.2.2.2.1 34 q = _ ∧ μ2.2.2.2.1 23 q = _ ∧ _
      rw [gx35 32 (by decide), gx35 34 (by decide), gm24 21 (by decide), gm24 23 (by decide)]
      exact ⟨n1, n2, Nat.zero_le _, n3, n4, Nat.zero_le _, fun _ => rfl, fun z => absurd rfl z⟩
  obtain ⟨rj, σ3, rj', μ3, aj, aj', jr⟩ := j_come (a := 0) (q := T 17 m) (t := 0) (w := w0T T m) hw hm rfl hin y14 hv0 (Nat.zero_le _) (fun i hi => h2 i (by omega)) ⟨i9, Nat.zero_le _, fun i hi => ⟨k2 i (by omega), (okw0 i hi).1⟩⟩ okw0
  have aj : ∀ F : sm_S → Prop, F σ3 → mp_X8_come (sm_i σ2 32 (nI (T 17 m))) (nI (T 17 m)) 0 F := fun F z => aj (fun _ σ => F σ) z
  have goX : ∀ K : jk, (∃ n, mp_X8_verifyMethod_101 (fun σ => K 0 σ) n σ3 (nI 0)) → mp_X8_verifyMethod σ (nI m) (fun σ => K 0 σ) := fun K z => by
    have z2 := aj (fun σ17 => ∃ n101 : Nat, mp_X8_verifyMethod_101 (fun σ => K 0 σ) n101 σ17 0) z
    have z3 := a2 (fun σ => K 0 σ) (by
      show mp_X8_verifyMethod_20 (fun σ => K 0 σ) (0 + 1) σ2 (nI m) (nI (T 15 m))
      unfold mp_X8_verifyMethod_20
      simp (disch := (first | ((try simp (disch := omega) only [va_up_self, va_up_ne, ne_eq, reduceCtorEq, Nat.reduceEqDiff, not_false_eq_true, l_0, l_2, l_3, l_4, l_5, l_6, l_7, l_8, l_9, l_10, l_11, l_12, l_13, l_14, l_15, l_16, l_17, l_18, l_19, l_20, l_21, l_22, l_23, l_24, l_25, l_26, l_27, l_28, l_29, l_30, l_31, l_32, l_33, l_34, l_35, l_36, l_37, l_38, l_39, l_40, l_41, l_42, l_43, l_44, l_45, l_46, l_47, l_48, l_49, l_50, l_51, l_52, l_53, l_54, l_55, l_56, l_57, l_58, l_59, l_60, l_61, l_62, l_63, l_64, l_97, l_98, l_99, l_200, l_225, l_232, l_255, l_256, l_700, l_1000, l_1024, l_3375, l_4095, l_8000, l_20000, l_60000, vp_nIs, zz0, zz1, e10, nI_leI, nI_ltI, nI_eq, nI_1, nI_1a, nI_add, nI_sub, nI_sub1, pk_mul, nI_clamp, nI_le1, nI_le1', nI_lt1, nI_lt1', nI_eq1, nI_eqm, m1_eqN, m1_le, m1_lt, m1_leN, m1_ltN, nI_am, not_true_eq_false, not_false_eq_true, oN_eqm, s31', r26', lx26 hLX2]) <;> omega) | fail)) only [↓numW, ↓zb_t, ↓zb_f, ↓zb_tt, ↓zb_ff, ↓zb_i, ↓zb_z0, ↓zb_z1, ↓zb_z, ↓zb_l, ↓zb_v, vi32, vi64, true_and, pk_us, Int32.add_zero, Nat.add_sub_cancel, nI_add, nI_1, nI_1a, nI_clamp, k7, k7', k8, k8', k12, k12', k15, k15', k16, k16', nI_sub1, va_up_self, va_up_ne, ne_eq, reduceCtorEq, Nat.reduceEqDiff, not_false_eq_true, s31', r26', lx26 hLX2]
      exact z2)
    unfold mp_X8_verifyMethod
    simp (disch := (first | ((try simp (disch := omega) only [va_up_self, va_up_ne, ne_eq, reduceCtorEq, Nat.reduceEqDiff, not_false_eq_true, l_0, l_2, l_3, l_4, l_5, l_6, l_7, l_8, l_9, l_10, l_11, l_12, l_13, l_14, l_15, l_16, l_17, l_18, l_19, l_20, l_21, l_22, l_23, l_24, l_25, l_26, l_27, l_28, l_29, l_30, l_31, l_32, l_33, l_34, l_35, l_36, l_37, l_38, l_39, l_40, l_41, l_42, l_43, l_44, l_45, l_46, l_47, l_48, l_49, l_50, l_51, l_52, l_53, l_54, l_55, l_56, l_57, l_58, l_59, l_60, l_61, l_62, l_63, l_64, l_97, l_98, l_99, l_200, l_225, l_232, l_255, l_256, l_700, l_1000, l_1024, l_3375, l_4095, l_8000, l_20000, l_60000, vp_nIs, zz0, zz1, e10, nI_leI, nI_ltI, nI_eq, nI_1, nI_1a, nI_add, nI_sub, nI_sub1, pk_mul, nI_clamp, nI_le1, nI_le1', nI_lt1, nI_lt1', nI_eq1, nI_eqm, m1_eqN, m1_le, m1_lt, m1_leN, m1_ltN, nI_am, not_true_eq_false, not_false_eq_true, oN_eqm, r24, lx24 hLX]) <;> omega) | fail)) only [↓numW, ↓zb_t, ↓zb_f, ↓zb_tt, ↓zb_ff, ↓zb_i, ↓zb_z0, ↓zb_z1, ↓zb_z, ↓zb_l, ↓zb_v, vi32, vi64, true_and, pk_us, Int32.add_zero, Nat.add_sub_cancel, nI_add, nI_1, nI_1a, nI_clamp, k7, k7', k8, k8', k12, k12', k15, k15', k16, k16', nI_sub1, va_up_self, va_up_ne, ne_eq, reduceCtorEq, Nat.reduceEqDiff, not_false_eq_true, r24, lx24 hLX]
    rw [e1] at z3
    exact ⟨_, z3⟩
  have goM : ∀ K : jk, (∃ n, mp_X12_verify_102 K n μ3 (nI m) (nI (T 17 m + T 18 m)) (nI (T 17 m))) → mp_X12_verify μ (nI m) K := fun K z => by
    have hr : fr IwM (AmV T m) μ2 μ3 ∨ True := Or.inr trivial
    have h17 : μ3.2.2.2.1 17 m = nI (T 17 m) ∧ μ3.2.2.2.1 18 m = nI (T 18 m) ∧ μ3.2.2.1 17 = 64 ∧ μ3.2.2.1 18 = 64 := by
      rcases jr with ⟨-, -, -, g3, -⟩ | ⟨-, -, -, g3, -⟩
      · rw [g3.row (r := 17) (fun j => by unfold AmV; omega), g3.row (r := 18) (fun j => by unfold AmV; omega), g3.ln, g3.ln]
        exact ⟨q17', q18', lm17 hLM2, lm18 hLM2⟩
      · rw [g3.row (r := 17) (fun j => by unfold AwM; omega), g3.row (r := 18) (fun j => by unfold AwM; omega), g3.ln, g3.ln]
        exact ⟨q17', q18', lm17 hLM2, lm18 hLM2⟩
    obtain ⟨x17, x18, l17, l18⟩ := h17
    have z2 := aj' (fun r19 σ18 => vp_in (nI m) (σ18.2.2.1 17) ∧ vp_in (nI m) (σ18.2.2.1 18) ∧ ∀ v22 : Int32, v22 = (((σ18.2.2.2.1 17) (nI m).toNatClampNeg) + ((σ18.2.2.2.1 18) (nI m).toNatClampNeg)) → vp_in (nI m) (σ18.2.2.1 17) ∧ ∀ v24 : Int32, v24 = ((σ18.2.2.2.1 17) (nI m).toNatClampNeg) → ∃ n102 : Nat, mp_X12_verify_102 K n102 σ18 (nI m) v22 v24) (by
      simp (disch := (first | ((try simp (disch := omega) only [va_up_self, va_up_ne, ne_eq, reduceCtorEq, Nat.reduceEqDiff, not_false_eq_true, l_0, l_2, l_3, l_4, l_5, l_6, l_7, l_8, l_9, l_10, l_11, l_12, l_13, l_14, l_15, l_16, l_17, l_18, l_19, l_20, l_21, l_22, l_23, l_24, l_25, l_26, l_27, l_28, l_29, l_30, l_31, l_32, l_33, l_34, l_35, l_36, l_37, l_38, l_39, l_40, l_41, l_42, l_43, l_44, l_45, l_46, l_47, l_48, l_49, l_50, l_51, l_52, l_53, l_54, l_55, l_56, l_57, l_58, l_59, l_60, l_61, l_62, l_63, l_64, l_97, l_98, l_99, l_200, l_225, l_232, l_255, l_256, l_700, l_1000, l_1024, l_3375, l_4095, l_8000, l_20000, l_60000, vp_nIs, zz0, zz1, e10, nI_leI, nI_ltI, nI_eq, nI_1, nI_1a, nI_add, nI_sub, nI_sub1, pk_mul, nI_clamp, nI_le1, nI_le1', nI_lt1, nI_lt1', nI_eq1, nI_eqm, m1_eqN, m1_le, m1_lt, m1_leN, m1_ltN, nI_am, not_true_eq_false, not_false_eq_true, oN_eqm, x17, x18, l17, l18]) <;> omega) | fail)) only [↓numW, ↓zb_t, ↓zb_f, ↓zb_tt, ↓zb_ff, ↓zb_i, ↓zb_z0, ↓zb_z1, ↓zb_z, ↓zb_l, ↓zb_v, vi32, vi64, true_and, pk_us, Int32.add_zero, Nat.add_sub_cancel, nI_add, nI_1, nI_1a, nI_clamp, k7, k7', k8, k8', k12, k12', k15, k15', k16, k16', nI_sub1, va_up_self, va_up_ne, ne_eq, reduceCtorEq, Nat.reduceEqDiff, not_false_eq_true, x17, x18, l17, l18]
      exact z)
    have z3 := c2 K (by
      show mp_X12_verify_7 K (0 + 1) μ2 (nI m) (nI (T 15 m))
      unfold mp_X12_verify_7
      refine ⟨by rw [lm15 hLM2]; exact vp_in_nI (by omega) (by decide), fun _ => z2, fun q => absurd ?_ q⟩
      rw [nI_clamp (by omega), q15']
      exact (nI_leI (by omega) (by omega)).mpr (Nat.le_refl _))
    unfold mp_X12_verify
    simp (disch := (first | ((try simp (disch := omega) only [va_up_self, va_up_ne, ne_eq, reduceCtorEq, Nat.reduceEqDiff, not_false_eq_true, l_0, l_2, l_3, l_4, l_5, l_6, l_7, l_8, l_9, l_10, l_11, l_12, l_13, l_14, l_15, l_16, l_17, l_18, l_19, l_20, l_21, l_22, l_23, l_24, l_25, l_26, l_27, l_28, l_29, l_30, l_31, l_32, l_33, l_34, l_35, l_36, l_37, l_38, l_39, l_40, l_41, l_42, l_43, l_44, l_45, l_46, l_47, l_48, l_49, l_50, l_51, l_52, l_53, l_54, l_55, l_56, l_57, l_58, l_59, l_60, l_61, l_62, l_63, l_64, l_97, l_98, l_99, l_200, l_225, l_232, l_255, l_256, l_700, l_1000, l_1024, l_3375, l_4095, l_8000, l_20000, l_60000, vp_nIs, zz0, zz1, e10, nI_leI, nI_ltI, nI_eq, nI_1, nI_1a, nI_add, nI_sub, nI_sub1, pk_mul, nI_clamp, nI_le1, nI_le1', nI_lt1, nI_lt1', nI_eq1, nI_eqm, m1_eqN, m1_le, m1_lt, m1_leN, m1_ltN, nI_am, not_true_eq_false, not_false_eq_true, oN_eqm, hw]) <;> omega) | fail)) only [↓numW, ↓zb_t, ↓zb_f, ↓zb_tt, ↓zb_ff, ↓zb_i, ↓zb_z0, ↓zb_z1, ↓zb_z, ↓zb_l, ↓zb_v, vi32, vi64, true_and, pk_us, Int32.add_zero, Nat.add_sub_cancel, nI_add, nI_1, nI_1a, nI_clamp, k7, k7', k8, k8', k12, k12', k15, k15', k16, k16', nI_sub1, va_up_self, va_up_ne, ne_eq, reduceCtorEq, Nat.reduceEqDiff, not_false_eq_true, hw]
    exact ⟨_, z3⟩
  rcases jr with ⟨e3, e10, f3, g3, l3, h3, ty3, mk3, cc, vv⟩ | ⟨e3, hcb, -⟩
  · obtain ⟨c1, c3, c4⟩ := cc.f hw hm hin y14 (Nat.zero_le _) hv0.2.2.2.2.2.2.2.2.2 (fun i hi => (okw0 i hi).1)
    have key := j_loop (σ0 := σ) (μ0 := μ) (w0 := w0T T m) hw hm lk 818000 0 σ3 μ3 l3 h3 ty3 mk3 (PHN_b hw hm c4) (by decide) vv (fun q q1 q2 q3 => ?_) c3 (hx.t (frX_w f3)) (hmm.t (frM_w g3))
    · exact jt_x (fun K z => goX K z) (jt_m (fun K z => goM K z) key)
    · obtain ⟨z1, z2, -⟩ := c1.2 q q1 q3
      exact absurd z2 q2
  · rcases hcb with z | ⟨k, k1, k2, -⟩
    · exact absurd rfl z.1
    · omega
