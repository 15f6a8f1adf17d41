/-! ===== all methods verified, both sides ===== -/
/-- method m is verified: tables without marks that stand well -/
def fin (σ μ : sm_S) (T : Nat → Nat → Nat) (b : Nat → Nat) (m : Nat) : Prop := ∃ h ty mk, vtb σ μ T m h ty mk ∧ tbv T m h ty mk ∧ (∀ p, inC T m p → mk p = 0) ∧ (∀ p, inC T m p → h p ≠ 0 → stb T b m p h ty) ∧ arr T m (T 17 m) 0 (w0T T m) h ty
theorem dsj {T : Nat → Nat → Nat} {b : Nat → Nat} {m m' p : Nat} (hw : wf T b) (hm : m < T 0 1) (hm' : m' < T 0 1) (hne : m ≠ m') (hp : inC T m' p) : p < T 17 m ∨ T 17 m + T 18 m ≤ p := by
  have y := (hw.2.2.2.2.2.2.2.2.1 m hm).2.2.2.2.2.2.2.2.2.2.1
  have y' := (hw.2.2.2.2.2.2.2.2.1 m' hm').2.2.2.2.2.2.2.2.2.2.1
  have z := hw.2.2.2.2.2.2.2.2.2.2.2.1
  unfold inC at hp
  by_cases c : m < m'
  · have := z m m' c hm'
    omega
  · have := z m' m (by omega) hm
    omega
theorem fin.f {σ μ σ' μ' : sm_S} {T : Nat → Nat → Nat} {b : Nat → Nat} {m m' : Nat} (hw : wf T b) (hm : m < T 0 1) (hm' : m' < T 0 1) (hne : m ≠ m') (fx : fr IVX (AVX T m) σ σ') (fm : fr IVM (AVM T m) μ μ') (h : fin σ μ T b m') : fin σ' μ' T b m' := by
  have h12 := (hw.2.2.2.2.2.2.2.2.1 m' hm').2.2.2.2.2.2.1
  obtain ⟨h, ty, mk, v1, v2, v3, v4, v5⟩ := h
  refine ⟨h, ty, mk, fun p p1 p2 => ?_, v2, v3, v4, v5⟩
  have d := dsj hw hm hm' hne ⟨p1, p2⟩
  obtain ⟨t1, t2, t3, t4, t5, t6, t7, t8⟩ := v1 p p1 p2
  refine ⟨?_, ?_, t3, ?_, ?_, t6, t7, fun z i hi => ?_⟩
  · rw [fx.2.2.2.2 32 p (by unfold AVX AmW; omega)]; exact t1
  · rw [fm.2.2.2.2 21 p (by unfold AVM AmV; omega)]; exact t2
  · rw [fx.2.2.2.2 34 p (by unfold AVX AmW; omega)]; exact t4
  · rw [fm.2.2.2.2 23 p (by unfold AVM AmV; omega)]; exact t5
  · rw [fx.2.2.2.2 33 (12 * p + i) (by unfold AVX AmW; omega), fm.2.2.2.2 22 (12 * p + i) (by unfold AVM AmV; omega)]
    exact t8 z i hi
theorem vnw.f {σ μ σ' μ' : sm_S} {T : Nat → Nat → Nat} {b : Nat → Nat} {m m' : Nat} (hw : wf T b) (hm : m < T 0 1) (hm' : m' < T 0 1) (hne : m ≠ m') (fx : fr IVX (AVX T m) σ σ') (fm : fr IVM (AVM T m) μ μ') (h : vnw σ μ T m') : vnw σ' μ' T m' := fun p hp => by
  have d := dsj hw hm hm' hne hp
  rw [fx.2.2.2.2 32 p (by unfold AVX AmW; omega), fm.2.2.2.2 21 p (by unfold AVM AmV; omega), fx.2.2.2.2 34 p (by unfold AVX AmW; omega), fm.2.2.2.2 23 p (by unfold AVM AmV; omega)]
  exact h p hp
theorem vbs.f {σ μ σ' μ' : sm_S} {T : Nat → Nat → Nat} {b : Nat → Nat} (h : vbs σ μ T b) (fx : fr IVX AVx σ σ') (fm : fr IVM AVm μ μ') : vbs σ' μ' T b := by
  obtain ⟨v1, v2, v3, v4, v5⟩ := h
  exact ⟨v1.f fx (fun k q => by unfold IVX; omega) (fun r j a c d => by unfold AVx; omega), ⟨v2.1.f fm (fun k q => by unfold IVM; omega) (fun r j a c => by unfold AVm; omega), by rw [fm.2.2.2.1 4 (by unfold IVM; omega)]; exact v2.2.1, by rw [fm.ln]; exact v2.2.2⟩, by unfold lwX; rw [fx.2.1]; exact v3, by rw [fm.2.1]; exact v4, by rw [fx.ln]; exact v5⟩
def maR (σ0 μ0 : sm_S) (T : Nat → Nat → Nat) (b : Nat → Nat) (x2 : Int32) (r : Int32) (σ' : sm_S) (r' : Int32) (μ' : sm_S) : Prop := (r = -1 ∧ r' = x2 ∧ fr IVX AVx σ0 σ' ∧ fr IVM AVm μ0 μ' ∧ vbs σ' μ' T b ∧ ∀ m, m < T 0 1 → fin σ' μ' T b m) ∨ (∃ x, x < 8000 ∧ r = nI x ∧ r' = -10003 - nI x ∧ fr IVX AVx σ0 σ' ∧ ∃ μ1, fr IVM AVm μ0 μ1 ∧ μ' = sm_i μ1 4 0)
theorem j_mets {σ0 μ0 : sm_S} {T : Nat → Nat → Nat} {b : Nat → Nat} {mc ms : Nat} {x2 : Int32} (hw : wf T b) (lk : lkd T b) : ∀ (d m : Nat) (σ μ : sm_S), m + d = T 0 1 → vbs σ μ T b → σ.1 34 = -1 → (∀ m', m' < m → fin σ μ T b m') → (∀ m', m ≤ m' → m' < T 0 1 → vnw σ μ T m') → fr IVX AVx σ0 σ → fr IVM AVm μ0 μ → jt (fun K => mp_X8_firstBad_95 mc ms K (d + 1) σ (nI m)) (fun K => mp_X12_end_76 K (d + 1) μ x2 (nI m)) (maR σ0 μ0 T b x2) := by
  have w4 := hw.2.2.2.1
  intro d
  induction d with
  | zero =>
    intro m σ μ hd hv s34 hf hn fx fm
    have e : m = T 0 1 := by omega
    subst e
    have s16 := hv.1.2.2.2.2.1
    have m6 := hv.2.1.1.2.2.2.1
    refine ⟨-1, σ, x2, μ, fun K z => ?_, fun K z => ?_, Or.inl ⟨rfl, rfl, fx, fm, hv, hf⟩⟩
    · unfold mp_X8_firstBad_95 mp_X8_firstBad_125
      rw [s34]
      simp (disch := (first | ((try simp (disch := omega) only [va_up_self, va_up_ne, ne_eq, reduceCtorEq, Nat.reduceEqDiff, not_false_eq_true, l_0, l_2, l_3, l_4, l_5, l_6, l_7, l_8, l_9, l_10, l_11, l_12, l_13, l_14, l_15, l_16, l_17, l_18, l_19, l_20, l_21, l_22, l_23, l_24, l_25, l_26, l_27, l_28, l_29, l_30, l_31, l_32, l_33, l_34, l_35, l_36, l_37, l_38, l_39, l_40, l_41, l_42, l_43, l_44, l_45, l_46, l_47, l_48, l_49, l_50, l_51, l_52, l_53, l_54, l_55, l_56, l_57, l_58, l_59, l_60, l_61, l_62, l_63, l_64, l_97, l_98, l_99, l_200, l_225, l_232, l_255, l_256, l_700, l_1000, l_1024, l_3375, l_4095, l_8000, l_20000, l_60000, vp_nIs, zz0, zz1, e10, nI_leI, nI_ltI, nI_eq, nI_1, nI_1a, nI_add, nI_sub, nI_sub1, pk_mul, nI_clamp, nI_le1, nI_le1', nI_lt1, nI_lt1', nI_eq1, nI_eqm, m1_eqN, m1_le, m1_lt, m1_leN, m1_ltN, nI_am, not_true_eq_false, not_false_eq_true, oN_eqm, s16]) <;> omega) | fail)) only [↓numW, ↓zb_t, ↓zb_f, ↓zb_tt, ↓zb_ff, ↓zb_i, ↓zb_z0, ↓zb_z1, ↓zb_z, ↓zb_l, ↓zb_v, vi32, vi64, true_and, pk_us, Int32.add_zero, Nat.add_sub_cancel, nI_add, nI_1, nI_1a, nI_clamp, k7, k7', k8, k8', k12, k12', k15, k15', k16, k16', nI_sub1, va_up_self, va_up_ne, ne_eq, reduceCtorEq, Nat.reduceEqDiff, not_false_eq_true, s16]
      exact z
    · unfold mp_X12_end_76
      simp (disch := (first | ((try simp (disch := omega) only [va_up_self, va_up_ne, ne_eq, reduceCtorEq, Nat.reduceEqDiff, not_false_eq_true, l_0, l_2, l_3, l_4, l_5, l_6, l_7, l_8, l_9, l_10, l_11, l_12, l_13, l_14, l_15, l_16, l_17, l_18, l_19, l_20, l_21, l_22, l_23, l_24, l_25, l_26, l_27, l_28, l_29, l_30, l_31, l_32, l_33, l_34, l_35, l_36, l_37, l_38, l_39, l_40, l_41, l_42, l_43, l_44, l_45, l_46, l_47, l_48, l_49, l_50, l_51, l_52, l_53, l_54, l_55, l_56, l_57, l_58, l_59, l_60, l_61, l_62, l_63, l_64, l_97, l_98, l_99, l_200, l_225, l_232, l_255, l_256, l_700, l_1000, l_1024, l_3375, l_4095, l_8000, l_20000, l_60000, vp_nIs, zz0, zz1, e10, nI_leI, nI_ltI, nI_eq, nI_1, nI_1a, nI_add, nI_sub, nI_sub1, pk_mul, nI_clamp, nI_le1, nI_le1', nI_lt1, nI_lt1', nI_eq1, nI_eqm, m1_eqN, m1_le, m1_lt, m1_leN, m1_ltN, nI_am, not_true_eq_false, not_false_eq_true, oN_eqm, m6]) <;> omega) | fail)) only [↓numW, ↓zb_t, ↓zb_f, ↓zb_tt, ↓zb_ff, ↓zb_i, ↓zb_z0, ↓zb_z1, ↓zb_z, ↓zb_l, ↓zb_v, vi32, vi64, true_and, pk_us, Int32.add_zero, Nat.add_sub_cancel, nI_add, nI_1, nI_1a, nI_clamp, k7, k7', k8, k8', k12, k12', k15, k15', k16, k16', nI_sub1, va_up_self, va_up_ne, ne_eq, reduceCtorEq, Nat.reduceEqDiff, not_false_eq_true, m6]
      exact z
  | succ d ih =>
    intro m σ μ hd hv s34 hf hn fx fm
    have hm : m < T 0 1 := by omega
    have s16 := hv.1.2.2.2.2.1
    have m6 := hv.2.1.1.2.2.2.1
    obtain ⟨rj, σ1, rj', μ1, aj, aj', jr⟩ := j_met hw lk hm hv s34 (hn m (Nat.le_refl _) hm)
    have aj : ∀ F : sm_S → Prop, F σ1 → mp_X8_verifyMethod σ (nI m) F := fun F z => aj (fun _ σ => F σ) z
    have goX : ∀ K : jk, mp_X8_firstBad_95 mc ms K (d + 1) σ1 (nI (m + 1)) → mp_X8_firstBad_95 mc ms K (d + 1 + 1) σ (nI m) := fun K z => by
      have z2 := aj (fun σ3 => mp_X8_firstBad_95 mc ms K (d + 1) σ3 (nI (m + 1))) z
      unfold mp_X8_firstBad_95
      simp (disch := (first | ((try simp (disch := omega) only [va_up_self, va_up_ne, ne_eq, reduceCtorEq, Nat.reduceEqDiff, not_false_eq_true, l_0, l_2, l_3, l_4, l_5, l_6, l_7, l_8, l_9, l_10, l_11, l_12, l_13, l_14, l_15, l_16, l_17, l_18, l_19, l_20, l_21, l_22, l_23, l_24, l_25, l_26, l_27, l_28, l_29, l_30, l_31, l_32, l_33, l_34, l_35, l_36, l_37, l_38, l_39, l_40, l_41, l_42, l_43, l_44, l_45, l_46, l_47, l_48, l_49, l_50, l_51, l_52, l_53, l_54, l_55, l_56, l_57, l_58, l_59, l_60, l_61, l_62, l_63, l_64, l_97, l_98, l_99, l_200, l_225, l_232, l_255, l_256, l_700, l_1000, l_1024, l_3375, l_4095, l_8000, l_20000, l_60000, vp_nIs, zz0, zz1, e10, nI_leI, nI_ltI, nI_eq, nI_1, nI_1a, nI_add, nI_sub, nI_sub1, pk_mul, nI_clamp, nI_le1, nI_le1', nI_lt1, nI_lt1', nI_eq1, nI_eqm, m1_eqN, m1_le, m1_lt, m1_leN, m1_ltN, nI_am, not_true_eq_false, not_false_eq_true, oN_eqm, s16, s34, ↓zc1, ↓zc2]) <;> omega) | fail)) only [↓numW, ↓zb_t, ↓zb_f, ↓zb_tt, ↓zb_ff, ↓zb_i, ↓zb_z0, ↓zb_z1, ↓zb_z, ↓zb_l, ↓zb_v, vi32, vi64, true_and, pk_us, Int32.add_zero, Nat.add_sub_cancel, nI_add, nI_1, nI_1a, nI_clamp, k7, k7', k8, k8', k12, k12', k15, k15', k16, k16', nI_sub1, va_up_self, va_up_ne, ne_eq, reduceCtorEq, Nat.reduceEqDiff, not_false_eq_true, s16, s34, ↓zc1, ↓zc2]
      exact z2
    have goM : ∀ K : jk, ((rj' = (-1) → mp_X12_end_76 K (d + 1) μ1 x2 (nI (m + 1))) ∧ (¬ rj' = (-1) → K ((-10003) - rj') (sm_i μ1 4 0))) → mp_X12_end_76 K (d + 1 + 1) μ x2 (nI m) := fun K z => by
      have z2 := aj' (fun r3 σ2 => ((r3 = (-1) → mp_X12_end_76 K (d + 1) σ2 x2 (nI (m + 1))) ∧ (¬ r3 = (-1) → K ((-10003) - r3) (sm_i σ2 4 0)))) z
      unfold mp_X12_end_76
      simp (disch := (first | ((try simp (disch := omega) only [va_up_self, va_up_ne, ne_eq, reduceCtorEq, Nat.reduceEqDiff, not_false_eq_true, l_0, l_2, l_3, l_4, l_5, l_6, l_7, l_8, l_9, l_10, l_11, l_12, l_13, l_14, l_15, l_16, l_17, l_18, l_19, l_20, l_21, l_22, l_23, l_24, l_25, l_26, l_27, l_28, l_29, l_30, l_31, l_32, l_33, l_34, l_35, l_36, l_37, l_38, l_39, l_40, l_41, l_42, l_43, l_44, l_45, l_46, l_47, l_48, l_49, l_50, l_51, l_52, l_53, l_54, l_55, l_56, l_57, l_58, l_59, l_60, l_61, l_62, l_63, l_64, l_97, l_98, l_99, l_200, l_225, l_232, l_255, l_256, l_700, l_1000, l_1024, l_3375, l_4095, l_8000, l_20000, l_60000, vp_nIs, zz0, zz1, e10, nI_leI, nI_ltI, nI_eq, nI_1, nI_1a, nI_add, nI_sub, nI_sub1, pk_mul, nI_clamp, nI_le1, nI_le1', nI_lt1, nI_lt1', nI_eq1, nI_eqm, m1_eqN, m1_le, m1_lt, m1_leN, m1_ltN, nI_am, not_true_eq_false, not_false_eq_true, oN_eqm, m6]) <;> omega) | fail)) only [↓numW, ↓zb_t, ↓zb_f, ↓zb_tt, ↓zb_ff, ↓zb_i, ↓zb_z0, ↓zb_z1, ↓zb_z, ↓zb_l, ↓zb_v, vi32, vi64, true_and, pk_us, Int32.add_zero, Nat.add_sub_cancel, nI_add, nI_1, nI_1a, nI_clamp, k7, k7', k8, k8', k12, k12', k15, k15', k16, k16', nI_sub1, va_up_self, va_up_ne, ne_eq, reduceCtorEq, Nat.reduceEqDiff, not_false_eq_true, m6]
      exact z2
    rcases jr with ⟨e1, f1, g1, l1, h1, ty1, mk1, v1, v2, v3, v4⟩ | ⟨f1, g1, x, hx, e1, e34⟩
    · have := ih (m + 1) σ1 μ1 (by omega) (hv.f (frX_x f1) (frM_x g1)) v1.2.2.2.2.2.2.2.1 (fun m' hm' => by
        by_cases e : m' = m
        · subst e
          exact ⟨h1, ty1, mk1, v1.2.2.2.2.2.2.2.2.1, v1.2.2.2.2.2.2.2.2.2, v2, v3, v4⟩
        · exact (hf m' (by omega)).f hw hm (by omega) (fun z => e z.symm) f1 g1) (fun m' hm' hm2 => (hn m' (by omega) hm2).f hw hm hm2 (by omega) f1 g1) (fx.t (frX_x f1)) (fm.t (frM_x g1))
      exact jt_x (fun K z => goX K z) (jt_m (fun K z => goM K ⟨fun _ => z, fun q => absurd e1 q⟩) this)
    · have n34 : ¬ σ1.1 34 = -1 := by rw [e34]; exact nI_m1 (by omega)
      refine ⟨nI x, σ1, -10003 - nI x, sm_i μ1 4 0, fun K z => goX K ?_, fun K z => goM K ⟨fun q => absurd (e1.symm.trans q) (nI_m1 (by omega)), fun _ => by rw [e1]; exact z⟩, Or.inr ⟨x, hx, rfl, rfl, fx.t f1, μ1, fm.t g1, rfl⟩⟩
      unfold mp_X8_firstBad_95 mp_X8_firstBad_125
      rw [e34]
      exact ⟨fun _ => z, fun _ => ⟨fun _ => z, fun q => absurd q (nI_m1 (by omega))⟩⟩
/-! ===== frames where rows may have grown ===== -/
def frg (R : Nat → Prop) (I : Nat → Prop) (A : Nat → Nat → Prop) (σ σ' : sm_S) : Prop := σ'.2.1 = σ.2.1 ∧ (∀ r, ¬ R r → σ'.2.2.1 r = σ.2.2.1 r) ∧ σ'.2.2.2.2 = σ.2.2.2.2 ∧ (∀ k, ¬ I k → σ'.1 k = σ.1 k) ∧ (∀ r j, ¬ A r j → σ'.2.2.2.1 r j = σ.2.2.2.1 r j)
theorem fr.g {R I : Nat → Prop} {A : Nat → Nat → Prop} {σ σ' : sm_S} (h : fr I A σ σ') : frg R I A σ σ' := ⟨h.1, fun r _ => by rw [h.2.1], h.2.2.1, h.2.2.2.1, h.2.2.2.2⟩
theorem frg.t {R I : Nat → Prop} {A : Nat → Nat → Prop} {a b c : sm_S} (h : frg R I A a b) (h2 : frg R I A b c) : frg R I A a c := ⟨h2.1.trans h.1, fun r q => (h2.2.1 r q).trans (h.2.1 r q), h2.2.2.1.trans h.2.2.1, fun j q => (h2.2.2.2.1 j q).trans (h.2.2.2.1 j q), fun r j q => (h2.2.2.2.2 r j q).trans (h.2.2.2.2 r j q)⟩
theorem frg.m {R S I J : Nat → Prop} {A B : Nat → Nat → Prop} {a b : sm_S} (h : frg R I A a b) (h0 : ∀ k, R k → S k) (h1 : ∀ k, I k → J k) (h2 : ∀ r j, A r j → B r j) : frg S J B a b := ⟨h.1, fun r q => h.2.1 r (fun z => q (h0 r z)), h.2.2.1, fun j q => h.2.2.2.1 j (fun z => q (h1 j z)), fun r j q => h.2.2.2.2 r j (fun z => q (h2 r j z))⟩
theorem frg_x {R I : Nat → Prop} {A : Nat → Nat → Prop} {σ : sm_S} {k n : Nat} {f : Nat → Int32} (hR : R k) (hA : ∀ j, A k j) : frg R I A σ (sm_x σ k n f) := by
  refine ⟨rfl, fun r q => va_up_ne _ _ (fun e => q (by rw [e]; exact hR)), rfl, fun _ _ => rfl, fun r j q => ?_⟩
  show va_up σ.2.2.2.1 k f r j = _
  rw [va_up_ne _ _ (fun e => q (by rw [e]; exact hA j))]
/-! ===== the class's tables made ready ===== -/
def If (k : Nat) : Prop := k = 34
def Af (r _ : Nat) : Prop := r = 32 ∨ r = 33 ∨ r = 34
def Rf (r : Nat) : Prop := r = 32 ∨ r = 33 ∨ r = 34
theorem l_fb57 {mc ms n : Nat} (hn : n ≤ 8000) : ∀ (d i : Nat) (σ : sm_S), i + d = n → σ.1 14 = nI n → n ≤ σ.2.2.1 32 → σ.2.2.1 32 < 2 ^ 31 → n ≤ σ.2.2.1 34 → σ.2.2.1 34 < 2 ^ 31 → (∀ p, p < i → σ.2.2.2.1 32 p = -1 ∧ σ.2.2.2.1 34 p = nI 0) → ∃ σ', fr If Af σ σ' ∧ σ'.1 34 = -1 ∧ (∀ p, p < n → σ'.2.2.2.1 32 p = -1 ∧ σ'.2.2.2.1 34 p = nI 0) ∧ ∀ K : jk, (∃ n95, mp_X8_firstBad_95 mc ms K n95 σ' 0) → mp_X8_firstBad_57 mc ms K (d + 1) σ (nI i) := by
  intro d
  induction d with
  | zero =>
    intro i σ hi s14 l1 l2 l3 l4 hr
    have e : i = n := by omega
    subst e
    refine ⟨sm_i σ 34 (-1), fr_r.i (by unfold If; omega), rfl, hr, fun K z => ?_⟩
    unfold mp_X8_firstBad_57
    simp (disch := (first | ((try simp (disch := omega) only [va_up_self, va_up_ne, ne_eq, reduceCtorEq, Nat.reduceEqDiff, not_false_eq_true, l_0, l_2, l_3, l_4, l_5, l_6, l_7, l_8, l_9, l_10, l_11, l_12, l_13, l_14, l_15, l_16, l_17, l_18, l_19, l_20, l_21, l_22, l_23, l_24, l_25, l_26, l_27, l_28, l_29, l_30, l_31, l_32, l_33, l_34, l_35, l_36, l_37, l_38, l_39, l_40, l_41, l_42, l_43, l_44, l_45, l_46, l_47, l_48, l_49, l_50, l_51, l_52, l_53, l_54, l_55, l_56, l_57, l_58, l_59, l_60, l_61, l_62, l_63, l_64, l_97, l_98, l_99, l_200, l_225, l_232, l_255, l_256, l_700, l_1000, l_1024, l_3375, l_4095, l_8000, l_20000, l_60000, vp_nIs, zz0, zz1, e10, nI_leI, nI_ltI, nI_eq, nI_1, nI_1a, nI_add, nI_sub, nI_sub1, pk_mul, nI_clamp, nI_le1, nI_le1', nI_lt1, nI_lt1', nI_eq1, nI_eqm, m1_eqN, m1_le, m1_lt, m1_leN, m1_ltN, nI_am, not_true_eq_false, not_false_eq_true, oN_eqm, s14]) <;> omega) | fail)) only [↓numW, ↓zb_t, ↓zb_f, ↓zb_tt, ↓zb_ff, ↓zb_i, ↓zb_z0, ↓zb_z1, ↓zb_z, ↓zb_l, ↓zb_v, vi32, vi64, true_and, pk_us, Int32.add_zero, Nat.add_sub_cancel, nI_add, nI_1, nI_1a, nI_clamp, k7, k7', k8, k8', k12, k12', k15, k15', k16, k16', nI_sub1, va_up_self, va_up_ne, ne_eq, reduceCtorEq, Nat.reduceEqDiff, not_false_eq_true, s14]
    exact z
  | succ d ih =>
    intro i σ hi s14 l1 l2 l3 l4 hr
    obtain ⟨σ1, e1⟩ : ∃ σ1, σ1 = sm_r (sm_r σ 32 (upd (σ.2.2.2.1 32) i (-1))) 34 (upd (σ.2.2.2.1 34) i 0) := ⟨_, rfl⟩
    have f1 : fr If Af σ σ1 := by rw [e1]; exact (fr_r.u rfl (by unfold Af; omega)).u rfl (by unfold Af; omega)
    obtain ⟨σ', g1, g2, g3, g4⟩ := ih (i + 1) σ1 (by omega) (by rw [e1]; exact s14) (by rw [e1]; exact l1) (by rw [e1]; exact l2) (by rw [e1]; exact l3) (by rw [e1]; exact l4) (fun p hp => by
      have x32 : σ1.2.2.2.1 32 = upd (σ.2.2.2.1 32) i (-1) := by rw [e1]; rfl
      have x34 : σ1.2.2.2.1 34 = upd (σ.2.2.2.1 34) i 0 := by rw [e1]; rfl
      rw [x32, x34]
      by_cases e : p = i
      · rw [e, pk_us, pk_us]; exact ⟨rfl, rfl⟩
      · rw [pk_un e, pk_un e]; exact hr p (by omega))
    refine ⟨σ', f1.t g1, g2, g3, fun K z => ?_⟩
    have z := g4 K z
    rw [e1] at z
    have nb : vp_nar .byte (-1) = (-1 : Int32) := by decide
    have nb0 : vp_nar .boolean 0 = (0 : Int32) := by decide
    unfold mp_X8_firstBad_57
    simp (disch := (first | ((try simp (disch := omega) only [va_up_self, va_up_ne, ne_eq, reduceCtorEq, Nat.reduceEqDiff, not_false_eq_true, l_0, l_2, l_3, l_4, l_5, l_6, l_7, l_8, l_9, l_10, l_11, l_12, l_13, l_14, l_15, l_16, l_17, l_18, l_19, l_20, l_21, l_22, l_23, l_24, l_25, l_26, l_27, l_28, l_29, l_30, l_31, l_32, l_33, l_34, l_35, l_36, l_37, l_38, l_39, l_40, l_41, l_42, l_43, l_44, l_45, l_46, l_47, l_48, l_49, l_50, l_51, l_52, l_53, l_54, l_55, l_56, l_57, l_58, l_59, l_60, l_61, l_62, l_63, l_64, l_97, l_98, l_99, l_200, l_225, l_232, l_255, l_256, l_700, l_1000, l_1024, l_3375, l_4095, l_8000, l_20000, l_60000, vp_nIs, zz0, zz1, e10, nI_leI, nI_ltI, nI_eq, nI_1, nI_1a, nI_add, nI_sub, nI_sub1, pk_mul, nI_clamp, nI_le1, nI_le1', nI_lt1, nI_lt1', nI_eq1, nI_eqm, m1_eqN, m1_le, m1_lt, m1_leN, m1_ltN, nI_am, not_true_eq_false, not_false_eq_true, oN_eqm, s14, nb, nb0]) <;> omega) | fail)) only [↓numW, ↓zb_t, ↓zb_f, ↓zb_tt, ↓zb_ff, ↓zb_i, ↓zb_z0, ↓zb_z1, ↓zb_z, ↓zb_l, ↓zb_v, vi32, vi64, true_and, pk_us, Int32.add_zero, Nat.add_sub_cancel, nI_add, nI_1, nI_1a, nI_clamp, k7, k7', k8, k8', k12, k12', k15, k15', k16, k16', nI_sub1, va_up_self, va_up_ne, ne_eq, reduceCtorEq, Nat.reduceEqDiff, not_false_eq_true, s14, nb, nb0]
    exact z
theorem rf_max {n L : Nat} (hn : n ≤ 8000) (hL : L ≤ 16000) : (if nI n < 2 * nI L then 2 * nI L else nI n) = nI (max n (2 * L)) := by
  rw [l_2, pk_mul]
  by_cases c : n < 2 * L
  · rw [if_pos ((nI_ltI (by omega) (by omega)).mpr c), Nat.max_eq_right (by omega)]
  · rw [if_neg (fun z => c ((nI_ltI (by omega) (by omega)).mp z)), Nat.max_eq_left (by omega)]
theorem nI_neg {a : Nat} (h : a < 2 ^ 31) : ¬ nI a < 0 := fun q => absurd ((nI_ltI (b := 0) h (by omega)).mp q) (by omega)
theorem w_fbad {mc ms n L : Nat} {σ : sm_S} (hn : n ≤ 8000) (s14 : σ.1 14 = nI n) (l32 : σ.2.2.1 32 = L) (l33 : σ.2.2.1 33 = 12 * L) (l34 : σ.2.2.1 34 = L) (hL : L ≤ 16000) (hmc : 3 ≤ mc) (hms : L < n → 14 * max n (2 * L) ≤ ms) : ∃ N σ', n ≤ N ∧ N ≤ 16000 ∧ (N = L ∧ n ≤ L ∨ L < n ∧ N = max n (2 * L)) ∧ frg Rf If Af σ σ' ∧ σ'.2.2.1 32 = N ∧ σ'.2.2.1 33 = 12 * N ∧ σ'.2.2.1 34 = N ∧ σ'.1 34 = -1 ∧ (∀ p, p < n → σ'.2.2.2.1 32 p = -1 ∧ σ'.2.2.2.1 34 p = nI 0) ∧ ∀ K : jk, (∃ n95, mp_X8_firstBad_95 mc ms K n95 σ' 0) → mp_X8_firstBad mc ms σ K := by
  by_cases c : n ≤ L
  · obtain ⟨σ', g1, g2, g3, g4⟩ := l_fb57 (mc := mc) (ms := ms) hn n 0 σ (by omega) s14 (by omega) (by omega) (by omega) (by omega) (fun p hp => absurd hp (by omega))
    refine ⟨L, σ', c, hL, Or.inl ⟨rfl, c⟩, g1.g, by rw [g1.ln]; exact l32, by rw [g1.ln]; exact l33, by rw [g1.ln]; exact l34, g2, g3, fun K z => ?_⟩
    have z := g4 K z
    unfold mp_X8_firstBad mp_X8_firstBad_55
    simp (disch := (first | ((try simp (disch := omega) only [va_up_self, va_up_ne, ne_eq, reduceCtorEq, Nat.reduceEqDiff, not_false_eq_true, l_0, l_2, l_3, l_4, l_5, l_6, l_7, l_8, l_9, l_10, l_11, l_12, l_13, l_14, l_15, l_16, l_17, l_18, l_19, l_20, l_21, l_22, l_23, l_24, l_25, l_26, l_27, l_28, l_29, l_30, l_31, l_32, l_33, l_34, l_35, l_36, l_37, l_38, l_39, l_40, l_41, l_42, l_43, l_44, l_45, l_46, l_47, l_48, l_49, l_50, l_51, l_52, l_53, l_54, l_55, l_56, l_57, l_58, l_59, l_60, l_61, l_62, l_63, l_64, l_97, l_98, l_99, l_200, l_225, l_232, l_255, l_256, l_700, l_1000, l_1024, l_3375, l_4095, l_8000, l_20000, l_60000, vp_nIs, zz0, zz1, e10, nI_leI, nI_ltI, nI_eq, nI_1, nI_1a, nI_add, nI_sub, nI_sub1, pk_mul, nI_clamp, nI_le1, nI_le1', nI_lt1, nI_lt1', nI_eq1, nI_eqm, m1_eqN, m1_le, m1_lt, m1_leN, m1_ltN, nI_am, not_true_eq_false, not_false_eq_true, oN_eqm, s14, l34]) <;> omega) | fail)) only [↓numW, ↓zb_t, ↓zb_f, ↓zb_tt, ↓zb_ff, ↓zb_i, ↓zb_z0, ↓zb_z1, ↓zb_z, ↓zb_l, ↓zb_v, vi32, vi64, true_and, pk_us, Int32.add_zero, Nat.add_sub_cancel, nI_add, nI_1, nI_1a, nI_clamp, k7, k7', k8, k8', k12, k12', k15, k15', k16, k16', nI_sub1, va_up_self, va_up_ne, ne_eq, reduceCtorEq, Nat.reduceEqDiff, not_false_eq_true, s14, l34]
    exact ⟨_, z⟩
  · have hN : max n (2 * L) ≤ 16000 := by omega
    have hm := hms (by omega)
    have rfm := rf_max hn hL
    generalize hNe : max n (2 * L) = N at hm hN rfm
    have hnN : n ≤ N := by omega
    obtain ⟨σ1, e1⟩ : ∃ σ1, σ1 = sm_x (sm_x (sm_x σ 32 N (fun _ => 0)) 34 N (fun _ => 0)) 33 (12 * N) (fun _ => 0) := ⟨_, rfl⟩
    have f1 : frg Rf If Af σ σ1 := by
      rw [e1]
      exact ((frg_x (by unfold Rf; omega) (fun j => (by unfold Af; omega))).t (frg_x (by unfold Rf; omega) (fun j => (by unfold Af; omega)))).t (frg_x (by unfold Rf; omega) (fun j => (by unfold Af; omega)))
    have k32 : σ1.2.2.1 32 = N := by rw [e1]; rfl
    have k33 : σ1.2.2.1 33 = 12 * N := by rw [e1]; rfl
    have k34 : σ1.2.2.1 34 = N := by rw [e1]; rfl
    obtain ⟨σ', g1, g2, g3, g4⟩ := l_fb57 (mc := mc) (ms := ms) hn n 0 σ1 (by omega) (by rw [e1]; exact s14) (by omega) (by omega) (by omega) (by omega) (fun p hp => absurd hp (by omega))
    refine ⟨N, σ', hnN, hN, Or.inr ⟨by omega, rfl⟩, f1.t g1.g, by rw [g1.ln]; exact k32, by rw [g1.ln]; exact k33, by rw [g1.ln]; exact k34, g2, g3, fun K z => ?_⟩
    have z := g4 K z
    rw [e1] at z
    unfold mp_X8_firstBad mp_X8_firstBad_55 mp_X10_roomFor
    refine ⟨fun q => ?_, fun _ => ?_⟩
    · rw [s14, l34] at q
      exact absurd ((nI_leI (by omega) (by omega)).mp q) c
    · rw [s14, l34, rfm]
      have cN : (nI N).toNatClampNeg = N := nI_clamp (by omega)
      dsimp only
      rw [cN]
      refine ⟨nI_neg (by omega), by omega, by omega, by omega, fun σ19 e19 => ⟨nI_neg (by omega), by omega, by omega, by omega, fun σ25 e25 v ev => ?_⟩⟩
      rw [k12] at ev
      rw [ev, nI_clamp (by omega)]
      refine ⟨nI_neg (by omega), by omega, by omega, by omega, fun σ32 e32 => ⟨n + 1, ?_⟩⟩
      rw [e32, e25, e19]
      exact z
