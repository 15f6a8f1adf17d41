/-! ===== one look, both sides: the handlers ===== -/
def hlk (σ0 μ0 σ μ : sm_S) (T : Nat → Nat → Nat) (b : Nat → Nat) (m p k l0 : Nat) (h0 ty0 mk0 h ty mk : Nat → Nat) : Prop := vst σ μ T b m l0 h ty mk ∧ μ.1 10 = nI p ∧ tup T m h0 ty0 mk0 h ty mk ∧ PHN T m h ty mk ≤ PHN T m h0 ty0 mk0 ∧ fr IVX (AVX T m) σ0 σ ∧ fr IVM (AVM T m) μ0 μ ∧ h p ≠ 0 ∧ (mk p = 0 → ∀ j, j < k → hst T b m p j h ty)
/-- what the tables are when it came to a handler -/
theorem hlk_c {T : Nat → Nat → Nat} {b : Nat → Nat} {m p k : Nat} {h0 ty0 mk0 h ty mk h' ty' mk' : Nat → Nat} (hw : wf T b) (hm : m < T 0 1) (lk : lkd T b) (hp : inC T m p) (hk : k < T 19 m) (hv0 : tbv T m h0 ty0 mk0) (hv : tbv T m h ty mk) (ht : tup T m h0 ty0 mk0 h ty mk) (hP : PHN T m h ty mk ≤ PHN T m h0 ty0 mk0) (hp0 : h p ≠ 0) (hh : mk p = 0 → ∀ j, j < k → hst T b m p j h ty) (h1 : 1 ≤ T 16 m)
    (c : cst T m (T 17 m + pr b (T 20 m + 7 * k + 5)) 1 (va_up (fun i => ty (12 * p + i)) (T 15 m) (b (T 20 m + 7 * k + 4) + 1)) h ty mk h' ty' mk') :
    tup T m h0 ty0 mk0 h' ty' mk' ∧ PHN T m h' ty' mk' ≤ PHN T m h0 ty0 mk0 ∧ h' p ≠ 0 ∧ (mk' p = 0 → ∀ j, j < k + 1 → hst T b m p j h' ty') := by
  have hcl := (hw.2.2.2.2.2.2.2.2.1 m hm).2.2.2.2.2.2.2.2.2.2.2.2.1 k hk
  obtain ⟨g1, g2⟩ := lk.h hm hk
  have hq : inC T m (T 17 m + pr b (T 20 m + 7 * k + 5)) := ⟨by omega, by omega⟩
  have hvp := ((hv p hp).2.2.2 hp0).2
  have hvw : ∀ i, i < T 15 m + 1 → vt T (va_up (fun i => ty (12 * p + i)) (T 15 m) (b (T 20 m + 7 * k + 4) + 1) i) := fun i hi => by
    by_cases e : i = T 15 m
    · rw [e, va_up_self]; exact Or.inl (by omega)
    · rw [va_up_ne _ _ e]; exact (hvp i (by omega)).1
  obtain ⟨c1, c2, c3⟩ := c.f hw hm hq g2 h1 hv hvw
  have c4 := c.p hw hm hq g2 h1 hv hvw
  obtain ⟨u1, u2⟩ := c1.1 p hp hp0
  refine ⟨tup_t hw hv0 ht c1, by omega, by omega, fun z j hj => ?_⟩
  obtain ⟨z1, z2, z3⟩ := c1.2 p hp z
  by_cases e : j = k
  · subst e
    intro _
    obtain ⟨a1, a2, a3⟩ := c2
    refine ⟨h1, a1, a2, ?_, fun i hi => ?_⟩
    · have := (a3 (T 15 m) (by omega)).2
      rw [va_up_self] at this
      exact this
    · have := (a3 i (by omega)).2
      rw [va_up_ne _ _ (by omega)] at this
      rw [z3 i (by omega)]
      exact this
  · exact (hh z1 j (by omega)).u hw hm (by omega) hp hp0 hv c1 z
abbrev hkM (K : jk) (n m p pl k q : Nat) (r45 : Int32) (σ44 : sm_S) : Prop := (r45 = 0 → mp_X12_look_126 (mp_X12_look_15 K n) K σ44) ∧ (¬ r45 = 0 → mp_X11_two σ44 (nI (q + 5)) (fun r48 σ47 => mp_X12_come σ47 (nI m) r48 (fun r50 σ49 => (¬ r50 = 0 → mp_X12_look_128 (mp_X12_look_15 K n) K σ49 (nI m) (nI p) (nI pl) (nI k)) ∧ (r50 = 0 → mp_X12_look_126 (mp_X12_look_15 K n) K σ49))))
/-- the loop over the handlers, both sides -/
theorem j_hands {σ0 μ0 : sm_S} {P2 : sm_S → jk → Prop} {R : Int32 → sm_S → Int32 → sm_S → Prop} {T : Nat → Nat → Nat} {b : Nat → Nat} {m p : Nat} {h0 ty0 mk0 : Nat → Nat} (hw : wf T b) (hm : m < T 0 1) (lk : lkd T b) (hp : inC T m p) (hv0 : tbv T m h0 ty0 mk0)
    (hEnd : ∀ (σ μ : sm_S) (l0 : Nat) (h ty mk : Nat → Nat), hlk σ0 μ0 σ μ T b m p (T 19 m) l0 h0 ty0 mk0 h ty mk → jt (P2 σ) (fun K => mp_X12_look_15 K 1 μ (nI m) (nI p) (nI (p - T 17 m)) (nI (T 19 m))) R)
    (hBad : ∀ (σ μ : sm_S) (x : Nat), fr IVX AVx σ0 σ → fr IVM AVm μ0 μ → x < 8000 → σ.1 34 = nI x → μ.1 10 = nI x → jt (P2 σ) (fun K => K 0 μ) R) :
    ∀ (d k : Nat) (σ μ : sm_S) (l0 : Nat) (h ty mk : Nat → Nat), k + d = T 19 m → hlk σ0 μ0 σ μ T b m p k l0 h0 ty0 mk0 h ty mk → jt (fun K => mp_X8_comeToHandlers_17 (fun σ => P2 σ K) (d + 1) σ (nI p) (nI (p - T 17 m)) (nI k)) (fun K => mp_X12_look_15 K (d + 1) μ (nI m) (nI p) (nI (p - T 17 m)) (nI k)) R := by
  have w4 := hw.2.2.2.1
  have w5 := hw.2.2.2.2.1
  have y := hw.2.2.2.2.2.2.2.2.1 m hm
  have h12 := y.2.2.2.2.2.2.1
  have y8 := y.2.2.2.2.2.2.2.1
  have y9 := y.2.2.2.2.2.2.2.2.1
  have y10 := y.2.2.2.2.2.2.2.2.2.1
  have y11 := y.2.2.2.2.2.2.2.2.2.2.1
  have y12 := y.2.2.2.2.2.2.2.2.2.2.2.1
  have y13 := y.2.2.2.2.2.2.2.2.2.2.2.2.1
  have w2 := hw.2.1
  clear y
  intro d
  induction d with
  | zero =>
    intro k σ μ l0 h ty mk hk hl
    have e : k = T 19 m := by omega
    subst e
    have hb := hl.1.1
    have hLX := hb.1.2.1
    have s30 := hb.2.1
    have r28 := (hb.1.2.2.2.2.2.2.2.2 m hm).2.2.2.2.2.2.2.2.1
    refine jt_x (fun K q => ?_) (hEnd σ μ l0 h ty mk hl)
    unfold mp_X8_comeToHandlers_17 mp_X8_comeToHandlers_171
    simp (disch := (first | ((try simp (disch := omega) only [va_up_self, va_up_ne, ne_eq, reduceCtorEq, Nat.reduceEqDiff, not_false_eq_true, l_0, l_2, l_3, l_4, l_5, l_6, l_7, l_8, l_9, l_10, l_11, l_12, l_13, l_14, l_15, l_16, l_17, l_18, l_19, l_20, l_21, l_22, l_23, l_24, l_25, l_26, l_27, l_28, l_29, l_30, l_31, l_32, l_33, l_34, l_35, l_36, l_37, l_38, l_39, l_40, l_41, l_42, l_43, l_44, l_45, l_46, l_47, l_48, l_49, l_50, l_51, l_52, l_53, l_54, l_55, l_56, l_57, l_58, l_59, l_60, l_61, l_62, l_63, l_64, l_97, l_98, l_99, l_200, l_225, l_232, l_255, l_256, l_700, l_1000, l_1024, l_3375, l_4095, l_8000, l_20000, l_60000, vp_nIs, zz0, zz1, e10, nI_leI, nI_ltI, nI_eq, nI_1, nI_1a, nI_add, nI_sub, nI_sub1, pk_mul, nI_clamp, nI_le1, nI_le1', nI_lt1, nI_lt1', nI_eq1, nI_eqm, m1_eqN, m1_le, m1_lt, m1_leN, m1_ltN, nI_am, not_true_eq_false, not_false_eq_true, oN_eqm, s30, r28, lx28 hLX]) <;> omega) | fail)) only [↓numW, ↓zb_t, ↓zb_f, ↓zb_tt, ↓zb_ff, ↓zb_i, ↓zb_z0, ↓zb_z1, ↓zb_z, ↓zb_l, ↓zb_v, vi32, vi64, true_and, pk_us, Int32.add_zero, Nat.add_sub_cancel, nI_add, nI_1, nI_1a, nI_clamp, k7, k7', k8, k8', k12, k12', k15, k15', k16, k16', nI_sub1, va_up_self, va_up_ne, ne_eq, reduceCtorEq, Nat.reduceEqDiff, not_false_eq_true, s30, r28, lx28 hLX]
    exact q
  | succ d ih =>
    intro k σ μ l0 h ty mk hkd hl
    have hk : k < T 19 m := by omega
    obtain ⟨hv, i10, ht, hP, fx, fm, hp0, hh⟩ := hl
    have hv' := hv
    obtain ⟨v1, v2, v3, v4, v5, v6, v7, v8, v9, v10⟩ := hv'
    have hLX := v1.1.2.1
    have hLM := v2.1.2.1
    have s30 := v1.2.1
    obtain ⟨-, -, -, -, r24, r25, r26, r27, r28, r29, -⟩ := v1.1.2.2.2.2.2.2.2.2 m hm
    obtain ⟨-, -, -, -, q15, q16, q17, q18, q19, q20, -⟩ := v2.1.2.2.2.2.2.2.2 m hm
    have hbt : ∀ j, b j < 256 := v1.1.1.2.2.2.2.1
    obtain ⟨q, eq⟩ : ∃ q, q = T 20 m + 7 * k := ⟨_, rfl⟩
    have p1 := pr_lt hbt q
    have p2 := pr_lt hbt (q + 2)
    have p3 := pr_lt hbt (q + 5)
    obtain ⟨pa, pb⟩ := hp
    obtain ⟨pl, epl⟩ : ∃ pl, pl = p - T 17 m := ⟨_, rfl⟩
    rw [← epl] at ih hEnd ⊢
    have hqb := y13 k hk
    rw [← eq] at hqb
    by_cases hc : pr b q ≤ pl ∧ pl < pr b (q + 2)
    · -- the handler is for p
      obtain ⟨t1, t2, t3, t4, t5, t6, t7, t8⟩ := v9 p pa pb
      have hok := ((v10 p ⟨pa, pb⟩).2.2.2 hp0).2
      obtain ⟨rM, μ1, aM, fM1, gM1⟩ := eM_tup v2 hw hm ⟨pa, pb⟩ v4.1 v4.2.1 t2 hp0 t3 (fun i hi => ⟨(t8 hp0 i hi).2.1, (t8 hp0 i hi).2.2.1⟩)
      have aM : ∀ F : sm_S → Prop, F μ1 → mp_X12_takeUp μ (nI m) (nI p) F := fun F z => aM (fun _ σ => F σ) z
      have l3 : μ1.2.2.1 3 = 8000 := (fM1.ln 3).trans v2.1.1.2.2.1
      have u3 : (sm_i μ1 9 0).2.2.2.1 3 (q + 4) = nI (b (q + 4)) := by
        show μ1.2.2.2.1 3 (q + 4) = _
        rw [fM1.row (r := 3) (fun j => (by unfold AvM; omega))]; exact v2.1.1.2.2.2.2 (q + 4) (by omega)
      have g0 : gM (sm_i μ1 9 0) T m 0 (fun i => ty (12 * p + i)) := ⟨rfl, Nat.zero_le _, fun i hi => gM1.2.2 i (by omega)⟩
      have f0 : fr IvM AvM μ (sm_i μ1 9 0) := fM1.i (by unfold IvM; omega)
      obtain ⟨rP, μ2, aP, fP, cP⟩ := eM_push (v := 1 + b (q + 4)) (v2.v f0) hw hm g0 (nI_1a _) (Or.inl (by omega))
      have fP' : fr IvM AvM μ μ2 := f0.t fP
      have k10 : μ2.1 10 = nI p := by rw [fP'.2.2.2.1 10 (by unfold IvM; omega)]; exact i10
      have runM : ∀ (K : jk), hkM K (d + 1) m p pl k q rP μ2 → mp_X12_look_15 K (d + 1 + 1) μ (nI m) (nI p) (nI pl) (nI k) := fun K z => by
        have z2 := aP (hkM K (d + 1) m p pl k q) z
        rw [← u3] at z2
        unfold mp_X12_look_15
        simp (disch := (first | ((try simp (disch := omega) only [va_up_self, va_up_ne, ne_eq, reduceCtorEq, Nat.reduceEqDiff, not_false_eq_true, l_0, l_2, l_3, l_4, l_5, l_6, l_7, l_8, l_9, l_10, l_11, l_12, l_13, l_14, l_15, l_16, l_17, l_18, l_19, l_20, l_21, l_22, l_23, l_24, l_25, l_26, l_27, l_28, l_29, l_30, l_31, l_32, l_33, l_34, l_35, l_36, l_37, l_38, l_39, l_40, l_41, l_42, l_43, l_44, l_45, l_46, l_47, l_48, l_49, l_50, l_51, l_52, l_53, l_54, l_55, l_56, l_57, l_58, l_59, l_60, l_61, l_62, l_63, l_64, l_97, l_98, l_99, l_200, l_225, l_232, l_255, l_256, l_700, l_1000, l_1024, l_3375, l_4095, l_8000, l_20000, l_60000, vp_nIs, zz0, zz1, e10, nI_leI, nI_ltI, nI_eq, nI_1, nI_1a, nI_add, nI_sub, nI_sub1, pk_mul, nI_clamp, nI_le1, nI_le1', nI_lt1, nI_lt1', nI_eq1, nI_eqm, m1_eqN, m1_le, m1_lt, m1_leN, m1_ltN, nI_am, not_true_eq_false, not_false_eq_true, oN_eqm, q19, q20, lm19 hLM, lm20 hLM]) <;> omega) | fail)) only [↓numW, ↓zb_t, ↓zb_f, ↓zb_tt, ↓zb_ff, ↓zb_i, ↓zb_z0, ↓zb_z1, ↓zb_z, ↓zb_l, ↓zb_v, vi32, vi64, true_and, pk_us, Int32.add_zero, Nat.add_sub_cancel, nI_add, nI_1, nI_1a, nI_clamp, k7, k7', k8, k8', k12, k12', k15, k15', k16, k16', nI_sub1, va_up_self, va_up_ne, ne_eq, reduceCtorEq, Nat.reduceEqDiff, not_false_eq_true, q19, q20, lm19 hLM, lm20 hLM]
        rw [← eq]
        refine w_twoP v2.1.1 (by omega) ?_
        simp (disch := (first | ((try simp (disch := omega) only [va_up_self, va_up_ne, ne_eq, reduceCtorEq, Nat.reduceEqDiff, not_false_eq_true, l_0, l_2, l_3, l_4, l_5, l_6, l_7, l_8, l_9, l_10, l_11, l_12, l_13, l_14, l_15, l_16, l_17, l_18, l_19, l_20, l_21, l_22, l_23, l_24, l_25, l_26, l_27, l_28, l_29, l_30, l_31, l_32, l_33, l_34, l_35, l_36, l_37, l_38, l_39, l_40, l_41, l_42, l_43, l_44, l_45, l_46, l_47, l_48, l_49, l_50, l_51, l_52, l_53, l_54, l_55, l_56, l_57, l_58, l_59, l_60, l_61, l_62, l_63, l_64, l_97, l_98, l_99, l_200, l_225, l_232, l_255, l_256, l_700, l_1000, l_1024, l_3375, l_4095, l_8000, l_20000, l_60000, vp_nIs, zz0, zz1, e10, nI_leI, nI_ltI, nI_eq, nI_1, nI_1a, nI_add, nI_sub, nI_sub1, pk_mul, nI_clamp, nI_le1, nI_le1', nI_lt1, nI_lt1', nI_eq1, nI_eqm, m1_eqN, m1_le, m1_lt, m1_leN, m1_ltN, nI_am, not_true_eq_false, not_false_eq_true, oN_eqm, k_p2]) <;> omega) | fail)) only [↓numW, ↓zb_t, ↓zb_f, ↓zb_tt, ↓zb_ff, ↓zb_i, ↓zb_z0, ↓zb_z1, ↓zb_z, ↓zb_l, ↓zb_v, vi32, vi64, true_and, pk_us, Int32.add_zero, Nat.add_sub_cancel, nI_add, nI_1, nI_1a, nI_clamp, k7, k7', k8, k8', k12, k12', k15, k15', k16, k16', nI_sub1, va_up_self, va_up_ne, ne_eq, reduceCtorEq, Nat.reduceEqDiff, not_false_eq_true, k_p2]
        refine w_twoP v2.1.1 (by omega) ?_
        simp (disch := (first | ((try simp (disch := omega) only [va_up_self, va_up_ne, ne_eq, reduceCtorEq, Nat.reduceEqDiff, not_false_eq_true, l_0, l_2, l_3, l_4, l_5, l_6, l_7, l_8, l_9, l_10, l_11, l_12, l_13, l_14, l_15, l_16, l_17, l_18, l_19, l_20, l_21, l_22, l_23, l_24, l_25, l_26, l_27, l_28, l_29, l_30, l_31, l_32, l_33, l_34, l_35, l_36, l_37, l_38, l_39, l_40, l_41, l_42, l_43, l_44, l_45, l_46, l_47, l_48, l_49, l_50, l_51, l_52, l_53, l_54, l_55, l_56, l_57, l_58, l_59, l_60, l_61, l_62, l_63, l_64, l_97, l_98, l_99, l_200, l_225, l_232, l_255, l_256, l_700, l_1000, l_1024, l_3375, l_4095, l_8000, l_20000, l_60000, vp_nIs, zz0, zz1, e10, nI_leI, nI_ltI, nI_eq, nI_1, nI_1a, nI_add, nI_sub, nI_sub1, pk_mul, nI_clamp, nI_le1, nI_le1', nI_lt1, nI_lt1', nI_eq1, nI_eqm, m1_eqN, m1_le, m1_lt, m1_leN, m1_ltN, nI_am, not_true_eq_false, not_false_eq_true, oN_eqm, k_p5]) <;> omega) | fail)) only [↓numW, ↓zb_t, ↓zb_f, ↓zb_tt, ↓zb_ff, ↓zb_i, ↓zb_z0, ↓zb_z1, ↓zb_z, ↓zb_l, ↓zb_v, vi32, vi64, true_and, pk_us, Int32.add_zero, Nat.add_sub_cancel, nI_add, nI_1, nI_1a, nI_clamp, k7, k7', k8, k8', k12, k12', k15, k15', k16, k16', nI_sub1, va_up_self, va_up_ne, ne_eq, reduceCtorEq, Nat.reduceEqDiff, not_false_eq_true, k_p5]
        refine aM _ ?_
        rw [show nI q + 4 = nI (q + 4) from nI_add q 4]
        simp (disch := (first | ((try simp (disch := omega) only [va_up_self, va_up_ne, ne_eq, reduceCtorEq, Nat.reduceEqDiff, not_false_eq_true, l_0, l_2, l_3, l_4, l_5, l_6, l_7, l_8, l_9, l_10, l_11, l_12, l_13, l_14, l_15, l_16, l_17, l_18, l_19, l_20, l_21, l_22, l_23, l_24, l_25, l_26, l_27, l_28, l_29, l_30, l_31, l_32, l_33, l_34, l_35, l_36, l_37, l_38, l_39, l_40, l_41, l_42, l_43, l_44, l_45, l_46, l_47, l_48, l_49, l_50, l_51, l_52, l_53, l_54, l_55, l_56, l_57, l_58, l_59, l_60, l_61, l_62, l_63, l_64, l_97, l_98, l_99, l_200, l_225, l_232, l_255, l_256, l_700, l_1000, l_1024, l_3375, l_4095, l_8000, l_20000, l_60000, vp_nIs, zz0, zz1, e10, nI_leI, nI_ltI, nI_eq, nI_1, nI_1a, nI_add, nI_sub, nI_sub1, pk_mul, nI_clamp, nI_le1, nI_le1', nI_lt1, nI_lt1', nI_eq1, nI_eqm, m1_eqN, m1_le, m1_lt, m1_leN, m1_ltN, nI_am, not_true_eq_false, not_false_eq_true, oN_eqm, l3]) <;> omega) | fail)) only [↓numW, ↓zb_t, ↓zb_f, ↓zb_tt, ↓zb_ff, ↓zb_i, ↓zb_z0, ↓zb_z1, ↓zb_z, ↓zb_l, ↓zb_v, vi32, vi64, true_and, pk_us, Int32.add_zero, Nat.add_sub_cancel, nI_add, nI_1, nI_1a, nI_clamp, k7, k7', k8, k8', k12, k12', k15, k15', k16, k16', nI_sub1, va_up_self, va_up_ne, ne_eq, reduceCtorEq, Nat.reduceEqDiff, not_false_eq_true, l3]
        exact z2
      have runX : ∀ (K : jk), ((¬ T 16 m = 0 → mp_X8_takeWhatStands σ (nI p) (fun σ15 => mp_X2_at σ15 (nI (q + 4)) (fun r17 σ16 => vp_in (σ15.1 31) (σ16.2.2.1 35) ∧ vp_in (σ16.1 30) (σ16.2.2.1 26) ∧ mp_X2_pair (sm_r σ16 35 (upd (σ16.2.2.2.1 35) (σ15.1 31).toNatClampNeg (r17 + 1))) (nI (q + 5)) (fun r22 σ21 => mp_X8_come σ21 (((σ16.2.2.2.1 26) (σ16.1 30).toNatClampNeg) + r22) 1 (fun σ23 => mp_X8_comeToHandlers_17 (fun σ => P2 σ K) (d + 1) σ23 (nI p) (nI pl) (nI (k + 1))))))) ∧ (T 16 m = 0 → P2 (sm_i σ 34 (nI p)) K)) → mp_X8_comeToHandlers_17 (fun σ => P2 σ K) (d + 1 + 1) σ (nI p) (nI pl) (nI k) := fun K z => by
        unfold mp_X8_comeToHandlers_17 mp_X8_comeToHandlers_165
        simp (disch := (first | ((try simp (disch := omega) only [va_up_self, va_up_ne, ne_eq, reduceCtorEq, Nat.reduceEqDiff, not_false_eq_true, l_0, l_2, l_3, l_4, l_5, l_6, l_7, l_8, l_9, l_10, l_11, l_12, l_13, l_14, l_15, l_16, l_17, l_18, l_19, l_20, l_21, l_22, l_23, l_24, l_25, l_26, l_27, l_28, l_29, l_30, l_31, l_32, l_33, l_34, l_35, l_36, l_37, l_38, l_39, l_40, l_41, l_42, l_43, l_44, l_45, l_46, l_47, l_48, l_49, l_50, l_51, l_52, l_53, l_54, l_55, l_56, l_57, l_58, l_59, l_60, l_61, l_62, l_63, l_64, l_97, l_98, l_99, l_200, l_225, l_232, l_255, l_256, l_700, l_1000, l_1024, l_3375, l_4095, l_8000, l_20000, l_60000, vp_nIs, zz0, zz1, e10, nI_leI, nI_ltI, nI_eq, nI_1, nI_1a, nI_add, nI_sub, nI_sub1, pk_mul, nI_clamp, nI_le1, nI_le1', nI_lt1, nI_lt1', nI_eq1, nI_eqm, m1_eqN, m1_le, m1_lt, m1_leN, m1_ltN, nI_am, not_true_eq_false, not_false_eq_true, oN_eqm, s30, r28, r29, v8, lx28 hLX, lx29 hLX, ↓zc1, ↓zc2]) <;> omega) | fail)) only [↓numW, ↓zb_t, ↓zb_f, ↓zb_tt, ↓zb_ff, ↓zb_i, ↓zb_z0, ↓zb_z1, ↓zb_z, ↓zb_l, ↓zb_v, vi32, vi64, true_and, pk_us, Int32.add_zero, Nat.add_sub_cancel, nI_add, nI_1, nI_1a, nI_clamp, k7, k7', k8, k8', k12, k12', k15, k15', k16, k16', nI_sub1, va_up_self, va_up_ne, ne_eq, reduceCtorEq, Nat.reduceEqDiff, not_false_eq_true, s30, r28, r29, v8, lx28 hLX, lx29 hLX, ↓zc1, ↓zc2]
        rw [← eq]
        refine w_pairP v1.1.1 (by omega) ?_
        simp (disch := (first | ((try simp (disch := omega) only [va_up_self, va_up_ne, ne_eq, reduceCtorEq, Nat.reduceEqDiff, not_false_eq_true, l_0, l_2, l_3, l_4, l_5, l_6, l_7, l_8, l_9, l_10, l_11, l_12, l_13, l_14, l_15, l_16, l_17, l_18, l_19, l_20, l_21, l_22, l_23, l_24, l_25, l_26, l_27, l_28, l_29, l_30, l_31, l_32, l_33, l_34, l_35, l_36, l_37, l_38, l_39, l_40, l_41, l_42, l_43, l_44, l_45, l_46, l_47, l_48, l_49, l_50, l_51, l_52, l_53, l_54, l_55, l_56, l_57, l_58, l_59, l_60, l_61, l_62, l_63, l_64, l_97, l_98, l_99, l_200, l_225, l_232, l_255, l_256, l_700, l_1000, l_1024, l_3375, l_4095, l_8000, l_20000, l_60000, vp_nIs, zz0, zz1, e10, nI_leI, nI_ltI, nI_eq, nI_1, nI_1a, nI_add, nI_sub, nI_sub1, pk_mul, nI_clamp, nI_le1, nI_le1', nI_lt1, nI_lt1', nI_eq1, nI_eqm, m1_eqN, m1_le, m1_lt, m1_leN, m1_ltN, nI_am, not_true_eq_false, not_false_eq_true, oN_eqm, k_p2]) <;> omega) | fail)) only [↓numW, ↓zb_t, ↓zb_f, ↓zb_tt, ↓zb_ff, ↓zb_i, ↓zb_z0, ↓zb_z1, ↓zb_z, ↓zb_l, ↓zb_v, vi32, vi64, true_and, pk_us, Int32.add_zero, Nat.add_sub_cancel, nI_add, nI_1, nI_1a, nI_clamp, k7, k7', k8, k8', k12, k12', k15, k15', k16, k16', nI_sub1, va_up_self, va_up_ne, ne_eq, reduceCtorEq, Nat.reduceEqDiff, not_false_eq_true, k_p2]
        refine w_pairP v1.1.1 (by omega) ?_
        rw [show nI q + 4 = nI (q + 4) from nI_add q 4]
        by_cases e0 : T 16 m = 0
        · have z := z.2 e0
          simp (disch := (first | ((try simp (disch := omega) only [va_up_self, va_up_ne, ne_eq, reduceCtorEq, Nat.reduceEqDiff, not_false_eq_true, l_0, l_2, l_3, l_4, l_5, l_6, l_7, l_8, l_9, l_10, l_11, l_12, l_13, l_14, l_15, l_16, l_17, l_18, l_19, l_20, l_21, l_22, l_23, l_24, l_25, l_26, l_27, l_28, l_29, l_30, l_31, l_32, l_33, l_34, l_35, l_36, l_37, l_38, l_39, l_40, l_41, l_42, l_43, l_44, l_45, l_46, l_47, l_48, l_49, l_50, l_51, l_52, l_53, l_54, l_55, l_56, l_57, l_58, l_59, l_60, l_61, l_62, l_63, l_64, l_97, l_98, l_99, l_200, l_225, l_232, l_255, l_256, l_700, l_1000, l_1024, l_3375, l_4095, l_8000, l_20000, l_60000, vp_nIs, zz0, zz1, e10, nI_leI, nI_ltI, nI_eq, nI_1, nI_1a, nI_add, nI_sub, nI_sub1, pk_mul, nI_clamp, nI_le1, nI_le1', nI_lt1, nI_lt1', nI_eq1, nI_eqm, m1_eqN, m1_le, m1_lt, m1_leN, m1_ltN, nI_am, not_true_eq_false, not_false_eq_true, oN_eqm, s30, r25, lx25 hLX]) <;> omega) | fail)) only [↓numW, ↓zb_t, ↓zb_f, ↓zb_tt, ↓zb_ff, ↓zb_i, ↓zb_z0, ↓zb_z1, ↓zb_z, ↓zb_l, ↓zb_v, vi32, vi64, true_and, pk_us, Int32.add_zero, Nat.add_sub_cancel, nI_add, nI_1, nI_1a, nI_clamp, k7, k7', k8, k8', k12, k12', k15, k15', k16, k16', nI_sub1, va_up_self, va_up_ne, ne_eq, reduceCtorEq, Nat.reduceEqDiff, not_false_eq_true, s30, r25, lx25 hLX]
          exact z
        · have z := z.1 e0
          simp (disch := (first | ((try simp (disch := omega) only [va_up_self, va_up_ne, ne_eq, reduceCtorEq, Nat.reduceEqDiff, not_false_eq_true, l_0, l_2, l_3, l_4, l_5, l_6, l_7, l_8, l_9, l_10, l_11, l_12, l_13, l_14, l_15, l_16, l_17, l_18, l_19, l_20, l_21, l_22, l_23, l_24, l_25, l_26, l_27, l_28, l_29, l_30, l_31, l_32, l_33, l_34, l_35, l_36, l_37, l_38, l_39, l_40, l_41, l_42, l_43, l_44, l_45, l_46, l_47, l_48, l_49, l_50, l_51, l_52, l_53, l_54, l_55, l_56, l_57, l_58, l_59, l_60, l_61, l_62, l_63, l_64, l_97, l_98, l_99, l_200, l_225, l_232, l_255, l_256, l_700, l_1000, l_1024, l_3375, l_4095, l_8000, l_20000, l_60000, vp_nIs, zz0, zz1, e10, nI_leI, nI_ltI, nI_eq, nI_1, nI_1a, nI_add, nI_sub, nI_sub1, pk_mul, nI_clamp, nI_le1, nI_le1', nI_lt1, nI_lt1', nI_eq1, nI_eqm, m1_eqN, m1_le, m1_lt, m1_leN, m1_ltN, nI_am, not_true_eq_false, not_false_eq_true, oN_eqm, s30, r25, lx25 hLX, k_p5]) <;> omega) | fail)) only [↓numW, ↓zb_t, ↓zb_f, ↓zb_tt, ↓zb_ff, ↓zb_i, ↓zb_z0, ↓zb_z1, ↓zb_z, ↓zb_l, ↓zb_v, vi32, vi64, true_and, pk_us, Int32.add_zero, Nat.add_sub_cancel, nI_add, nI_1, nI_1a, nI_clamp, k7, k7', k8, k8', k12, k12', k15, k15', k16, k16', nI_sub1, va_up_self, va_up_ne, ne_eq, reduceCtorEq, Nat.reduceEqDiff, not_false_eq_true, s30, r25, lx25 hLX, k_p5]
          exact z
      by_cases h1 : 1 ≤ T 16 m
      · -- it comes
        obtain ⟨rX, σ1, aX, fX1, s29, hX1⟩ := e_tws v1 hw hm ⟨pa, pb⟩ v3 t1 hp0 t3 (fun i hi => (t8 hp0 i hi).1)
        have aX : ∀ F : sm_S → Prop, F σ1 → mp_X8_takeWhatStands σ (nI p) F := fun F z => aX (fun _ σ => F σ) z
        rcases cP with ⟨-, erP, gP⟩ | ⟨cP, -⟩
        · have b1 := v1.v fX1
          have s31' := b1.2.2.1
          have s30' := b1.2.1
          have k35 := b1.2.2.2
          have fX2 : fr IvX AvX σ (sm_r σ1 35 (upd (σ1.2.2.2.1 35) (T 15 m) (nI (b (q + 4) + 1)))) := fX1.u rfl (by unfold AvX; omega)
          have hv2 := hv.v fX2 fP'
          have b2 := hv2.1
          have r26' : σ1.2.2.2.1 26 m = nI (T 17 m) := (b1.1.2.2.2.2.2.2.2.2 m hm).2.2.2.2.2.2.1
          have hLX2 := b1.1.2.1
          obtain ⟨ga, gb⟩ := lk.h hm hk
          rw [← eq] at ga gb
          have ok1 : okw T (T 15 m) 1 (va_up (fun i => ty (12 * p + i)) (T 15 m) (b (q + 4) + 1)) := fun i hi => by
            by_cases e : i = T 15 m
            · rw [e, va_up_self]; exact ⟨Or.inl (by omega), fun _ => by omega⟩
            · rw [va_up_ne _ _ e]; exact ⟨(hok i (by omega)).1, fun z => by omega⟩
          have jc := j_come (a := pr b (q + 5)) hw hm rfl ⟨by omega, by omega⟩ gb hv2 h1 (w := va_up (fun i => ty (12 * p + i)) (T 15 m) (b (q + 4) + 1)) (fun i hi => by
            show va_up σ1.2.2.2.1 35 (upd (σ1.2.2.2.1 35) (T 15 m) (nI (b (q + 4) + 1))) 35 i = _
            rw [va_up_self]
            by_cases e : i = T 15 m
            · rw [e, va_up_self, pk_us]
            · rw [va_up_ne _ _ e, pk_un e]; exact hX1 i (by omega)) (by
            have := gP
            rw [Nat.zero_add, Nat.add_zero, Nat.add_comm 1 (b (q + 4))] at this
            exact this) ok1
          obtain ⟨rj, σ3, rj', μ3, aj, aj', jr⟩ := jc
          have aj : ∀ F : sm_S → Prop, F σ3 → mp_X8_come (sm_r σ1 35 (upd (σ1.2.2.2.1 35) (T 15 m) (nI (b (q + 4) + 1)))) (nI (T 17 m + pr b (q + 5))) 1 F := fun F z => aj (fun _ σ => F σ) z
          have goX : ∀ K : jk, mp_X8_comeToHandlers_17 (fun σ => P2 σ K) (d + 1) σ3 (nI p) (nI pl) (nI (k + 1)) → mp_X8_comeToHandlers_17 (fun σ => P2 σ K) (d + 1 + 1) σ (nI p) (nI pl) (nI k) := fun K z => by
            refine runX K ⟨fun _ => ?_, fun e => absurd e (by omega)⟩
            have z2 := aj (fun σ => mp_X8_comeToHandlers_17 (fun σ => P2 σ K) (d + 1) σ (nI p) (nI pl) (nI (k + 1))) z
            refine aX _ ?_
            refine w_at b1.1.1 (by omega) (fun _ => ?_) (fun z => absurd z (by omega))
            simp (disch := (first | ((try simp (disch := omega) only [va_up_self, va_up_ne, ne_eq, reduceCtorEq, Nat.reduceEqDiff, not_false_eq_true, l_0, l_2, l_3, l_4, l_5, l_6, l_7, l_8, l_9, l_10, l_11, l_12, l_13, l_14, l_15, l_16, l_17, l_18, l_19, l_20, l_21, l_22, l_23, l_24, l_25, l_26, l_27, l_28, l_29, l_30, l_31, l_32, l_33, l_34, l_35, l_36, l_37, l_38, l_39, l_40, l_41, l_42, l_43, l_44, l_45, l_46, l_47, l_48, l_49, l_50, l_51, l_52, l_53, l_54, l_55, l_56, l_57, l_58, l_59, l_60, l_61, l_62, l_63, l_64, l_97, l_98, l_99, l_200, l_225, l_232, l_255, l_256, l_700, l_1000, l_1024, l_3375, l_4095, l_8000, l_20000, l_60000, vp_nIs, zz0, zz1, e10, nI_leI, nI_ltI, nI_eq, nI_1, nI_1a, nI_add, nI_sub, nI_sub1, pk_mul, nI_clamp, nI_le1, nI_le1', nI_lt1, nI_lt1', nI_eq1, nI_eqm, m1_eqN, m1_le, m1_lt, m1_leN, m1_ltN, nI_am, not_true_eq_false, not_false_eq_true, oN_eqm, s31', k35, s30', r26', lx26 hLX2]) <;> omega) | fail)) only [↓numW, ↓zb_t, ↓zb_f, ↓zb_tt, ↓zb_ff, ↓zb_i, ↓zb_z0, ↓zb_z1, ↓zb_z, ↓zb_l, ↓zb_v, vi32, vi64, true_and, pk_us, Int32.add_zero, Nat.add_sub_cancel, nI_add, nI_1, nI_1a, nI_clamp, k7, k7', k8, k8', k12, k12', k15, k15', k16, k16', nI_sub1, va_up_self, va_up_ne, ne_eq, reduceCtorEq, Nat.reduceEqDiff, not_false_eq_true, s31', k35, s30', r26', lx26 hLX2]
            refine w_pairP b2.1.1 (by omega) ?_
            simp (disch := (first | ((try simp (disch := omega) only [va_up_self, va_up_ne, ne_eq, reduceCtorEq, Nat.reduceEqDiff, not_false_eq_true, l_0, l_2, l_3, l_4, l_5, l_6, l_7, l_8, l_9, l_10, l_11, l_12, l_13, l_14, l_15, l_16, l_17, l_18, l_19, l_20, l_21, l_22, l_23, l_24, l_25, l_26, l_27, l_28, l_29, l_30, l_31, l_32, l_33, l_34, l_35, l_36, l_37, l_38, l_39, l_40, l_41, l_42, l_43, l_44, l_45, l_46, l_47, l_48, l_49, l_50, l_51, l_52, l_53, l_54, l_55, l_56, l_57, l_58, l_59, l_60, l_61, l_62, l_63, l_64, l_97, l_98, l_99, l_200, l_225, l_232, l_255, l_256, l_700, l_1000, l_1024, l_3375, l_4095, l_8000, l_20000, l_60000, vp_nIs, zz0, zz1, e10, nI_leI, nI_ltI, nI_eq, nI_1, nI_1a, nI_add, nI_sub, nI_sub1, pk_mul, nI_clamp, nI_le1, nI_le1', nI_lt1, nI_lt1', nI_eq1, nI_eqm, m1_eqN, m1_le, m1_lt, m1_leN, m1_ltN, nI_am, not_true_eq_false, not_false_eq_true, oN_eqm, s31']) <;> omega) | fail)) only [↓numW, ↓zb_t, ↓zb_f, ↓zb_tt, ↓zb_ff, ↓zb_i, ↓zb_z0, ↓zb_z1, ↓zb_z, ↓zb_l, ↓zb_v, vi32, vi64, true_and, pk_us, Int32.add_zero, Nat.add_sub_cancel, nI_add, nI_1, nI_1a, nI_clamp, k7, k7', k8, k8', k12, k12', k15, k15', k16, k16', nI_sub1, va_up_self, va_up_ne, ne_eq, reduceCtorEq, Nat.reduceEqDiff, not_false_eq_true, s31']
            exact z2
          have goM : ∀ K : jk, ((¬ rj' = 0 → (mp_X12_look_128 (mp_X12_look_15 K (d + 1)) K μ3 (nI m) (nI p) (nI pl) (nI k))) ∧ (rj' = 0 → (mp_X12_look_126 (mp_X12_look_15 K (d + 1)) K μ3))) → mp_X12_look_15 K (d + 1 + 1) μ (nI m) (nI p) (nI pl) (nI k) := fun K z => by
            refine runM K ⟨fun e => absurd (e.symm.trans erP) (by decide), fun _ => ?_⟩
            refine w_twoP hv2.2.1.1.1 (by omega) ?_
            exact aj' _ z
          rcases jr with ⟨e1, e10, f3, g3, l1, h3, ty3, mk3, cc, vv⟩ | ⟨e1, -, f3, g3, e34, e10⟩
          · -- well
            have kc := hlk_c hw hm lk ⟨pa, pb⟩ hk hv0 v10 ht hP hp0 hh h1 (by rw [eq] at cc; exact cc)
            have nx := ih (k + 1) σ3 μ3 l1 h3 ty3 mk3 (by omega) ⟨vv, e10.trans k10, kc.1, kc.2.1, fx.t ((frX_v fX2).t (frX_w f3)), fm.t ((frM_v fP').t (frM_w g3)), kc.2.2.1, kc.2.2.2⟩
            refine jt_x (fun K z => goX K z) (jt_m (fun K z => goM K ⟨fun _ => ?_, fun e => absurd (e.symm.trans e1) (by decide)⟩) nx)
            unfold mp_X12_look_128
            simp (disch := (first | ((try simp (disch := omega) only [va_up_self, va_up_ne, ne_eq, reduceCtorEq, Nat.reduceEqDiff, not_false_eq_true, l_0, l_2, l_3, l_4, l_5, l_6, l_7, l_8, l_9, l_10, l_11, l_12, l_13, l_14, l_15, l_16, l_17, l_18, l_19, l_20, l_21, l_22, l_23, l_24, l_25, l_26, l_27, l_28, l_29, l_30, l_31, l_32, l_33, l_34, l_35, l_36, l_37, l_38, l_39, l_40, l_41, l_42, l_43, l_44, l_45, l_46, l_47, l_48, l_49, l_50, l_51, l_52, l_53, l_54, l_55, l_56, l_57, l_58, l_59, l_60, l_61, l_62, l_63, l_64, l_97, l_98, l_99, l_200, l_225, l_232, l_255, l_256, l_700, l_1000, l_1024, l_3375, l_4095, l_8000, l_20000, l_60000, vp_nIs, zz0, zz1, e10, nI_leI, nI_ltI, nI_eq, nI_1, nI_1a, nI_add, nI_sub, nI_sub1, pk_mul, nI_clamp, nI_le1, nI_le1', nI_lt1, nI_lt1', nI_eq1, nI_eqm, m1_eqN, m1_le, m1_lt, m1_leN, m1_ltN, nI_am, not_true_eq_false, not_false_eq_true, oN_eqm, e1]) <;> omega) | fail)) only [↓numW, ↓zb_t, ↓zb_f, ↓zb_tt, ↓zb_ff, ↓zb_i, ↓zb_z0, ↓zb_z1, ↓zb_z, ↓zb_l, ↓zb_v, vi32, vi64, true_and, pk_us, Int32.add_zero, Nat.add_sub_cancel, nI_add, nI_1, nI_1a, nI_clamp, k7, k7', k8, k8', k12, k12', k15, k15', k16, k16', nI_sub1, va_up_self, va_up_ne, ne_eq, reduceCtorEq, Nat.reduceEqDiff, not_false_eq_true, e1]
            exact z
          · -- not
            have b3 : imX σ3 T b := b2.1.f f3 (fun k q => by unfold IwX; omega) (fun r j a c d => by unfold AwX; omega)
            have s30'' : σ3.1 30 = nI m := by rw [f3.2.2.2.1 30 (by unfold IwX; omega)]; exact b2.2.1
            have r28' := (b3.2.2.2.2.2.2.2.2 m hm).2.2.2.2.2.2.2.2.1
            have hLX3 := b3.2.1
            refine jt_x (fun K z => goX K ?_) (jt_m (fun K z => goM K ⟨fun e => absurd e1 e, fun _ => z⟩) (hBad σ3 μ3 (T 17 m + pr b (q + 5)) ((frX_x (fx.t (frX_v fX2))).t (frX_b f3)) ((frM_x (fm.t (frM_v fP'))).t (frM_b g3)) (by omega) e34 e10))
            unfold mp_X8_comeToHandlers_17 mp_X8_comeToHandlers_171
            by_cases e : T 19 m ≤ k + 1
            · simp (disch := (first | ((try simp (disch := omega) only [va_up_self, va_up_ne, ne_eq, reduceCtorEq, Nat.reduceEqDiff, not_false_eq_true, l_0, l_2, l_3, l_4, l_5, l_6, l_7, l_8, l_9, l_10, l_11, l_12, l_13, l_14, l_15, l_16, l_17, l_18, l_19, l_20, l_21, l_22, l_23, l_24, l_25, l_26, l_27, l_28, l_29, l_30, l_31, l_32, l_33, l_34, l_35, l_36, l_37, l_38, l_39, l_40, l_41, l_42, l_43, l_44, l_45, l_46, l_47, l_48, l_49, l_50, l_51, l_52, l_53, l_54, l_55, l_56, l_57, l_58, l_59, l_60, l_61, l_62, l_63, l_64, l_97, l_98, l_99, l_200, l_225, l_232, l_255, l_256, l_700, l_1000, l_1024, l_3375, l_4095, l_8000, l_20000, l_60000, vp_nIs, zz0, zz1, e10, nI_leI, nI_ltI, nI_eq, nI_1, nI_1a, nI_add, nI_sub, nI_sub1, pk_mul, nI_clamp, nI_le1, nI_le1', nI_lt1, nI_lt1', nI_eq1, nI_eqm, m1_eqN, m1_le, m1_lt, m1_leN, m1_ltN, nI_am, not_true_eq_false, not_false_eq_true, oN_eqm, s30'', r28', lx28 hLX3]) <;> omega) | fail)) only [↓numW, ↓zb_t, ↓zb_f, ↓zb_tt, ↓zb_ff, ↓zb_i, ↓zb_z0, ↓zb_z1, ↓zb_z, ↓zb_l, ↓zb_v, vi32, vi64, true_and, pk_us, Int32.add_zero, Nat.add_sub_cancel, nI_add, nI_1, nI_1a, nI_clamp, k7, k7', k8, k8', k12, k12', k15, k15', k16, k16', nI_sub1, va_up_self, va_up_ne, ne_eq, reduceCtorEq, Nat.reduceEqDiff, not_false_eq_true, s30'', r28', lx28 hLX3]
              exact z
            · simp (disch := (first | ((try simp (disch := omega) only [va_up_self, va_up_ne, ne_eq, reduceCtorEq, Nat.reduceEqDiff, not_false_eq_true, l_0, l_2, l_3, l_4, l_5, l_6, l_7, l_8, l_9, l_10, l_11, l_12, l_13, l_14, l_15, l_16, l_17, l_18, l_19, l_20, l_21, l_22, l_23, l_24, l_25, l_26, l_27, l_28, l_29, l_30, l_31, l_32, l_33, l_34, l_35, l_36, l_37, l_38, l_39, l_40, l_41, l_42, l_43, l_44, l_45, l_46, l_47, l_48, l_49, l_50, l_51, l_52, l_53, l_54, l_55, l_56, l_57, l_58, l_59, l_60, l_61, l_62, l_63, l_64, l_97, l_98, l_99, l_200, l_225, l_232, l_255, l_256, l_700, l_1000, l_1024, l_3375, l_4095, l_8000, l_20000, l_60000, vp_nIs, zz0, zz1, e10, nI_leI, nI_ltI, nI_eq, nI_1, nI_1a, nI_add, nI_sub, nI_sub1, pk_mul, nI_clamp, nI_le1, nI_le1', nI_lt1, nI_lt1', nI_eq1, nI_eqm, m1_eqN, m1_le, m1_lt, m1_leN, m1_ltN, nI_am, not_true_eq_false, not_false_eq_true, oN_eqm, s30'', r28', e34, lx28 hLX3]) <;> omega) | fail)) only [↓numW, ↓zb_t, ↓zb_f, ↓zb_tt, ↓zb_ff, ↓zb_i, ↓zb_z0, ↓zb_z1, ↓zb_z, ↓zb_l, ↓zb_v, vi32, vi64, true_and, pk_us, Int32.add_zero, Nat.add_sub_cancel, nI_add, nI_1, nI_1a, nI_clamp, k7, k7', k8, k8', k12, k12', k15, k15', k16, k16', nI_sub1, va_up_self, va_up_ne, ne_eq, reduceCtorEq, Nat.reduceEqDiff, not_false_eq_true, s30'', r28', e34, lx28 hLX3]
              exact z
        · exact absurd (by omega) cP
      · have e0 : T 16 m = 0 := by omega
        rcases cP with ⟨cP, -, -⟩ | ⟨-, erP⟩
        · omega
        · refine jt_x (fun K z => runX K ⟨fun e => absurd e0 e, fun _ => z⟩) (jt_m (fun K z => runM K ⟨fun _ => z, fun e => absurd erP e⟩) (hBad (sm_i σ 34 (nI p)) μ2 p ((frX_x fx).i (by unfold IVX; omega)) ((frM_x (fm.t (frM_v fP')))) (by omega) rfl k10))
    · -- the handler is not for p
      have nx := ih (k + 1) σ μ l0 h ty mk (by omega) ⟨hv, i10, ht, hP, fx, fm, hp0, fun z j hj => by
        by_cases e : j = k
        · subst e
          intro cv
          unfold cov at cv
          rw [← eq, ← epl] at cv
          exact absurd cv hc
        · exact hh z j (by omega)⟩
      refine jt_x (fun K z => ?_) (jt_m (fun K z => ?_) nx)
      · unfold mp_X8_comeToHandlers_17 mp_X8_comeToHandlers_165
        simp (disch := (first | ((try simp (disch := omega) only [va_up_self, va_up_ne, ne_eq, reduceCtorEq, Nat.reduceEqDiff, not_false_eq_true, l_0, l_2, l_3, l_4, l_5, l_6, l_7, l_8, l_9, l_10, l_11, l_12, l_13, l_14, l_15, l_16, l_17, l_18, l_19, l_20, l_21, l_22, l_23, l_24, l_25, l_26, l_27, l_28, l_29, l_30, l_31, l_32, l_33, l_34, l_35, l_36, l_37, l_38, l_39, l_40, l_41, l_42, l_43, l_44, l_45, l_46, l_47, l_48, l_49, l_50, l_51, l_52, l_53, l_54, l_55, l_56, l_57, l_58, l_59, l_60, l_61, l_62, l_63, l_64, l_97, l_98, l_99, l_200, l_225, l_232, l_255, l_256, l_700, l_1000, l_1024, l_3375, l_4095, l_8000, l_20000, l_60000, vp_nIs, zz0, zz1, e10, nI_leI, nI_ltI, nI_eq, nI_1, nI_1a, nI_add, nI_sub, nI_sub1, pk_mul, nI_clamp, nI_le1, nI_le1', nI_lt1, nI_lt1', nI_eq1, nI_eqm, m1_eqN, m1_le, m1_lt, m1_leN, m1_ltN, nI_am, not_true_eq_false, not_false_eq_true, oN_eqm, s30, r28, r29, v8, lx28 hLX, lx29 hLX, ↓zc1, ↓zc2]) <;> omega) | fail)) only [↓numW, ↓zb_t, ↓zb_f, ↓zb_tt, ↓zb_ff, ↓zb_i, ↓zb_z0, ↓zb_z1, ↓zb_z, ↓zb_l, ↓zb_v, vi32, vi64, true_and, pk_us, Int32.add_zero, Nat.add_sub_cancel, nI_add, nI_1, nI_1a, nI_clamp, k7, k7', k8, k8', k12, k12', k15, k15', k16, k16', nI_sub1, va_up_self, va_up_ne, ne_eq, reduceCtorEq, Nat.reduceEqDiff, not_false_eq_true, s30, r28, r29, v8, lx28 hLX, lx29 hLX, ↓zc1, ↓zc2]
        rw [← eq]
        refine w_pairP v1.1.1 (by omega) ?_
        by_cases c1 : pl < pr b q
        · simp (disch := (first | ((try simp (disch := omega) only [va_up_self, va_up_ne, ne_eq, reduceCtorEq, Nat.reduceEqDiff, not_false_eq_true, l_0, l_2, l_3, l_4, l_5, l_6, l_7, l_8, l_9, l_10, l_11, l_12, l_13, l_14, l_15, l_16, l_17, l_18, l_19, l_20, l_21, l_22, l_23, l_24, l_25, l_26, l_27, l_28, l_29, l_30, l_31, l_32, l_33, l_34, l_35, l_36, l_37, l_38, l_39, l_40, l_41, l_42, l_43, l_44, l_45, l_46, l_47, l_48, l_49, l_50, l_51, l_52, l_53, l_54, l_55, l_56, l_57, l_58, l_59, l_60, l_61, l_62, l_63, l_64, l_97, l_98, l_99, l_200, l_225, l_232, l_255, l_256, l_700, l_1000, l_1024, l_3375, l_4095, l_8000, l_20000, l_60000, vp_nIs, zz0, zz1, e10, nI_leI, nI_ltI, nI_eq, nI_1, nI_1a, nI_add, nI_sub, nI_sub1, pk_mul, nI_clamp, nI_le1, nI_le1', nI_lt1, nI_lt1', nI_eq1, nI_eqm, m1_eqN, m1_le, m1_lt, m1_leN, m1_ltN, nI_am, not_true_eq_false, not_false_eq_true, oN_eqm, k_p2]) <;> omega) | fail)) only [↓numW, ↓zb_t, ↓zb_f, ↓zb_tt, ↓zb_ff, ↓zb_i, ↓zb_z0, ↓zb_z1, ↓zb_z, ↓zb_l, ↓zb_v, vi32, vi64, true_and, pk_us, Int32.add_zero, Nat.add_sub_cancel, nI_add, nI_1, nI_1a, nI_clamp, k7, k7', k8, k8', k12, k12', k15, k15', k16, k16', nI_sub1, va_up_self, va_up_ne, ne_eq, reduceCtorEq, Nat.reduceEqDiff, not_false_eq_true, k_p2]
          exact z
        · simp (disch := (first | ((try simp (disch := omega) only [va_up_self, va_up_ne, ne_eq, reduceCtorEq, Nat.reduceEqDiff, not_false_eq_true, l_0, l_2, l_3, l_4, l_5, l_6, l_7, l_8, l_9, l_10, l_11, l_12, l_13, l_14, l_15, l_16, l_17, l_18, l_19, l_20, l_21, l_22, l_23, l_24, l_25, l_26, l_27, l_28, l_29, l_30, l_31, l_32, l_33, l_34, l_35, l_36, l_37, l_38, l_39, l_40, l_41, l_42, l_43, l_44, l_45, l_46, l_47, l_48, l_49, l_50, l_51, l_52, l_53, l_54, l_55, l_56, l_57, l_58, l_59, l_60, l_61, l_62, l_63, l_64, l_97, l_98, l_99, l_200, l_225, l_232, l_255, l_256, l_700, l_1000, l_1024, l_3375, l_4095, l_8000, l_20000, l_60000, vp_nIs, zz0, zz1, e10, nI_leI, nI_ltI, nI_eq, nI_1, nI_1a, nI_add, nI_sub, nI_sub1, pk_mul, nI_clamp, nI_le1, nI_le1', nI_lt1, nI_lt1', nI_eq1, nI_eqm, m1_eqN, m1_le, m1_lt, m1_leN, m1_ltN, nI_am, not_true_eq_false, not_false_eq_true, oN_eqm, k_p2]) <;> omega) | fail)) only [↓numW, ↓zb_t, ↓zb_f, ↓zb_tt, ↓zb_ff, ↓zb_i, ↓zb_z0, ↓zb_z1, ↓zb_z, ↓zb_l, ↓zb_v, vi32, vi64, true_and, pk_us, Int32.add_zero, Nat.add_sub_cancel, nI_add, nI_1, nI_1a, nI_clamp, k7, k7', k8, k8', k12, k12', k15, k15', k16, k16', nI_sub1, va_up_self, va_up_ne, ne_eq, reduceCtorEq, Nat.reduceEqDiff, not_false_eq_true, k_p2]
          refine w_pairP v1.1.1 (by omega) ?_
          simp (disch := (first | ((try simp (disch := omega) only [va_up_self, va_up_ne, ne_eq, reduceCtorEq, Nat.reduceEqDiff, not_false_eq_true, l_0, l_2, l_3, l_4, l_5, l_6, l_7, l_8, l_9, l_10, l_11, l_12, l_13, l_14, l_15, l_16, l_17, l_18, l_19, l_20, l_21, l_22, l_23, l_24, l_25, l_26, l_27, l_28, l_29, l_30, l_31, l_32, l_33, l_34, l_35, l_36, l_37, l_38, l_39, l_40, l_41, l_42, l_43, l_44, l_45, l_46, l_47, l_48, l_49, l_50, l_51, l_52, l_53, l_54, l_55, l_56, l_57, l_58, l_59, l_60, l_61, l_62, l_63, l_64, l_97, l_98, l_99, l_200, l_225, l_232, l_255, l_256, l_700, l_1000, l_1024, l_3375, l_4095, l_8000, l_20000, l_60000, vp_nIs, zz0, zz1, e10, nI_leI, nI_ltI, nI_eq, nI_1, nI_1a, nI_add, nI_sub, nI_sub1, pk_mul, nI_clamp, nI_le1, nI_le1', nI_lt1, nI_lt1', nI_eq1, nI_eqm, m1_eqN, m1_le, m1_lt, m1_leN, m1_ltN, nI_am, not_true_eq_false, not_false_eq_true, oN_eqm, k_p2]) <;> omega) | fail)) only [↓numW, ↓zb_t, ↓zb_f, ↓zb_tt, ↓zb_ff, ↓zb_i, ↓zb_z0, ↓zb_z1, ↓zb_z, ↓zb_l, ↓zb_v, vi32, vi64, true_and, pk_us, Int32.add_zero, Nat.add_sub_cancel, nI_add, nI_1, nI_1a, nI_clamp, k7, k7', k8, k8', k12, k12', k15, k15', k16, k16', nI_sub1, va_up_self, va_up_ne, ne_eq, reduceCtorEq, Nat.reduceEqDiff, not_false_eq_true, k_p2]
          exact z
      · unfold mp_X12_look_15 mp_X12_look_128
        simp (disch := (first | ((try simp (disch := omega) only [va_up_self, va_up_ne, ne_eq, reduceCtorEq, Nat.reduceEqDiff, not_false_eq_true, l_0, l_2, l_3, l_4, l_5, l_6, l_7, l_8, l_9, l_10, l_11, l_12, l_13, l_14, l_15, l_16, l_17, l_18, l_19, l_20, l_21, l_22, l_23, l_24, l_25, l_26, l_27, l_28, l_29, l_30, l_31, l_32, l_33, l_34, l_35, l_36, l_37, l_38, l_39, l_40, l_41, l_42, l_43, l_44, l_45, l_46, l_47, l_48, l_49, l_50, l_51, l_52, l_53, l_54, l_55, l_56, l_57, l_58, l_59, l_60, l_61, l_62, l_63, l_64, l_97, l_98, l_99, l_200, l_225, l_232, l_255, l_256, l_700, l_1000, l_1024, l_3375, l_4095, l_8000, l_20000, l_60000, vp_nIs, zz0, zz1, e10, nI_leI, nI_ltI, nI_eq, nI_1, nI_1a, nI_add, nI_sub, nI_sub1, pk_mul, nI_clamp, nI_le1, nI_le1', nI_lt1, nI_lt1', nI_eq1, nI_eqm, m1_eqN, m1_le, m1_lt, m1_leN, m1_ltN, nI_am, not_true_eq_false, not_false_eq_true, oN_eqm, q19, q20, lm19 hLM, lm20 hLM]) <;> omega) | fail)) only [↓numW, ↓zb_t, ↓zb_f, ↓zb_tt, ↓zb_ff, ↓zb_i, ↓zb_z0, ↓zb_z1, ↓zb_z, ↓zb_l, ↓zb_v, vi32, vi64, true_and, pk_us, Int32.add_zero, Nat.add_sub_cancel, nI_add, nI_1, nI_1a, nI_clamp, k7, k7', k8, k8', k12, k12', k15, k15', k16, k16', nI_sub1, va_up_self, va_up_ne, ne_eq, reduceCtorEq, Nat.reduceEqDiff, not_false_eq_true, q19, q20, lm19 hLM, lm20 hLM]
        rw [← eq]
        refine w_twoP v2.1.1 (by omega) ?_
        by_cases c1 : pl < pr b q
        · simp (disch := (first | ((try simp (disch := omega) only [va_up_self, va_up_ne, ne_eq, reduceCtorEq, Nat.reduceEqDiff, not_false_eq_true, l_0, l_2, l_3, l_4, l_5, l_6, l_7, l_8, l_9, l_10, l_11, l_12, l_13, l_14, l_15, l_16, l_17, l_18, l_19, l_20, l_21, l_22, l_23, l_24, l_25, l_26, l_27, l_28, l_29, l_30, l_31, l_32, l_33, l_34, l_35, l_36, l_37, l_38, l_39, l_40, l_41, l_42, l_43, l_44, l_45, l_46, l_47, l_48, l_49, l_50, l_51, l_52, l_53, l_54, l_55, l_56, l_57, l_58, l_59, l_60, l_61, l_62, l_63, l_64, l_97, l_98, l_99, l_200, l_225, l_232, l_255, l_256, l_700, l_1000, l_1024, l_3375, l_4095, l_8000, l_20000, l_60000, vp_nIs, zz0, zz1, e10, nI_leI, nI_ltI, nI_eq, nI_1, nI_1a, nI_add, nI_sub, nI_sub1, pk_mul, nI_clamp, nI_le1, nI_le1', nI_lt1, nI_lt1', nI_eq1, nI_eqm, m1_eqN, m1_le, m1_lt, m1_leN, m1_ltN, nI_am, not_true_eq_false, not_false_eq_true, oN_eqm, k_p2]) <;> omega) | fail)) only [↓numW, ↓zb_t, ↓zb_f, ↓zb_tt, ↓zb_ff, ↓zb_i, ↓zb_z0, ↓zb_z1, ↓zb_z, ↓zb_l, ↓zb_v, vi32, vi64, true_and, pk_us, Int32.add_zero, Nat.add_sub_cancel, nI_add, nI_1, nI_1a, nI_clamp, k7, k7', k8, k8', k12, k12', k15, k15', k16, k16', nI_sub1, va_up_self, va_up_ne, ne_eq, reduceCtorEq, Nat.reduceEqDiff, not_false_eq_true, k_p2]
          exact z
        · simp (disch := (first | ((try simp (disch := omega) only [va_up_self, va_up_ne, ne_eq, reduceCtorEq, Nat.reduceEqDiff, not_false_eq_true, l_0, l_2, l_3, l_4, l_5, l_6, l_7, l_8, l_9, l_10, l_11, l_12, l_13, l_14, l_15, l_16, l_17, l_18, l_19, l_20, l_21, l_22, l_23, l_24, l_25, l_26, l_27, l_28, l_29, l_30, l_31, l_32, l_33, l_34, l_35, l_36, l_37, l_38, l_39, l_40, l_41, l_42, l_43, l_44, l_45, l_46, l_47, l_48, l_49, l_50, l_51, l_52, l_53, l_54, l_55, l_56, l_57, l_58, l_59, l_60, l_61, l_62, l_63, l_64, l_97, l_98, l_99, l_200, l_225, l_232, l_255, l_256, l_700, l_1000, l_1024, l_3375, l_4095, l_8000, l_20000, l_60000, vp_nIs, zz0, zz1, e10, nI_leI, nI_ltI, nI_eq, nI_1, nI_1a, nI_add, nI_sub, nI_sub1, pk_mul, nI_clamp, nI_le1, nI_le1', nI_lt1, nI_lt1', nI_eq1, nI_eqm, m1_eqN, m1_le, m1_lt, m1_leN, m1_ltN, nI_am, not_true_eq_false, not_false_eq_true, oN_eqm, k_p2]) <;> omega) | fail)) only [↓numW, ↓zb_t, ↓zb_f, ↓zb_tt, ↓zb_ff, ↓zb_i, ↓zb_z0, ↓zb_z1, ↓zb_z, ↓zb_l, ↓zb_v, vi32, vi64, true_and, pk_us, Int32.add_zero, Nat.add_sub_cancel, nI_add, nI_1, nI_1a, nI_clamp, k7, k7', k8, k8', k12, k12', k15, k15', k16, k16', nI_sub1, va_up_self, va_up_ne, ne_eq, reduceCtorEq, Nat.reduceEqDiff, not_false_eq_true, k_p2]
          refine w_twoP v2.1.1 (by omega) ?_
          simp (disch := (first | ((try simp (disch := omega) only [va_up_self, va_up_ne, ne_eq, reduceCtorEq, Nat.reduceEqDiff, not_false_eq_true, l_0, l_2, l_3, l_4, l_5, l_6, l_7, l_8, l_9, l_10, l_11, l_12, l_13, l_14, l_15, l_16, l_17, l_18, l_19, l_20, l_21, l_22, l_23, l_24, l_25, l_26, l_27, l_28, l_29, l_30, l_31, l_32, l_33, l_34, l_35, l_36, l_37, l_38, l_39, l_40, l_41, l_42, l_43, l_44, l_45, l_46, l_47, l_48, l_49, l_50, l_51, l_52, l_53, l_54, l_55, l_56, l_57, l_58, l_59, l_60, l_61, l_62, l_63, l_64, l_97, l_98, l_99, l_200, l_225, l_232, l_255, l_256, l_700, l_1000, l_1024, l_3375, l_4095, l_8000, l_20000, l_60000, vp_nIs, zz0, zz1, e10, nI_leI, nI_ltI, nI_eq, nI_1, nI_1a, nI_add, nI_sub, nI_sub1, pk_mul, nI_clamp, nI_le1, nI_le1', nI_lt1, nI_lt1', nI_eq1, nI_eqm, m1_eqN, m1_le, m1_lt, m1_leN, m1_ltN, nI_am, not_true_eq_false, not_false_eq_true, oN_eqm, k_p2]) <;> omega) | fail)) only [↓numW, ↓zb_t, ↓zb_f, ↓zb_tt, ↓zb_ff, ↓zb_i, ↓zb_z0, ↓zb_z1, ↓zb_z, ↓zb_l, ↓zb_v, vi32, vi64, true_and, pk_us, Int32.add_zero, Nat.add_sub_cancel, nI_add, nI_1, nI_1a, nI_clamp, k7, k7', k8, k8', k12, k12', k15, k15', k16, k16', nI_sub1, va_up_self, va_up_ne, ne_eq, reduceCtorEq, Nat.reduceEqDiff, not_false_eq_true, k_p2]
          exact z
