/-! ===== one look, both sides: the instruction ===== -/
/-- what both sides leave behind the instruction -/
def tlR (σ μ : sm_S) (T : Nat → Nat → Nat) (b : Nat → Nat) (m p t : Nat) (w h ty mk : Nat → Nat) (_ : Int32) (σ' : sm_S) (r' : Int32) (μ' : sm_S) : Prop := (r' = 1 ∧ fr IVX (AVX T m) σ σ' ∧ fr IVM (AVM T m) μ μ' ∧ ∃ l0' h' ty' mk', vst σ' μ' T b m l0' h' ty' mk' ∧ tup T m h ty mk h' ty' mk' ∧ PHN T m h' ty' mk' ≤ PHN T m h ty mk ∧ (¬ (b p = 25 ∨ b p = 37 ∨ b p = 38 ∨ b p = 39) → arr T m (p + wd (b p)) t w h' ty') ∧ ((19 ≤ b p ∧ b p ≤ 25) → arr T m (T 17 m + pr b (jpl b p)) t w h' ty')) ∨ (r' = 0 ∧ fr IVX AVx σ σ' ∧ fr IVM AVm μ μ' ∧ ∃ x, x < 8000 ∧ σ'.1 34 = nI x ∧ μ'.1 10 = nI x)
/-- behind the instruction: on to the next place, and the jump -/
theorem j_on {σ μ : sm_S} {T : Nat → Nat → Nat} {b : Nat → Nat} {m p t l0 : Nat} {h ty mk w : Nat → Nat} (hw : wf T b) (hm : m < T 0 1) (lk : lkd T b) (hp : inC T m p) (h4 : T 4 p = 1) (hv : vst σ μ T b m l0 h ty mk) (ht : t ≤ T 16 m) (s33 : σ.1 33 = 1) (i10 : μ.1 10 = nI p) (hx : ∀ i, i < T 15 m + t → σ.2.2.2.1 35 i = nI (w i)) (s29 : σ.1 29 = nI t) (hg : gM μ T m t w) (ok : okw T (T 15 m) t w) (y0 : Int32) (hy : ((b p = 25 ∨ b p = 37 ∨ b p = 38 ∨ b p = 39) ∧ y0 = 0) ∨ (¬ (b p = 25 ∨ b p = 37 ∨ b p = 38 ∨ b p = 39) ∧ y0 = 1)) :
    jt (fun K => mp_X8_lookAt_68 (fun σ => K 0 σ) σ (nI p) (nI (b p)) y0) (fun K => mp_X12_look_244 K μ (nI m) (nI p) (nI (p - T 17 m)) (nI (b p)) (1 - y0)) (tlR σ μ T b m p t w h ty mk) := by
  have w4 := hw.2.2.2.1
  have w5 := hw.2.2.2.2.1
  have y := hw.2.2.2.2.2.2.2.2.1 m hm
  have h12 := y.2.2.2.2.2.2.1
  have y8 := y.2.2.2.2.2.2.2.1
  have y9 := y.2.2.2.2.2.2.2.2.1
  have y11 := y.2.2.2.2.2.2.2.2.2.2.1
  have y12 := y.2.2.2.2.2.2.2.2.2.2.2.1
  clear y
  have v1 := hv.1
  have v2 := hv.2.1
  have hLX := v1.1.2.1
  have hLM := v2.1.2.1
  have s30 := v1.2.1
  obtain ⟨-, -, -, -, -, -, r26, r27, -⟩ := v1.1.2.2.2.2.2.2.2.2 m hm
  obtain ⟨-, -, -, -, q15, q16, q17, q18, q19, q20, -⟩ := v2.1.2.2.2.2.2.2.2 m hm
  have hvw : ∀ i, i < T 15 m + t → vt T (w i) := fun i hi => (ok i hi).1
  obtain ⟨o1, o2, o3⟩ := hw.op hm hp h4
  have o42 := o1.1
  have hsz := wd_sz (b p) o42
  have hwd := wd_le (b p)
  obtain ⟨pa, pb⟩ := hp
  have ne33 : ¬ σ.1 33 = 0 := by rw [s33]; decide
  rcases hy with ⟨he, e0⟩ | ⟨he, e0⟩
  · -- it ends there
    rw [e0]
    have := j_jump hw hm lk ⟨pa, pb⟩ h4 hv ht hx s29 hg ok
    refine jt_x (fun K z => ?_) (jt_m (fun K z => ?_) (jt_w this (fun r σ' r' μ' k => ?_)))
    · unfold mp_X8_lookAt_68 mp_X8_lookAt_125
      refine ⟨vp_in_nI o42 (by decide), fun v ev => ⟨fun q => absurd q ne33, fun _ => ⟨fun _ => ⟨fun _ => z, fun q => absurd rfl q⟩, fun q => absurd rfl q⟩⟩⟩
    · unfold mp_X12_look_244
      exact ⟨fun _ => z, fun q => absurd q (by decide)⟩
    · rcases k with ⟨k1, k2, k3, l1, h1, ty1, mk1, k4, k5, k6, k7⟩ | k
      · exact Or.inl ⟨k1, k2, k3, l1, h1, ty1, mk1, k4, k5, k6, fun z => absurd he z, k7⟩
      · exact Or.inr k
  · rw [e0]
    have n10 : ¬ (1 : Int32) = 0 := by decide
    by_cases hn : p + wd (b p) < T 17 m + T 18 m
    · -- on to the next place
      obtain ⟨rj, σ3, rj', μ3, aj, aj', jr⟩ := j_come (a := p - T 17 m + wd (b p)) (q := p + wd (b p)) hw hm (by omega) ⟨by omega, by omega⟩ (o3 hn) hv ht hx hg ok
      have aj : ∀ F : sm_S → Prop, F σ3 → mp_X8_come σ (nI (p + wd (b p))) (nI t) F := fun F z => aj (fun _ σ => F σ) z
      have goX : ∀ K : jk, mp_X8_lookAt_139 (fun σ => K 0 σ) σ3 (nI p) → mp_X8_lookAt_68 (fun σ => K 0 σ) σ (nI p) (nI (b p)) 1 := fun K z => by
        have z2 := aj (fun σ10 => mp_X8_lookAt_139 (fun σ => K 0 σ) σ10 (nI p)) z
        unfold mp_X8_lookAt_68 mp_X8_lookAt_125
        refine ⟨vp_in_nI o42 (by decide), fun v ev => ?_⟩
        rw [nI_clamp (by omega), hsz, nI_add] at ev
        rw [ev]
        refine ⟨fun q => absurd q ne33, fun _ => ⟨fun q => absurd q n10, fun _ => ?_⟩⟩
        simp (disch := (first | ((try simp (disch := omega) only [va_up_self, va_up_ne, ne_eq, reduceCtorEq, Nat.reduceEqDiff, not_false_eq_true, l_0, l_2, l_3, l_4, l_5, l_6, l_7, l_8, l_9, l_10, l_11, l_12, l_13, l_14, l_15, l_16, l_17, l_18, l_19, l_20, l_21, l_22, l_23, l_24, l_25, l_26, l_27, l_28, l_29, l_30, l_31, l_32, l_33, l_34, l_35, l_36, l_37, l_38, l_39, l_40, l_41, l_42, l_43, l_44, l_45, l_46, l_47, l_48, l_49, l_50, l_51, l_52, l_53, l_54, l_55, l_56, l_57, l_58, l_59, l_60, l_61, l_62, l_63, l_64, l_97, l_98, l_99, l_200, l_225, l_232, l_255, l_256, l_700, l_1000, l_1024, l_3375, l_4095, l_8000, l_20000, l_60000, vp_nIs, zz0, zz1, e10, nI_leI, nI_ltI, nI_eq, nI_1, nI_1a, nI_add, nI_sub, nI_sub1, pk_mul, nI_clamp, nI_le1, nI_le1', nI_lt1, nI_lt1', nI_eq1, nI_eqm, m1_eqN, m1_le, m1_lt, m1_leN, m1_ltN, nI_am, not_true_eq_false, not_false_eq_true, oN_eqm, s30, r26, r27, lx26 hLX, lx27 hLX]) <;> omega) | fail)) only [↓numW, ↓zb_t, ↓zb_f, ↓zb_tt, ↓zb_ff, ↓zb_i, ↓zb_z0, ↓zb_z1, ↓zb_z, ↓zb_l, ↓zb_v, vi32, vi64, true_and, pk_us, Int32.add_zero, Nat.add_sub_cancel, nI_add, nI_1, nI_1a, nI_clamp, k7, k7', k8, k8', k12, k12', k15, k15', k16, k16', nI_sub1, va_up_self, va_up_ne, ne_eq, reduceCtorEq, Nat.reduceEqDiff, not_false_eq_true, s30, r26, r27, lx26 hLX, lx27 hLX]
        rw [s29]
        exact z2
      have goM : ∀ K : jk, ((rj' = 0 → mp_X12_look_291 K μ3) ∧ (¬ rj' = 0 → mp_X12_look_266 K μ3 (nI m) (nI p) (nI (b p)))) → mp_X12_look_244 K μ (nI m) (nI p) (nI (p - T 17 m)) (nI (b p)) (1 - 1) := fun K z => by
        have z2 := aj' (fun r14 σ13 => (r14 = 0 → mp_X12_look_291 K σ13) ∧ (¬ r14 = 0 → mp_X12_look_266 K σ13 (nI m) (nI p) (nI (b p)))) z
        unfold mp_X12_look_244
        refine ⟨fun q => absurd rfl q, fun _ => ?_⟩
        refine w_wide o42 ?_
        rw [nI_add]
        exact z2
      rcases jr with ⟨e1, e10, f3, g3, l1, h3, ty3, mk3, cc, vv⟩ | ⟨e1, -, f3, g3, e34, e10⟩
      · obtain ⟨c1, c2, c3⟩ := cc.f hw hm ⟨by omega, by omega⟩ (o3 hn) ht hv.2.2.2.2.2.2.2.2.2 hvw
        have c4 := cc.p hw hm ⟨by omega, by omega⟩ (o3 hn) ht hv.2.2.2.2.2.2.2.2.2 hvw
        have g35 : σ3.2.2.2.1 35 = σ.2.2.2.1 35 := f3.row (fun j => by unfold AmW; omega)
        have g29 : σ3.1 29 = nI t := by rw [f3.2.2.2.1 29 (by unfold IwX; omega)]; exact s29
        have g24 : μ3.2.2.2.1 24 = μ.2.2.2.1 24 := g3.row (fun j => by unfold AmV; omega)
        have g9 : μ3.1 9 = nI t := by rw [g3.2.2.2.1 9 (by unfold IwM; omega)]; exact hg.1
        have := j_jump hw hm lk ⟨pa, pb⟩ h4 vv ht (by rw [g35]; exact hx) g29 ⟨g9, ht, by rw [g24]; exact hg.2.2⟩ ok
        refine jt_x (fun K z => goX K z) (jt_m (fun K z => goM K ⟨fun q => absurd (q.symm.trans e1) (by decide), fun _ => z⟩) (jt_w this (fun r σ' r' μ' k => ?_)))
        rcases k with ⟨k1, k2, k3, l4, h4', ty4, mk4, k4, k5, k6, k7⟩ | ⟨k1, k2, k3, k4⟩
        · exact Or.inl ⟨k1, (frX_w f3).t k2, (frM_w g3).t k3, l4, h4', ty4, mk4, k4, tup_t hw hv.2.2.2.2.2.2.2.2.2 c1 k5, by omega, fun _ => c2.u hw k5, k7⟩
        · exact Or.inr ⟨k1, (frX_x (frX_w f3)).t k2, (frM_x (frM_w g3)).t k3, k4⟩
      · -- it can't come there
        have b3 : imX σ3 T b := v1.1.f f3 (fun k q => by unfold IwX; omega) (fun r j a c d => by unfold AwX; omega)
        refine ⟨0, σ3, 0, μ3, fun K z => goX K ?_, fun K z => goM K ⟨fun _ => ⟨sm_z0, z⟩, fun q => absurd e1 q⟩, Or.inr ⟨rfl, frX_b f3, frM_b g3, _, by omega, e34, e10⟩⟩
        unfold mp_X8_lookAt_139 mp_X8_lookAt_193
        have n34 : ¬ σ3.1 34 = -1 := by rw [e34]; exact nI_m1 (by omega)
        refine w_jp b3 hw hm ⟨pa, pb⟩ (fun _ => ⟨fun _ => z, fun _ => ⟨fun _ => z, fun q => absurd q n34⟩⟩) (fun _ => ⟨fun _ => z, fun q => absurd rfl q⟩)
    · -- the code ends
      refine ⟨0, sm_i σ 34 (nI p), 0, μ, fun K z => ?_, fun K z => ?_, Or.inr ⟨rfl, fr_r.i (by unfold IVX; omega), fr_r, p, by omega, rfl, i10⟩⟩
      · unfold mp_X8_lookAt_68 mp_X8_lookAt_119
        refine ⟨vp_in_nI o42 (by decide), fun v ev => ?_⟩
        rw [nI_clamp (by omega), hsz, nI_add] at ev
        rw [ev]
        refine ⟨fun q => absurd q ne33, fun _ => ⟨fun q => absurd q n10, fun _ => ?_⟩⟩
        simp (disch := (first | ((try simp (disch := omega) only [va_up_self, va_up_ne, ne_eq, reduceCtorEq, Nat.reduceEqDiff, not_false_eq_true, l_0, l_2, l_3, l_4, l_5, l_6, l_7, l_8, l_9, l_10, l_11, l_12, l_13, l_14, l_15, l_16, l_17, l_18, l_19, l_20, l_21, l_22, l_23, l_24, l_25, l_26, l_27, l_28, l_29, l_30, l_31, l_32, l_33, l_34, l_35, l_36, l_37, l_38, l_39, l_40, l_41, l_42, l_43, l_44, l_45, l_46, l_47, l_48, l_49, l_50, l_51, l_52, l_53, l_54, l_55, l_56, l_57, l_58, l_59, l_60, l_61, l_62, l_63, l_64, l_97, l_98, l_99, l_200, l_225, l_232, l_255, l_256, l_700, l_1000, l_1024, l_3375, l_4095, l_8000, l_20000, l_60000, vp_nIs, zz0, zz1, e10, nI_leI, nI_ltI, nI_eq, nI_1, nI_1a, nI_add, nI_sub, nI_sub1, pk_mul, nI_clamp, nI_le1, nI_le1', nI_lt1, nI_lt1', nI_eq1, nI_eqm, m1_eqN, m1_le, m1_lt, m1_leN, m1_ltN, nI_am, not_true_eq_false, not_false_eq_true, oN_eqm, s30, r26, r27, lx26 hLX, lx27 hLX]) <;> omega) | fail)) only [↓numW, ↓zb_t, ↓zb_f, ↓zb_tt, ↓zb_ff, ↓zb_i, ↓zb_z0, ↓zb_z1, ↓zb_z, ↓zb_l, ↓zb_v, vi32, vi64, true_and, pk_us, Int32.add_zero, Nat.add_sub_cancel, nI_add, nI_1, nI_1a, nI_clamp, k7, k7', k8, k8', k12, k12', k15, k15', k16, k16', nI_sub1, va_up_self, va_up_ne, ne_eq, reduceCtorEq, Nat.reduceEqDiff, not_false_eq_true, s30, r26, r27, lx26 hLX, lx27 hLX]
        exact z
      · unfold mp_X12_look_244 mp_X12_look_291 mp_X12_look_292
        refine ⟨fun q => absurd rfl q, fun _ => ?_⟩
        refine w_wide o42 ?_
        rw [nI_add]
        unfold mp_X12_come
        simp (disch := (first | ((try simp (disch := omega) only [va_up_self, va_up_ne, ne_eq, reduceCtorEq, Nat.reduceEqDiff, not_false_eq_true, l_0, l_2, l_3, l_4, l_5, l_6, l_7, l_8, l_9, l_10, l_11, l_12, l_13, l_14, l_15, l_16, l_17, l_18, l_19, l_20, l_21, l_22, l_23, l_24, l_25, l_26, l_27, l_28, l_29, l_30, l_31, l_32, l_33, l_34, l_35, l_36, l_37, l_38, l_39, l_40, l_41, l_42, l_43, l_44, l_45, l_46, l_47, l_48, l_49, l_50, l_51, l_52, l_53, l_54, l_55, l_56, l_57, l_58, l_59, l_60, l_61, l_62, l_63, l_64, l_97, l_98, l_99, l_200, l_225, l_232, l_255, l_256, l_700, l_1000, l_1024, l_3375, l_4095, l_8000, l_20000, l_60000, vp_nIs, zz0, zz1, e10, nI_leI, nI_ltI, nI_eq, nI_1, nI_1a, nI_add, nI_sub, nI_sub1, pk_mul, nI_clamp, nI_le1, nI_le1', nI_lt1, nI_lt1', nI_eq1, nI_eqm, m1_eqN, m1_le, m1_lt, m1_leN, m1_ltN, nI_am, not_true_eq_false, not_false_eq_true, oN_eqm, q18, lm18 hLM]) <;> omega) | fail)) only [↓numW, ↓zb_t, ↓zb_f, ↓zb_tt, ↓zb_ff, ↓zb_i, ↓zb_z0, ↓zb_z1, ↓zb_z, ↓zb_l, ↓zb_v, vi32, vi64, true_and, pk_us, Int32.add_zero, Nat.add_sub_cancel, nI_add, nI_1, nI_1a, nI_clamp, k7, k7', k8, k8', k12, k12', k15, k15', k16, k16', nI_sub1, va_up_self, va_up_ne, ne_eq, reduceCtorEq, Nat.reduceEqDiff, not_false_eq_true, q18, lm18 hLM]
        exact z
theorem j_look {σ μ : sm_S} {T : Nat → Nat → Nat} {b : Nat → Nat} {m p l0 : Nat} {h ty mk : Nat → Nat} (hw : wf T b) (hm : m < T 0 1) (lk : lkd T b) (hp : inC T m p) (hv : vst σ μ T b m l0 h ty mk) (hp0 : h p ≠ 0) (i10 : μ.1 10 = nI p) : jt (fun K => mp_X8_lookAt σ (nI p) (fun σ => K 0 σ)) (fun K => mp_X12_look μ (nI m) (nI p) K) (lkR σ μ T b m p h ty mk) := by
  have w2 := hw.2.1
  have w4 := hw.2.2.2.1
  have w5 := hw.2.2.2.2.1
  have y := hw.2.2.2.2.2.2.2.2.1 m hm
  have h12 := y.2.2.2.2.2.2.1
  have y8 := y.2.2.2.2.2.2.2.1
  have y9 := y.2.2.2.2.2.2.2.2.1
  have y10 := y.2.2.2.2.2.2.2.2.2.1
  have y11 := y.2.2.2.2.2.2.2.2.2.2.1
  have y12 := y.2.2.2.2.2.2.2.2.2.2.2.1
  clear y
  have hv0 := hv.2.2.2.2.2.2.2.2.2
  have v1 := hv.1
  have v2 := hv.2.1
  have hLX := v1.1.2.1
  have hLM := v2.1.2.1
  have s30 := v1.2.1
  have r26 := (v1.1.2.2.2.2.2.2.2.2 m hm).2.2.2.2.2.2.1
  have q17 := (v2.1.2.2.2.2.2.2.2 m hm).2.2.2.2.2.2.1
  have h4 := ((hv0 p hp).2.2.2 hp0).1
  obtain ⟨o1, o2, o3⟩ := hw.op hm hp h4
  have o42 := o1.1
  have hok := fun z => lk.c hw hm hp h4 o1 z
  obtain ⟨pa, pb⟩ := hp
  obtain ⟨P2, eP2⟩ : ∃ P2 : sm_S → jk → Prop, P2 = fun σ19 K => (((σ19.1 34) = (-1) → (mp_X8_takeWhatStands σ19 (nI p) (fun σ21 => mp_X2_at σ21 (nI p) (fun r23 σ22 => mp_X8_apply (sm_i σ22 33 1) r23 (nI p) (fun σ25 => ((r23 = 25 → (mp_X8_lookAt_67 (fun σ => K 0 σ) σ25 (nI p) r23)) ∧ (¬ r23 = 25 → ((r23 = 37 → (mp_X8_lookAt_67 (fun σ => K 0 σ) σ25 (nI p) r23)) ∧ (¬ r23 = 37 → ((r23 = 38 → (mp_X8_lookAt_67 (fun σ => K 0 σ) σ25 (nI p) r23)) ∧ (¬ r23 = 38 → ((r23 = 39 → (mp_X8_lookAt_67 (fun σ => K 0 σ) σ25 (nI p) r23)) ∧ (¬ r23 = 39 → (mp_X8_lookAt_68 (fun σ => K 0 σ) σ25 (nI p) r23 1)))))))))))))) ∧ (¬ (σ19.1 34) = (-1) → (K 0 σ19))) := ⟨_, rfl⟩
  have key := j_hands (σ0 := σ) (μ0 := μ) (P2 := P2) (R := lkR σ μ T b m p h ty mk) hw hm lk ⟨pa, pb⟩ hv0 (fun σ1 μ1 l1 h1 ty1 mk1 hl => ?_) (fun σ1 μ1 x f1 g1 hx e34 e10 => ?_) (T 19 m) 0 σ μ l0 h ty mk (by omega) ⟨hv, i10, tup_r, Nat.le_refl _, fr_r, fr_r, hp0, fun _ j hj => absurd hj (by omega)⟩
  · refine jt_x (fun K z => ?_) (jt_m (fun K z => ?_) key)
    · unfold mp_X8_lookAt mp_X8_comeToHandlers
      simp (disch := (first | ((try simp (disch := omega) only [va_up_self, va_up_ne, ne_eq, reduceCtorEq, Nat.reduceEqDiff, not_false_eq_true, l_0, l_2, l_3, l_4, l_5, l_6, l_7, l_8, l_9, l_10, l_11, l_12, l_13, l_14, l_15, l_16, l_17, l_18, l_19, l_20, l_21, l_22, l_23, l_24, l_25, l_26, l_27, l_28, l_29, l_30, l_31, l_32, l_33, l_34, l_35, l_36, l_37, l_38, l_39, l_40, l_41, l_42, l_43, l_44, l_45, l_46, l_47, l_48, l_49, l_50, l_51, l_52, l_53, l_54, l_55, l_56, l_57, l_58, l_59, l_60, l_61, l_62, l_63, l_64, l_97, l_98, l_99, l_200, l_225, l_232, l_255, l_256, l_700, l_1000, l_1024, l_3375, l_4095, l_8000, l_20000, l_60000, vp_nIs, zz0, zz1, e10, nI_leI, nI_ltI, nI_eq, nI_1, nI_1a, nI_add, nI_sub, nI_sub1, pk_mul, nI_clamp, nI_le1, nI_le1', nI_lt1, nI_lt1', nI_eq1, nI_eqm, m1_eqN, m1_le, m1_lt, m1_leN, m1_ltN, nI_am, not_true_eq_false, not_false_eq_true, oN_eqm, s30, r26, lx26 hLX, nI_sub]) <;> omega) | fail)) only [↓numW, ↓zb_t, ↓zb_f, ↓zb_tt, ↓zb_ff, ↓zb_i, ↓zb_z0, ↓zb_z1, ↓zb_z, ↓zb_l, ↓zb_v, vi32, vi64, true_and, pk_us, Int32.add_zero, Nat.add_sub_cancel, nI_add, nI_1, nI_1a, nI_clamp, k7, k7', k8, k8', k12, k12', k15, k15', k16, k16', nI_sub1, va_up_self, va_up_ne, ne_eq, reduceCtorEq, Nat.reduceEqDiff, not_false_eq_true, s30, r26, lx26 hLX, nI_sub]
      rw [eP2] at z
      exact ⟨_, z⟩
    · unfold mp_X12_look
      simp (disch := (first | ((try simp (disch := omega) only [va_up_self, va_up_ne, ne_eq, reduceCtorEq, Nat.reduceEqDiff, not_false_eq_true, l_0, l_2, l_3, l_4, l_5, l_6, l_7, l_8, l_9, l_10, l_11, l_12, l_13, l_14, l_15, l_16, l_17, l_18, l_19, l_20, l_21, l_22, l_23, l_24, l_25, l_26, l_27, l_28, l_29, l_30, l_31, l_32, l_33, l_34, l_35, l_36, l_37, l_38, l_39, l_40, l_41, l_42, l_43, l_44, l_45, l_46, l_47, l_48, l_49, l_50, l_51, l_52, l_53, l_54, l_55, l_56, l_57, l_58, l_59, l_60, l_61, l_62, l_63, l_64, l_97, l_98, l_99, l_200, l_225, l_232, l_255, l_256, l_700, l_1000, l_1024, l_3375, l_4095, l_8000, l_20000, l_60000, vp_nIs, zz0, zz1, e10, nI_leI, nI_ltI, nI_eq, nI_1, nI_1a, nI_add, nI_sub, nI_sub1, pk_mul, nI_clamp, nI_le1, nI_le1', nI_lt1, nI_lt1', nI_eq1, nI_eqm, m1_eqN, m1_le, m1_lt, m1_leN, m1_ltN, nI_am, not_true_eq_false, not_false_eq_true, oN_eqm, q17, lm17 hLM, nI_sub]) <;> omega) | fail)) only [↓numW, ↓zb_t, ↓zb_f, ↓zb_tt, ↓zb_ff, ↓zb_i, ↓zb_z0, ↓zb_z1, ↓zb_z, ↓zb_l, ↓zb_v, vi32, vi64, true_and, pk_us, Int32.add_zero, Nat.add_sub_cancel, nI_add, nI_1, nI_1a, nI_clamp, k7, k7', k8, k8', k12, k12', k15, k15', k16, k16', nI_sub1, va_up_self, va_up_ne, ne_eq, reduceCtorEq, Nat.reduceEqDiff, not_false_eq_true, q17, lm17 hLM, nI_sub]
      exact ⟨_, z⟩
  · -- the instruction
    obtain ⟨hv1, j10, ht, hP, fx, fm, hq0, hh⟩ := hl
    have hv1' := hv1
    obtain ⟨u1, u2, u3, u4, u5, u6, u7, u8, u9, u10⟩ := hv1'
    obtain ⟨t1, t2, t3, t4, t5, t6, t7, t8⟩ := u9 p pa pb
    obtain ⟨rX, σ2, aX, fX2, s29, hX2⟩ := e_tws u1 hw hm ⟨pa, pb⟩ u3 t1 hq0 t3 (fun i hi => (t8 hq0 i hi).1)
    have aX : ∀ F : sm_S → Prop, F σ2 → mp_X8_takeWhatStands σ1 (nI p) F := fun F z => aX (fun _ σ => F σ) z
    obtain ⟨rM, μ2, aM, fM2, gM2⟩ := eM_tup u2 hw hm ⟨pa, pb⟩ u4.1 u4.2.1 t2 hq0 t3 (fun i hi => ⟨(t8 hq0 i hi).2.1, (t8 hq0 i hi).2.2.1⟩)
    have aM : ∀ F : sm_S → Prop, F μ2 → mp_X12_takeUp μ1 (nI m) (nI p) F := fun F z => aM (fun _ σ => F σ) z
    have ok1 : okw T (T 15 m) (h1 p - 1) (fun i => ty1 (12 * p + i)) := fun i hi => ⟨(t8 hq0 i hi).2.2.1, (t8 hq0 i hi).2.2.2⟩
    obtain ⟨c, t', w', hav⟩ := av_ex (T := T) (b := b) m p (h1 p - 1) (fun i => ty1 (12 * p + i)) o42
    have fX3 : fr IvX AvX σ1 (sm_i σ2 33 1) := fX2.i (by unfold IvX; omega)
    have b3 := u1.v fX3
    have gX3 : gX (sm_i σ2 33 1) T m (h1 p - 1) (fun i => ty1 (12 * p + i)) := ⟨s29, by omega, rfl, fun i hi => ⟨hX2 i hi, (ok1 i hi).1⟩⟩
    obtain ⟨rA, σ4, aA, fA, cA⟩ := eX_apply b3 hw hm gX3 pa pb o1 hok hav
    have aA : ∀ F : sm_S → Prop, F σ4 → mp_X8_apply (sm_i σ2 33 1) (nI (b p)) (nI p) F := fun F z => aA (fun _ σ => F σ) z
    have bm2 := u2.v fM2
    obtain ⟨rF, μ4, aF, fF, cF⟩ := eM_fits (p := p) bm2 hw hm gM2 (fun i i1 i2 => (ok1 i i2).2 i1) o1 hok hav
    have fX4 : fr IvX AvX σ1 σ4 := fX3.t fA
    have fM4 : fr IvM AvM μ1 μ4 := fM2.t fF
    have hv4 := hv1.v fX4 fM4
    have k10 : μ4.1 10 = nI p := by rw [fM4.2.2.2.1 10 (by unfold IvM; omega)]; exact j10
    have b2 := u1.v fX2
    have l3 := bm2.1.1.2.2.1
    have e3 := bm2.1.1.2.2.2.2
    have z0 := e3 p (by omega)
    have z1 := e3 (p + 1) (by omega)
    have z2 := e3 (p + 2) (by omega)
    have runX : ∀ (K : jk) (y0 : Int32), (((b p = 25 ∨ b p = 37 ∨ b p = 38 ∨ b p = 39) ∧ y0 = 0) ∨ (¬ (b p = 25 ∨ b p = 37 ∨ b p = 38 ∨ b p = 39) ∧ y0 = 1)) → mp_X8_lookAt_68 (fun σ => K 0 σ) σ4 (nI p) (nI (b p)) y0 → P2 σ1 K := fun K y0 hy z => by
      rw [eP2]
      refine ⟨fun _ => ?_, fun q => absurd u8 q⟩
      refine aX _ ?_
      refine w_at b2.1.1 (by omega) (fun _ => ?_) (fun z => absurd z (by omega))
      refine aA _ ?_
      unfold mp_X8_lookAt_67
      rcases hy with ⟨hy, ey⟩ | ⟨hy, ey⟩
      · rw [ey] at z
        rcases hy with g | g | g | g
        · rw [g] at z ⊢
          exact ⟨fun _ => z, fun q => absurd rfl q⟩
        · rw [g] at z ⊢
          exact ⟨fun q => absurd q (by decide), fun _ => ⟨fun _ => z, fun q => absurd rfl q⟩⟩
        · rw [g] at z ⊢
          exact ⟨fun q => absurd q (by decide), fun _ => ⟨fun q => absurd q (by decide), fun _ => ⟨fun _ => z, fun q => absurd rfl q⟩⟩⟩
        · rw [g] at z ⊢
          exact ⟨fun q => absurd q (by decide), fun _ => ⟨fun q => absurd q (by decide), fun _ => ⟨fun q => absurd q (by decide), fun _ => ⟨fun _ => z, fun q => absurd rfl q⟩⟩⟩⟩
      · rw [ey] at z
        simp (disch := (first | ((try simp (disch := omega) only [va_up_self, va_up_ne, ne_eq, reduceCtorEq, Nat.reduceEqDiff, not_false_eq_true, l_0, l_2, l_3, l_4, l_5, l_6, l_7, l_8, l_9, l_10, l_11, l_12, l_13, l_14, l_15, l_16, l_17, l_18, l_19, l_20, l_21, l_22, l_23, l_24, l_25, l_26, l_27, l_28, l_29, l_30, l_31, l_32, l_33, l_34, l_35, l_36, l_37, l_38, l_39, l_40, l_41, l_42, l_43, l_44, l_45, l_46, l_47, l_48, l_49, l_50, l_51, l_52, l_53, l_54, l_55, l_56, l_57, l_58, l_59, l_60, l_61, l_62, l_63, l_64, l_97, l_98, l_99, l_200, l_225, l_232, l_255, l_256, l_700, l_1000, l_1024, l_3375, l_4095, l_8000, l_20000, l_60000, vp_nIs, zz0, zz1, e10, nI_leI, nI_ltI, nI_eq, nI_1, nI_1a, nI_add, nI_sub, nI_sub1, pk_mul, nI_clamp, nI_le1, nI_le1', nI_lt1, nI_lt1', nI_eq1, nI_eqm, m1_eqN, m1_le, m1_lt, m1_leN, m1_ltN, nI_am, not_true_eq_false, not_false_eq_true, oN_eqm, hw]) <;> omega) | fail)) only [↓numW, ↓zb_t, ↓zb_f, ↓zb_tt, ↓zb_ff, ↓zb_i, ↓zb_z0, ↓zb_z1, ↓zb_z, ↓zb_l, ↓zb_v, vi32, vi64, true_and, pk_us, Int32.add_zero, Nat.add_sub_cancel, nI_add, nI_1, nI_1a, nI_clamp, k7, k7', k8, k8', k12, k12', k15, k15', k16, k16', nI_sub1, va_up_self, va_up_ne, ne_eq, reduceCtorEq, Nat.reduceEqDiff, not_false_eq_true, hw]
        exact z
    have runM : ∀ (K : jk) (y0 : Int32), (((b p = 25 ∨ b p = 37 ∨ b p = 38 ∨ b p = 39) ∧ y0 = 0) ∨ (¬ (b p = 25 ∨ b p = 37 ∨ b p = 38 ∨ b p = 39) ∧ y0 = 1)) → ((¬ rF = 0 → mp_X12_look_244 K μ4 (nI m) (nI p) (nI (p - T 17 m)) (nI (b p)) (1 - y0)) ∧ (rF = 0 → K 0 μ4)) → mp_X12_look_15 K 1 μ1 (nI m) (nI p) (nI (p - T 17 m)) (nI (T 19 m)) := fun K y0 hy z => by
      have q19 := (u2.1.2.2.2.2.2.2.2 m hm).2.2.2.2.2.2.2.2.1
      have hLM1 := u2.1.2.1
      show mp_X12_look_15 K (0 + 1) μ1 (nI m) (nI p) (nI (p - T 17 m)) (nI (T 19 m))
      unfold mp_X12_look_15
      simp (disch := (first | ((try simp (disch := omega) only [va_up_self, va_up_ne, ne_eq, reduceCtorEq, Nat.reduceEqDiff, not_false_eq_true, l_0, l_2, l_3, l_4, l_5, l_6, l_7, l_8, l_9, l_10, l_11, l_12, l_13, l_14, l_15, l_16, l_17, l_18, l_19, l_20, l_21, l_22, l_23, l_24, l_25, l_26, l_27, l_28, l_29, l_30, l_31, l_32, l_33, l_34, l_35, l_36, l_37, l_38, l_39, l_40, l_41, l_42, l_43, l_44, l_45, l_46, l_47, l_48, l_49, l_50, l_51, l_52, l_53, l_54, l_55, l_56, l_57, l_58, l_59, l_60, l_61, l_62, l_63, l_64, l_97, l_98, l_99, l_200, l_225, l_232, l_255, l_256, l_700, l_1000, l_1024, l_3375, l_4095, l_8000, l_20000, l_60000, vp_nIs, zz0, zz1, e10, nI_leI, nI_ltI, nI_eq, nI_1, nI_1a, nI_add, nI_sub, nI_sub1, pk_mul, nI_clamp, nI_le1, nI_le1', nI_lt1, nI_lt1', nI_eq1, nI_eqm, m1_eqN, m1_le, m1_lt, m1_leN, m1_ltN, nI_am, not_true_eq_false, not_false_eq_true, oN_eqm, q19, lm19 hLM1]) <;> omega) | fail)) only [↓numW, ↓zb_t, ↓zb_f, ↓zb_tt, ↓zb_ff, ↓zb_i, ↓zb_z0, ↓zb_z1, ↓zb_z, ↓zb_l, ↓zb_v, vi32, vi64, true_and, pk_us, Int32.add_zero, Nat.add_sub_cancel, nI_add, nI_1, nI_1a, nI_clamp, k7, k7', k8, k8', k12, k12', k15, k15', k16, k16', nI_sub1, va_up_self, va_up_ne, ne_eq, reduceCtorEq, Nat.reduceEqDiff, not_false_eq_true, q19, lm19 hLM1]
      refine aM _ ?_
      unfold mp_X12_look_178 mp_X12_look_202
      simp (disch := (first | ((try simp (disch := omega) only [va_up_self, va_up_ne, ne_eq, reduceCtorEq, Nat.reduceEqDiff, not_false_eq_true, l_0, l_2, l_3, l_4, l_5, l_6, l_7, l_8, l_9, l_10, l_11, l_12, l_13, l_14, l_15, l_16, l_17, l_18, l_19, l_20, l_21, l_22, l_23, l_24, l_25, l_26, l_27, l_28, l_29, l_30, l_31, l_32, l_33, l_34, l_35, l_36, l_37, l_38, l_39, l_40, l_41, l_42, l_43, l_44, l_45, l_46, l_47, l_48, l_49, l_50, l_51, l_52, l_53, l_54, l_55, l_56, l_57, l_58, l_59, l_60, l_61, l_62, l_63, l_64, l_97, l_98, l_99, l_200, l_225, l_232, l_255, l_256, l_700, l_1000, l_1024, l_3375, l_4095, l_8000, l_20000, l_60000, vp_nIs, zz0, zz1, e10, nI_leI, nI_ltI, nI_eq, nI_1, nI_1a, nI_add, nI_sub, nI_sub1, pk_mul, nI_clamp, nI_le1, nI_le1', nI_lt1, nI_lt1', nI_eq1, nI_eqm, m1_eqN, m1_le, m1_lt, m1_leN, m1_ltN, nI_am, not_true_eq_false, not_false_eq_true, oN_eqm, l3, z0, z1, z2, k_p2]) <;> omega) | fail)) only [↓numW, ↓zb_t, ↓zb_f, ↓zb_tt, ↓zb_ff, ↓zb_i, ↓zb_z0, ↓zb_z1, ↓zb_z, ↓zb_l, ↓zb_v, vi32, vi64, true_and, pk_us, Int32.add_zero, Nat.add_sub_cancel, nI_add, nI_1, nI_1a, nI_clamp, k7, k7', k8, k8', k12, k12', k15, k15', k16, k16', nI_sub1, va_up_self, va_up_ne, ne_eq, reduceCtorEq, Nat.reduceEqDiff, not_false_eq_true, l3, z0, z1, z2, k_p2]
      refine aF _ ?_
      refine ⟨fun q => ?_, fun q => z.2 q⟩
      have z := z.1 q
      unfold mp_X12_look_239
      rcases hy with ⟨hy, ey⟩ | ⟨hy, ey⟩
      · rw [ey] at z
        rcases hy with g | g | g | g
        · rw [g] at z ⊢
          exact ⟨fun _ => z, fun q => absurd rfl q⟩
        · rw [g] at z ⊢
          exact ⟨fun q => absurd q (by decide), fun _ => ⟨fun _ => z, fun q => absurd rfl q⟩⟩
        · rw [g] at z ⊢
          exact ⟨fun q => absurd q (by decide), fun _ => ⟨fun q => absurd q (by decide), fun _ => ⟨fun _ => z, fun q => absurd rfl q⟩⟩⟩
        · rw [g] at z ⊢
          exact ⟨fun q => absurd q (by decide), fun _ => ⟨fun q => absurd q (by decide), fun _ => ⟨fun q => absurd q (by decide), fun _ => ⟨fun q => absurd rfl q, fun _ => z⟩⟩⟩⟩
      · rw [ey] at z
        simp (disch := (first | ((try simp (disch := omega) only [va_up_self, va_up_ne, ne_eq, reduceCtorEq, Nat.reduceEqDiff, not_false_eq_true, l_0, l_2, l_3, l_4, l_5, l_6, l_7, l_8, l_9, l_10, l_11, l_12, l_13, l_14, l_15, l_16, l_17, l_18, l_19, l_20, l_21, l_22, l_23, l_24, l_25, l_26, l_27, l_28, l_29, l_30, l_31, l_32, l_33, l_34, l_35, l_36, l_37, l_38, l_39, l_40, l_41, l_42, l_43, l_44, l_45, l_46, l_47, l_48, l_49, l_50, l_51, l_52, l_53, l_54, l_55, l_56, l_57, l_58, l_59, l_60, l_61, l_62, l_63, l_64, l_97, l_98, l_99, l_200, l_225, l_232, l_255, l_256, l_700, l_1000, l_1024, l_3375, l_4095, l_8000, l_20000, l_60000, vp_nIs, zz0, zz1, e10, nI_leI, nI_ltI, nI_eq, nI_1, nI_1a, nI_add, nI_sub, nI_sub1, pk_mul, nI_clamp, nI_le1, nI_le1', nI_lt1, nI_lt1', nI_eq1, nI_eqm, m1_eqN, m1_le, m1_lt, m1_leN, m1_ltN, nI_am, not_true_eq_false, not_false_eq_true, oN_eqm, hw]) <;> omega) | fail)) only [↓numW, ↓zb_t, ↓zb_f, ↓zb_tt, ↓zb_ff, ↓zb_i, ↓zb_z0, ↓zb_z1, ↓zb_z, ↓zb_l, ↓zb_v, vi32, vi64, true_and, pk_us, Int32.add_zero, Nat.add_sub_cancel, nI_add, nI_1, nI_1a, nI_clamp, k7, k7', k8, k8', k12, k12', k15, k15', k16, k16', nI_sub1, va_up_self, va_up_ne, ne_eq, reduceCtorEq, Nat.reduceEqDiff, not_false_eq_true, hw]
        exact z
    have hy : ∃ y0 : Int32, ((b p = 25 ∨ b p = 37 ∨ b p = 38 ∨ b p = 39) ∧ y0 = 0) ∨ (¬ (b p = 25 ∨ b p = 37 ∨ b p = 38 ∨ b p = 39) ∧ y0 = 1) := by
      by_cases q : b p = 25 ∨ b p = 37 ∨ b p = 38 ∨ b p = 39
      · exact ⟨0, Or.inl ⟨q, rfl⟩⟩
      · exact ⟨1, Or.inr ⟨q, rfl⟩⟩
    obtain ⟨y0, hy⟩ := hy
    rcases cA with ⟨hc, gA⟩ | ⟨hc, gA⟩
    · rcases cF with ⟨-, eF, gF⟩ | ⟨hc', -⟩
      · obtain ⟨a1, a2⟩ := av_v hw hm o1 hok (by omega) ok1 hav hc
        have := j_on hw hm lk ⟨pa, pb⟩ h4 hv4 a1 gA.2.2.1 k10 (fun i hi => (gA.2.2.2 i hi).1) gA.1 gF a2 y0 hy
        refine jt_x (fun K z => runX K y0 hy z) (jt_m (fun K z => runM K y0 hy ⟨fun _ => z, fun q => absurd (q.symm.trans eF) (by decide)⟩) (jt_w this (fun r σ' r' μ' k => ?_)))
        rcases k with ⟨k1, k2, k3, l5, h5, ty5, mk5, k4, k5, k6, k7, k8⟩ | ⟨k1, k2, k3, k4⟩
        · exact Or.inl ⟨k1, (fx.t (frX_v fX4)).t k2, (fm.t (frM_v fM4)).t k3, l5, h5, ty5, mk5, k4, tup_t hw hv0 ht k5, by omega, fun z => lk_end hw hm ⟨pa, pb⟩ u10 hq0 hh hav hc k5 k7 k8 z⟩
        · exact Or.inr ⟨k1, (frX_x (fx.t (frX_v fX4))).t k2, (frM_x (fm.t (frM_v fM4))).t k3, k4⟩
      · exact absurd hc hc'
    · rcases cF with ⟨hc', -, -⟩ | ⟨-, eF⟩
      · exact absurd hc' hc
      · refine ⟨0, sm_i σ4 34 (nI p), 0, μ4, fun K z => runX K y0 hy ?_, fun K z => runM K y0 hy ⟨fun q => absurd eF q, fun _ => z⟩, Or.inr ⟨rfl, (frX_x (fx.t (frX_v fX4))).i (by unfold IVX; omega), frM_x (fm.t (frM_v fM4)), p, by omega, rfl, k10⟩⟩
        unfold mp_X8_lookAt_68 mp_X8_lookAt_119
        exact ⟨vp_in_nI o42 (by decide), fun v _ => ⟨fun _ s es => by rw [es]; exact z, fun q => absurd gA q⟩⟩
  · -- bad in a handler
    refine ⟨0, σ1, 0, μ1, fun K z => ?_, fun K z => z, Or.inr ⟨rfl, f1, g1, x, hx, e34, e10⟩⟩
    rw [eP2]
    exact ⟨fun q => absurd (e34.symm.trans q) (nI_m1 (by omega)), fun _ => z⟩
