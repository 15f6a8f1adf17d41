/-! ===== the code of a method, both sides ===== -/
def IkX (k : Nat) : Prop := k = 15 ∨ k = 20 ∨ k = 21
def IkM (k : Nat) : Prop := k = 2 ∨ k = 3 ∨ k = 7
def AkX (p r j : Nat) : Prop := r = 19 ∧ p ≤ j
def AkM (p r j : Nat) : Prop := r = 4 ∧ p ≤ j
theorem opv.c {g g' : Nat → Nat → Int32} {b : Nat → Nat} {C lo p : Nat} (h : opv g b C lo p) (h6 : g' 6 = g 6) (h8 : g' 8 = g 8) : opv g' b C lo p := by
  unfold opv at *
  rw [h6, h8]
  exact h
theorem clq.f {I J : Nat → Prop} {A B : Nat → Nat → Prop} {σ μ σ' μ' : sm_S} {C c p0 p : Nat} (h : clq σ μ C c p0 p) (hX : fr I A σ σ') (hM : fr J B μ μ') (hA : ∀ r j, 11 ≤ r → r ≤ 15 → ¬ A r j) (hB : ∀ r j, 5 ≤ r → r ≤ 9 → ¬ B r j) : clq σ' μ' C c p0 p := by
  have rx : ∀ r, 11 ≤ r → r ≤ 15 → σ'.2.2.2.1 r = σ.2.2.2.1 r := fun r a b => hX.row (fun j => hA r j a b)
  have rm : ∀ r, 5 ≤ r → r ≤ 9 → μ'.2.2.2.1 r = μ.2.2.2.1 r := fun r a b => hM.row (fun j => hB r j a b)
  unfold clq clf tyq slq at *
  rw [rx 11 (by decide) (by decide), rx 12 (by decide) (by decide), rx 13 (by decide) (by decide), rx 14 (by decide) (by decide), rx 15 (by decide) (by decide), rm 5 (by decide) (by decide), rm 6 (by decide) (by decide), rm 7 (by decide) (by decide), rm 8 (by decide) (by decide), rm 9 (by decide) (by decide)]
  exact h
theorem rb.k {I J : Nat → Prop} {A B : Nat → Nat → Prop} {σ μ σ' μ' : sm_S} {n C : Nat} {b : Nat → Nat} (h : rb σ μ n b C) (hX : fr I A σ σ') (hM : fr J B μ μ') (i14 : ¬ I 14) (i0 : ¬ I 0) (a18 : ∀ j, ¬ A 18 j) (j1 : ¬ J 1) (j5 : ¬ J 5) (b3 : ∀ j, ¬ B 3 j) : rb σ' μ' n b C := ⟨hX.bX i14 a18 h.1, hM.bM j1 b3 h.2.1, hX.lX h.2.2.1, hM.lM h.2.2.2.1, by rw [hX.2.2.2.1 0 i0]; exact h.2.2.2.2.1, by rw [hM.2.2.2.1 5 j5]; exact h.2.2.2.2.2.1, h.2.2.2.2.2.2⟩
/-- what was read of the code up to p: the instructions' beginnings -/
def bgn (σ μ : sm_S) (b : Nat → Nat) (C lo e pc p : Nat) : Prop := (pc < p → μ.2.2.2.1 4 pc = 1) ∧ ∀ j, pc ≤ j → j < p → (σ.2.2.2.1 19 j = 0 ∧ μ.2.2.2.1 4 j = 0) ∨ (σ.2.2.2.1 19 j = 1 ∧ μ.2.2.2.1 4 j = 1 ∧ opv μ.2.2.2.1 b C lo j ∧ j + wd (b j) ≤ e ∧ j + wd (b j) ≤ p ∧ (j + wd (b j) < p → μ.2.2.2.1 4 (j + wd (b j)) = 1))
theorem w_17W {σ : sm_S} {m e i : Int32} {K : sm_S → Prop} {d : Nat} (hw : ¬ σ.1 21 = -1) (h : K σ) : mp_X6_readCode_17 K (d + 1) σ m e i := by
  unfold mp_X6_readCode_17 mp_X6_readCode_136
  exact ⟨fun _ => h, fun _ => ⟨fun _ => h, fun _ => ⟨fun _ => h, fun q => absurd q hw⟩⟩⟩
theorem jc_code {n C lo m pc e : Nat} {b : Nat → Nat} {P2 : sm_S → jk → Prop} {R : Int32 → sm_S → Int32 → sm_S → Prop} {σ0 μ0 : sm_S} (h0 : rb σ0 μ0 n b C) (h19 : n ≤ σ0.2.2.1 19) (h19b : σ0.2.2.1 19 < 2 ^ 31) (hm : m < 64) (hlo : lo ≤ 12) (r24 : σ0.2.2.2.1 24 m = nI lo) (r15 : μ0.2.2.2.1 15 m = nI lo) (hC : 1 ≤ C) (hcl : ∀ c, c < C → ∃ p0 p1, clq σ0 μ0 C c p0 p1) (he : e ≤ pc + 1000) (hpc : pc ≤ n)
    (hexit : ∀ (σ μ : sm_S) (k : Nat), fr IkX (AkX pc) σ0 σ → fr IkM (AkM pc) μ0 μ → at2 σ μ n e → bgn σ μ b C lo e pc e → (∀ j, e ≤ j → j < n → σ.2.2.2.1 19 j = 0 ∧ μ.2.2.2.1 4 j = 0) → σ.1 15 = nI k → μ.1 7 = nI k → k ≤ e → jt (P2 σ) (fun K => mp_X11_readMethod_332 K 1 μ (nI m) (nI e)) R)
    (hfail : ∀ (σ μ : sm_S), fr IkX (AkX pc) σ0 σ → fr IkM (AkM pc) μ0 μ → fail2 σ μ n → jt (P2 σ) (fun K => K 0 μ) R) :
    ∀ (d i p k : Nat) (σ μ : sm_S), e - p ≤ d → pc ≤ p → p ≤ e → i ≤ p - pc → fr IkX (AkX pc) σ0 σ → fr IkM (AkM pc) μ0 μ → at2 σ μ n p → bgn σ μ b C lo e pc p → (∀ j, p ≤ j → j < n → σ.2.2.2.1 19 j = 0 ∧ μ.2.2.2.1 4 j = 0) → σ.1 15 = nI k → μ.1 7 = nI k → k ≤ p →
      jt (fun K => mp_X6_readCode_17 (fun σ => P2 σ K) (d + 1) σ (nI m) (nI e) (nI i)) (fun K => mp_X11_readMethod_332 K (d + 1) μ (nI m) (nI e)) R := by
  have hn : n ≤ 8000 := h0.1.1
  have hbt : ∀ j, b j < 256 := h0.1.2.2.2.2.1
  have exit : ∀ (d i p k : Nat) (σ μ : sm_S), p = e → fr IkX (AkX pc) σ0 σ → fr IkM (AkM pc) μ0 μ → at2 σ μ n p → bgn σ μ b C lo e pc p → (∀ j, p ≤ j → j < n → σ.2.2.2.1 19 j = 0 ∧ μ.2.2.2.1 4 j = 0) → σ.1 15 = nI k → μ.1 7 = nI k → k ≤ p →
      jt (fun K => mp_X6_readCode_17 (fun σ => P2 σ K) (d + 1) σ (nI m) (nI e) (nI i)) (fun K => mp_X11_readMethod_332 K (d + 1) μ (nI m) (nI e)) R := by
    intro d i p k σ μ hp hX hM ha hb hz c1 c2 hk
    subst hp
    have hat : σ.1 20 = nI p := ha.2.1
    have hat2 : μ.1 2 = nI p := ha.2.2.1
    have hpn : p ≤ n := ha.1
    have hx := hexit σ μ k hX hM ha hb hz c1 c2 hk
    unfold mp_X6_readCode_17 mp_X6_readCode_136
    unfold mp_X11_readMethod_332 at hx ⊢
    refine jt_x (P2 := P2 σ) (fun K q => ⟨fun _ => q, fun _ => ⟨fun _ => q, fun z => absurd ((nI_leI (by omega) (by omega)).mpr (Nat.le_refl p)) (by rw [hat] at z; exact z)⟩⟩) ?_
    simp (disch := (first | ((try simp (disch := omega) only [va_up_self, va_up_ne, ne_eq, reduceCtorEq, Nat.reduceEqDiff, not_false_eq_true, l_0, l_2, l_3, l_4, l_5, l_6, l_7, l_8, l_9, l_10, l_11, l_12, l_13, l_14, l_15, l_16, l_17, l_18, l_19, l_20, l_21, l_22, l_23, l_24, l_25, l_26, l_27, l_28, l_29, l_30, l_31, l_32, l_33, l_34, l_35, l_36, l_37, l_38, l_39, l_40, l_41, l_42, l_43, l_44, l_45, l_46, l_47, l_48, l_49, l_50, l_51, l_52, l_53, l_54, l_55, l_56, l_57, l_58, l_59, l_60, l_61, l_62, l_63, l_64, l_97, l_98, l_99, l_200, l_225, l_232, l_255, l_256, l_700, l_1000, l_1024, l_3375, l_4095, l_8000, l_20000, l_60000, vp_nIs, zz0, zz1, e10, nI_leI, nI_ltI, nI_eq, nI_1, nI_1a, nI_add, nI_sub, nI_sub1, pk_mul, nI_clamp, nI_le1, nI_le1', nI_lt1, nI_lt1', nI_eq1, nI_eqm, m1_eqN, m1_le, m1_lt, m1_leN, m1_ltN, nI_am, not_true_eq_false, not_false_eq_true, oN_eqm, hat2]) <;> omega) | fail)) only [↓numW, ↓zb_t, ↓zb_f, ↓zb_tt, ↓zb_ff, ↓zb_i, ↓zb_z0, ↓zb_z1, ↓zb_z, ↓zb_l, ↓zb_v, vi32, vi64, true_and, pk_us, Int32.add_zero, Nat.add_sub_cancel, nI_add, nI_1, nI_1a, nI_clamp, k7, k7', k8, k8', k12, k12', k15, k15', k16, k16', nI_sub1, va_up_self, va_up_ne, ne_eq, reduceCtorEq, Nat.reduceEqDiff, not_false_eq_true, hat2]
    simp (disch := (first | ((try simp (disch := omega) only [va_up_self, va_up_ne, ne_eq, reduceCtorEq, Nat.reduceEqDiff, not_false_eq_true, l_0, l_2, l_3, l_4, l_5, l_6, l_7, l_8, l_9, l_10, l_11, l_12, l_13, l_14, l_15, l_16, l_17, l_18, l_19, l_20, l_21, l_22, l_23, l_24, l_25, l_26, l_27, l_28, l_29, l_30, l_31, l_32, l_33, l_34, l_35, l_36, l_37, l_38, l_39, l_40, l_41, l_42, l_43, l_44, l_45, l_46, l_47, l_48, l_49, l_50, l_51, l_52, l_53, l_54, l_55, l_56, l_57, l_58, l_59, l_60, l_61, l_62, l_63, l_64, l_97, l_98, l_99, l_200, l_225, l_232, l_255, l_256, l_700, l_1000, l_1024, l_3375, l_4095, l_8000, l_20000, l_60000, vp_nIs, zz0, zz1, e10, nI_leI, nI_ltI, nI_eq, nI_1, nI_1a, nI_add, nI_sub, nI_sub1, pk_mul, nI_clamp, nI_le1, nI_le1', nI_lt1, nI_lt1', nI_eq1, nI_eqm, m1_eqN, m1_le, m1_lt, m1_leN, m1_ltN, nI_am, not_true_eq_false, not_false_eq_true, oN_eqm, hat2]) <;> omega) | fail)) only [↓numW, ↓zb_t, ↓zb_f, ↓zb_tt, ↓zb_ff, ↓zb_i, ↓zb_z0, ↓zb_z1, ↓zb_z, ↓zb_l, ↓zb_v, vi32, vi64, true_and, pk_us, Int32.add_zero, Nat.add_sub_cancel, nI_add, nI_1, nI_1a, nI_clamp, k7, k7', k8, k8', k12, k12', k15, k15', k16, k16', nI_sub1, va_up_self, va_up_ne, ne_eq, reduceCtorEq, Nat.reduceEqDiff, not_false_eq_true, hat2] at hx
    exact hx
  intro d
  induction d with
  | zero =>
    intro i p k σ μ hd hpp hpe hi hX hM ha hb hz c1 c2 hk
    exact exit 0 i p k σ μ (by omega) hX hM ha hb hz c1 c2 hk
  | succ d ih =>
    intro i p k σ μ hd hpp hpe hi hX hM ha hb hz c1 c2 hk
    by_cases hpe2 : p = e
    · exact exit (d + 1) i p k σ μ hpe2 hX hM ha hb hz c1 c2 hk
    have hr : rb σ μ n b C := h0.k hX hM (by unfold IkX; omega) (by unfold IkX; omega) (fun j => (by unfold AkX; omega)) (by unfold IkM; omega) (by unfold IkM; omega) (fun j => (by unfold AkM; omega))
    have hLX := hr.2.2.1
    have hLM := hr.2.2.2.1
    have hw : σ.1 21 = -1 := ha.2.2.2.1
    have hw2 : μ.1 3 = -1 := ha.2.2.2.2
    have hat : σ.1 20 = nI p := ha.2.1
    have hat2 : μ.1 2 = nI p := ha.2.2.1
    have hpn : p ≤ n := ha.1
    have s24 : σ.2.2.2.1 24 m = nI lo := by rw [hX.2.2.2.2 24 m (by unfold AkX; omega)]; exact r24
    have s15 : μ.2.2.2.1 15 m = nI lo := by rw [hM.2.2.2.2 15 m (by unfold AkM; omega)]; exact r15
    have l19 : n ≤ σ.2.2.1 19 := by rw [hX.ln]; exact h19
    have l19b : σ.2.2.1 19 < 2 ^ 31 := by rw [hX.ln]; exact h19b
    have hcl2 : ∀ c, c < C → ∃ p0 p1, clq σ μ C c p0 p1 := fun c hc => by
      obtain ⟨p0, p1, q⟩ := hcl c hc
      exact ⟨p0, p1, q.f hX hM (fun r j _ _ => by unfold AkX; omega) (fun r j _ _ => by unfold AkM; omega)⟩
    unfold mp_X6_readCode_17 mp_X11_readMethod_332
    simp (disch := (first | ((try simp (disch := omega) only [va_up_self, va_up_ne, ne_eq, reduceCtorEq, Nat.reduceEqDiff, not_false_eq_true, l_0, l_2, l_3, l_4, l_5, l_6, l_7, l_8, l_9, l_10, l_11, l_12, l_13, l_14, l_15, l_16, l_17, l_18, l_19, l_20, l_21, l_22, l_23, l_24, l_25, l_26, l_27, l_28, l_29, l_30, l_31, l_32, l_33, l_34, l_35, l_36, l_37, l_38, l_39, l_40, l_41, l_42, l_43, l_44, l_45, l_46, l_47, l_48, l_49, l_50, l_51, l_52, l_53, l_54, l_55, l_56, l_57, l_58, l_59, l_60, l_61, l_62, l_63, l_64, l_97, l_98, l_99, l_200, l_225, l_232, l_255, l_256, l_700, l_1000, l_1024, l_3375, l_4095, l_8000, l_20000, l_60000, vp_nIs, zz0, zz1, e10, nI_leI, nI_ltI, nI_eq, nI_1, nI_1a, nI_add, nI_sub, nI_sub1, pk_mul, nI_clamp, nI_le1, nI_le1', nI_lt1, nI_lt1', nI_eq1, nI_eqm, m1_eqN, m1_le, m1_lt, m1_leN, m1_ltN, nI_am, not_true_eq_false, not_false_eq_true, oN_eqm, hat, hat2, hw]) <;> omega) | fail)) only [↓numW, ↓zb_t, ↓zb_f, ↓zb_tt, ↓zb_ff, ↓zb_i, ↓zb_z0, ↓zb_z1, ↓zb_z, ↓zb_l, ↓zb_v, vi32, vi64, true_and, pk_us, Int32.add_zero, Nat.add_sub_cancel, nI_add, nI_1, nI_1a, nI_clamp, k7, k7', k8, k8', k12, k12', k15, k15', k16, k16', nI_sub1, va_up_self, va_up_ne, ne_eq, reduceCtorEq, Nat.reduceEqDiff, not_false_eq_true, hat, hat2, hw]
    by_cases g1 : p < n ∧ b p < 42
    · obtain ⟨g1, g2⟩ := g1
      have hnum : ∀ K : jk, K (nI (b p)) (sm_i σ 20 (nI (p + 1))) → mp_X6_number σ 0 41 (-1) K := fun K q => w_number hr.1 hpn hat hw (fun _ _ => q) (fun z => by
          rcases z with z | z
          · omega
          · exact absurd (Or.inl ⟨nI_pos' (by have := hbt p; omega), (nI_leI (a := b p) (b := 41) (by omega) (by omega)).mpr (by omega)⟩) z)
      have hw5 := wd_le (b p)
      have hsz := wd_sz (b p) g2
      refine jt_xb hnum ?_
      by_cases g3 : p + wd (b p) ≤ e
      · unfold mp_X6_readCode_83 mp_X6_readCode_130
        refine jt_m (fun K q => w_rI hr.2.1 g1 hat2 hw2 g2 g3 (by omega) q) ?_
        simp (disch := (first | ((try simp (disch := omega) only [va_up_self, va_up_ne, ne_eq, reduceCtorEq, Nat.reduceEqDiff, not_false_eq_true, l_0, l_2, l_3, l_4, l_5, l_6, l_7, l_8, l_9, l_10, l_11, l_12, l_13, l_14, l_15, l_16, l_17, l_18, l_19, l_20, l_21, l_22, l_23, l_24, l_25, l_26, l_27, l_28, l_29, l_30, l_31, l_32, l_33, l_34, l_35, l_36, l_37, l_38, l_39, l_40, l_41, l_42, l_43, l_44, l_45, l_46, l_47, l_48, l_49, l_50, l_51, l_52, l_53, l_54, l_55, l_56, l_57, l_58, l_59, l_60, l_61, l_62, l_63, l_64, l_97, l_98, l_99, l_200, l_225, l_232, l_255, l_256, l_700, l_1000, l_1024, l_3375, l_4095, l_8000, l_20000, l_60000, vp_nIs, zz0, zz1, e10, nI_leI, nI_ltI, nI_eq, nI_1, nI_1a, nI_add, nI_sub, nI_sub1, pk_mul, nI_clamp, nI_le1, nI_le1', nI_lt1, nI_lt1', nI_eq1, nI_eqm, m1_eqN, m1_le, m1_lt, m1_leN, m1_ltN, nI_am, not_true_eq_false, not_false_eq_true, oN_eqm, hw, hsz, s24, c1, lx11 hLX, lx12 hLX, lx13 hLX, lx14 hLX, lx15 hLX, lx16 hLX, lx20 hLX, lx21 hLX, lx22 hLX, lx23 hLX, lx24 hLX, lx25 hLX, lx26 hLX, lx27 hLX, lx28 hLX, lx29 hLX, lm4 hLM, lm5 hLM, lm6 hLM, lm7 hLM, lm8 hLM, lm9 hLM, lm10 hLM, lm11 hLM, lm12 hLM, lm13 hLM, lm14 hLM, lm15 hLM, lm16 hLM, lm17 hLM, lm18 hLM, lm19 hLM, lm20 hLM]) <;> omega) | fail)) only [↓numW, ↓zb_t, ↓zb_f, ↓zb_tt, ↓zb_ff, ↓zb_i, ↓zb_z0, ↓zb_z1, ↓zb_z, ↓zb_l, ↓zb_v, vi32, vi64, true_and, pk_us, Int32.add_zero, Nat.add_sub_cancel, nI_add, nI_1, nI_1a, nI_clamp, k7, k7', k8, k8', k12, k12', k15, k15', k16, k16', nI_sub1, va_up_self, va_up_ne, ne_eq, reduceCtorEq, Nat.reduceEqDiff, not_false_eq_true, hw, hsz, s24, c1, lx11 hLX, lx12 hLX, lx13 hLX, lx14 hLX, lx15 hLX, lx16 hLX, lx20 hLX, lx21 hLX, lx22 hLX, lx23 hLX, lx24 hLX, lx25 hLX, lx26 hLX, lx27 hLX, lx28 hLX, lx29 hLX, lm4 hLM, lm5 hLM, lm6 hLM, lm7 hLM, lm8 hLM, lm9 hLM, lm10 hLM, lm11 hLM, lm12 hLM, lm13 hLM, lm14 hLM, lm15 hLM, lm16 hLM, lm17 hLM, lm18 hLM, lm19 hLM, lm20 hLM]
        obtain ⟨S, eS⟩ : ∃ S, S = sm_i (sm_r (sm_i σ 20 (nI (p + 1))) 19 (upd (σ.2.2.2.1 19) p (vp_nar .boolean 1))) 15 (nI (k + 1)) := ⟨_, rfl⟩
        have fS : fr IkX (AkX p) σ S := by rw [eS]; exact ((fr_r.i (by unfold IkX; omega)).u rfl (by unfold AkX; omega)).i (by unfold IkX; omega)
        have fM : fr IkM (AkM p) μ (sm_i μ 2 (nI (p + 1))) := fr_r.i (by unfold IkM; omega)
        have hrS : rb S (sm_i μ 2 (nI (p + 1))) n b C := hr.k fS fM (by unfold IkX; omega) (by unfold IkX; omega) (fun j => (by unfold AkX; omega)) (by unfold IkM; omega) (by unfold IkM; omega) (fun j => (by unfold AkM; omega))
        have aS : at2 S (sm_i μ 2 (nI (p + 1))) n (p + 1) := by rw [eS]; exact ⟨g1, rfl, rfl, hw, hw2⟩
        have S19 : S.2.2.2.1 19 = upd (σ.2.2.2.1 19) p 1 := by rw [eS]; exact sx_rs
        have S15 : S.1 15 = nI (k + 1) := by rw [eS]; exact sx_is
        have hclS : ∀ c, c < C → ∃ p0 p1, clq S (sm_i μ 2 (nI (p + 1))) C c p0 p1 := fun c hc => by
          obtain ⟨p0, p1, q⟩ := hcl2 c hc
          exact ⟨p0, p1, q.f fS fM (fun r j _ _ => by unfold AkX; omega) (fun r j _ _ => by unfold AkM; omega)⟩
        rw [← eS]
        refine jt_bv (jc_ops hrS aS hm hlo s15 g2 hC hclS) (fun r σ' r' μ' hRO => ?_)
        obtain ⟨fO, hRO⟩ := hRO
        have fO2 : fr IkX (AkX pc) σ0 σ' := (hX.t (fS.m (fun _ q => q) (fun r j q => by unfold AkX at *; omega))).t (fO.m (fun _ q => by unfold IcX at q; unfold IkX; omega) (fun _ _ q => q.elim))
        rcases hRO with ⟨er, aO, vO, μ2, fμ, eμ⟩ | ⟨er, fμ, hf⟩
        · subst er
          have n7 : μ2.1 7 = nI k := by rw [fμ.2.2.2.1 7 (by unfold IcM; omega)]; exact c2
          have n4 : μ2.2.2.2.1 4 = μ.2.2.2.1 4 := fμ.row (fun j q => q)
          have f2 : fr IkM (AkM pc) μ0 μ' := by
            rw [eμ]
            exact ((((hM.t (fM.m (fun _ q => q) (fun r j q => by unfold AkM at *; omega))).t (fμ.m (fun _ q => by unfold IcM at q; unfold IkM; omega) (fun _ _ q => q.elim))).u rfl (by unfold AkM; omega)).i (by unfold IkM; omega))
          have M4 : μ'.2.2.2.1 4 = upd (μ.2.2.2.1 4) p 1 := by rw [eμ]; show va_up μ2.2.2.2.1 4 _ 4 = _; rw [va_up_self, n4]; rfl
          have M7 : μ'.1 7 = nI (k + 1) := by rw [eμ, n7, nI_1]; exact sx_is
          have M6 : ∀ r, r ≠ 4 → μ'.2.2.2.1 r = μ.2.2.2.1 r := fun r q => by rw [eμ]; show va_up μ2.2.2.2.1 4 _ r = _; rw [va_up_ne _ _ q]; exact fμ.row (fun j q => q)
          have O19 : σ'.2.2.2.1 19 = upd (σ.2.2.2.1 19) p 1 := by rw [← S19]; exact fO.row (fun j q => q)
          have O15 : σ'.1 15 = nI (k + 1) := by rw [fO.2.2.2.1 15 (by unfold IcX; omega)]; exact S15
          clear eμ
          simp (disch := (first | ((try simp (disch := omega) only [va_up_self, va_up_ne, ne_eq, reduceCtorEq, Nat.reduceEqDiff, not_false_eq_true, l_0, l_2, l_3, l_4, l_5, l_6, l_7, l_8, l_9, l_10, l_11, l_12, l_13, l_14, l_15, l_16, l_17, l_18, l_19, l_20, l_21, l_22, l_23, l_24, l_25, l_26, l_27, l_28, l_29, l_30, l_31, l_32, l_33, l_34, l_35, l_36, l_37, l_38, l_39, l_40, l_41, l_42, l_43, l_44, l_45, l_46, l_47, l_48, l_49, l_50, l_51, l_52, l_53, l_54, l_55, l_56, l_57, l_58, l_59, l_60, l_61, l_62, l_63, l_64, l_97, l_98, l_99, l_200, l_225, l_232, l_255, l_256, l_700, l_1000, l_1024, l_3375, l_4095, l_8000, l_20000, l_60000, vp_nIs, zz0, zz1, e10, nI_leI, nI_ltI, nI_eq, nI_1, nI_1a, nI_add, nI_sub, nI_sub1, pk_mul, nI_clamp, nI_le1, nI_le1', nI_lt1, nI_lt1', nI_eq1, nI_eqm, m1_eqN, m1_le, m1_lt, m1_leN, m1_ltN, nI_am, not_true_eq_false, not_false_eq_true, oN_eqm, hw]) <;> omega) | fail)) only [↓numW, ↓zb_t, ↓zb_f, ↓zb_tt, ↓zb_ff, ↓zb_i, ↓zb_z0, ↓zb_z1, ↓zb_z, ↓zb_l, ↓zb_v, vi32, vi64, true_and, pk_us, Int32.add_zero, Nat.add_sub_cancel, nI_add, nI_1, nI_1a, nI_clamp, k7, k7', k8, k8', k12, k12', k15, k15', k16, k16', nI_sub1, va_up_self, va_up_ne, ne_eq, reduceCtorEq, Nat.reduceEqDiff, not_false_eq_true, hw]
          refine ih (i + 1) (p + wd (b p)) (k + 1) σ' μ' (by omega) (by omega) g3 (by omega) fO2 f2 aO ⟨?_, ?_⟩ ?_ O15 M7 (by omega)
          · intro _
            rw [M4]
            by_cases e1 : pc = p
            · rw [e1, pk_us]
            · rw [pk_un e1]
              exact hb.1 (by omega)
          · intro j hj1 hj2
            rw [O19, M4]
            by_cases e1 : j = p
            · subst e1
              right
              rw [pk_us, pk_us]
              exact ⟨rfl, rfl, vO.c (M6 6 (by decide)) (M6 8 (by decide)), g3, Nat.le_refl _, fun q => absurd q (by omega)⟩
            · rw [pk_un e1, pk_un e1]
              by_cases e2 : j < p
              · rcases hb.2 j hj1 e2 with q | ⟨q1, q2, q3, q4, q5, q6⟩
                · exact Or.inl q
                · refine Or.inr ⟨q1, q2, q3.c (M6 6 (by decide)) (M6 8 (by decide)), q4, by omega, fun _ => ?_⟩
                  by_cases e3 : j + wd (b j) = p
                  · rw [e3, pk_us]
                  · rw [pk_un e3]
                    exact q6 (by omega)
              · exact Or.inl (hz j (by omega) (by have := aO.1; omega))
          · intro j hj1 hj2
            rw [O19, M4, pk_un (by omega), pk_un (by omega)]
            exact hz j (by omega) hj2
        · subst er
          have f2 : fr IkM (AkM pc) μ0 μ' := (hM.t (fM.m (fun _ q => q) (fun r j q => by unfold AkM at *; omega))).t (fμ.m (fun _ q => by unfold IcM at q; unfold IkM; omega) (fun _ _ q => q.elim))
          have hwf : ¬ σ'.1 21 = -1 := by
            obtain ⟨w, w1, w2, _⟩ := hf
            rw [w2]; exact nI_m1 (by omega)
          simp (disch := (first | ((try simp (disch := omega) only [va_up_self, va_up_ne, ne_eq, reduceCtorEq, Nat.reduceEqDiff, not_false_eq_true, l_0, l_2, l_3, l_4, l_5, l_6, l_7, l_8, l_9, l_10, l_11, l_12, l_13, l_14, l_15, l_16, l_17, l_18, l_19, l_20, l_21, l_22, l_23, l_24, l_25, l_26, l_27, l_28, l_29, l_30, l_31, l_32, l_33, l_34, l_35, l_36, l_37, l_38, l_39, l_40, l_41, l_42, l_43, l_44, l_45, l_46, l_47, l_48, l_49, l_50, l_51, l_52, l_53, l_54, l_55, l_56, l_57, l_58, l_59, l_60, l_61, l_62, l_63, l_64, l_97, l_98, l_99, l_200, l_225, l_232, l_255, l_256, l_700, l_1000, l_1024, l_3375, l_4095, l_8000, l_20000, l_60000, vp_nIs, zz0, zz1, e10, nI_leI, nI_ltI, nI_eq, nI_1, nI_1a, nI_add, nI_sub, nI_sub1, pk_mul, nI_clamp, nI_le1, nI_le1', nI_lt1, nI_lt1', nI_eq1, nI_eqm, m1_eqN, m1_le, m1_lt, m1_leN, m1_ltN, nI_am, not_true_eq_false, not_false_eq_true, oN_eqm, hw]) <;> omega) | fail)) only [↓numW, ↓zb_t, ↓zb_f, ↓zb_tt, ↓zb_ff, ↓zb_i, ↓zb_z0, ↓zb_z1, ↓zb_z, ↓zb_l, ↓zb_v, vi32, vi64, true_and, pk_us, Int32.add_zero, Nat.add_sub_cancel, nI_add, nI_1, nI_1a, nI_clamp, k7, k7', k8, k8', k12, k12', k15, k15', k16, k16', nI_sub1, va_up_self, va_up_ne, ne_eq, reduceCtorEq, Nat.reduceEqDiff, not_false_eq_true, hw]
          exact jt_x (fun K q => w_17W hwf q) (hfail σ' μ' fO2 f2 hf)
      · refine jt_m (fun K q => w_rIs hr.2.1 g1 hat2 hw2 g2 (by omega) q) ?_
        unfold mp_X6_readCode_83 mp_X6_readCode_130
        simp (disch := (first | ((try simp (disch := omega) only [va_up_self, va_up_ne, ne_eq, reduceCtorEq, Nat.reduceEqDiff, not_false_eq_true, l_0, l_2, l_3, l_4, l_5, l_6, l_7, l_8, l_9, l_10, l_11, l_12, l_13, l_14, l_15, l_16, l_17, l_18, l_19, l_20, l_21, l_22, l_23, l_24, l_25, l_26, l_27, l_28, l_29, l_30, l_31, l_32, l_33, l_34, l_35, l_36, l_37, l_38, l_39, l_40, l_41, l_42, l_43, l_44, l_45, l_46, l_47, l_48, l_49, l_50, l_51, l_52, l_53, l_54, l_55, l_56, l_57, l_58, l_59, l_60, l_61, l_62, l_63, l_64, l_97, l_98, l_99, l_200, l_225, l_232, l_255, l_256, l_700, l_1000, l_1024, l_3375, l_4095, l_8000, l_20000, l_60000, vp_nIs, zz0, zz1, e10, nI_leI, nI_ltI, nI_eq, nI_1, nI_1a, nI_add, nI_sub, nI_sub1, pk_mul, nI_clamp, nI_le1, nI_le1', nI_lt1, nI_lt1', nI_eq1, nI_eqm, m1_eqN, m1_le, m1_lt, m1_leN, m1_ltN, nI_am, not_true_eq_false, not_false_eq_true, oN_eqm, hw, hsz]) <;> omega) | fail)) only [↓numW, ↓zb_t, ↓zb_f, ↓zb_tt, ↓zb_ff, ↓zb_i, ↓zb_z0, ↓zb_z1, ↓zb_z, ↓zb_l, ↓zb_v, vi32, vi64, true_and, pk_us, Int32.add_zero, Nat.add_sub_cancel, nI_add, nI_1, nI_1a, nI_clamp, k7, k7', k8, k8', k12, k12', k15, k15', k16, k16', nI_sub1, va_up_self, va_up_ne, ne_eq, reduceCtorEq, Nat.reduceEqDiff, not_false_eq_true, hw, hsz]
        refine jt_x (fun K q => w_17W ?_ q) (hfail _ _ ((hX.i (by unfold IkX; omega)).i (by unfold IkX; omega)) ((hM.i (by unfold IkM; omega)).i (by unfold IkM; omega)) ⟨p, hpn, rfl, rfl⟩)
        exact nI_m1 (by omega)
    · refine jt_m (fun K q => w_rIf hr.2.1 hpn hat2 hw2 g1 q) ?_
      have hnum : ∀ K : jk, K 0 (sm_i σ 21 (nI p)) → mp_X6_number σ 0 41 (-1) K := fun K q => w_number hr.1 hpn hat hw (fun z1 z => by
          have := hbt p
          rcases z with z | z
          · have := (nI_leI (a := b p) (b := 41) (by omega) (by omega)).mp z.2
            omega
          · exact absurd z (nI_m1 (by omega))) (fun _ => q)
      refine jt_xb hnum ?_
      unfold mp_X6_readCode_83 mp_X6_readCode_130
      simp (disch := (first | ((try simp (disch := omega) only [va_up_self, va_up_ne, ne_eq, reduceCtorEq, Nat.reduceEqDiff, not_false_eq_true, l_0, l_2, l_3, l_4, l_5, l_6, l_7, l_8, l_9, l_10, l_11, l_12, l_13, l_14, l_15, l_16, l_17, l_18, l_19, l_20, l_21, l_22, l_23, l_24, l_25, l_26, l_27, l_28, l_29, l_30, l_31, l_32, l_33, l_34, l_35, l_36, l_37, l_38, l_39, l_40, l_41, l_42, l_43, l_44, l_45, l_46, l_47, l_48, l_49, l_50, l_51, l_52, l_53, l_54, l_55, l_56, l_57, l_58, l_59, l_60, l_61, l_62, l_63, l_64, l_97, l_98, l_99, l_200, l_225, l_232, l_255, l_256, l_700, l_1000, l_1024, l_3375, l_4095, l_8000, l_20000, l_60000, vp_nIs, zz0, zz1, e10, nI_leI, nI_ltI, nI_eq, nI_1, nI_1a, nI_add, nI_sub, nI_sub1, pk_mul, nI_clamp, nI_le1, nI_le1', nI_lt1, nI_lt1', nI_eq1, nI_eqm, m1_eqN, m1_le, m1_lt, m1_leN, m1_ltN, nI_am, not_true_eq_false, not_false_eq_true, oN_eqm, hw]) <;> omega) | fail)) only [↓numW, ↓zb_t, ↓zb_f, ↓zb_tt, ↓zb_ff, ↓zb_i, ↓zb_z0, ↓zb_z1, ↓zb_z, ↓zb_l, ↓zb_v, vi32, vi64, true_and, pk_us, Int32.add_zero, Nat.add_sub_cancel, nI_add, nI_1, nI_1a, nI_clamp, k7, k7', k8, k8', k12, k12', k15, k15', k16, k16', nI_sub1, va_up_self, va_up_ne, ne_eq, reduceCtorEq, Nat.reduceEqDiff, not_false_eq_true, hw]
      refine jt_x (fun K q => w_17W ?_ q) (hfail _ _ (hX.i (by unfold IkX; omega)) (hM.i (by unfold IkM; omega)) ⟨p, hpn, rfl, rfl⟩)
      exact nI_m1 (by omega)
