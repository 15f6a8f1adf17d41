/-! ===== the verifier of the class: small steps ===== -/
def IvX (k : Nat) : Prop := k = 29 ∨ k = 33
def AvX (r _ : Nat) : Prop := r = 35
theorem imX.f {I : Nat → Prop} {A : Nat → Nat → Prop} {σ σ' : sm_S} {T : Nat → Nat → Nat} {b : Nat → Nat} (h : imX σ T b) (hX : fr I A σ σ') (hI : ∀ k, k = 0 ∨ k = 14 ∨ k = 15 ∨ k = 16 ∨ k = 17 → ¬ I k) (hA : ∀ r j, 11 ≤ r → r ≤ 29 → r ≠ 17 → ¬ A r j) : imX σ' T b := by
  have rr : ∀ r, 11 ≤ r → r ≤ 29 → r ≠ 17 → σ'.2.2.2.1 r = σ.2.2.2.1 r := fun r a b c => hX.row (fun j => hA r j a b c)
  have ri : ∀ k, k = 0 ∨ k = 14 ∨ k = 15 ∨ k = 16 ∨ k = 17 → σ'.1 k = σ.1 k := fun k a => hX.2.2.2.1 k (hI k a)
  obtain ⟨h1, h2, h3, h4, h5, h6, h7, h8, h9⟩ := h
  refine ⟨hX.bX (hI 14 (by omega)) (fun j => hA 18 j (by decide) (by decide) (by decide)) h1, hX.lX h2, by rw [hX.ln]; exact h3, by rw [ri 0 (by omega)]; exact h4, by rw [ri 16 (by omega)]; exact h5, by rw [ri 17 (by omega)]; exact h6, by rw [ri 15 (by omega)]; exact h7, ?_, fun m hm => ?_⟩
  · unfold icX at h8 ⊢
    rw [rr 11 (by decide) (by decide) (by decide), rr 12 (by decide) (by decide) (by decide), rr 13 (by decide) (by decide) (by decide), rr 14 (by decide) (by decide) (by decide), rr 15 (by decide) (by decide) (by decide), rr 16 (by decide) (by decide) (by decide)]
    exact h8
  · have := h9 m hm
    unfold imtX at this ⊢
    rw [rr 19 (by decide) (by decide) (by decide), rr 20 (by decide) (by decide) (by decide), rr 21 (by decide) (by decide) (by decide), rr 22 (by decide) (by decide) (by decide), rr 23 (by decide) (by decide) (by decide), rr 24 (by decide) (by decide) (by decide), rr 25 (by decide) (by decide) (by decide), rr 26 (by decide) (by decide) (by decide), rr 27 (by decide) (by decide) (by decide), rr 28 (by decide) (by decide) (by decide), rr 29 (by decide) (by decide) (by decide)]
    exact this
theorem imX.v {σ σ' : sm_S} {T : Nat → Nat → Nat} {b : Nat → Nat} (h : imX σ T b) (hX : fr IvX AvX σ σ') : imX σ' T b := h.f hX (fun k q => by unfold IvX; omega) (fun r j a c d => by unfold AvX; omega)
/-- what may lie on the verifier's stack when nothing fits any more -/
def okv (T : Nat → Nat → Nat) (x : Int32) : Prop := (∃ v, x = nI v ∧ 1 ≤ v ∧ v ≤ T 0 0) ∨ x < 1 ∨ 32 < x
theorem okv_vt {T : Nat → Nat → Nat} {v : Nat} (hC : T 0 0 ≤ 32) (h : vt T v) : okv T (nI v) := by
  unfold vt at h
  by_cases e0 : v = 0
  · right; left; rw [e0]; decide
  · by_cases e : v ≤ T 0 0
    · exact Or.inl ⟨v, rfl, by omega, e⟩
    · right; right
      show nI 32 < nI v
      rw [nI_ltI (by omega) (by omega)]
      omega
/-- the part that stands while one method is verified -/
def bX (σ : sm_S) (T : Nat → Nat → Nat) (b : Nat → Nat) (m : Nat) : Prop := imX σ T b ∧ σ.1 30 = nI m ∧ σ.1 31 = nI (T 15 m) ∧ σ.2.2.1 35 = 12
/-- it fits so far: t high, w the types -/
def gX (σ : sm_S) (T : Nat → Nat → Nat) (m t : Nat) (w : Nat → Nat) : Prop := σ.1 29 = nI t ∧ t ≤ T 16 m ∧ σ.1 33 = 1 ∧ ∀ i, i < T 15 m + t → σ.2.2.2.1 35 i = nI (w i) ∧ vt T (w i)
/-- it does not fit -/
def jX (σ : sm_S) (T : Nat → Nat → Nat) (m : Nat) : Prop := σ.1 33 = 0 ∧ ∃ t, σ.1 29 = nI t ∧ t ≤ T 16 m ∧ ∀ i, i < T 15 m + t → okv T (σ.2.2.2.1 35 i)
def sX (σ : sm_S) (T : Nat → Nat → Nat) (m : Nat) (c : Prop) (t : Nat) (w : Nat → Nat) : Prop := (c ∧ gX σ T m t w) ∨ (¬ c ∧ jX σ T m)
theorem sX.c {σ : sm_S} {T : Nat → Nat → Nat} {m t t' : Nat} {c c' : Prop} {w w' : Nat → Nat} (h : sX σ T m c t w) (hc : c ↔ c') (ht : c → t = t') (hw : c → ∀ i, i < T 15 m + t → w i = w' i) : sX σ T m c' t' w' := by
  rcases h with ⟨h1, h2, h3, h4, h5⟩ | ⟨h1, h2⟩
  · have e := ht h1
    refine Or.inl ⟨hc.mp h1, by rw [← e]; exact h2, by rw [← e]; exact h3, h4, fun i hi => ?_⟩
    rw [← e] at hi
    rw [← hw h1 i hi]
    exact h5 i hi
  · exact Or.inr ⟨fun q => h1 (hc.mpr q), h2⟩
theorem bX.v {σ σ' : sm_S} {T : Nat → Nat → Nat} {b : Nat → Nat} {m : Nat} (h : bX σ T b m) (hX : fr IvX AvX σ σ') : bX σ' T b m := ⟨h.1.v hX, by rw [hX.2.2.2.1 30 (by unfold IvX; omega)]; exact h.2.1, by rw [hX.2.2.2.1 31 (by unfold IvX; omega)]; exact h.2.2.1, by rw [hX.ln]; exact h.2.2.2⟩
/-- the result of a small step -/
def rX (σ : sm_S) (T : Nat → Nat → Nat) (m : Nat) (c : Prop) (t : Nat) (w : Nat → Nat) (_ : Int32) (σ' : sm_S) : Prop := fr IvX AvX σ σ' ∧ sX σ' T m c t w
theorem e_take {σ : sm_S} {T : Nat → Nat → Nat} {b : Nat → Nat} {m t : Nat} {c : Prop} {w : Nat → Nat} (hb : bX σ T b m) (hw : wf T b) (hm : m < T 0 1) (h : sX σ T m c t w) : et (fun K => mp_X8_take σ K) (fun r σ' => rX σ T m (c ∧ 1 ≤ t) (t - 1) w r σ' ∧ okv T r ∧ (c ∧ 1 ≤ t → r = nI (w (T 15 m + t - 1)) ∧ vt T (w (T 15 m + t - 1)))) := by
  have w2 := hw.2.1
  have h12 := (hw.2.2.2.2.2.2.2.2.1 m hm).2.2.2.2.2.2.1
  obtain ⟨b1, b2, b3, b4⟩ := hb
  unfold mp_X8_take
  rcases h with ⟨h1, h2, h3, h4, h5⟩ | ⟨h1, h2, t', h3, h4, h5⟩
  · have gk : ∀ i, i < T 15 m + t → okv T (σ.2.2.2.1 35 i) := fun i hi => by rw [(h5 i hi).1]; exact okv_vt w2 (h5 i hi).2
    by_cases e : t = 0
    · simp (disch := (first | ((try simp (disch := omega) only [va_up_self, va_up_ne, ne_eq, reduceCtorEq, Nat.reduceEqDiff, not_false_eq_true, l_0, l_2, l_3, l_4, l_5, l_6, l_7, l_8, l_9, l_10, l_11, l_12, l_13, l_14, l_15, l_16, l_17, l_18, l_19, l_20, l_21, l_22, l_23, l_24, l_25, l_26, l_27, l_28, l_29, l_30, l_31, l_32, l_33, l_34, l_35, l_36, l_37, l_38, l_39, l_40, l_41, l_42, l_43, l_44, l_45, l_46, l_47, l_48, l_49, l_50, l_51, l_52, l_53, l_54, l_55, l_56, l_57, l_58, l_59, l_60, l_61, l_62, l_63, l_64, l_97, l_98, l_99, l_200, l_225, l_232, l_255, l_256, l_700, l_1000, l_1024, l_3375, l_4095, l_8000, l_20000, l_60000, vp_nIs, zz0, zz1, e10, nI_leI, nI_ltI, nI_eq, nI_1, nI_1a, nI_add, nI_sub, nI_sub1, pk_mul, nI_clamp, nI_le1, nI_le1', nI_lt1, nI_lt1', nI_eq1, nI_eqm, m1_eqN, m1_le, m1_lt, m1_leN, m1_ltN, nI_am, not_true_eq_false, not_false_eq_true, oN_eqm, h2]) <;> omega) | fail)) only [↓numW, ↓zb_t, ↓zb_f, ↓zb_tt, ↓zb_ff, ↓zb_i, ↓zb_z0, ↓zb_z1, ↓zb_z, ↓zb_l, ↓zb_v, vi32, vi64, true_and, pk_us, Int32.add_zero, Nat.add_sub_cancel, nI_add, nI_1, nI_1a, nI_clamp, k7, k7', k8, k8', k12, k12', k15, k15', k16, k16', nI_sub1, va_up_self, va_up_ne, ne_eq, reduceCtorEq, Nat.reduceEqDiff, not_false_eq_true, h2]
      exact et_e ⟨⟨(by repeat' (first | exact fr_r | assumption | refine fr.i ?_ (by unfold IvX; omega) | refine fr.u ?_ (by rfl) (by unfold AvX; omega))), Or.inr ⟨fun q => by omega, rfl, t, h2, h3, gk⟩⟩, Or.inr (Or.inr (by decide)), fun q => by omega⟩
    · have hv := h5 (T 15 m + (t - 1)) (by omega)
      simp (disch := (first | ((try simp (disch := omega) only [va_up_self, va_up_ne, ne_eq, reduceCtorEq, Nat.reduceEqDiff, not_false_eq_true, l_0, l_2, l_3, l_4, l_5, l_6, l_7, l_8, l_9, l_10, l_11, l_12, l_13, l_14, l_15, l_16, l_17, l_18, l_19, l_20, l_21, l_22, l_23, l_24, l_25, l_26, l_27, l_28, l_29, l_30, l_31, l_32, l_33, l_34, l_35, l_36, l_37, l_38, l_39, l_40, l_41, l_42, l_43, l_44, l_45, l_46, l_47, l_48, l_49, l_50, l_51, l_52, l_53, l_54, l_55, l_56, l_57, l_58, l_59, l_60, l_61, l_62, l_63, l_64, l_97, l_98, l_99, l_200, l_225, l_232, l_255, l_256, l_700, l_1000, l_1024, l_3375, l_4095, l_8000, l_20000, l_60000, vp_nIs, zz0, zz1, e10, nI_leI, nI_ltI, nI_eq, nI_1, nI_1a, nI_add, nI_sub, nI_sub1, pk_mul, nI_clamp, nI_le1, nI_le1', nI_lt1, nI_lt1', nI_eq1, nI_eqm, m1_eqN, m1_le, m1_lt, m1_leN, m1_ltN, nI_am, not_true_eq_false, not_false_eq_true, oN_eqm, h2, b3, b4, hv.1]) <;> omega) | fail)) only [↓numW, ↓zb_t, ↓zb_f, ↓zb_tt, ↓zb_ff, ↓zb_i, ↓zb_z0, ↓zb_z1, ↓zb_z, ↓zb_l, ↓zb_v, vi32, vi64, true_and, pk_us, Int32.add_zero, Nat.add_sub_cancel, nI_add, nI_1, nI_1a, nI_clamp, k7, k7', k8, k8', k12, k12', k15, k15', k16, k16', nI_sub1, va_up_self, va_up_ne, ne_eq, reduceCtorEq, Nat.reduceEqDiff, not_false_eq_true, h2, b3, b4, hv.1]
      refine et_e ⟨⟨(by repeat' (first | exact fr_r | assumption | refine fr.i ?_ (by unfold IvX; omega) | refine fr.u ?_ (by rfl) (by unfold AvX; omega))), Or.inl ⟨⟨h1, by omega⟩, rfl, by omega, h4, fun i hi => h5 i (by omega)⟩⟩, okv_vt w2 hv.2, fun _ => ?_⟩
      rw [show T 15 m + t - 1 = T 15 m + (t - 1) by omega]
      exact ⟨rfl, hv.2⟩
  · by_cases e : t' = 0
    · simp (disch := (first | ((try simp (disch := omega) only [va_up_self, va_up_ne, ne_eq, reduceCtorEq, Nat.reduceEqDiff, not_false_eq_true, l_0, l_2, l_3, l_4, l_5, l_6, l_7, l_8, l_9, l_10, l_11, l_12, l_13, l_14, l_15, l_16, l_17, l_18, l_19, l_20, l_21, l_22, l_23, l_24, l_25, l_26, l_27, l_28, l_29, l_30, l_31, l_32, l_33, l_34, l_35, l_36, l_37, l_38, l_39, l_40, l_41, l_42, l_43, l_44, l_45, l_46, l_47, l_48, l_49, l_50, l_51, l_52, l_53, l_54, l_55, l_56, l_57, l_58, l_59, l_60, l_61, l_62, l_63, l_64, l_97, l_98, l_99, l_200, l_225, l_232, l_255, l_256, l_700, l_1000, l_1024, l_3375, l_4095, l_8000, l_20000, l_60000, vp_nIs, zz0, zz1, e10, nI_leI, nI_ltI, nI_eq, nI_1, nI_1a, nI_add, nI_sub, nI_sub1, pk_mul, nI_clamp, nI_le1, nI_le1', nI_lt1, nI_lt1', nI_eq1, nI_eqm, m1_eqN, m1_le, m1_lt, m1_leN, m1_ltN, nI_am, not_true_eq_false, not_false_eq_true, oN_eqm, h3]) <;> omega) | fail)) only [↓numW, ↓zb_t, ↓zb_f, ↓zb_tt, ↓zb_ff, ↓zb_i, ↓zb_z0, ↓zb_z1, ↓zb_z, ↓zb_l, ↓zb_v, vi32, vi64, true_and, pk_us, Int32.add_zero, Nat.add_sub_cancel, nI_add, nI_1, nI_1a, nI_clamp, k7, k7', k8, k8', k12, k12', k15, k15', k16, k16', nI_sub1, va_up_self, va_up_ne, ne_eq, reduceCtorEq, Nat.reduceEqDiff, not_false_eq_true, h3]
      exact et_e ⟨⟨(by repeat' (first | exact fr_r | assumption | refine fr.i ?_ (by unfold IvX; omega) | refine fr.u ?_ (by rfl) (by unfold AvX; omega))), Or.inr ⟨fun q => h1 q.1, rfl, t', h3, h4, h5⟩⟩, Or.inr (Or.inr (by decide)), fun q => absurd q.1 h1⟩
    · simp (disch := (first | ((try simp (disch := omega) only [va_up_self, va_up_ne, ne_eq, reduceCtorEq, Nat.reduceEqDiff, not_false_eq_true, l_0, l_2, l_3, l_4, l_5, l_6, l_7, l_8, l_9, l_10, l_11, l_12, l_13, l_14, l_15, l_16, l_17, l_18, l_19, l_20, l_21, l_22, l_23, l_24, l_25, l_26, l_27, l_28, l_29, l_30, l_31, l_32, l_33, l_34, l_35, l_36, l_37, l_38, l_39, l_40, l_41, l_42, l_43, l_44, l_45, l_46, l_47, l_48, l_49, l_50, l_51, l_52, l_53, l_54, l_55, l_56, l_57, l_58, l_59, l_60, l_61, l_62, l_63, l_64, l_97, l_98, l_99, l_200, l_225, l_232, l_255, l_256, l_700, l_1000, l_1024, l_3375, l_4095, l_8000, l_20000, l_60000, vp_nIs, zz0, zz1, e10, nI_leI, nI_ltI, nI_eq, nI_1, nI_1a, nI_add, nI_sub, nI_sub1, pk_mul, nI_clamp, nI_le1, nI_le1', nI_lt1, nI_lt1', nI_eq1, nI_eqm, m1_eqN, m1_le, m1_lt, m1_leN, m1_ltN, nI_am, not_true_eq_false, not_false_eq_true, oN_eqm, h3, b3, b4]) <;> omega) | fail)) only [↓numW, ↓zb_t, ↓zb_f, ↓zb_tt, ↓zb_ff, ↓zb_i, ↓zb_z0, ↓zb_z1, ↓zb_z, ↓zb_l, ↓zb_v, vi32, vi64, true_and, pk_us, Int32.add_zero, Nat.add_sub_cancel, nI_add, nI_1, nI_1a, nI_clamp, k7, k7', k8, k8', k12, k12', k15, k15', k16, k16', nI_sub1, va_up_self, va_up_ne, ne_eq, reduceCtorEq, Nat.reduceEqDiff, not_false_eq_true, h3, b3, b4]
      exact et_e ⟨⟨(by repeat' (first | exact fr_r | assumption | refine fr.i ?_ (by unfold IvX; omega) | refine fr.u ?_ (by rfl) (by unfold AvX; omega))), Or.inr ⟨fun q => h1 q.1, h2, t' - 1, rfl, by omega, fun i hi => h5 i (by omega)⟩⟩, h5 _ (by omega), fun q => absurd q.1 h1⟩
theorem e_push {σ : sm_S} {T : Nat → Nat → Nat} {b : Nat → Nat} {m t v : Nat} {c : Prop} {w : Nat → Nat} {x : Int32} (hb : bX σ T b m) (hw : wf T b) (hm : m < T 0 1) (h : sX σ T m c t w) (hx : okv T x) (hv : c → x = nI v ∧ vt T v) : et (fun K => mp_X8_push σ x (fun σ => K 0 σ)) (rX σ T m (c ∧ t < T 16 m) (t + 1) (va_up w (T 15 m + t) v)) := by
  have w2 := hw.2.1
  have w4 := hw.2.2.2.1
  have h12 := (hw.2.2.2.2.2.2.2.2.1 m hm).2.2.2.2.2.2.1
  obtain ⟨b1, b2, b3, b4⟩ := hb
  have r25 := (b1.2.2.2.2.2.2.2.2 m hm).2.2.2.2.2.1
  have l25 := lx25 b1.2.1
  unfold mp_X8_push
  rcases h with ⟨h1, h2, h3, h4, h5⟩ | ⟨h1, h2, t', h3, h4, h5⟩
  · have gk : ∀ i, i < T 15 m + t → okv T (σ.2.2.2.1 35 i) := fun i hi => by rw [(h5 i hi).1]; exact okv_vt w2 (h5 i hi).2
    by_cases e : t < T 16 m
    · simp (disch := (first | ((try simp (disch := omega) only [va_up_self, va_up_ne, ne_eq, reduceCtorEq, Nat.reduceEqDiff, not_false_eq_true, l_0, l_2, l_3, l_4, l_5, l_6, l_7, l_8, l_9, l_10, l_11, l_12, l_13, l_14, l_15, l_16, l_17, l_18, l_19, l_20, l_21, l_22, l_23, l_24, l_25, l_26, l_27, l_28, l_29, l_30, l_31, l_32, l_33, l_34, l_35, l_36, l_37, l_38, l_39, l_40, l_41, l_42, l_43, l_44, l_45, l_46, l_47, l_48, l_49, l_50, l_51, l_52, l_53, l_54, l_55, l_56, l_57, l_58, l_59, l_60, l_61, l_62, l_63, l_64, l_97, l_98, l_99, l_200, l_225, l_232, l_255, l_256, l_700, l_1000, l_1024, l_3375, l_4095, l_8000, l_20000, l_60000, vp_nIs, zz0, zz1, e10, nI_leI, nI_ltI, nI_eq, nI_1, nI_1a, nI_add, nI_sub, nI_sub1, pk_mul, nI_clamp, nI_le1, nI_le1', nI_lt1, nI_lt1', nI_eq1, nI_eqm, m1_eqN, m1_le, m1_lt, m1_leN, m1_ltN, nI_am, not_true_eq_false, not_false_eq_true, oN_eqm, h2, b2, b3, b4, r25, l25]) <;> omega) | fail)) only [↓numW, ↓zb_t, ↓zb_f, ↓zb_tt, ↓zb_ff, ↓zb_i, ↓zb_z0, ↓zb_z1, ↓zb_z, ↓zb_l, ↓zb_v, vi32, vi64, true_and, pk_us, Int32.add_zero, Nat.add_sub_cancel, nI_add, nI_1, nI_1a, nI_clamp, k7, k7', k8, k8', k12, k12', k15, k15', k16, k16', nI_sub1, va_up_self, va_up_ne, ne_eq, reduceCtorEq, Nat.reduceEqDiff, not_false_eq_true, h2, b2, b3, b4, r25, l25]
      refine et_e ⟨(by repeat' (first | exact fr_r | assumption | refine fr.i ?_ (by unfold IvX; omega) | refine fr.u ?_ (by rfl) (by unfold AvX; omega))), Or.inl ⟨⟨h1, e⟩, rfl, by omega, h4, fun i hi => ?_⟩⟩
      by_cases e2 : i = T 15 m + t
      · subst e2
        rw [va_up_self]
        refine ⟨?_, (hv h1).2⟩
        simp (disch := omega) only [va_up_self, va_up_ne, pk_us, pk_un, pk_us]
        exact (hv h1).1
      · rw [va_up_ne _ _ e2]
        refine ⟨?_, (h5 i (by omega)).2⟩
        simp (disch := omega) only [va_up_self, va_up_ne, pk_us, pk_un, pk_us]
        exact (h5 i (by omega)).1
    · simp (disch := (first | ((try simp (disch := omega) only [va_up_self, va_up_ne, ne_eq, reduceCtorEq, Nat.reduceEqDiff, not_false_eq_true, l_0, l_2, l_3, l_4, l_5, l_6, l_7, l_8, l_9, l_10, l_11, l_12, l_13, l_14, l_15, l_16, l_17, l_18, l_19, l_20, l_21, l_22, l_23, l_24, l_25, l_26, l_27, l_28, l_29, l_30, l_31, l_32, l_33, l_34, l_35, l_36, l_37, l_38, l_39, l_40, l_41, l_42, l_43, l_44, l_45, l_46, l_47, l_48, l_49, l_50, l_51, l_52, l_53, l_54, l_55, l_56, l_57, l_58, l_59, l_60, l_61, l_62, l_63, l_64, l_97, l_98, l_99, l_200, l_225, l_232, l_255, l_256, l_700, l_1000, l_1024, l_3375, l_4095, l_8000, l_20000, l_60000, vp_nIs, zz0, zz1, e10, nI_leI, nI_ltI, nI_eq, nI_1, nI_1a, nI_add, nI_sub, nI_sub1, pk_mul, nI_clamp, nI_le1, nI_le1', nI_lt1, nI_lt1', nI_eq1, nI_eqm, m1_eqN, m1_le, m1_lt, m1_leN, m1_ltN, nI_am, not_true_eq_false, not_false_eq_true, oN_eqm, h2, b2, b3, b4, r25, l25]) <;> omega) | fail)) only [↓numW, ↓zb_t, ↓zb_f, ↓zb_tt, ↓zb_ff, ↓zb_i, ↓zb_z0, ↓zb_z1, ↓zb_z, ↓zb_l, ↓zb_v, vi32, vi64, true_and, pk_us, Int32.add_zero, Nat.add_sub_cancel, nI_add, nI_1, nI_1a, nI_clamp, k7, k7', k8, k8', k12, k12', k15, k15', k16, k16', nI_sub1, va_up_self, va_up_ne, ne_eq, reduceCtorEq, Nat.reduceEqDiff, not_false_eq_true, h2, b2, b3, b4, r25, l25]
      exact et_e ⟨(by repeat' (first | exact fr_r | assumption | refine fr.i ?_ (by unfold IvX; omega) | refine fr.u ?_ (by rfl) (by unfold AvX; omega))), Or.inr ⟨fun q => e q.2, rfl, t, h2, h3, gk⟩⟩
  · by_cases e : t' < T 16 m
    · simp (disch := (first | ((try simp (disch := omega) only [va_up_self, va_up_ne, ne_eq, reduceCtorEq, Nat.reduceEqDiff, not_false_eq_true, l_0, l_2, l_3, l_4, l_5, l_6, l_7, l_8, l_9, l_10, l_11, l_12, l_13, l_14, l_15, l_16, l_17, l_18, l_19, l_20, l_21, l_22, l_23, l_24, l_25, l_26, l_27, l_28, l_29, l_30, l_31, l_32, l_33, l_34, l_35, l_36, l_37, l_38, l_39, l_40, l_41, l_42, l_43, l_44, l_45, l_46, l_47, l_48, l_49, l_50, l_51, l_52, l_53, l_54, l_55, l_56, l_57, l_58, l_59, l_60, l_61, l_62, l_63, l_64, l_97, l_98, l_99, l_200, l_225, l_232, l_255, l_256, l_700, l_1000, l_1024, l_3375, l_4095, l_8000, l_20000, l_60000, vp_nIs, zz0, zz1, e10, nI_leI, nI_ltI, nI_eq, nI_1, nI_1a, nI_add, nI_sub, nI_sub1, pk_mul, nI_clamp, nI_le1, nI_le1', nI_lt1, nI_lt1', nI_eq1, nI_eqm, m1_eqN, m1_le, m1_lt, m1_leN, m1_ltN, nI_am, not_true_eq_false, not_false_eq_true, oN_eqm, h3, b2, b3, b4, r25, l25]) <;> omega) | fail)) only [↓numW, ↓zb_t, ↓zb_f, ↓zb_tt, ↓zb_ff, ↓zb_i, ↓zb_z0, ↓zb_z1, ↓zb_z, ↓zb_l, ↓zb_v, vi32, vi64, true_and, pk_us, Int32.add_zero, Nat.add_sub_cancel, nI_add, nI_1, nI_1a, nI_clamp, k7, k7', k8, k8', k12, k12', k15, k15', k16, k16', nI_sub1, va_up_self, va_up_ne, ne_eq, reduceCtorEq, Nat.reduceEqDiff, not_false_eq_true, h3, b2, b3, b4, r25, l25]
      refine et_e ⟨(by repeat' (first | exact fr_r | assumption | refine fr.i ?_ (by unfold IvX; omega) | refine fr.u ?_ (by rfl) (by unfold AvX; omega))), Or.inr ⟨fun q => h1 q.1, h2, t' + 1, rfl, by omega, fun i hi => ?_⟩⟩
      by_cases e2 : i = T 15 m + t'
      · subst e2
        simp (disch := omega) only [va_up_self, va_up_ne, pk_us, pk_un, pk_us]
        exact hx
      · simp (disch := omega) only [va_up_self, va_up_ne, pk_us, pk_un, pk_us]
        exact h5 i (by omega)
    · simp (disch := (first | ((try simp (disch := omega) only [va_up_self, va_up_ne, ne_eq, reduceCtorEq, Nat.reduceEqDiff, not_false_eq_true, l_0, l_2, l_3, l_4, l_5, l_6, l_7, l_8, l_9, l_10, l_11, l_12, l_13, l_14, l_15, l_16, l_17, l_18, l_19, l_20, l_21, l_22, l_23, l_24, l_25, l_26, l_27, l_28, l_29, l_30, l_31, l_32, l_33, l_34, l_35, l_36, l_37, l_38, l_39, l_40, l_41, l_42, l_43, l_44, l_45, l_46, l_47, l_48, l_49, l_50, l_51, l_52, l_53, l_54, l_55, l_56, l_57, l_58, l_59, l_60, l_61, l_62, l_63, l_64, l_97, l_98, l_99, l_200, l_225, l_232, l_255, l_256, l_700, l_1000, l_1024, l_3375, l_4095, l_8000, l_20000, l_60000, vp_nIs, zz0, zz1, e10, nI_leI, nI_ltI, nI_eq, nI_1, nI_1a, nI_add, nI_sub, nI_sub1, pk_mul, nI_clamp, nI_le1, nI_le1', nI_lt1, nI_lt1', nI_eq1, nI_eqm, m1_eqN, m1_le, m1_lt, m1_leN, m1_ltN, nI_am, not_true_eq_false, not_false_eq_true, oN_eqm, h3, b2, b3, b4, r25, l25]) <;> omega) | fail)) only [↓numW, ↓zb_t, ↓zb_f, ↓zb_tt, ↓zb_ff, ↓zb_i, ↓zb_z0, ↓zb_z1, ↓zb_z, ↓zb_l, ↓zb_v, vi32, vi64, true_and, pk_us, Int32.add_zero, Nat.add_sub_cancel, nI_add, nI_1, nI_1a, nI_clamp, k7, k7', k8, k8', k12, k12', k15, k15', k16, k16', nI_sub1, va_up_self, va_up_ne, ne_eq, reduceCtorEq, Nat.reduceEqDiff, not_false_eq_true, h3, b2, b3, b4, r25, l25]
      exact et_e ⟨(by repeat' (first | exact fr_r | assumption | refine fr.i ?_ (by unfold IvX; omega) | refine fr.u ?_ (by rfl) (by unfold AvX; omega))), Or.inr ⟨fun q => h1 q.1, rfl, t', h3, h4, h5⟩⟩
/-- setting the flag -/
theorem sX.z {σ : sm_S} {T : Nat → Nat → Nat} {m t : Nat} {c d : Prop} {w : Nat → Nat} {y : Int32} (hC : T 0 0 ≤ 32) (h : sX σ T m c t w) (h1 : c ∧ d → y = 1) (h0 : ¬ (c ∧ d) → y = 0) : sX (sm_i σ 33 y) T m (c ∧ d) t w := by
  rcases h with ⟨g1, g2, g3, g4, g5⟩ | ⟨g1, g2, t', g3, g4, g5⟩
  · by_cases e : d
    · exact Or.inl ⟨⟨g1, e⟩, g2, g3, h1 ⟨g1, e⟩, g5⟩
    · exact Or.inr ⟨fun q => e q.2, h0 (fun q => e q.2), t, g2, g3, fun i hi => by show okv T (σ.2.2.2.1 35 i); rw [(g5 i hi).1]; exact okv_vt hC (g5 i hi).2⟩
  · exact Or.inr ⟨fun q => g1 q.1, h0 (fun q => g1 q.1), t', g3, g4, g5⟩
theorem sX.f {σ : sm_S} {T : Nat → Nat → Nat} {m t : Nat} {c : Prop} {w : Nat → Nat} (h : sX σ T m c t w) : (c → σ.1 33 = 1) ∧ (¬ c → σ.1 33 = 0) := by
  rcases h with ⟨g1, g2, g3, g4, g5⟩ | ⟨g1, g2, t', g3, g4, g5⟩
  · exact ⟨fun _ => g4, fun q => absurd g1 q⟩
  · exact ⟨fun q => absurd q g1, fun _ => g2⟩
/-- the class's own question whether a type goes into another -/
theorem e_tf40 {σ : sm_S} {T : Nat → Nat → Nat} {m t : Nat} {c d : Prop} {w : Nat → Nat} {x1 x2 y : Int32} (hC : T 0 0 ≤ 32) (h : sX σ T m c t w) (hy : y = 0 ∨ y = 1) (h1 : c ∧ d → x2 = x1 ∨ (x2 = 97 ∧ ¬ x1 = 0 ∧ ¬ x1 = 98) ∨ y = 1) (h0 : c → ¬ d → ¬ (x2 = x1 ∨ (x2 = 97 ∧ ¬ x1 = 0 ∧ ¬ x1 = 98) ∨ y = 1)) : et (fun K => mp_X8_takeFor_40 (fun σ => K 0 σ) σ x1 x2 y) (rX σ T m (c ∧ d) t w) := by
  have hf := h.f
  have k1 : (c ∧ d → (1 : Int32) = 1) → (¬ (c ∧ d) → (1 : Int32) = 0) → et (fun K => mp_X8_takeFor_86 (fun σ => K 0 σ) σ) (rX σ T m (c ∧ d) t w) := fun a1 a0 => by
    unfold mp_X8_takeFor_86 mp_X8_takeFor_91
    simp (disch := (first | ((try simp (disch := omega) only [va_up_self, va_up_ne, ne_eq, reduceCtorEq, Nat.reduceEqDiff, not_false_eq_true, l_0, l_2, l_3, l_4, l_5, l_6, l_7, l_8, l_9, l_10, l_11, l_12, l_13, l_14, l_15, l_16, l_17, l_18, l_19, l_20, l_21, l_22, l_23, l_24, l_25, l_26, l_27, l_28, l_29, l_30, l_31, l_32, l_33, l_34, l_35, l_36, l_37, l_38, l_39, l_40, l_41, l_42, l_43, l_44, l_45, l_46, l_47, l_48, l_49, l_50, l_51, l_52, l_53, l_54, l_55, l_56, l_57, l_58, l_59, l_60, l_61, l_62, l_63, l_64, l_97, l_98, l_99, l_200, l_225, l_232, l_255, l_256, l_700, l_1000, l_1024, l_3375, l_4095, l_8000, l_20000, l_60000, vp_nIs, zz0, zz1, e10, nI_leI, nI_ltI, nI_eq, nI_1, nI_1a, nI_add, nI_sub, nI_sub1, pk_mul, nI_clamp, nI_le1, nI_le1', nI_lt1, nI_lt1', nI_eq1, nI_eqm, m1_eqN, m1_le, m1_lt, m1_leN, m1_ltN, nI_am, not_true_eq_false, not_false_eq_true, oN_eqm, hC]) <;> omega) | fail)) only [↓numW, ↓zb_t, ↓zb_f, ↓zb_tt, ↓zb_ff, ↓zb_i, ↓zb_z0, ↓zb_z1, ↓zb_z, ↓zb_l, ↓zb_v, vi32, vi64, true_and, pk_us, Int32.add_zero, Nat.add_sub_cancel, nI_add, nI_1, nI_1a, nI_clamp, k7, k7', k8, k8', k12, k12', k15, k15', k16, k16', nI_sub1, va_up_self, va_up_ne, ne_eq, reduceCtorEq, Nat.reduceEqDiff, not_false_eq_true, hC]
    exact et_e ⟨(by repeat' (first | exact fr_r | assumption | refine fr.i ?_ (by unfold IvX; omega) | refine fr.u ?_ (by rfl) (by unfold AvX; omega))), h.z hC a1 a0⟩
  have k0 : ¬ (c ∧ d) → et (fun K => mp_X8_takeFor_90 (fun σ => K 0 σ) σ) (rX σ T m (c ∧ d) t w) := fun a0 => by
    unfold mp_X8_takeFor_90 mp_X8_takeFor_91
    simp (disch := (first | ((try simp (disch := omega) only [va_up_self, va_up_ne, ne_eq, reduceCtorEq, Nat.reduceEqDiff, not_false_eq_true, l_0, l_2, l_3, l_4, l_5, l_6, l_7, l_8, l_9, l_10, l_11, l_12, l_13, l_14, l_15, l_16, l_17, l_18, l_19, l_20, l_21, l_22, l_23, l_24, l_25, l_26, l_27, l_28, l_29, l_30, l_31, l_32, l_33, l_34, l_35, l_36, l_37, l_38, l_39, l_40, l_41, l_42, l_43, l_44, l_45, l_46, l_47, l_48, l_49, l_50, l_51, l_52, l_53, l_54, l_55, l_56, l_57, l_58, l_59, l_60, l_61, l_62, l_63, l_64, l_97, l_98, l_99, l_200, l_225, l_232, l_255, l_256, l_700, l_1000, l_1024, l_3375, l_4095, l_8000, l_20000, l_60000, vp_nIs, zz0, zz1, e10, nI_leI, nI_ltI, nI_eq, nI_1, nI_1a, nI_add, nI_sub, nI_sub1, pk_mul, nI_clamp, nI_le1, nI_le1', nI_lt1, nI_lt1', nI_eq1, nI_eqm, m1_eqN, m1_le, m1_lt, m1_leN, m1_ltN, nI_am, not_true_eq_false, not_false_eq_true, oN_eqm, hC]) <;> omega) | fail)) only [↓numW, ↓zb_t, ↓zb_f, ↓zb_tt, ↓zb_ff, ↓zb_i, ↓zb_z0, ↓zb_z1, ↓zb_z, ↓zb_l, ↓zb_v, vi32, vi64, true_and, pk_us, Int32.add_zero, Nat.add_sub_cancel, nI_add, nI_1, nI_1a, nI_clamp, k7, k7', k8, k8', k12, k12', k15, k15', k16, k16', nI_sub1, va_up_self, va_up_ne, ne_eq, reduceCtorEq, Nat.reduceEqDiff, not_false_eq_true, hC]
    exact et_e ⟨(by repeat' (first | exact fr_r | assumption | refine fr.i ?_ (by unfold IvX; omega) | refine fr.u ?_ (by rfl) (by unfold AvX; omega))), h.z hC (fun q => absurd q a0) (fun _ => rfl)⟩
  by_cases hc : c
  · have f1 := hf.1 hc
    have ne : ¬ σ.1 33 = 0 := by rw [f1]; decide
    by_cases hd : d
    · have q := h1 ⟨hc, hd⟩
      have K1 := k1 (fun _ => rfl) (fun z => absurd ⟨hc, hd⟩ z)
      refine et_x (fun K z => ?_) K1
      unfold mp_X8_takeFor_40 mp_X8_takeFor_61 mp_X8_takeFor_62
      by_cases e1 : x2 = x1
      · refine ⟨fun _ => ⟨fun q => absurd q ne, fun _ => ⟨fun _ => z, fun q => absurd e1 q⟩⟩, fun _ => ⟨fun _ => ⟨fun q => absurd q ne, fun _ => ⟨fun _ => z, fun q => absurd e1 q⟩⟩, fun _ => ⟨fun _ => ⟨fun q => absurd q ne, fun _ => ⟨fun _ => z, fun q => absurd e1 q⟩⟩, fun _ => ⟨fun q => absurd q ne, fun _ => ⟨fun _ => z, fun q => absurd e1 q⟩⟩⟩⟩⟩
      · by_cases ey : y = 1
        · have ny : ¬ y = 0 := by rw [ey]; decide
          refine ⟨fun _ => ⟨fun q => absurd q ne, fun _ => ⟨fun _ => z, fun _ => ⟨fun _ => z, fun _ => ⟨fun q => absurd q ny, fun _ => z⟩⟩⟩⟩, fun _ => ⟨fun _ => ⟨fun q => absurd q ne, fun _ => ⟨fun _ => z, fun _ => ⟨fun _ => z, fun _ => ⟨fun q => absurd q ny, fun _ => z⟩⟩⟩⟩, fun _ => ⟨fun _ => ⟨fun q => absurd q ne, fun _ => ⟨fun _ => z, fun _ => ⟨fun _ => z, fun _ => ⟨fun q => absurd q ny, fun _ => z⟩⟩⟩⟩, fun _ => ⟨fun q => absurd q ne, fun _ => ⟨fun _ => z, fun _ => ⟨fun _ => z, fun _ => ⟨fun q => absurd q ny, fun _ => z⟩⟩⟩⟩⟩⟩⟩
        · have e2 : x2 = 97 ∧ ¬ x1 = 0 ∧ ¬ x1 = 98 := by
            rcases q with q | q | q
            · exact absurd q e1
            · exact q
            · exact absurd q ey
          exact ⟨fun q => absurd e2.1 q, fun _ => ⟨fun q => absurd q e2.2.1, fun _ => ⟨fun q => absurd q e2.2.2, fun _ => ⟨fun q => absurd q ne, fun _ => ⟨fun q => absurd q e1, fun _ => ⟨fun _ => z, fun q => absurd q (by decide)⟩⟩⟩⟩⟩⟩
    · have q := h0 hc hd
      have K0 := k0 (fun z => hd z.2)
      have e1 : ¬ x2 = x1 := fun z => q (Or.inl z)
      have ey : y = 0 := hy.elim (fun z => z) (fun z => absurd (Or.inr (Or.inr z)) q)
      refine et_x (fun K z => ?_) K0
      unfold mp_X8_takeFor_40 mp_X8_takeFor_61 mp_X8_takeFor_62
      refine ⟨fun _ => ⟨fun _ => z, fun _ => ⟨fun q => absurd q e1, fun _ => ⟨fun q => absurd rfl q, fun _ => ⟨fun _ => z, fun q => absurd ey q⟩⟩⟩⟩, fun e97 => ⟨fun _ => ⟨fun _ => z, fun _ => ⟨fun q => absurd q e1, fun _ => ⟨fun q => absurd rfl q, fun _ => ⟨fun _ => z, fun q => absurd ey q⟩⟩⟩⟩, fun n0 => ⟨fun _ => ⟨fun _ => z, fun _ => ⟨fun q => absurd q e1, fun _ => ⟨fun q => absurd rfl q, fun _ => ⟨fun _ => z, fun q => absurd ey q⟩⟩⟩⟩, fun n98 => absurd (Or.inr (Or.inl ⟨e97, n0, n98⟩)) q⟩⟩⟩
  · have f0 := hf.2 hc
    have K0 := k0 (fun z => hc z.1)
    refine et_x (fun K z => ?_) K0
    unfold mp_X8_takeFor_40 mp_X8_takeFor_61 mp_X8_takeFor_62
    exact ⟨fun _ => ⟨fun _ => z, fun q => absurd f0 q⟩, fun _ => ⟨fun _ => ⟨fun _ => z, fun q => absurd f0 q⟩, fun _ => ⟨fun _ => ⟨fun _ => z, fun q => absurd f0 q⟩, fun _ => ⟨fun _ => z, fun q => absurd f0 q⟩⟩⟩⟩
