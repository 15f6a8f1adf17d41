/-! ===== the verifier of the reference: small steps ===== -/
def IvM (k : Nat) : Prop := k = 9
def AvM (r _ : Nat) : Prop := r = 24
theorem imM.f {I : Nat → Prop} {A : Nat → Nat → Prop} {σ σ' : sm_S} {T : Nat → Nat → Nat} {b : Nat → Nat} (h : imM σ T b) (hX : fr I A σ σ') (hI : ∀ k, k = 1 ∨ k = 5 ∨ k = 6 ∨ k = 7 ∨ k = 8 → ¬ I k) (hA : ∀ r j, 3 ≤ r → r ≤ 20 → ¬ A r j) : imM σ' T b := by
  have rr : ∀ r, 3 ≤ r → r ≤ 20 → σ'.2.2.2.1 r = σ.2.2.2.1 r := fun r a b => hX.row (fun j => hA r j a b)
  have ri : ∀ k, k = 1 ∨ k = 5 ∨ k = 6 ∨ k = 7 ∨ k = 8 → σ'.1 k = σ.1 k := fun k a => hX.2.2.2.1 k (hI k a)
  obtain ⟨h1, h2, h4, h5, h6, h7, h8, h9⟩ := h
  refine ⟨hX.bM (hI 1 (by omega)) (fun j => hA 3 j (by decide) (by decide)) h1, hX.lM h2, by rw [ri 5 (by omega)]; exact h4, by rw [ri 6 (by omega)]; exact h5, by rw [ri 8 (by omega)]; exact h6, by rw [ri 7 (by omega)]; exact h7, ?_, fun m hm => ?_⟩
  · unfold icM at h8 ⊢
    rw [rr 5 (by decide) (by decide), rr 6 (by decide) (by decide), rr 7 (by decide) (by decide), rr 8 (by decide) (by decide), rr 9 (by decide) (by decide), rr 10 (by decide) (by decide)]
    exact h8
  · have := h9 m hm
    unfold imtM at this ⊢
    rw [rr 4 (by decide) (by decide), rr 11 (by decide) (by decide), rr 12 (by decide) (by decide), rr 13 (by decide) (by decide), rr 14 (by decide) (by decide), rr 15 (by decide) (by decide), rr 16 (by decide) (by decide), rr 17 (by decide) (by decide), rr 18 (by decide) (by decide), rr 19 (by decide) (by decide), rr 20 (by decide) (by decide)]
    exact this
def bM (μ : sm_S) (T : Nat → Nat → Nat) (b : Nat → Nat) : Prop := imM μ T b ∧ μ.1 4 = 1 ∧ μ.2.2.1 24 = 12
theorem bM.v {μ μ' : sm_S} {T : Nat → Nat → Nat} {b : Nat → Nat} (h : bM μ T b) (hX : fr IvM AvM μ μ') : bM μ' T b := ⟨h.1.f hX (fun k q => by unfold IvM; omega) (fun r j a c => by unfold AvM; omega), by rw [hX.2.2.2.1 4 (by unfold IvM; omega)]; exact h.2.1, by rw [hX.ln]; exact h.2.2⟩
def gM (μ : sm_S) (T : Nat → Nat → Nat) (m t : Nat) (w : Nat → Nat) : Prop := μ.1 9 = nI t ∧ t ≤ T 16 m ∧ ∀ i, i < T 15 m + t → μ.2.2.2.1 24 i = nI (w i) ∧ vt T (w i)
def rM (μ : sm_S) (T : Nat → Nat → Nat) (m : Nat) (c : Prop) (t : Nat) (w : Nat → Nat) (r : Int32) (μ' : sm_S) : Prop := fr IvM AvM μ μ' ∧ ((c ∧ r = 1 ∧ gM μ' T m t w) ∨ (¬ c ∧ r = 0))
theorem rM.c {μ μ' : sm_S} {T : Nat → Nat → Nat} {m t t' : Nat} {c c' : Prop} {w w' : Nat → Nat} {r : Int32} (h : rM μ T m c t w r μ') (hc : c ↔ c') (ht : c → t = t') (hw : c → ∀ i, i < T 15 m + t → w i = w' i) : rM μ T m c' t' w' r μ' := by
  refine ⟨h.1, ?_⟩
  rcases h.2 with ⟨h1, h2, h3, h4, h5⟩ | ⟨h1, h2⟩
  · have e := ht h1
    refine Or.inl ⟨hc.mp h1, h2, by rw [← e]; exact h3, by rw [← e]; exact h4, fun i hi => ?_⟩
    rw [← e] at hi
    rw [← hw h1 i hi]
    exact h5 i hi
  · exact Or.inr ⟨fun q => h1 (hc.mpr q), h2⟩
theorem eM_z {μ : sm_S} {T : Nat → Nat → Nat} {m t : Nat} {c : Prop} {w : Nat → Nat} {P : jk → Prop} (h : et P (rM μ T m c t w)) : et (fun K => P (fun r μ => sm_z r ∧ K r μ)) (rM μ T m c t w) := by
  obtain ⟨r, μ1, a, f, hc⟩ := h
  refine ⟨r, μ1, fun K hK => a _ ⟨?_, hK⟩, f, hc⟩
  rcases hc with ⟨_, e, _⟩ | ⟨_, e⟩
  · rw [e]; exact sm_z1
  · rw [e]; exact sm_z0
/-- one test behind the other -/
theorem eM_seq {μ : sm_S} {T : Nat → Nat → Nat} {m t t' : Nat} {c c' d : Prop} {w w' : Nat → Nat} {P : jk → Prop} {F G : jk → sm_S → Prop} (h : et P (rM μ T m c t w)) (hF : ∀ (μ1 : sm_S) (K : jk), K 0 μ1 → F K μ1) (hG : ∀ μ1, c → fr IvM AvM μ μ1 → gM μ1 T m t w → et (fun K => G K μ1) (rM μ1 T m d t' w')) (hc : c' ↔ c ∧ d) : et (fun K => P (fun r μ1 => ((r = 0 → F K μ1) ∧ (¬ r = 0 → G K μ1)))) (rM μ T m c' t' w') := by
  obtain ⟨r, μ1, a, f, hcs⟩ := h
  rcases hcs with ⟨h1, e, g⟩ | ⟨h1, e⟩
  · obtain ⟨r2, μ2, a2, f2, h2⟩ := hG μ1 h1 f g
    refine ⟨r2, μ2, fun K hK => a _ ⟨fun q => absurd q (by rw [e]; decide), fun _ => a2 K hK⟩, f.t f2, ?_⟩
    rcases h2 with ⟨z1, z2, z3⟩ | ⟨z1, z2⟩
    · exact Or.inl ⟨hc.mpr ⟨h1, z1⟩, z2, z3⟩
    · exact Or.inr ⟨fun q => z1 (hc.mp q).2, z2⟩
  · exact ⟨0, μ1, fun K hK => a _ ⟨fun _ => hF μ1 K hK, fun q => absurd e q⟩, f, Or.inr ⟨fun q => h1 (hc.mp q).1, rfl⟩⟩
/-- the last test -/
theorem eM_end {μ : sm_S} {T : Nat → Nat → Nat} {m t : Nat} {c : Prop} {w : Nat → Nat} {P : jk → Prop} {F G : jk → sm_S → Prop} (h : et P (rM μ T m c t w)) (hF : ∀ (μ1 : sm_S) (K : jk), K 0 μ1 → F K μ1) (hG : ∀ (μ1 : sm_S) (K : jk), K 1 μ1 → G K μ1) : et (fun K => P (fun r μ1 => ((r = 0 → F K μ1) ∧ (¬ r = 0 → G K μ1)))) (rM μ T m c t w) :=
  eM_seq (d := True) h hF (fun μ1 _ _ g => ⟨1, μ1, fun K hK => hG μ1 K hK, fr_r, Or.inl ⟨trivial, rfl, g⟩⟩) ⟨fun q => ⟨q, trivial⟩, fun q => q.1⟩
theorem eM_pop {μ : sm_S} {T : Nat → Nat → Nat} {b : Nat → Nat} {m t : Nat} {w : Nat → Nat} (hb : bM μ T b) (hw : wf T b) (hm : m < T 0 1) (h : gM μ T m t w) : et (fun K => mp_X12_pop μ (nI m) K) (fun r μ' => fr IvM AvM μ μ' ∧ ((1 ≤ t ∧ r = nI (w (T 15 m + t - 1)) ∧ vt T (w (T 15 m + t - 1)) ∧ gM μ' T m (t - 1) w) ∨ (t = 0 ∧ r = -1))) := by
  have w4 := hw.2.2.2.1
  have h12 := (hw.2.2.2.2.2.2.2.2.1 m hm).2.2.2.2.2.2.1
  obtain ⟨b1, b2, b3⟩ := hb
  have hLM := b1.2.1
  have r15 := (b1.2.2.2.2.2.2.2 m hm).2.2.2.2.1
  obtain ⟨h1, h2, h3⟩ := h
  unfold mp_X12_pop
  by_cases e : t = 0
  · simp (disch := (first | ((try simp (disch := omega) only [va_up_self, va_up_ne, ne_eq, reduceCtorEq, Nat.reduceEqDiff, not_false_eq_true, l_0, l_2, l_3, l_4, l_5, l_6, l_7, l_8, l_9, l_10, l_11, l_12, l_13, l_14, l_15, l_16, l_17, l_18, l_19, l_20, l_21, l_22, l_23, l_24, l_25, l_26, l_27, l_28, l_29, l_30, l_31, l_32, l_33, l_34, l_35, l_36, l_37, l_38, l_39, l_40, l_41, l_42, l_43, l_44, l_45, l_46, l_47, l_48, l_49, l_50, l_51, l_52, l_53, l_54, l_55, l_56, l_57, l_58, l_59, l_60, l_61, l_62, l_63, l_64, l_97, l_98, l_99, l_200, l_225, l_232, l_255, l_256, l_700, l_1000, l_1024, l_3375, l_4095, l_8000, l_20000, l_60000, vp_nIs, zz0, zz1, e10, nI_leI, nI_ltI, nI_eq, nI_1, nI_1a, nI_add, nI_sub, nI_sub1, pk_mul, nI_clamp, nI_le1, nI_le1', nI_lt1, nI_lt1', nI_eq1, nI_eqm, m1_eqN, m1_le, m1_lt, m1_leN, m1_ltN, nI_am, not_true_eq_false, not_false_eq_true, oN_eqm, h1]) <;> omega) | fail)) only [↓numW, ↓zb_t, ↓zb_f, ↓zb_tt, ↓zb_ff, ↓zb_i, ↓zb_z0, ↓zb_z1, ↓zb_z, ↓zb_l, ↓zb_v, vi32, vi64, true_and, pk_us, Int32.add_zero, Nat.add_sub_cancel, nI_add, nI_1, nI_1a, nI_clamp, k7, k7', k8, k8', k12, k12', k15, k15', k16, k16', nI_sub1, va_up_self, va_up_ne, ne_eq, reduceCtorEq, Nat.reduceEqDiff, not_false_eq_true, h1]
    exact et_e ⟨fr_r, Or.inr ⟨e, rfl⟩⟩
  · have hv := h3 (T 15 m + (t - 1)) (by omega)
    simp (disch := (first | ((try simp (disch := omega) only [va_up_self, va_up_ne, ne_eq, reduceCtorEq, Nat.reduceEqDiff, not_false_eq_true, l_0, l_2, l_3, l_4, l_5, l_6, l_7, l_8, l_9, l_10, l_11, l_12, l_13, l_14, l_15, l_16, l_17, l_18, l_19, l_20, l_21, l_22, l_23, l_24, l_25, l_26, l_27, l_28, l_29, l_30, l_31, l_32, l_33, l_34, l_35, l_36, l_37, l_38, l_39, l_40, l_41, l_42, l_43, l_44, l_45, l_46, l_47, l_48, l_49, l_50, l_51, l_52, l_53, l_54, l_55, l_56, l_57, l_58, l_59, l_60, l_61, l_62, l_63, l_64, l_97, l_98, l_99, l_200, l_225, l_232, l_255, l_256, l_700, l_1000, l_1024, l_3375, l_4095, l_8000, l_20000, l_60000, vp_nIs, zz0, zz1, e10, nI_leI, nI_ltI, nI_eq, nI_1, nI_1a, nI_add, nI_sub, nI_sub1, pk_mul, nI_clamp, nI_le1, nI_le1', nI_lt1, nI_lt1', nI_eq1, nI_eqm, m1_eqN, m1_le, m1_lt, m1_leN, m1_ltN, nI_am, not_true_eq_false, not_false_eq_true, oN_eqm, h1, r15, b3, hv.1, lm15 hLM]) <;> omega) | fail)) only [↓numW, ↓zb_t, ↓zb_f, ↓zb_tt, ↓zb_ff, ↓zb_i, ↓zb_z0, ↓zb_z1, ↓zb_z, ↓zb_l, ↓zb_v, vi32, vi64, true_and, pk_us, Int32.add_zero, Nat.add_sub_cancel, nI_add, nI_1, nI_1a, nI_clamp, k7, k7', k8, k8', k12, k12', k15, k15', k16, k16', nI_sub1, va_up_self, va_up_ne, ne_eq, reduceCtorEq, Nat.reduceEqDiff, not_false_eq_true, h1, r15, b3, hv.1, lm15 hLM]
    refine et_e ⟨(by repeat' (first | exact fr_r | assumption | refine fr.i ?_ (by unfold IvM; omega) | refine fr.u ?_ (by rfl) (by unfold AvM; omega))), Or.inl ⟨by omega, ?_, ?_, rfl, by omega, fun i hi => h3 i (by omega)⟩⟩
    · rw [show T 15 m + t - 1 = T 15 m + (t - 1) by omega]
    · rw [show T 15 m + t - 1 = T 15 m + (t - 1) by omega]; exact hv.2
theorem eM_push {μ : sm_S} {T : Nat → Nat → Nat} {b : Nat → Nat} {m t v : Nat} {w : Nat → Nat} {x : Int32} (hb : bM μ T b) (hw : wf T b) (hm : m < T 0 1) (h : gM μ T m t w) (hx : x = nI v) (hv : vt T v) : et (fun K => mp_X12_push μ (nI m) x K) (rM μ T m (t < T 16 m) (t + 1) (va_up w (T 15 m + t) v)) := by
  have w4 := hw.2.2.2.1
  have h12 := (hw.2.2.2.2.2.2.2.2.1 m hm).2.2.2.2.2.2.1
  obtain ⟨b1, b2, b3⟩ := hb
  have hLM := b1.2.1
  have r15 := (b1.2.2.2.2.2.2.2 m hm).2.2.2.2.1
  have r16 := (b1.2.2.2.2.2.2.2 m hm).2.2.2.2.2.1
  obtain ⟨h1, h2, h3⟩ := h
  rw [hx]
  unfold mp_X12_push
  by_cases e : t < T 16 m
  · simp (disch := (first | ((try simp (disch := omega) only [va_up_self, va_up_ne, ne_eq, reduceCtorEq, Nat.reduceEqDiff, not_false_eq_true, l_0, l_2, l_3, l_4, l_5, l_6, l_7, l_8, l_9, l_10, l_11, l_12, l_13, l_14, l_15, l_16, l_17, l_18, l_19, l_20, l_21, l_22, l_23, l_24, l_25, l_26, l_27, l_28, l_29, l_30, l_31, l_32, l_33, l_34, l_35, l_36, l_37, l_38, l_39, l_40, l_41, l_42, l_43, l_44, l_45, l_46, l_47, l_48, l_49, l_50, l_51, l_52, l_53, l_54, l_55, l_56, l_57, l_58, l_59, l_60, l_61, l_62, l_63, l_64, l_97, l_98, l_99, l_200, l_225, l_232, l_255, l_256, l_700, l_1000, l_1024, l_3375, l_4095, l_8000, l_20000, l_60000, vp_nIs, zz0, zz1, e10, nI_leI, nI_ltI, nI_eq, nI_1, nI_1a, nI_add, nI_sub, nI_sub1, pk_mul, nI_clamp, nI_le1, nI_le1', nI_lt1, nI_lt1', nI_eq1, nI_eqm, m1_eqN, m1_le, m1_lt, m1_leN, m1_ltN, nI_am, not_true_eq_false, not_false_eq_true, oN_eqm, h1, r15, r16, b3, lm15 hLM, lm16 hLM]) <;> omega) | fail)) only [↓numW, ↓zb_t, ↓zb_f, ↓zb_tt, ↓zb_ff, ↓zb_i, ↓zb_z0, ↓zb_z1, ↓zb_z, ↓zb_l, ↓zb_v, vi32, vi64, true_and, pk_us, Int32.add_zero, Nat.add_sub_cancel, nI_add, nI_1, nI_1a, nI_clamp, k7, k7', k8, k8', k12, k12', k15, k15', k16, k16', nI_sub1, va_up_self, va_up_ne, ne_eq, reduceCtorEq, Nat.reduceEqDiff, not_false_eq_true, h1, r15, r16, b3, lm15 hLM, lm16 hLM]
    refine et_e ⟨(by repeat' (first | exact fr_r | assumption | refine fr.i ?_ (by unfold IvM; omega) | refine fr.u ?_ (by rfl) (by unfold AvM; omega))), Or.inl ⟨e, rfl, rfl, by omega, fun i hi => ?_⟩⟩
    by_cases e2 : i = T 15 m + t
    · subst e2
      rw [va_up_self]
      exact ⟨by simp (disch := omega) only [va_up_self, va_up_ne, pk_us, pk_un, pk_us], hv⟩
    · rw [va_up_ne _ _ e2]
      refine ⟨?_, (h3 i (by omega)).2⟩
      simp (disch := omega) only [va_up_self, va_up_ne, pk_us, pk_un, pk_us]
      exact (h3 i (by omega)).1
  · simp (disch := (first | ((try simp (disch := omega) only [va_up_self, va_up_ne, ne_eq, reduceCtorEq, Nat.reduceEqDiff, not_false_eq_true, l_0, l_2, l_3, l_4, l_5, l_6, l_7, l_8, l_9, l_10, l_11, l_12, l_13, l_14, l_15, l_16, l_17, l_18, l_19, l_20, l_21, l_22, l_23, l_24, l_25, l_26, l_27, l_28, l_29, l_30, l_31, l_32, l_33, l_34, l_35, l_36, l_37, l_38, l_39, l_40, l_41, l_42, l_43, l_44, l_45, l_46, l_47, l_48, l_49, l_50, l_51, l_52, l_53, l_54, l_55, l_56, l_57, l_58, l_59, l_60, l_61, l_62, l_63, l_64, l_97, l_98, l_99, l_200, l_225, l_232, l_255, l_256, l_700, l_1000, l_1024, l_3375, l_4095, l_8000, l_20000, l_60000, vp_nIs, zz0, zz1, e10, nI_leI, nI_ltI, nI_eq, nI_1, nI_1a, nI_add, nI_sub, nI_sub1, pk_mul, nI_clamp, nI_le1, nI_le1', nI_lt1, nI_lt1', nI_eq1, nI_eqm, m1_eqN, m1_le, m1_lt, m1_leN, m1_ltN, nI_am, not_true_eq_false, not_false_eq_true, oN_eqm, h1, r15, r16, b3, lm15 hLM, lm16 hLM]) <;> omega) | fail)) only [↓numW, ↓zb_t, ↓zb_f, ↓zb_tt, ↓zb_ff, ↓zb_i, ↓zb_z0, ↓zb_z1, ↓zb_z, ↓zb_l, ↓zb_v, vi32, vi64, true_and, pk_us, Int32.add_zero, Nat.add_sub_cancel, nI_add, nI_1, nI_1a, nI_clamp, k7, k7', k8, k8', k12, k12', k15, k15', k16, k16', nI_sub1, va_up_self, va_up_ne, ne_eq, reduceCtorEq, Nat.reduceEqDiff, not_false_eq_true, h1, r15, r16, b3, lm15 hLM, lm16 hLM]
    exact et_e ⟨fr_r, Or.inr ⟨e, rfl⟩⟩
theorem eM_into {μ : sm_S} {T : Nat → Nat → Nat} {b : Nat → Nat} {m t ty : Nat} {w : Nat → Nat} {x : Int32} (hb : bM μ T b) (hw : wf T b) (hm : m < T 0 1) (h : gM μ T m t w) (hx : x = nI ty) (hv : vt T ty) (h9 : ty ≠ 99) : et (fun K => mp_X12_popInto μ (nI m) x K) (rM μ T m (1 ≤ t ∧ goesT T (w (T 15 m + t - 1)) ty) (t - 1) w) := by
  unfold mp_X12_popInto
  rw [hx]
  refine et_b (eM_pop hb hw hm h) (fun r μ1 q => ?_)
  obtain ⟨f, q⟩ := q
  rcases q with ⟨q1, q2, q3, q4⟩ | ⟨q1, q2⟩
  · have ne : ¬ r = -1 := by rw [q2]; exact nI_m1 (by unfold vt at q3; have := hw.2.1; omega)
    by_cases c : goesT T (w (T 15 m + t - 1)) ty
    · refine et_x (P2 := fun K => K 1 μ1) (fun K z => ⟨fun y => absurd y ne, fun _ => ?_⟩) (et_e ⟨f, Or.inl ⟨⟨q1, c⟩, rfl, q4⟩⟩)
      rw [q2]
      exact w_goes (hb.v f).1 hw (hb.v f).2.1 q3 hv h9 (fun _ => ⟨fun y => absurd y (by decide), fun _ => ⟨sm_z1, z⟩⟩) (fun y => absurd c y)
    · refine et_x (P2 := fun K => K 0 μ1) (fun K z => ⟨fun y => absurd y ne, fun _ => ?_⟩) (et_e ⟨f, Or.inr ⟨fun y => c y.2, rfl⟩⟩)
      rw [q2]
      exact w_goes (hb.v f).1 hw (hb.v f).2.1 q3 hv h9 (fun y => absurd y c) (fun _ => ⟨fun _ => ⟨sm_z0, z⟩, fun y => absurd rfl y⟩)
  · refine et_x (P2 := fun K => K 0 μ1) (fun K z => ⟨fun _ => ⟨sm_z0, z⟩, fun y => absurd q2 y⟩) (et_e ⟨f, Or.inr ⟨fun y => by omega, rfl⟩⟩)
theorem eM_ref {μ : sm_S} {T : Nat → Nat → Nat} {b : Nat → Nat} {m t : Nat} {w : Nat → Nat} (hb : bM μ T b) (hw : wf T b) (hm : m < T 0 1) (h : gM μ T m t w) (h9 : 1 ≤ t → w (T 15 m + t - 1) ≠ 99) : et (fun K => mp_X12_popReference μ (nI m) K) (rM μ T m (1 ≤ t ∧ w (T 15 m + t - 1) ≠ 0) (t - 1) w) := by
  unfold mp_X12_popReference
  refine et_b (eM_pop hb hw hm h) (fun r μ1 q => ?_)
  obtain ⟨f, q⟩ := q
  rcases q with ⟨q1, q2, q3, q4⟩ | ⟨q1, q2⟩
  · have hlt : w (T 15 m + t - 1) < 2 ^ 20 := by unfold vt at q3; have := hw.2.1; omega
    have ne : ¬ r = -1 := by rw [q2]; exact nI_m1 (by omega)
    have n99 : ¬ r = 99 := by rw [q2]; exact fun y => h9 q1 ((nI_eq (b := 99) (by omega) (by omega)).mp y)
    unfold mp_X12_isReference mp_X12_isReference_14 mp_X12_isReference_15
    by_cases c : w (T 15 m + t - 1) = 0
    · have e0 : r = 0 := by rw [q2, c]; rfl
      refine et_x (P2 := fun K => K 0 μ1) (fun K z => ⟨fun y => absurd y ne, fun _ => ⟨fun _ => ⟨sm_z0, fun _ => ⟨sm_z0, z⟩, fun y => absurd rfl y⟩, fun y => absurd e0 y⟩⟩) (et_e ⟨f, Or.inr ⟨fun y => y.2 c, rfl⟩⟩)
    · have e0 : ¬ r = 0 := by rw [q2]; exact fun y => c ((nI_eq (b := 0) (by omega) (by omega)).mp y)
      refine et_x (P2 := fun K => K 1 μ1) (fun K z => ⟨fun y => absurd y ne, fun _ => ⟨fun y => absurd y e0, fun _ => ⟨fun y => absurd y n99, fun _ => ⟨sm_z1, fun y => absurd y (by decide), fun _ => ⟨sm_z1, z⟩⟩⟩⟩⟩) (et_e ⟨f, Or.inl ⟨⟨q1, c⟩, rfl, q4⟩⟩)
  · refine et_x (P2 := fun K => K 0 μ1) (fun K z => ⟨fun _ => ⟨sm_z0, z⟩, fun y => absurd q2 y⟩) (et_e ⟨f, Or.inr ⟨fun y => by omega, rfl⟩⟩)
/-- n numbers -/
def izn (T : Nat → Nat → Nat) (m t : Nat) (w : Nat → Nat) (n : Nat) : Prop := n ≤ t ∧ ∀ k, k < n → w (T 15 m + (t - 1 - k)) = 0
theorem eM_ints {T : Nat → Nat → Nat} {b : Nat → Nat} {m t n : Nat} {w : Nat → Nat} {x : Int32} (hw : wf T b) (hm : m < T 0 1) (hn : n ≤ 2) (hx : x = nI n) : ∀ (d i : Nat) (μ : sm_S), i + d = n → bM μ T b → gM μ T m (t - i) w → i ≤ t → (∀ k, k < i → w (T 15 m + (t - 1 - k)) = 0) → et (fun K => mp_X12_popInts_2 K (d + 1) μ (nI m) x (nI i)) (rM μ T m (izn T m t w n) (t - n) w) := by
  intro d
  induction d with
  | zero =>
    intro i μ hi hb h hit hz
    have e : i = n := by omega
    subst e
    rw [hx]
    unfold mp_X12_popInts_2
    simp (disch := (first | ((try simp (disch := omega) only [va_up_self, va_up_ne, ne_eq, reduceCtorEq, Nat.reduceEqDiff, not_false_eq_true, l_0, l_2, l_3, l_4, l_5, l_6, l_7, l_8, l_9, l_10, l_11, l_12, l_13, l_14, l_15, l_16, l_17, l_18, l_19, l_20, l_21, l_22, l_23, l_24, l_25, l_26, l_27, l_28, l_29, l_30, l_31, l_32, l_33, l_34, l_35, l_36, l_37, l_38, l_39, l_40, l_41, l_42, l_43, l_44, l_45, l_46, l_47, l_48, l_49, l_50, l_51, l_52, l_53, l_54, l_55, l_56, l_57, l_58, l_59, l_60, l_61, l_62, l_63, l_64, l_97, l_98, l_99, l_200, l_225, l_232, l_255, l_256, l_700, l_1000, l_1024, l_3375, l_4095, l_8000, l_20000, l_60000, vp_nIs, zz0, zz1, e10, nI_leI, nI_ltI, nI_eq, nI_1, nI_1a, nI_add, nI_sub, nI_sub1, pk_mul, nI_clamp, nI_le1, nI_le1', nI_lt1, nI_lt1', nI_eq1, nI_eqm, m1_eqN, m1_le, m1_lt, m1_leN, m1_ltN, nI_am, not_true_eq_false, not_false_eq_true, oN_eqm, hn]) <;> omega) | fail)) only [↓numW, ↓zb_t, ↓zb_f, ↓zb_tt, ↓zb_ff, ↓zb_i, ↓zb_z0, ↓zb_z1, ↓zb_z, ↓zb_l, ↓zb_v, vi32, vi64, true_and, pk_us, Int32.add_zero, Nat.add_sub_cancel, nI_add, nI_1, nI_1a, nI_clamp, k7, k7', k8, k8', k12, k12', k15, k15', k16, k16', nI_sub1, va_up_self, va_up_ne, ne_eq, reduceCtorEq, Nat.reduceEqDiff, not_false_eq_true, hn]
    exact et_e ⟨fr_r, Or.inl ⟨⟨hit, hz⟩, rfl, h⟩⟩
  | succ d ih =>
    intro i μ hi hb h hit hz
    unfold mp_X12_popInts_2
    rw [hx] at ih ⊢
    simp (disch := (first | ((try simp (disch := omega) only [va_up_self, va_up_ne, ne_eq, reduceCtorEq, Nat.reduceEqDiff, not_false_eq_true, l_0, l_2, l_3, l_4, l_5, l_6, l_7, l_8, l_9, l_10, l_11, l_12, l_13, l_14, l_15, l_16, l_17, l_18, l_19, l_20, l_21, l_22, l_23, l_24, l_25, l_26, l_27, l_28, l_29, l_30, l_31, l_32, l_33, l_34, l_35, l_36, l_37, l_38, l_39, l_40, l_41, l_42, l_43, l_44, l_45, l_46, l_47, l_48, l_49, l_50, l_51, l_52, l_53, l_54, l_55, l_56, l_57, l_58, l_59, l_60, l_61, l_62, l_63, l_64, l_97, l_98, l_99, l_200, l_225, l_232, l_255, l_256, l_700, l_1000, l_1024, l_3375, l_4095, l_8000, l_20000, l_60000, vp_nIs, zz0, zz1, e10, nI_leI, nI_ltI, nI_eq, nI_1, nI_1a, nI_add, nI_sub, nI_sub1, pk_mul, nI_clamp, nI_le1, nI_le1', nI_lt1, nI_lt1', nI_eq1, nI_eqm, m1_eqN, m1_le, m1_lt, m1_leN, m1_ltN, nI_am, not_true_eq_false, not_false_eq_true, oN_eqm, hn]) <;> omega) | fail)) only [↓numW, ↓zb_t, ↓zb_f, ↓zb_tt, ↓zb_ff, ↓zb_i, ↓zb_z0, ↓zb_z1, ↓zb_z, ↓zb_l, ↓zb_v, vi32, vi64, true_and, pk_us, Int32.add_zero, Nat.add_sub_cancel, nI_add, nI_1, nI_1a, nI_clamp, k7, k7', k8, k8', k12, k12', k15, k15', k16, k16', nI_sub1, va_up_self, va_up_ne, ne_eq, reduceCtorEq, Nat.reduceEqDiff, not_false_eq_true, hn]
    refine et_b (eM_pop hb hw hm h) (fun r μ1 q => ?_)
    obtain ⟨f, q⟩ := q
    rcases q with ⟨q1, q2, q3, q4⟩ | ⟨q1, q2⟩
    · have hlt : w (T 15 m + (t - i) - 1) < 2 ^ 20 := by unfold vt at q3; have := hw.2.1; omega
      by_cases c : w (T 15 m + (t - i) - 1) = 0
      · have e0 : r = 0 := by rw [q2, c]; rfl
        have := ih (i + 1) μ1 (by omega) (hb.v f) (by rw [show t - (i + 1) = t - i - 1 by omega]; exact q4) (by omega) (fun k hk => by
          by_cases e : k = i
          · rw [e, show T 15 m + (t - 1 - i) = T 15 m + (t - i) - 1 by omega]; exact c
          · exact hz k (by omega))
        refine et_x (fun K z => ⟨fun _ => z, fun y => absurd e0 y⟩) (et_w this (fun r μ2 z => ⟨f.t z.1, z.2⟩))
      · have e0 : ¬ r = 0 := by rw [q2]; exact fun y => c ((nI_eq (b := 0) (by omega) (by omega)).mp y)
        refine et_x (P2 := fun K => K 0 μ1) (fun K z => ⟨fun y => absurd y e0, fun _ => z⟩) (et_e ⟨f, Or.inr ⟨fun y => c ?_, rfl⟩⟩)
        have := y.2 i (by omega)
        rw [show T 15 m + (t - 1 - i) = T 15 m + (t - i) - 1 by omega] at this
        exact this
    · refine et_x (P2 := fun K => K 0 μ1) (fun K z => ⟨fun y => absurd (q2.symm.trans y) (by decide), fun _ => z⟩) (et_e ⟨f, Or.inr ⟨fun y => by have := y.1; omega, rfl⟩⟩)
theorem eM_i1 {μ : sm_S} {T : Nat → Nat → Nat} {b : Nat → Nat} {m t : Nat} {w : Nat → Nat} (hb : bM μ T b) (hw : wf T b) (hm : m < T 0 1) (h : gM μ T m t w) : et (fun K => mp_X12_popInts μ (nI m) 1 K) (rM μ T m (1 ≤ t ∧ w (T 15 m + t - 1) = 0) (t - 1) w) := by
  unfold mp_X12_popInts
  refine et_n 2 (et_w (eM_ints (t := t) (n := 1) (x := 1) hw hm (by omega) rfl 1 0 μ (by omega) hb h (by omega) (fun k hk => absurd hk (by omega))) (fun r μ' q => q.c ⟨fun z => ⟨z.1, ?_⟩, fun z => ⟨z.1, fun k hk => ?_⟩⟩ (fun _ => rfl) (fun _ _ _ => rfl)))
  · have := z.2 0 (by omega)
    rw [show T 15 m + (t - 1 - 0) = T 15 m + t - 1 by have := z.1; omega] at this
    exact this
  · rw [show T 15 m + (t - 1 - k) = T 15 m + t - 1 by have := z.1; omega]; exact z.2
theorem eM_i2 {μ : sm_S} {T : Nat → Nat → Nat} {b : Nat → Nat} {m t : Nat} {w : Nat → Nat} (hb : bM μ T b) (hw : wf T b) (hm : m < T 0 1) (h : gM μ T m t w) : et (fun K => mp_X12_popInts μ (nI m) 2 K) (rM μ T m (2 ≤ t ∧ w (T 15 m + t - 1) = 0 ∧ w (T 15 m + t - 2) = 0) (t - 2) w) := by
  unfold mp_X12_popInts
  refine et_n 3 (et_w (eM_ints (t := t) (n := 2) (x := 2) hw hm (by omega) rfl 2 0 μ (by omega) hb h (by omega) (fun k hk => absurd hk (by omega))) (fun r μ' q => q.c ⟨fun z => ⟨z.1, ?_, ?_⟩, fun z => ⟨z.1, fun k hk => ?_⟩⟩ (fun _ => rfl) (fun _ _ _ => rfl)))
  · have := z.2 0 (by omega)
    rw [show T 15 m + (t - 1 - 0) = T 15 m + t - 1 by have := z.1; omega] at this
    exact this
  · have := z.2 1 (by omega)
    rw [show T 15 m + (t - 1 - 1) = T 15 m + t - 2 by have := z.1; omega] at this
    exact this
  · by_cases e : k = 0
    · rw [show T 15 m + (t - 1 - k) = T 15 m + t - 1 by have := z.1; omega]; exact z.2.1
    · rw [show T 15 m + (t - 1 - k) = T 15 m + t - 2 by have := z.1; omega]; exact z.2.2
