/-! ===== start, the reference; start, both sides ===== -/
def A30 (r _j : Nat) : Prop := r = 30
section
variable {σ μ : sm_S} {T : Nat → Nat → Nat} {b : Nat → Nat} {H Y : Nat → Nat → Nat} {h k : Nat} {K : jk}
theorem m_first {μ' : sm_S} {i : Nat} {inF : Nat → Int32} (hw : wf T b) (im : imM μ T b) (ln : lnR μ) (h1 : 1024 ≤ h) (h2 : h ≤ 60000) (k1 : 1 ≤ k) (k2 : k ≤ 64) (i4 : μ.1 4 = 1) (q19 : μ.1 19 = nI i) (q38 : μ.2.2.1 38 = 1000) (q39 : μ.2.2.1 39 = 1000) (qin : ∀ j : Nat, j < i → μ.2.2.2.1 38 j = inF j)
    (z1 : μ'.2.2.1 = μ.2.2.1) (z2 : ∀ r, r ≠ 30 → μ'.2.2.2.1 r = μ.2.2.2.1 r) (z3 : ∀ t, t < 140000 → μ'.2.2.2.1 30 t = 0) (z4 : ∀ kk, kk ≤ 10 ∨ kk = 19 → μ'.1 kk = μ.1 kk) (j11 : μ'.1 11 = nI 0) (j12 : μ'.1 12 = nI 0) (j13 : μ'.1 13 = nI 0) (j14 : μ'.1 14 = nI 0) (j15 : μ'.1 15 = 0) (j17 : μ'.1 17 = nI 1) (j18 : μ'.1 18 = nI 0) (j20 : μ'.1 20 = nI 0) (j21 : μ'.1 21 = nI k) (j22 : μ'.1 22 = nI (h * k / (k + 1))) (j23 : μ'.1 23 = nI 0) (j24 : μ'.1 24 = nI 0) (g0 : μ'.2.1 0 = 0) (g1 : μ'.2.1 1 = lN 0) (g2 : μ'.2.1 2 = lN 0)
    (hK : ∀ μ2, MA μ2 T b k (h * k / (k + 1)) (a0 T) i inF 0 0 inF 0 1 → rsM μ μ2 → K 1 μ2) : mp_X12_make μ' 16 (fun r10 σ9 => mp_X12_enter σ9 (σ9.1 8) (fun σ11 => K 1 σ11)) := by
  have ac := ACb_0 (md := 0) h1 h2 k1 k2 (by decide)
  have lim5 := ac.2.2.2.2.2.1
  have hm := hw.2.2.2.2.2.2.2.2.2.2.2.2.1
  have im' : imM μ' T b := by
    unfold imM iv_bM lnM icM imtM at im ⊢
    rw [z1, z2 3 (by decide), z2 4 (by decide), z2 5 (by decide), z2 6 (by decide), z2 7 (by decide), z2 8 (by decide), z2 9 (by decide), z2 10 (by decide), z2 11 (by decide), z2 12 (by decide), z2 13 (by decide), z2 14 (by decide), z2 15 (by decide), z2 16 (by decide), z2 17 (by decide), z2 18 (by decide), z2 19 (by decide), z2 20 (by decide), z4 1 (by omega), z4 5 (by omega), z4 6 (by omega), z4 7 (by omega), z4 8 (by omega)]
    exact im
  have ln' : lnR μ' := by unfold lnR at ln ⊢; rw [z1]; exact ln
  have y : RMg μ' T b k (h * k / (k + 1)) 0 0 0 0 N0 [] 0 1 (fun _ => 0) (fun _ => 0) (fun _ => 0) 0 0 0 := ⟨⟨im', ln', ⟨j11, by decide, j13, by decide, j14, by decide⟩, ⟨rfl, rfl, fun t ht => absurd ht (Nat.not_lt_zero t)⟩, trivial⟩, ⟨j12, fun t ht => ⟨0, Nat.le_refl _, z3 t ht⟩⟩, by rw [z4 4 (by omega)]; exact i4, ⟨j21, j22, j23, g2, j24, j17⟩, Or.inl ⟨rfl, j15⟩⟩
  have hr : rls T N0 [] [] := ⟨List.nodup_nil, fun f i k q => (List.not_mem_nil q).elim, fun i j k q => (List.not_mem_nil q).elim, fun P _ _ i q => (List.not_mem_nil q).elim⟩
  have nc : ¬ ((0 : Nat) ≤ k * 0 ∧ h * k / (k + 1) < 0 + 0 + 16) := fun q => by omega
  rw [l_16]
  refine k_mk hw y (fun q hq => absurd hq (Nat.not_lt_zero q)) ac (by decide) (by decide) hr (fun _ q => absurd q (by omega)) (fun _ μ1 s1 y1 hs1 sm1 => ?_)
  have e1 : mm k (h * k / (k + 1)) 0 0 16 = 16 := by unfold mm; rw [if_neg nc]
  have e2 : mcy k (h * k / (k + 1)) 0 0 0 16 = 0 := by unfold mcy; rw [if_neg nc]
  have e3 : mr T N0 [] [] k (h * k / (k + 1)) 0 0 16 = 0 := by unfold mr; rw [if_neg nc]
  rw [e1, e2, e3] at y1
  have t8 : μ1.1 8 = nI (T 0 2) := y1.1.1.2.2.2.2.1
  rw [t8]
  refine k_entM hw y1 hm (by decide) (fun μ2 y2 sm2 _ => ?_)
  have sm := sm1.t sm2
  refine hK μ2 ⟨⟨_, _, _, _, _, _, y2, hs1⟩, ⟨?_, ?_, ?_, ?_, ?_, ?_, ?_, ?_⟩, ?_⟩ ⟨by rw [sm.1, z1], fun r q => by rw [sm.2.1 r (by omega), z2 r (by omega)], fun kk q => by rw [sm.2.2.2.1 kk (by omega), z4 kk q]⟩
  · rw [sm.2.2.2.1 19 (by omega), z4 19 (by omega)]; exact q19
  · rw [sm.1, z1]; exact q38
  · rw [sm.1, z1]; exact q39
  · rw [sm.2.1 38 (by omega), z2 38 (by decide)]; exact qin
  · rw [sm.2.2.2.1 18 (by omega)]; exact j18
  · rw [sm.2.2.2.2 1 (by decide)]; exact g1
  · rw [sm.2.2.2.1 20 (by omega)]; exact j20
  · intro j hj; exact absurd hj (by omega)
  · rw [sm.2.2.2.2 0 (by decide)]; exact g0
theorem l_s113 {μ0 : sm_S} (ln : lnR μ0) (hK : ∀ μ', fr Ino A30 μ0 μ' → (∀ t, t < 140000 → μ'.2.2.2.1 30 t = 0) → ∀ σ2 : sm_S, σ2 = sm_i μ' 14 0 → ∀ σ3 : sm_S, σ3 = sm_i σ2 15 0 → ∀ σ4 : sm_S, σ4 = sm_j σ3 0 0 → ∀ σ5 : sm_S, σ5 = sm_i σ4 18 0 → ∀ σ6 : sm_S, σ6 = sm_i σ5 20 0 → ∀ σ7 : sm_S, σ7 = sm_j σ6 1 0 → ∀ σ8 : sm_S, σ8 = sm_i σ7 17 1 → mp_X12_make σ8 16 (fun r10 σ9 => mp_X12_enter σ9 (σ9.1 8) (fun σ11 => K 1 σ11))) : ∀ (d t : Nat) (μ' : sm_S), t + d = 140000 → fr Ino A30 μ0 μ' → (∀ t', t' < t → μ'.2.2.2.1 30 t' = 0) → mp_X12_start_113 K (d + 1) μ' (nI t) := by
  intro d
  induction d with
  | zero =>
    intro t μ' ht hf hz
    unfold mp_X12_start_113
    refine ⟨fun _ => hK μ' hf (fun t' h' => hz t' (by omega)), fun z => absurd ((nI_leI (a := 140000) (by omega) (by omega)).mpr (by omega)) z⟩
  | succ d ih =>
    intro t μ' ht hf hz
    have l30 : μ'.2.2.1 30 = 140000 := by rw [hf.2.1]; exact lr30 ln
    unfold mp_X12_start_113
    refine ⟨fun z => absurd ((nI_leI (a := 140000) (by omega) (by omega)).mp z) (by omega), fun _ => ⟨by rw [l30]; exact vp_in_nI (by omega) (by decide), ?_⟩⟩
    intro s13 e13 v14 e14
    rw [nI_clamp (by omega)] at e13
    rw [e14, nI_1]
    refine ih (t + 1) s13 (by omega) (by rw [e13]; exact hf.u rfl rfl) (fun t' h' => ?_)
    have : s13.2.2.2.1 30 = upd (μ'.2.2.2.1 30) t 0 := by rw [e13]; rfl
    rw [this]
    by_cases e : t' = t
    · rw [e, pk_us]
    · rw [pk_un e]; exact hz t' (by omega)
theorem m_s60 {i : Nat} {inF : Nat → Int32} (hw : wf T b) (im : imM μ T b) (ln : lnR μ) (h1 : 1024 ≤ h) (h2 : h ≤ 60000) (k1 : 1 ≤ k) (k2 : k ≤ 64) (i4 : μ.1 4 = 1) (q19 : μ.1 19 = nI i) (q38 : μ.2.2.1 38 = 1000) (q39 : μ.2.2.1 39 = 1000) (qin : ∀ j : Nat, j < i → μ.2.2.2.1 38 j = inF j)
    (hK : ∀ μ2, MA μ2 T b k (h * k / (k + 1)) (a0 T) i inF 0 0 inF 0 1 → rsM μ μ2 → K 1 μ2) : mp_X12_start_60 K μ (nI h) (nI k) := by
  have hk : h * k ≤ 60000 * 64 := Nat.mul_le_mul h2 k2
  unfold mp_X12_start_60
  intro s15 e15
  have i21 : s15.1 21 = nI k := by rw [e15]; rfl
  rw [i21, nI_1]
  refine ⟨nI_ne0 (by omega) (by omega), ?_⟩
  intro s16 e16 s17 e17 s18 e18 s19 e19 s20 e20 s21 e21 s22 e22
  rw [pk_mul, pk_div (by omega) (by omega) (by omega)] at e16
  have z22 : s22.2.2 = μ.2.2 := by rw [e22, e21, e20, e19, e18, e17, e16, e15]
  have o22 : ∀ kk, ¬ (11 ≤ kk ∧ kk ≤ 13) → ¬ (21 ≤ kk ∧ kk ≤ 24) → s22.1 kk = μ.1 kk := fun kk q1 q2 => by
    rw [e22, e21, e20, e19, e18, e17, e16, e15]
    exact ((((((va_up_ne _ _ (by omega)).trans (va_up_ne _ _ (by omega))).trans (va_up_ne _ _ (by omega))).trans (va_up_ne _ _ (by omega))).trans (va_up_ne _ _ (by omega))).trans (va_up_ne _ _ (by omega))).trans (va_up_ne _ _ (by omega))
  have ln22 : lnR s22 := by unfold lnR at ln ⊢; rw [z22]; exact ln
  have j21 : s22.1 21 = nI k := by rw [e22, e21, e20, e19, e18, e17, e16, e15]; rfl
  have j22 : s22.1 22 = nI (h * k / (k + 1)) := by rw [e22, e21, e20, e19, e18, e17, e16]; rfl
  have j23 : s22.1 23 = nI 0 := by rw [e22, e21, e20, e19, e18, e17]; rfl
  have j24 : s22.1 24 = nI 0 := by rw [e22, e21, e20, e19]; rfl
  have j11 : s22.1 11 = nI 0 := by rw [e22, e21, e20]; rfl
  have j13 : s22.1 13 = nI 0 := by rw [e22, e21]; rfl
  have j12 : s22.1 12 = nI 0 := by rw [e22]; rfl
  have g2 : s22.2.1 2 = lN 0 := by rw [e22, e21, e20, e19, e18]; rfl
  refine ⟨140000 + 1, ?_⟩
  refine l_s113 ln22 (fun μ' hf hz => ?_) 140000 0 s22 rfl fr_r (fun t' h' => absurd h' (Nat.not_lt_zero _))
  intro s2 f2 s3 f3 s4 f4 s5 f5 s6 f6 s7 f7 s8 f8
  have z8 : s8.2.2 = μ'.2.2 := by rw [f8, f7, f6, f5, f4, f3, f2]
  have o8 : ∀ kk, ¬ (kk = 14 ∨ kk = 15 ∨ kk = 17 ∨ kk = 18 ∨ kk = 20) → s8.1 kk = s22.1 kk := fun kk q => by
    rw [f8, f7, f6, f5, f4, f3, f2]
    exact ((((va_up_ne _ _ (by omega)).trans (va_up_ne _ _ (by omega))).trans (va_up_ne _ _ (by omega))).trans (va_up_ne _ _ (by omega))).trans ((va_up_ne _ _ (by omega)).trans (hf.2.2.2.1 kk (fun z => z)))
  refine m_first (μ := μ) hw im ln h1 h2 k1 k2 i4 q19 q38 q39 qin (by rw [z8, hf.2.1, z22]) (fun r q => by rw [z8, hf.row (fun j => by unfold A30; exact q), z22]) (fun t ht => by rw [z8]; exact hz t ht) (fun kk q => by rw [o8 kk (by omega), o22 kk (by omega) (by omega)]) (by rw [o8 11 (by omega)]; exact j11) (by rw [o8 12 (by omega)]; exact j12) (by rw [o8 13 (by omega)]; exact j13) ?_ ?_ ?_ ?_ ?_ (by rw [o8 21 (by omega)]; exact j21) (by rw [o8 22 (by omega)]; exact j22) (by rw [o8 23 (by omega)]; exact j23) (by rw [o8 24 (by omega)]; exact j24) ?_ ?_ ?_ hK
  · rw [f8, f7, f6, f5, f4, f3, f2]; rfl
  · rw [f8, f7, f6, f5, f4, f3]; rfl
  · rw [f8]; rfl
  · rw [f8, f7, f6, f5]; rfl
  · rw [f8, f7, f6]; rfl
  · rw [f8, f7, f6, f5, f4]; rfl
  · rw [f8, f7]; rfl
  · rw [f8, f7, f6, f5, f4, f3, f2]
    show μ'.2.1 2 = _
    rw [hf.1]; exact g2
/-- the first state is well -/
theorem WA_0 (hw : wf T b) (vk : vOK T b H Y) : WA T b H Y (a0 T) := by
  have hm := hw.2.2.2.2.2.2.2.2.2.2.2.2.1
  have h12 := hw.2.2.2.2.2.2.2.2.2.2.2.2.2.2.1
  have nk : nok T 0 N0 := fun i hi => absurd hi (Nat.not_lt_zero i)
  refine ⟨nk, fun q e => absurd e (Nat.succ_ne_zero q).symm, fun f' r' e => ?_, fun _ => List.cons_ne_nil _ _⟩
  cases e
  have t := arr_top (n := 0) (N := N0) (pc := 0) (vs := fun _ => .inl 0) hw nk hm (vk _ hm).2 rfl (fun i hi => by
    unfold w0T
    rw [if_neg (by omega)]
    exact Or.inl ⟨rfl, fun i q => by cases q⟩) (fun i k hi e => by cases e)
  exact ⟨t.1, fun _ => t.2, trivial⟩
/-- start with an image, both sides -/
theorem j_start {mc ms i : Nat} {inF : Nat → Int32} {KK : Int32 → sm_S → Int32 → sm_S → Prop} (p q : Int32) (hw : wf T b) (imx : imX σ T b) (imm : imM μ T b) (ln : lnR μ) (h36 : ¬ σ.1 36 = 0) (i4 : μ.1 4 = 1) (hl : σ.2.2.1 17 ≤ 480258) (hmc : 1 ≤ mc) (hms : ∀ h, h ≤ 60000 → σ.2.2.1 17 < 4 * h + 129 → max (4 * h + 129) (2 * σ.2.2.1 17) ≤ ms) (q18 : σ.1 18 = nI i) (q30 : σ.2.2.1 30 = 1000) (q31 : σ.2.2.1 31 = 1000) (qin : ∀ j : Nat, j < i → σ.2.2.2.1 30 j = inF j) (q19 : μ.1 19 = nI i) (q38 : μ.2.2.1 38 = 1000) (q39 : μ.2.2.1 39 = 1000) (qim : ∀ j : Nat, j < i → μ.2.2.2.1 38 j = inF j)
    (hK : ∀ σ' μ' h k, h ≤ 60000 → XA σ' T b h k (h * k / (k + 1)) (a0 T) i inF 0 0 inF 0 → MA μ' T b k (h * k / (k + 1)) (a0 T) i inF 0 0 inF 0 1 → rsS σ σ' → rsM μ μ' → grw (4 * h + 129) (σ.2.2.1 17) (σ'.2.2.1 17) → KK 1 σ' 1 μ') : mp_X10_start mc ms σ p q (fun r σ' => mp_X12_start μ p q (fun r' μ' => KK r σ' r' μ')) := by
  obtain ⟨h, h1, h2, h3, h4, h5, h6⟩ := clp (lo := 1024) (hi := 60000) (by decide) (by decide) p
  obtain ⟨k, k1, k2, k3, k4, k5, k6⟩ := clp (lo := 1) (hi := 64) (by decide) (by decide) q
  have h3 : (if 1024 < (if p < 60000 then p else 60000) then (if p < 60000 then p else 60000) else 1024) = nI h := h3
  have k3 : (if 1 < (if q < 64 then q else 64) then (if q < 64 then q else 64) else 1) = nI k := k3
  unfold mp_X10_start
  refine ⟨fun _ => ?_, fun z => absurd z h36⟩
  rw [h3, k3]
  refine w_open h1 h2 k1 k2 (by omega) hmc (hms h h2) (fun s o => ?_)
  have pg := o.2.2.2.2.2.1
  have hl2 : s.2.2.1 17 < 2 ^ 30 := by
    rcases pg with e | e
    · omega
    · omega
  refine x_beg hw imx h1 h2 k1 k2 o hl2 q18 q30 q31 qin (fun σ' X rx l17 => ?_)
  have n4 : ¬ μ.1 4 = 0 := by rw [i4]; decide
  have fin : mp_X12_start_60 (fun r' μ' => KK 1 σ' r' μ') μ (nI h) (nI k) := m_s60 hw imm ln h1 h2 k1 k2 i4 q19 q38 q39 qim (fun μ2 M rm => hK σ' μ2 h k h2 X M rx rm (by rw [l17]; exact pg))
  have s37 : mp_X12_start_37 (fun r' μ' => KK 1 σ' r' μ') μ q (nI h) := by
    unfold mp_X12_start_37
    refine ⟨fun z => ⟨fun z2 => ?_, fun z2 => ?_⟩, fun z => ?_⟩
    · have e : q = nI k := k4 z z2
      rw [e]; exact fin
    · have e : (64 : Int32) = nI k := k5 z z2
      rw [e]; exact fin
    · have e : (1 : Int32) = nI k := k6 z
      have f2 := fin
      rw [← e] at f2
      exact f2
  unfold mp_X12_start
  refine ⟨fun _ => ⟨fun z => ⟨fun z2 => ?_, fun z2 => ?_⟩, fun z => ?_⟩, fun z => absurd z n4⟩
  · have e : p = nI h := h4 z z2
    rw [e]; exact s37
  · have e : (60000 : Int32) = nI h := h5 z z2
    rw [e]; exact s37
  · have e : (1024 : Int32) = nI h := h6 z
    rw [e]; exact s37
end
