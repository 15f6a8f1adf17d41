/-! ===== start, each side ===== -/
/-- a number held within bounds, both ways -/
theorem clp {lo hi : Nat} (h1 : lo ≤ hi) (h2 : hi < 2 ^ 31) (p : Int32) : ∃ h, lo ≤ h ∧ h ≤ hi ∧ (if nI lo < (if p < nI hi then p else nI hi) then (if p < nI hi then p else nI hi) else nI lo) = nI h ∧ (nI lo ≤ p → p ≤ nI hi → p = nI h) ∧ (nI lo ≤ p → ¬ p ≤ nI hi → nI hi = nI h) ∧ (¬ nI lo ≤ p → nI lo = nI h) := by
  by_cases z : p < 0
  · have z1 := Int32.lt_iff_toInt_lt.mp z
    have z0 : (0 : Int32).toInt = 0 := by decide
    have nl : ¬ nI lo ≤ p := fun q => by
      have q1 := Int32.le_iff_toInt_le.mp q
      rw [nI_toInt (by omega)] at q1
      omega
    have nl2 : ¬ nI lo < p := fun q => by
      have q1 := Int32.lt_iff_toInt_lt.mp q
      rw [nI_toInt (by omega)] at q1
      omega
    have lh : p < nI hi := by
      rw [Int32.lt_iff_toInt_lt, nI_toInt h2]
      omega
    refine ⟨lo, Nat.le_refl _, h1, ?_, fun q => absurd q nl, fun q => absurd q nl, fun _ => rfl⟩
    rw [if_pos lh, if_neg nl2]
  · obtain ⟨x, x1, x2⟩ := nI_of z
    subst x2
    by_cases c1 : x < hi
    · rw [if_pos (nI_lt c1 h2)]
      by_cases c2 : lo < x
      · rw [if_pos (nI_lt c2 x1)]
        exact ⟨x, by omega, by omega, rfl, fun _ _ => rfl, fun _ q => absurd (nI_le (by omega) h2) q, fun q => absurd (nI_le (by omega) x1) q⟩
      · rw [if_neg (fun q => c2 ((nI_ltI (by omega) x1).mp q))]
        refine ⟨lo, Nat.le_refl _, h1, rfl, fun q _ => ?_, fun _ q => absurd (nI_le (by omega) h2) q, fun _ => rfl⟩
        have := (nI_leI (by omega) x1).mp q
        rw [show x = lo by omega]
    · rw [if_neg (fun q => c1 ((nI_ltI x1 h2).mp q))]
      by_cases c2 : lo < hi
      · rw [if_pos (nI_lt c2 h2)]
        refine ⟨hi, h1, Nat.le_refl _, rfl, fun _ q => ?_, fun _ _ => rfl, fun q => absurd (nI_le (by omega) x1) q⟩
        have := (nI_leI x1 h2).mp q
        rw [show x = hi by omega]
      · rw [if_neg (fun q => c2 ((nI_ltI (by omega) h2).mp q))]
        refine ⟨lo, Nat.le_refl _, h1, rfl, fun _ q => ?_, fun _ _ => by rw [show hi = lo by omega], fun _ => rfl⟩
        have := (nI_leI x1 h2).mp q
        rw [show x = lo by omega]
theorem ACb_0 {h k md : Nat} (h1 : 1024 ≤ h) (h2 : h ≤ 60000) (k1 : 1 ≤ k) (k2 : k ≤ 64) (hm : md ≤ 512) : ACb h k (h * k / (k + 1)) 0 md := by
  have e2 : 512 ≤ h * k / (k + 1) := by
    rw [Nat.le_div_iff_mul_le (by omega)]
    have : 1024 * k ≤ h * k := Nat.mul_le_mul_right _ h1
    omega
  exact ⟨h1, h2, k1, k2, Nat.div_mul_le_self _ _, e2, by omega, Or.inl (by omega)⟩
section
variable {σ μ : sm_S} {T : Nat → Nat → Nat} {b : Nat → Nat} {h k : Nat}
theorem imX.o {σ σ' : sm_S} (im : imX σ T b) (h1 : ∀ r, r ≠ 17 → σ'.2.2.1 r = σ.2.2.1 r) (h2 : σ'.2.2.2.1 = σ.2.2.2.1) (h3 : ∀ k, k = 0 ∨ (14 ≤ k ∧ k ≤ 17) → σ'.1 k = σ.1 k) : imX σ' T b := by
  unfold imX iv_bX lnX icX imtX at im ⊢
  rw [h2, h1 18 (by decide), h1 11 (by decide), h1 12 (by decide), h1 13 (by decide), h1 14 (by decide), h1 15 (by decide), h1 16 (by decide), h1 20 (by decide), h1 21 (by decide), h1 22 (by decide), h1 23 (by decide), h1 24 (by decide), h1 25 (by decide), h1 26 (by decide), h1 27 (by decide), h1 28 (by decide), h1 29 (by decide), h1 19 (by decide), h3 0 (by omega), h3 14 (by omega), h3 15 (by omega), h3 16 (by omega), h3 17 (by omega)]
  exact im
/-- the heap as it is opened -/
def opn (σ σ' : sm_S) (h k : Nat) : Prop := (σ'.1 1 = nI (2 * h + 64) ∧ σ'.1 2 = nI 1 ∧ σ'.1 3 = nI 1 ∧ σ'.1 4 = nI 1 ∧ σ'.1 5 = nI (2 * h + 65) ∧ σ'.1 6 = nI k ∧ σ'.1 7 = nI (h * k / (k + 1)) ∧ σ'.1 8 = nI 0 ∧ σ'.1 9 = nI 0 ∧ σ'.1 10 = nI 0 ∧ σ'.1 11 = 0 ∧ σ'.1 12 = 1) ∧ (∀ kk, kk = 0 ∨ 13 ≤ kk → σ'.1 kk = σ.1 kk) ∧ σ'.2.1 = σ.2.1 ∧ (∀ r, r ≠ 17 → σ'.2.2.1 r = σ.2.2.1 r) ∧ σ'.2.2.2.1 = σ.2.2.2.1 ∧ grw (4 * h + 129) (σ.2.2.1 17) (σ'.2.2.1 17) ∧ 4 * h + 129 ≤ σ'.2.2.1 17
theorem w_o70 {mc ms : Nat} {K : sm_S → Prop} {σ8 : sm_S} (i1 : σ8.1 1 = nI (2 * h + 64)) (i6 : σ8.1 6 = nI k) (i7 : σ8.1 7 = nI (h * k / (k + 1))) (ho : ∀ kk, kk = 0 ∨ 13 ≤ kk → σ8.1 kk = σ.1 kk) (h2 : σ8.2.1 = σ.2.1) (hl : ∀ r, r ≠ 17 → σ8.2.2.1 r = σ.2.2.1 r) (hr : σ8.2.2.2.1 = σ.2.2.2.1) (hg : grw (4 * h + 129) (σ.2.2.1 17) (σ8.2.2.1 17)) (hn : 4 * h + 129 ≤ σ8.2.2.1 17) (hK : ∀ σ', opn σ σ' h k → K σ') : mp_X1_open_70 mc ms K σ8 := by
  unfold mp_X1_open_70 mp_X1_useHalf
  intro s1 e1 s2 e2 s3 e3 s4 e4 s5 e5 s6 e6 s7 e7 s8 e8 s9 e9
  have j7 : s7.1 1 = nI (2 * h + 64) := by rw [e7, e6, e5, e4, e3, e2, e1]; exact i1
  have f1 : ∀ kk, ¬ (kk = 9 ∨ kk = 10 ∨ kk = 11 ∨ kk = 12 ∨ kk = 2 ∨ kk = 3 ∨ kk = 4 ∨ kk = 5 ∨ kk = 8) → s9.1 kk = σ8.1 kk := fun kk q => by
    rw [e9, e8, e7, e6, e5, e4, e3, e2, e1]
    exact ((((((((va_up_ne _ _ (by omega)).trans (va_up_ne _ _ (by omega))).trans (va_up_ne _ _ (by omega))).trans (va_up_ne _ _ (by omega))).trans (va_up_ne _ _ (by omega))).trans (va_up_ne _ _ (by omega))).trans (va_up_ne _ _ (by omega))).trans (va_up_ne _ _ (by omega))).trans (va_up_ne _ _ (by omega))
  have j5 : s9.1 5 = nI (2 * h + 65) := by
    rw [e9]
    show s8.1 5 = _
    rw [e8]
    show (1 : Int32) + s7.1 1 = _
    rw [j7, nI_1a, show 1 + (2 * h + 64) = 2 * h + 65 by omega]
  have z : s9.2 = σ8.2 := by rw [e9, e8, e7, e6, e5, e4, e3, e2, e1]
  refine hK s9 ⟨⟨by rw [f1 1 (by omega)]; exact i1, ?_, ?_, ?_, j5, by rw [f1 6 (by omega)]; exact i6, by rw [f1 7 (by omega)]; exact i7, ?_, ?_, ?_, ?_, ?_⟩, fun kk q => by rw [f1 kk (by omega)]; exact ho kk q, by rw [z]; exact h2, fun r q => by rw [z]; exact hl r q, by rw [z]; exact hr, by rw [z]; exact hg, by rw [z]; exact hn⟩
  · rw [e9, e8, e7, e6, e5]; rfl
  · rw [e9, e8, e7, e6]; rfl
  · rw [e9, e8, e7]; rfl
  · rw [e9]; rfl
  · rw [e9, e8, e7, e6, e5, e4, e3, e2, e1]; rfl
  · rw [e9, e8, e7, e6, e5, e4, e3, e2]; rfl
  · rw [e9, e8, e7, e6, e5, e4, e3]; rfl
  · rw [e9, e8, e7, e6, e5, e4]; rfl
theorem w_open {mc ms : Nat} {K : sm_S → Prop} (h1 : 1024 ≤ h) (h2 : h ≤ 60000) (k1 : 1 ≤ k) (k2 : k ≤ 64) (hl : σ.2.2.1 17 < 2 ^ 29) (hmc : 1 ≤ mc) (hms : σ.2.2.1 17 < 4 * h + 129 → max (4 * h + 129) (2 * σ.2.2.1 17) ≤ ms) (hK : ∀ σ', opn σ σ' h k → K σ') : mp_X1_open mc ms σ (nI h) (nI k) K := by
  have hk : h * k ≤ 60000 * 64 := Nat.mul_le_mul h2 k2
  have hlim : h * k / (k + 1) ≤ h * k := Nat.div_le_self _ _
  unfold mp_X1_open
  intro s6 e6 s7 e7
  have i6 : s7.1 6 = nI k := by rw [e7]; rfl
  rw [i6, nI_1]
  refine ⟨nI_ne0 (by omega) (by omega), ?_⟩
  intro s8 e8
  rw [pk_mul, pk_div (by omega) (by omega) (by omega)] at e8
  have j1 : s8.1 1 = nI (2 * h + 64) := by
    rw [e8, e7, e6]
    show 2 * nI h + 64 = _
    rw [l_2, l_64, pk_mul, nI_add]
  have j6 : s8.1 6 = nI k := by rw [e8, e7]; rfl
  have j7 : s8.1 7 = nI (h * k / (k + 1)) := by rw [e8]; rfl
  have ho : ∀ kk, kk = 0 ∨ 13 ≤ kk → s8.1 kk = σ.1 kk := fun kk q => by
    rw [e8, e7, e6]
    exact ((va_up_ne _ _ (by omega)).trans (va_up_ne _ _ (by omega))).trans (va_up_ne _ _ (by omega))
  have z : s8.2 = σ.2 := by rw [e8, e7, e6]
  have l17 : s8.2.2.1 17 = σ.2.2.1 17 := by rw [z]
  rw [j1, l_2, pk_mul, nI_1, l17, show 2 * (2 * h + 64) + 1 = 4 * h + 129 by omega]
  refine ⟨fun q => ?_, fun q => ?_⟩
  · have := (nI_leI (by omega) (by omega)).mp q
    exact w_o70 j1 j6 j7 ho (by rw [z]) (fun r _ => by rw [z]) (by rw [z]) (by rw [l17]; exact Or.inl rfl) (by rw [l17]; exact this) hK
  · have c : σ.2.2.1 17 < 4 * h + 129 := by
      have : ¬ 4 * h + 129 ≤ σ.2.2.1 17 := fun p => q (nI_le p (by omega))
      omega
    have em : (if nI (4 * h + 129) < 2 * nI (σ.2.2.1 17) then 2 * nI (σ.2.2.1 17) else nI (4 * h + 129)) = nI (max (4 * h + 129) (2 * σ.2.2.1 17)) := by
      rw [l_2, pk_mul]
      by_cases cc : 4 * h + 129 < 2 * σ.2.2.1 17
      · rw [if_pos (nI_lt cc (by omega)), Nat.max_eq_right (by omega)]
      · rw [if_neg (fun q => cc ((nI_ltI (by omega) (by omega)).mp q)), Nat.max_eq_left (by omega)]
    have hms := hms c
    have hmx : max (4 * h + 129) (2 * σ.2.2.1 17) < 2 ^ 21 := by omega
    unfold mp_X10_roomFor
    rw [em]
    dsimp only
    generalize hg : max (4 * h + 129) (2 * σ.2.2.1 17) = mx at *
    rw [nI_clamp (by omega)]
    refine ⟨nI_neg (by omega), by omega, by omega, by omega, ?_⟩
    intro s16 e16
    have lx : s16.2.2.1 17 = mx := by rw [e16]; rfl
    refine w_o70 (by rw [e16]; exact j1) (by rw [e16]; exact j6) (by rw [e16]; exact j7) (fun kk q => by rw [e16]; exact ho kk q) (by rw [e16]; show s8.2.1 = _; rw [z]) (fun r q => ?_) (by rw [e16]; show s8.2.2.2.1 = _; rw [z]) (Or.inr ⟨c, by rw [lx, hg]⟩) (by rw [lx]; omega) hK
    rw [e16]
    show va_up s8.2.2.1 17 mx r = _
    rw [va_up_ne _ _ q, z]
end
