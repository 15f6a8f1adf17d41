/-! ===== value and same, the reference; both sides ===== -/
/-- nothing but what itemCell leaves has changed -/
def rsV (μ μ' : sm_S) : Prop := μ'.2 = μ.2 ∧ ∀ kk, kk ≠ 26 → kk ≠ 27 → μ'.1 kk = μ.1 kk
theorem rsV_r {μ : sm_S} : rsV μ μ := ⟨rfl, fun _ _ _ => rfl⟩
theorem rsV.t {a c d : sm_S} (h : rsV a c) (h2 : rsV c d) : rsV a d := ⟨h2.1.trans h.1, fun k q1 q2 => (h2.2 k q1 q2).trans (h.2 k q1 q2)⟩
theorem rsV_ic {μ : sm_S} {c lk : Nat} : rsV μ (icS μ c lk) := ⟨rfl, fun _ q1 q2 => (va_up_ne _ _ q2).trans (va_up_ne _ _ q1)⟩
section
variable {σ μ : sm_S} {T : Nat → Nat → Nat} {b : Nat → Nat} {H Y : Nat → Nat → Nat} {h k lim md cy rch n sb : Nat} {L : Nat → Prop} {N : Nat → AN} {fs : List AF} {fl st : Nat} {th nd bg : Nat → Nat} {nt us s : Nat}
theorem m_end {K : Int64 → sm_S → Prop} {v : AV} {w : Nat} (hw : wf T b) (y : RMg μ T b k lim md cy rch n N fs fl st th nd bg nt us s) (np : npo T n N) (h2 : w ≤ 2) (hv : vok n N v) (hin : ∀ k, v = .inr (k + 1) → inT th nd nt k) (hK : K (ans T N w (some v)) μ) : ((¬ iM v = 0 → ((¬ vM th v = (-1) → (vp_in (vM th v) (μ.2.2.1 25) ∧ ((¬ ((μ.2.2.2.1 25) (vM th v).toNatClampNeg) = 0 → (mp_X12_value__373 K μ (nI w) (vM th v) 0)) ∧ (((μ.2.2.2.1 25) (vM th v).toNatClampNeg) = 0 → (mp_X12_value__373 K μ (nI w) (vM th v) 1))))) ∧ (vM th v = (-1) → ((¬ nI w = 0 → (mp_X12_value__357 K μ 0)) ∧ (nI w = 0 → (mp_X12_value__357 K μ 1)))))) ∧ (iM v = 0 → ((¬ nI w = 1 → (mp_X12_value__340 K μ 0)) ∧ (nI w = 1 → (mp_X12_value__340 K μ (vM th v).toInt64))))) := by
  have w0 : nI w = 0 ↔ w = 0 := nI_eq (b := 0) (by omega) (by omega)
  have w1 : nI w = 1 ↔ w = 1 := nI_eq (b := 1) (by omega) (by omega)
  unfold mp_X12_value__340 mp_X12_value__357 mp_X12_value__373 mp_X12_value__455
  cases v with
  | inl x =>
    have hK : K (if w = 1 then x.toInt64 else 0) μ := hK
    refine ⟨fun q => absurd rfl q, fun _ => ⟨fun q => ?_, fun q => ?_⟩⟩
    · rw [if_neg (fun e => q (w1.mpr e))] at hK; exact hK
    · rw [if_pos (w1.mp q)] at hK; exact hK
  | inr q =>
    cases q with
    | zero =>
      have hK : K (if w = 0 then 1 else 0) μ := hK
      refine ⟨fun _ => ⟨fun q => absurd rfl q, fun _ => ⟨fun q => ?_, fun q => ?_⟩⟩, fun q => absurd q (by show ¬ (1 : Int32) = 0; decide)⟩
      · rw [if_neg (fun e => q (w0.mpr e))] at hK; exact hK
      · rw [if_pos (w0.mp q)] at hK; exact hK
    | succ q =>
      have hq := hin q rfl
      obtain ⟨a1, a2, a3, a4, a5⟩ := y.tg hq
      have ln := y.1.2.1
      have im := y.1.1
      have w32 := hw.2.1
      have kk := (hv q rfl).2
      have hK : K (if (N q).1 = 2 then (if w = 0 then 2 else if w = 1 then (nI (N q).2.1).toInt64 else (nI (T 6 (N q).2.1)).toInt64) else (if w = 0 then (if (N q).2.2.1 = 0 then 3 else 4) else if w = 1 then (nI (N q).2.1).toInt64 else 0)) μ := hK
      have nb2 := (np q a1).2.1
      have nb3 := (np q a1).2.2.1
      rw [vM_s, nI_clamp (by omega), a2.1, a2.2.1 (by omega)]
      refine ⟨fun _ => ⟨fun _ => ⟨by rw [lr25 ln]; exact vp_in_nI a4 (by decide), ?_⟩, fun q => absurd q (nI_m1 (by omega))⟩, fun q => absurd q (by show ¬ (1 : Int32) = 0; decide)⟩
      rcases kk with k2 | k3
      · rw [if_pos k2] at hK
        refine ⟨fun q => absurd (by rw [k2]; rfl) q, fun _ => ⟨fun q0 => ⟨fun q1 => ⟨fun z => absurd z (by decide), fun _ => ?_⟩, fun q1 => ?_⟩, fun q0 => ⟨fun z => absurd z (by decide), fun _ => ?_⟩⟩⟩
        · rw [if_neg (fun e => q0 (w0.mpr e)), if_neg (fun e => q1 (w1.mpr e))] at hK
          by_cases cl : (N q).2.1 < T 0 0
          · have r6 := (im.2.2.2.2.2.2.1.1 _ cl).2.1
            rw [nI_clamp (by omega), r6]
            exact ⟨by rw [lr26 ln]; exact vp_in_nI a4 (by decide), by rw [show μ.2.2.1 6 = 32 from im.2.1.2.2.1]; exact vp_in_nI (by omega) (by decide), hK⟩
          · exact absurd (nb2 k2) cl
        · rw [if_neg (fun e => q0 (w0.mpr e)), if_pos (w1.mp q1)] at hK
          exact ⟨by rw [lr26 ln]; exact vp_in_nI a4 (by decide), hK⟩
        · rw [if_pos (w0.mp q0)] at hK
          exact hK
      · rw [if_neg (by omega)] at hK
        rw [a2.2.2.2.1 k3]
        have n1 : ¬ nI ((N q).1 - 2) = 0 := by rw [k3]; decide
        refine ⟨fun _ => ⟨fun q0 => ⟨fun q1 => ⟨fun _ => ?_, fun z => absurd rfl z⟩, fun q1 => ?_⟩, fun q0 => ⟨fun _ => ⟨by rw [lr28 ln]; exact vp_in_nI a4 (by decide), fun u => ?_, fun u => ?_⟩, fun z => absurd rfl z⟩⟩, fun q => absurd q n1⟩
        · rw [if_neg (fun e => q0 (w0.mpr e)), if_neg (fun e => q1 (w1.mpr e))] at hK; exact hK
        · rw [if_neg (fun e => q0 (w0.mpr e)), if_pos (w1.mp q1)] at hK
          exact ⟨by rw [lr26 ln]; exact vp_in_nI a4 (by decide), hK⟩
        · rw [if_pos (w0.mp q0), if_neg (fun e => u (by rw [e]; rfl))] at hK; exact hK
        · have e0 : (N q).2.2.1 = 0 := (nI_eq (b := 0) (by have := nb3 k3; omega) (by omega)).mp u
          rw [if_pos (w0.mp q0), if_pos e0] at hK; exact hK
end
