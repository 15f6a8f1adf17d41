/-! ===== reading an image: one byte on either side ===== -/
/-- the class's image: n bytes, b -/
def iv_bX (σ : sm_S) (n : Nat) (b : Nat → Nat) : Prop := n ≤ 8000 ∧ σ.1 14 = nI n ∧ n ≤ σ.2.2.1 18 ∧ σ.2.2.1 18 < 2 ^ 31 ∧ (∀ j : Nat, b j < 256) ∧ ∀ j : Nat, j < n → σ.2.2.2.1 18 j &&& 255 = nI (b j)
/-- the reference's -/
def iv_bM (μ : sm_S) (n : Nat) (b : Nat → Nat) : Prop := n ≤ 8000 ∧ μ.1 1 = nI n ∧ μ.2.2.1 3 = 8000 ∧ (∀ j : Nat, b j < 256) ∧ ∀ j : Nat, j < n → μ.2.2.2.1 3 j = nI (b j)
theorem nI_m1 {p : Nat} (h : p < 2 ^ 31) : ¬ nI p = -1 := by
  intro q
  have h1 := congrArg Int32.toInt q
  rw [nI_toInt h] at h1
  have h2 : (-1 : Int32).toInt = -1 := by decide
  omega
/-- Image.at -/
theorem w_at {K : Int32 → sm_S → Prop} {σ : sm_S} {n p : Nat} {b : Nat → Nat} (hb : iv_bX σ n b) (hp : p < 2 ^ 31) (h1 : p < n → K (nI (b p)) σ) (h2 : n ≤ p → K (-1) σ) : mp_X2_at σ (nI p) K := by
  obtain ⟨hn, hs, hl, hl2, hb1, hb2⟩ := hb
  unfold mp_X2_at mp_X2_at_25 mp_X2_at_26
  rw [hs]
  refine ⟨fun q => absurd q (nI_pos hp), fun _ => ⟨fun q => h2 ((nI_leI (by omega) hp).mp q), fun q => ?_⟩⟩
  have hlt : p < n := Nat.lt_of_not_le (fun z => q ((nI_leI (by omega) hp).mpr z))
  refine ⟨vp_in_nI (by omega) hl2, ?_⟩
  rw [nI_clamp hp, hb2 p hlt]
  exact h1 hlt
/-- Reader.number, when nothing was wrong yet: a byte from lo to hi, or the other one -/
theorem w_number {K : Int32 → sm_S → Prop} {σ : sm_S} {n p : Nat} {b : Nat → Nat} {lo hi ot : Int32} (hb : iv_bX σ n b) (hp : p ≤ n) (hat : σ.1 20 = nI p) (hw : σ.1 21 = -1)
    (h1 : p < n → (lo ≤ nI (b p) ∧ nI (b p) ≤ hi ∨ nI (b p) = ot) → K (nI (b p)) (sm_i σ 20 (nI (p + 1)))) (h2 : (n ≤ p ∨ ¬ (lo ≤ nI (b p) ∧ nI (b p) ≤ hi ∨ nI (b p) = ot)) → K 0 (sm_i σ 21 (nI p))) : mp_X6_number σ lo hi ot K := by
  have hn : n ≤ 8000 := hb.1
  unfold mp_X6_number
  refine ⟨fun _ => ?_, fun q => absurd hw q⟩
  rw [hat]
  refine w_at hb (by omega) (fun hlt => ?_) (fun hge => ?_)
  · have hbp : b p < 256 := hb.2.2.2.2.1 p
    have g57 : (lo ≤ nI (b p) ∧ nI (b p) ≤ hi ∨ nI (b p) = ot) → mp_X6_number_57 K σ (nI (b p)) := by
      intro hc
      unfold mp_X6_number_57
      intro σ1 e1
      rw [e1, hat, nI_1]
      exact h1 hlt hc
    have g47 : ¬ (lo ≤ nI (b p) ∧ nI (b p) ≤ hi ∨ nI (b p) = ot) → mp_X6_number_47 K σ := by
      intro hc
      unfold mp_X6_number_47
      intro σ1 e1
      rw [e1, hat]
      exact h2 (Or.inr hc)
    have g41 : ¬ (lo ≤ nI (b p) ∧ nI (b p) ≤ hi) → mp_X6_number_41 K σ ot (nI (b p)) := by
      intro hc
      unfold mp_X6_number_41
      exact ⟨fun q => g57 (Or.inr q), fun q => g47 (fun z => z.elim hc q)⟩
    refine ⟨fun q => absurd q (nI_m1 (by omega)), fun _ => ⟨fun q => g41 (fun z => absurd z.1 (Int32.not_le.mpr q)), fun q => ⟨fun q2 => g57 (Or.inl ⟨Int32.not_lt.mp q, q2⟩), fun q2 => g41 (fun z => q2 z.2)⟩⟩⟩
  · refine ⟨fun _ => ?_, fun q => absurd rfl q⟩
    unfold mp_X6_number_47
    intro σ1 e1
    rw [e1, hat]
    exact h2 (Or.inl hge)
/-- Reader.number behind a wrong byte: nothing -/
theorem w_numberW {K : Int32 → sm_S → Prop} {σ : sm_S} {lo hi ot : Int32} (hw : ¬ σ.1 21 = -1) (h : K 0 σ) : mp_X6_number σ lo hi ot K := by
  unfold mp_X6_number
  exact ⟨fun q => absurd q hw, fun _ => h⟩
/-- the reference's here(): the byte, or 256 at the end -/
theorem w_here {K : Int32 → sm_S → Prop} {μ : sm_S} {n p : Nat} {b : Nat → Nat} (hb : iv_bM μ n b) (hp : p ≤ n) (hat : μ.1 2 = nI p) (h1 : p < n → K (nI (b p)) μ) (h2 : n ≤ p → K 256 μ) : mp_X11_here μ K := by
  obtain ⟨hn, hs, hl, hb1, hb2⟩ := hb
  unfold mp_X11_here mp_X11_here_26
  rw [hs, hat]
  refine ⟨fun q => h2 ((nI_leI (by omega) (by omega)).mp q), fun q => ?_⟩
  have hlt : p < n := Nat.lt_of_not_le (fun z => q ((nI_leI (by omega) (by omega)).mpr z))
  refine ⟨by rw [hl]; exact vp_in_nI (by omega) (by decide), ?_⟩
  rw [nI_clamp (by omega), hb2 p hlt]
  exact h1 hlt
/-- bad(at), when nothing was wrong yet -/
theorem w_bad {K : Int32 → sm_S → Prop} {μ : sm_S} {a : Int32} (hw : μ.1 3 = -1) (h : K 0 (sm_i μ 3 a)) : mp_X11_bad μ a K := by
  unfold mp_X11_bad mp_X11_bad_16
  rw [hw]
  refine ⟨fun q => absurd q (by decide), fun _ μ1 e1 => ?_⟩
  rw [e1]
  exact h
/-- over(lo, hi): on to the next byte, or wrong here -/
theorem w_over {K : Int32 → sm_S → Prop} {μ : sm_S} {n p : Nat} {b : Nat → Nat} {lo hi : Int32} (hb : iv_bM μ n b) (hp : p ≤ n) (hat : μ.1 2 = nI p) (hw : μ.1 3 = -1)
    (h1 : p < n → lo ≤ nI (b p) → nI (b p) ≤ hi → K 1 (sm_i μ 2 (nI (p + 1)))) (h2 : (n ≤ p ∨ ¬ (lo ≤ nI (b p) ∧ nI (b p) ≤ hi)) → K 0 (sm_i μ 3 (nI p))) : mp_X11_over μ lo hi K := by
  have hn : n ≤ 8000 := hb.1
  have bad : (n ≤ p ∨ ¬ (lo ≤ nI (b p) ∧ nI (b p) ≤ hi)) → mp_X11_over_26 K μ := by
    intro hc
    unfold mp_X11_over_26
    rw [hat]
    exact w_bad hw ⟨sm_z0, h2 hc⟩
  unfold mp_X11_over
  refine w_here hb hp hat (fun hlt => ?_) (fun hge => ?_)
  · have hbp : b p < 256 := hb.2.2.2.1 p
    refine ⟨fun q => bad (Or.inr (fun z => absurd z.1 (Int32.not_le.mpr q))), fun q => w_here hb hp hat (fun _ => ⟨fun q2 => bad (Or.inr (fun z => absurd z.2 (Int32.not_le.mpr q2))), fun q2 => w_here hb hp hat (fun _ => ⟨fun _ => ?_, fun q3 => ?_⟩) (fun z => absurd hlt (by omega))⟩) (fun z => absurd hlt (by omega))⟩
    · intro μ1 e1
      rw [e1, hat, nI_1]
      exact h1 hlt (Int32.not_lt.mp q) (Int32.not_lt.mp q2)
    · have : b p = 256 := (nI_eq (by omega) (by omega)).mp q3
      omega
  · refine ⟨fun _ => bad (Or.inl hge), fun _ => w_here hb hp hat (fun z => absurd z (by omega)) (fun _ => ⟨fun _ => bad (Or.inl hge), fun _ => w_here hb hp hat (fun z => absurd z (by omega)) (fun _ => ⟨fun q => absurd rfl q, fun _ => bad (Or.inl hge)⟩)⟩)⟩
/-- last(): the byte just read -/
theorem w_last {K : Int32 → sm_S → Prop} {μ : sm_S} {n p : Nat} {b : Nat → Nat} (hb : iv_bM μ n b) (hp : p < n) (hat : μ.1 2 = nI (p + 1)) (h : K (nI (b p)) μ) : mp_X11_last μ K := by
  obtain ⟨hn, hs, hl, hb1, hb2⟩ := hb
  unfold mp_X11_last
  have e : μ.1 2 - 1 = nI p := by rw [hat, nI_pred]
  rw [e, hl, nI_clamp (by omega), hb2 p hp]
  exact ⟨vp_in_nI (by omega) (by decide), h⟩
