/-! ===== reading an image: one byte on either side ===== -/
/-- the class's image: n bytes, b -/
def iv_bX (σ : sm_S) (n : Nat) (b : Nat → Nat) : Prop := n ≤ 8000 ∧ σ.1 14 = nI n ∧ n ≤ σ.2.2.1 18 ∧ σ.2.2.1 18 < 2 ^ 31 ∧ (∀ j : Nat, b j < 256) ∧ ∀ j : Nat, j < n → σ.2.2.2.1 18 j &&& 255 = nI (b j)
/-- the reference's -/
def iv_bM (μ : sm_S) (n : Nat) (b : Nat → Nat) : Prop := n ≤ 8000 ∧ μ.1 1 = nI n ∧ μ.2.2.1 3 = 8000 ∧ (∀ j : Nat, b j < 256) ∧ ∀ j : Nat, j < n → μ.2.2.2.1 3 j = nI (b j)
theorem nI_m1 {p : Nat} (h : p < 2 ^ 31) : ¬ nI p = -1 := by
  intro q
  have h1 := congrArg Int32.toInt q
  rw [nI_toInt h] at h1
  have h2 : (-1 : Int32).toInt = -1 := by decide
  omega
/-- Image.at -/
theorem w_at {K : Int32 → sm_S → Prop} {σ : sm_S} {n p : Nat} {b : Nat → Nat} (hb : iv_bX σ n b) (hp : p < 2 ^ 31) (h1 : p < n → K (nI (b p)) σ) (h2 : n ≤ p → K (-1) σ) : mp_X2_at σ (nI p) K := by
  obtain ⟨hn, hs, hl, hl2, hb1, hb2⟩ := hb
  unfold mp_X2_at mp_X2_at_25 mp_X2_at_26
  rw [hs]
  refine ⟨fun q => absurd q (nI_pos hp), fun _ => ⟨fun q => h2 ((nI_leI (by omega) hp).mp q), fun q => ?_⟩⟩
  have hlt : p < n := Nat.lt_of_not_le (fun z => q ((nI_leI (by omega) hp).mpr z))
  refine ⟨vp_in_nI (by omega) hl2, ?_⟩
  rw [nI_clamp hp, hb2 p hlt]
  exact h1 hlt
/-- Reader.number, when nothing was wrong yet: a byte from lo to hi, or the other one -/
theorem w_number {K : Int32 → sm_S → Prop} {σ : sm_S} {n p : Nat} {b : Nat → Nat} {lo hi ot : Int32} (hb : iv_bX σ n b) (hp : p ≤ n) (hat : σ.1 20 = nI p) (hw : σ.1 21 = -1)
    (h1 : p < n → (lo ≤ nI (b p) ∧ nI (b p) ≤ hi ∨ nI (b p) = ot) → K (nI (b p)) (sm_i σ 20 (nI (p + 1)))) (h2 : (n ≤ p ∨ ¬ (lo ≤ nI (b p) ∧ nI (b p) ≤ hi ∨ nI (b p) = ot)) → K 0 (sm_i σ 21 (nI p))) : mp_X6_number σ lo hi ot K := by
  have hn : n ≤ 8000 := hb.1
  unfold mp_X6_number
  refine ⟨fun _ => ?_, fun q => absurd hw q⟩
  rw [hat]
  refine w_at hb (by omega) (fun hlt => ?_) (fun hge => ?_)
  · have hbp : b p < 256 := hb.2.2.2.2.1 p
    have g57 : (lo ≤ nI (b p) ∧ nI (b p) ≤ hi ∨ nI (b p) = ot) → mp_X6_number_57 K σ (nI (b p)) := by
      intro hc
      unfold mp_X6_number_57
      intro σ1 e1
      rw [e1, hat, nI_1]
      exact h1 hlt hc
    have g47 : ¬ (lo ≤ nI (b p) ∧ nI (b p) ≤ hi ∨ nI (b p) = ot) → mp_X6_number_47 K σ := by
      intro hc
      unfold mp_X6_number_47
      intro σ1 e1
      rw [e1, hat]
      exact h2 (Or.inr hc)
    have g41 : ¬ (lo ≤ nI (b p) ∧ nI (b p) ≤ hi) → mp_X6_number_41 K σ ot (nI (b p)) := by
      intro hc
      unfold mp_X6_number_41
      exact ⟨fun q => g57 (Or.inr q), fun q => g47 (fun z => z.elim hc q)⟩
    refine ⟨fun q => absurd q (nI_m1 (by omega)), fun _ => ⟨fun q => g41 (fun z => absurd z.1 (Int32.not_le.mpr q)), fun q => ⟨fun q2 => g57 (Or.inl ⟨Int32.not_lt.mp q, q2⟩), fun q2 => g41 (fun z => q2 z.2)⟩⟩⟩
  · refine ⟨fun _ => ?_, fun q => absurd rfl q⟩
    unfold mp_X6_number_47
    intro σ1 e1
    rw [e1, hat]
    exact h2 (Or.inl hge)
/-- Reader.number behind a wrong byte: nothing -/
theorem w_numberW {K : Int32 → sm_S → Prop} {σ : sm_S} {lo hi ot : Int32} (hw : ¬ σ.1 21 = -1) (h : K 0 σ) : mp_X6_number σ lo hi ot K := by
  unfold mp_X6_number
  exact ⟨fun q => absurd q hw, fun _ => h⟩
/-- the reference's here(): the byte, or 256 at the end -/
theorem w_here {K : Int32 → sm_S → Prop} {μ : sm_S} {n p : Nat} {b : Nat → Nat} (hb : iv_bM μ n b) (hp : p ≤ n) (hat : μ.1 2 = nI p) (h1 : p < n → K (nI (b p)) μ) (h2 : n ≤ p → K 256 μ) : mp_X11_here μ K := by
  obtain ⟨hn, hs, hl, hb1, hb2⟩ := hb
  unfold mp_X11_here mp_X11_here_26
  rw [hs, hat]
  refine ⟨fun q => h2 ((nI_leI (by omega) (by omega)).mp q), fun q => ?_⟩
  have hlt : p < n := Nat.lt_of_not_le (fun z => q ((nI_leI (by omega) (by omega)).mpr z))
  refine ⟨by rw [hl]; exact vp_in_nI (by omega) (by decide), ?_⟩
  rw [nI_clamp (by omega), hb2 p hlt]
  exact h1 hlt
/-- bad(at), when nothing was wrong yet -/
theorem w_bad {K : Int32 → sm_S → Prop} {μ : sm_S} {a : Int32} (hw : μ.1 3 = -1) (h : K 0 (sm_i μ 3 a)) : mp_X11_bad μ a K := by
  unfold mp_X11_bad mp_X11_bad_16
  rw [hw]
  refine ⟨fun q => absurd q (by decide), fun _ μ1 e1 => ?_⟩
  rw [e1]
  exact h
/-- over(lo, hi): on to the next byte, or wrong here -/
theorem w_over {K : Int32 → sm_S → Prop} {μ : sm_S} {n p : Nat} {b : Nat → Nat} {lo hi : Int32} (hb : iv_bM μ n b) (hp : p ≤ n) (hat : μ.1 2 = nI p) (hw : μ.1 3 = -1)
    (h1 : p < n → lo ≤ nI (b p) → nI (b p) ≤ hi → K 1 (sm_i μ 2 (nI (p + 1)))) (h2 : (n ≤ p ∨ ¬ (lo ≤ nI (b p) ∧ nI (b p) ≤ hi)) → K 0 (sm_i μ 3 (nI p))) : mp_X11_over μ lo hi K := by
  have hn : n ≤ 8000 := hb.1
  have bad : (n ≤ p ∨ ¬ (lo ≤ nI (b p) ∧ nI (b p) ≤ hi)) → mp_X11_over_26 K μ := by
    intro hc
    unfold mp_X11_over_26
    rw [hat]
    exact w_bad hw ⟨sm_z0, h2 hc⟩
  unfold mp_X11_over
  refine w_here hb hp hat (fun hlt => ?_) (fun hge => ?_)
  · have hbp : b p < 256 := hb.2.2.2.1 p
    refine ⟨fun q => bad (Or.inr (fun z => absurd z.1 (Int32.not_le.mpr q))), fun q => w_here hb hp hat (fun _ => ⟨fun q2 => bad (Or.inr (fun z => absurd z.2 (Int32.not_le.mpr q2))), fun q2 => w_here hb hp hat (fun _ => ⟨fun _ => ?_, fun q3 => ?_⟩) (fun z => absurd hlt (by omega))⟩) (fun z => absurd hlt (by omega))⟩
    · intro μ1 e1
      rw [e1, hat, nI_1]
      exact h1 hlt (Int32.not_lt.mp q) (Int32.not_lt.mp q2)
    · have : b p = 256 := (nI_eq (by omega) (by omega)).mp q3
      omega
  · refine ⟨fun _ => bad (Or.inl hge), fun _ => w_here hb hp hat (fun z => absurd z (by omega)) (fun _ => ⟨fun _ => bad (Or.inl hge), fun _ => w_here hb hp hat (fun z => absurd z (by omega)) (fun _ => ⟨fun q => absurd rfl q, fun _ => bad (Or.inl hge)⟩)⟩)⟩
/-- last(): the byte just read -/
theorem w_last {K : Int32 → sm_S → Prop} {μ : sm_S} {n p : Nat} {b : Nat → Nat} (hb : iv_bM μ n b) (hp : p < n) (hat : μ.1 2 = nI (p + 1)) (h : K (nI (b p)) μ) : mp_X11_last μ K := by
  obtain ⟨hn, hs, hl, hb1, hb2⟩ := hb
  unfold mp_X11_last
  have e : μ.1 2 - 1 = nI p := by rw [hat, nI_pred]
  rw [e, hl, nI_clamp (by omega), hb2 p hp]
  exact ⟨vp_in_nI (by omega) (by decide), h⟩
/-- a type may stand here -/
def ty_ok (C : Nat) (o : Prop) (x : Nat) : Prop := x ≤ C ∨ (64 ≤ x ∧ x ≤ 64 + C) ∨ (o ∧ x = 255)
/-- Reader.type, when nothing was wrong yet -/
theorem w_type {K : Int32 → sm_S → Prop} {σ : sm_S} {n p C : Nat} {b : Nat → Nat} {ot : Int32} {o : Prop} (hb : iv_bX σ n b) (hp : p ≤ n) (hat : σ.1 20 = nI p) (hw : σ.1 21 = -1) (hC : σ.1 0 = nI C) (hC2 : C ≤ 32) (ho : ∀ x : Nat, x < 256 → (nI x = ot ↔ (o ∧ x = 255)))
    (h1 : p < n → ty_ok C o (b p) → K (nI (b p)) (sm_i σ 20 (nI (p + 1)))) (h2 : (n ≤ p ∨ ¬ ty_ok C o (b p)) → K 0 (sm_i σ 21 (nI p))) : mp_X6_type σ ot K := by
  have hn : n ≤ 8000 := hb.1
  have hbp : b p < 256 := hb.2.2.2.2.1 p
  have e64 : (64 : Int32) + σ.1 0 = nI (64 + C) := by rw [hC, show (64 : Int32) = nI 64 from rfl, nI_add]
  have r0 : (0 : Int32) ≤ nI (b p) := nI_pos' (by omega)
  have rC : nI (b p) ≤ nI C ↔ b p ≤ C := nI_leI (by omega) (by omega)
  have r64 : nI (b p) < 64 ↔ b p < 64 := by rw [show (64 : Int32) = nI 64 from rfl, nI_ltI (by omega) (by omega)]
  have r64b : (64 : Int32) ≤ nI (b p) ↔ 64 ≤ b p := by rw [show (64 : Int32) = nI 64 from rfl, nI_leI (by omega) (by omega)]
  have rR : nI (64 + C) < nI (b p) ↔ 64 + C < b p := nI_ltI (by omega) (by omega)
  have rRb : nI (b p) ≤ nI (64 + C) ↔ b p ≤ 64 + C := nI_leI (by omega) (by omega)
  have low : (¬ (64 ≤ b p ∧ b p ≤ 64 + C) ∨ n ≤ p) → mp_X6_number σ 0 (σ.1 0) ot (fun r2 σ1 => K r2 σ1) := by
    intro hx
    refine w_number hb hp hat hw (fun hlt hc => h1 hlt ?_) (fun hc => h2 ?_)
    · rw [hC] at hc
      rcases hc with ⟨_, q⟩ | q
      · exact Or.inl (rC.mp q)
      · exact Or.inr (Or.inr ((ho _ hbp).mp q))
    · rw [hC] at hc
      rcases hc with q | q
      · exact Or.inl q
      · rcases hx with hx | hx
        · refine Or.inr (fun z => q ?_)
          rcases z with z | z | z
          · exact Or.inl ⟨r0, rC.mpr z⟩
          · exact absurd z hx
          · exact Or.inr ((ho _ hbp).mpr z)
        · exact Or.inl hx
  unfold mp_X6_type mp_X6_type_50
  rw [hat]
  refine w_at hb (by omega) (fun hlt => ⟨fun q => low (Or.inl (fun z => by have := r64.mp q; omega)), fun q => ⟨fun q2 => low (Or.inl (fun z => by rw [e64] at q2; have := rR.mp q2; omega)), fun q2 => ?_⟩⟩) (fun hge => ⟨fun _ => low (Or.inr hge), fun q => absurd (by decide) q⟩)
  rw [e64] at q2 ⊢
  have g1 : 64 ≤ b p := by have w9 : ¬ _ := fun z => q (r64.mpr z); omega
  have g2 : b p ≤ 64 + C := by have w9 : ¬ _ := fun z => q2 (rR.mpr z); omega
  refine w_number hb hp hat hw (fun _ _ => h1 hlt (Or.inr (Or.inl ⟨g1, g2⟩))) (fun hc => ?_)
  rcases hc with hc | hc
  · exact absurd hc (by omega)
  · exact absurd (Or.inl ⟨r64b.mpr g1, rRb.mpr g2⟩) hc
/-- the reference's overType -/
theorem w_overType {K : Int32 → sm_S → Prop} {μ : sm_S} {n p C : Nat} {b : Nat → Nat} {ot : Int32} {o : Prop} (hb : iv_bM μ n b) (hp : p ≤ n) (hat : μ.1 2 = nI p) (hw : μ.1 3 = -1) (hC : μ.1 5 = nI C) (hC2 : C ≤ 32) (ho : ot = 0 ↔ ¬ o)
    (h1 : p < n → ty_ok C o (b p) → K 1 (sm_i μ 2 (nI (p + 1)))) (h2 : (n ≤ p ∨ ¬ ty_ok C o (b p)) → K 0 (sm_i μ 3 (nI p))) : mp_X11_overType μ ot K := by
  have hn : n ≤ 8000 := hb.1
  have e64 : (64 : Int32) + μ.1 5 = nI (64 + C) := by rw [hC, show (64 : Int32) = nI 64 from rfl, nI_add]
  have g45 : (n ≤ p ∨ ¬ ty_ok C o (b p)) → mp_X11_overType_45 K μ := by
    intro hc
    unfold mp_X11_overType_45 mp_X11_overType_46
    refine ⟨fun q => absurd rfl q, fun _ => ?_⟩
    rw [hat]
    exact w_bad hw ⟨sm_z0, h2 hc⟩
  have g41 : p < n → ty_ok C o (b p) → mp_X11_overType_41 K μ := by
    intro hlt hc
    unfold mp_X11_overType_41 mp_X11_overType_46
    refine ⟨fun _ μ1 e1 => ?_, fun q => absurd q (by decide)⟩
    rw [e1, hat, nI_1]
    exact h1 hlt hc
  have g30 : ∀ x : Nat, x ≤ 256 → (p < n → x = b p) → (n ≤ p → x = 256) → ¬ x ≤ C → ¬ (64 ≤ x ∧ x ≤ 64 + C) → mp_X11_overType_30 K μ ot (nI x) := by
    intro x hx hx1 hx2 k1 k2
    unfold mp_X11_overType_30
    have r255 : nI x = 255 ↔ x = 255 := by rw [show (255 : Int32) = nI 255 from rfl, nI_eq (by omega) (by omega)]
    refine ⟨fun q => g45 ?_, fun q => ⟨fun q2 => g45 ?_, fun q2 => ?_⟩⟩
    · rcases Nat.lt_or_ge p n with z | z
      · refine Or.inr (fun y => ?_)
        rw [← hx1 z] at y
        rcases y with y | y | y
        · exact k1 y
        · exact k2 y
        · exact (ho.mp q) y.1
      · exact Or.inl z
    · rcases Nat.lt_or_ge p n with z | z
      · refine Or.inr (fun y => ?_)
        rw [← hx1 z] at y
        rcases y with y | y | y
        · exact k1 y
        · exact k2 y
        · exact q2 (r255.mpr y.2)
      · exact Or.inl z
    · have hx3 := r255.mp q2
      rcases Nat.lt_or_ge p n with z | z
      · refine g41 z (Or.inr (Or.inr ⟨Classical.byContradiction (fun y => q (ho.mpr y)), ?_⟩))
        rw [← hx1 z]; exact hx3
      · have := hx2 z
        omega
  unfold mp_X11_overType
  refine w_here hb hp hat (fun hlt => ?_) (fun hge => ?_)
  · have hbp : b p < 256 := hb.2.2.2.1 p
    have rC : nI (b p) ≤ nI C ↔ b p ≤ C := nI_leI (by omega) (by omega)
    have r64 : nI (b p) < 64 ↔ b p < 64 := by rw [show (64 : Int32) = nI 64 from rfl, nI_ltI (by omega) (by omega)]
    have rR : nI (b p) ≤ nI (64 + C) ↔ b p ≤ 64 + C := nI_leI (by omega) (by omega)
    rw [e64, hC]
    refine ⟨fun q => g41 hlt (Or.inl (rC.mp q)), fun q => ⟨fun q2 => g30 (b p) (by omega) (fun _ => rfl) (fun z => absurd hlt (by omega)) (fun z => q (rC.mpr z)) (fun z => by have := r64.mp q2; omega), fun q2 => ⟨fun q3 => g41 hlt (Or.inr (Or.inl ⟨?_, rR.mp q3⟩)), fun q3 => g30 (b p) (by omega) (fun _ => rfl) (fun z => absurd hlt (by omega)) (fun z => q (rC.mpr z)) (fun z => q3 (rR.mpr z.2))⟩⟩⟩
    have w9 : ¬ _ := fun z => q2 (r64.mpr z)
    omega
  · rw [e64, hC]
    have rC : nI 256 ≤ nI C ↔ 256 ≤ C := nI_leI (by omega) (by omega)
    have rR : nI 256 ≤ nI (64 + C) ↔ 256 ≤ 64 + C := nI_leI (by omega) (by omega)
    refine ⟨fun q => absurd (rC.mp q) (by omega), fun q => ⟨fun q2 => absurd q2 (by decide), fun q2 => ⟨fun q3 => absurd (rR.mp q3) (by omega), fun q3 => g30 256 (by omega) (fun z => absurd z (by omega)) (fun _ => rfl) (by omega) (by omega)⟩⟩⟩
/-- both sides read on: p bytes are read, nothing was wrong yet -/
def iv_rd (σ μ : sm_S) (n : Nat) (b : Nat → Nat) (p : Nat) : Prop := iv_bX σ n b ∧ iv_bM μ n b ∧ p ≤ n ∧ σ.1 20 = nI p ∧ μ.1 2 = nI p ∧ σ.1 21 = -1 ∧ μ.1 3 = -1
theorem iv_rd.step {σ μ : sm_S} {n p : Nat} {b : Nat → Nat} (h : iv_rd σ μ n b p) (hlt : p < n) : iv_rd (sm_i σ 20 (nI (p + 1))) (sm_i μ 2 (nI (p + 1))) n b (p + 1) := ⟨h.1, h.2.1, hlt, rfl, rfl, h.2.2.2.2.2.1, h.2.2.2.2.2.2⟩
/-- number(lo, hi, -1) and over(lo, hi): both take the byte, or both find it wrong -/
theorem jn_num {σ μ : sm_S} {n p : Nat} {b : Nat → Nat} (lo hi : Int32) (hR : iv_rd σ μ n b p) :
    (p < n ∧ lo ≤ nI (b p) ∧ nI (b p) ≤ hi ∧ (∀ K : Int32 → sm_S → Prop, K (nI (b p)) (sm_i σ 20 (nI (p + 1))) → mp_X6_number σ lo hi (-1) K) ∧ (∀ K : Int32 → sm_S → Prop, K 1 (sm_i μ 2 (nI (p + 1))) → mp_X11_over μ lo hi K)) ∨
    ((n ≤ p ∨ ¬ (lo ≤ nI (b p) ∧ nI (b p) ≤ hi)) ∧ (∀ K : Int32 → sm_S → Prop, K 0 (sm_i σ 21 (nI p)) → mp_X6_number σ lo hi (-1) K) ∧ (∀ K : Int32 → sm_S → Prop, K 0 (sm_i μ 3 (nI p)) → mp_X11_over μ lo hi K)) := by
  obtain ⟨hX, hM, hp, h1, h2, h3, h4⟩ := hR
  have hn : n ≤ 8000 := hX.1
  have hbp : b p < 256 := hX.2.2.2.2.1 p
  have hm : ¬ nI (b p) = -1 := nI_m1 (by omega)
  by_cases hc : p < n ∧ lo ≤ nI (b p) ∧ nI (b p) ≤ hi
  · refine Or.inl ⟨hc.1, hc.2.1, hc.2.2, fun K hK => w_number hX hp h1 h3 (fun _ _ => hK) (fun z => ?_), fun K hK => w_over hM hp h2 h4 (fun _ _ _ => hK) (fun z => ?_)⟩
    · rcases z with z | z
      · exact absurd hc.1 (by omega)
      · exact absurd (Or.inl hc.2) z
    · rcases z with z | z
      · exact absurd hc.1 (by omega)
      · exact absurd hc.2 z
  · have hd : n ≤ p ∨ ¬ (lo ≤ nI (b p) ∧ nI (b p) ≤ hi) := by
      rcases Nat.lt_or_ge p n with z | z
      · exact Or.inr (fun y => hc ⟨z, y⟩)
      · exact Or.inl z
    refine Or.inr ⟨hd, fun K hK => w_number hX hp h1 h3 (fun hlt z => ?_) (fun _ => hK), fun K hK => w_over hM hp h2 h4 (fun hlt y1 y2 => absurd ⟨hlt, y1, y2⟩ hc) (fun _ => hK)⟩
    rcases z with z | z
    · exact absurd ⟨hlt, z⟩ hc
    · exact absurd z hm
/-- type(other) and overType(nothingToo) -/
theorem jn_type {σ μ : sm_S} {n p C : Nat} {b : Nat → Nat} {ot z : Int32} {o : Prop} (hR : iv_rd σ μ n b p) (hC : σ.1 0 = nI C) (hD : μ.1 5 = nI C) (hC2 : C ≤ 32) (ho : ∀ x : Nat, x < 256 → (nI x = ot ↔ (o ∧ x = 255))) (hz : z = 0 ↔ ¬ o) :
    (p < n ∧ ty_ok C o (b p) ∧ (∀ K : Int32 → sm_S → Prop, K (nI (b p)) (sm_i σ 20 (nI (p + 1))) → mp_X6_type σ ot K) ∧ (∀ K : Int32 → sm_S → Prop, K 1 (sm_i μ 2 (nI (p + 1))) → mp_X11_overType μ z K)) ∨
    ((∀ K : Int32 → sm_S → Prop, K 0 (sm_i σ 21 (nI p)) → mp_X6_type σ ot K) ∧ (∀ K : Int32 → sm_S → Prop, K 0 (sm_i μ 3 (nI p)) → mp_X11_overType μ z K)) := by
  obtain ⟨hX, hM, hp, h1, h2, h3, h4⟩ := hR
  by_cases hc : p < n ∧ ty_ok C o (b p)
  · refine Or.inl ⟨hc.1, hc.2, fun K hK => w_type hX hp h1 h3 hC hC2 ho (fun _ _ => hK) (fun y => ?_), fun K hK => w_overType hM hp h2 h4 hD hC2 hz (fun _ _ => hK) (fun y => ?_)⟩
    · rcases y with y | y
      · exact absurd hc.1 (by omega)
      · exact absurd hc.2 y
    · rcases y with y | y
      · exact absurd hc.1 (by omega)
      · exact absurd hc.2 y
  · exact Or.inr ⟨fun K hK => w_type hX hp h1 h3 hC hC2 ho (fun hlt y => absurd ⟨hlt, y⟩ hc) (fun _ => hK), fun K hK => w_overType hM hp h2 h4 hD hC2 hz (fun hlt y => absurd ⟨hlt, y⟩ hc) (fun _ => hK)⟩
theorem sx_i0 {σ : sm_S} {k : Nat} {v : Int32} (h : σ.1 k = v) : sm_i σ k v = σ := by
  show (va_up σ.1 k v, σ.2) = σ
  rw [← h, sx_up]
theorem w_skipW {K : sm_S → Prop} {σ : sm_S} {m : Nat} (hw : ¬ σ.1 21 = -1) (hm : m < 2 ^ 31) (h : K σ) : ∀ d i : Nat, i + d = m → mp_X6_skip_2 K (d + 1) σ (nI m) (nI i) := by
  intro d
  induction d with
  | zero =>
    intro i hi
    unfold mp_X6_skip_2
    exact ⟨fun _ => h, fun q => absurd ((nI_leI (by omega) (by omega)).mpr (by omega)) q⟩
  | succ d ih =>
    intro i hi
    unfold mp_X6_skip_2
    refine ⟨fun _ => h, fun _ => w_numberW hw (fun v e => ?_)⟩
    rw [e, nI_1]
    exact ih (i + 1) (by omega)
/-- Reader.skip: m bytes, or wrong at the image's end -/
theorem w_skip {K : sm_S → Prop} {σ : sm_S} {n p m : Nat} {b : Nat → Nat} (hb : iv_bX σ n b) (hp : p ≤ n) (hat : σ.1 20 = nI p) (hw : σ.1 21 = -1) (hm : m < 2 ^ 31)
    (h1 : p + m ≤ n → K (sm_i σ 20 (nI (p + m)))) (h2 : n < p + m → K (sm_i (sm_i σ 20 (nI n)) 21 (nI n))) : mp_X6_skip σ (nI m) K := by
  have key : ∀ (d i p : Nat) (σ : sm_S), i + d = m → iv_bX σ n b → p ≤ n → σ.1 20 = nI p → σ.1 21 = -1 → (p + d ≤ n → K (sm_i σ 20 (nI (p + d)))) → (n < p + d → K (sm_i (sm_i σ 20 (nI n)) 21 (nI n))) → mp_X6_skip_2 K (d + 1) σ (nI m) (nI i) := by
    intro d
    induction d with
    | zero =>
      intro i p σ hi hb hp hat hw h1 h2
      unfold mp_X6_skip_2
      refine ⟨fun _ => ?_, fun q => absurd ((nI_leI (by omega) (by omega)).mpr (by omega)) q⟩
      have := h1 (by omega)
      rw [Nat.add_zero, sx_i0 hat] at this
      exact this
    | succ d ih =>
      intro i p σ hi hb hp hat hw h1 h2
      have hn : n ≤ 8000 := hb.1
      have hbp : b p < 256 := hb.2.2.2.2.1 p
      unfold mp_X6_skip_2
      refine ⟨fun q => absurd ((nI_leI (by omega) (by omega)).mp q) (by omega), fun _ => w_number hb hp hat hw (fun hlt _ v e => ?_) (fun hc v e => ?_)⟩
      · rw [e, nI_1]
        refine ih (i + 1) (p + 1) (sm_i σ 20 (nI (p + 1))) (by omega) hb hlt rfl hw (fun z => ?_) (fun z => ?_)
        · rw [sx_ii, show p + 1 + d = p + (d + 1) by omega]
          exact h1 (by omega)
        · rw [sx_ii]
          exact h2 (by omega)
      · rw [e, nI_1]
        have hpn : p = n := by
          rcases hc with z | z
          · omega
          · exact absurd (Or.inl ⟨nI_pos' (by omega), (show nI (b p) ≤ nI 255 from (nI_leI (by omega) (by omega)).mpr (by omega))⟩) z
        have := h2 (by omega)
        rw [← hpn, sx_i0 hat] at this
        exact w_skipW (by show ¬ va_up σ.1 21 (nI p) 21 = -1; rw [va_up_self]; exact nI_m1 (by omega)) hm this d (i + 1) (by omega)
  exact ⟨m + 1, key m 0 p σ (by omega) hb hp hat hw h1 h2⟩
