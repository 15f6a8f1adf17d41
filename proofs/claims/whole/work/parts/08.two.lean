/-! ===== two bytes as one number ===== -/
theorem nx_or (a b : Nat) : nI a ||| nI b = nI (a ||| b) := by
  apply Int32.toBitVec_inj.1
  show BitVec.ofNat 32 a ||| BitVec.ofNat 32 b = BitVec.ofNat 32 (a ||| b)
  apply BitVec.eq_of_getLsbD_eq
  intro i hi
  simp [hi]
theorem nx_two {a b : Nat} (ha : a < 256) (hb : b < 256) : (nI a <<< ((8 : Int32) &&& 31)) ||| nI b = nI (256 * a + b) := by
  have h8 : nI a <<< ((8 : Int32) &&& 31) = nI (a * 2 ^ 8) := pk_shlN ((8 : Int32) &&& 31) 8 (by decide) (by omega)
  rw [h8, nx_or]
  have h1 : a <<< 8 + b = a <<< 8 ||| b := Nat.shiftLeft_add_eq_or_of_lt (by omega) a
  rw [Nat.shiftLeft_eq] at h1
  rw [← h1]
  exact congrArg nI (by omega)
/-- Image.pair -/
theorem w_pair {K : Int32 → sm_S → Prop} {σ : sm_S} {n p : Nat} {b : Nat → Nat} (hb : iv_bX σ n b) (hp : p + 1 < n) (h : K (nI (256 * b p + b (p + 1))) σ) : mp_X2_pair σ (nI p) K := by
  obtain ⟨hn, hs, hl, hl2, hb1, hb2⟩ := hb
  have e1 : nI p + 1 = nI (p + 1) := nI_1 p
  unfold mp_X2_pair mp_X2_pair_43 mp_X2_pair_44
  rw [e1, hs]
  refine ⟨fun q => absurd q (nI_pos (by omega)), fun _ => ⟨fun q => absurd ((nI_leI (by omega) (by omega)).mp q) (by omega), fun _ => ⟨vp_in_nI (by omega) hl2, vp_in_nI (by omega) hl2, ?_⟩⟩⟩
  rw [nI_clamp (by omega), nI_clamp (by omega), hb2 p (by omega), hb2 (p + 1) hp, nx_two (hb1 p) (hb1 (p + 1))]
  exact h
/-- the reference's two -/
theorem w_two {K : Int32 → sm_S → Prop} {μ : sm_S} {n p : Nat} {b : Nat → Nat} (hb : iv_bM μ n b) (hp : p + 1 < n) (h : K (nI (256 * b p + b (p + 1))) μ) : mp_X11_two μ (nI p) K := by
  obtain ⟨hn, hs, hl, hb1, hb2⟩ := hb
  have e1 : nI p + 1 = nI (p + 1) := nI_1 p
  unfold mp_X11_two
  rw [e1, hl]
  refine ⟨vp_in_nI (by omega) (by decide), vp_in_nI (by omega) (by decide), ?_⟩
  rw [nI_clamp (by omega), nI_clamp (by omega), hb2 p (by omega), hb2 (p + 1) hp, nx_two (hb1 p) (hb1 (p + 1))]
  exact h
