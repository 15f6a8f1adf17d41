/-! ===== what is reached: the reference ===== -/
section
variable {μ0 μ : sm_S} {T : Nat → Nat → Nat} {b : Nat → Nat} {n : Nat} {N : Nat → AN} {fs : List AF} {th nd bg : Nat → Nat} {nt us s : Nat} {ids : List Nat} {K : jk}
theorem RS.f {Mk W : List Nat} (R : RS μ0 μ th nd nt s Mk W) (r : Nat) (hr : r ≠ 30) (hr2 : r ≠ 32) : μ.2.2.2.1 r = μ0.2.2.2.1 r := R.1.row (fun j => by unfold Arc; omega)
theorem RS.im {Mk W : List Nat} (R : RS μ0 μ th nd nt s Mk W) (im : imM μ0 T b) : imM μ T b := im.f R.1 (fun k q => by unfold Irc; omega) (fun r j _ _ => by unfold Arc; omega)
theorem RS.ln {Mk W : List Nat} (R : RS μ0 μ th nd nt s Mk W) (ln : lnR μ0) : lnR μ := by
  unfold lnR
  rw [R.1.2.1]
  exact ln
theorem thg_c {μ' : sm_S} {t q g : Nat} (h : thg μ T N th t q g) (e : ∀ r, 25 ≤ r → r ≤ 31 → r ≠ 30 → μ'.2.2.2.1 r = μ.2.2.2.1 r) : thg μ' T N th t q g := by
  unfold thg at h ⊢
  rw [e 25 (by omega) (by omega) (by omega), e 26 (by omega) (by omega) (by omega), e 27 (by omega) (by omega) (by omega), e 28 (by omega) (by omega) (by omega), e 29 (by omega) (by omega) (by omega), e 31 (by omega) (by omega) (by omega)]
  exact h
theorem RS.tg {Mk W : List Nat} {t q g : Nat} (R : RS μ0 μ th nd nt s Mk W) (h : thg μ0 T N th t q g) : thg μ T N th t q g := thg_c h (fun r _ _ h3 => R.f r h3 (by omega))
/-- the parts of one thing -/
theorem l_rp {L122 : sm_S → Int32 → Prop} {q : Nat} {x1 : Int32} (hw : wf T b) (im : imM μ0 T b) (ln : lnR μ0) (np : npo T n N) (hth : thM μ0 T n N th nd bg nt us) (hnt : nt ≤ 140000) (hus : us ≤ 300000) (hs : s + 1 < 2 ^ 31) (hq : inT th nd nt q) : ∀ (d j : Nat) (μ : sm_S) (Mk W : List Nat), j + d = npt T (N q) → RS μ0 μ th nd nt s Mk W →
    (∀ μ' Mk' W', RS μ0 μ' th nd nt s Mk' W' → (∀ p, p ∈ Mk' ↔ p ∈ Mk ∨ ∃ i, j ≤ i ∧ i < npt T (N q) ∧ (N q).2.2.2 i = .inr (p + 1)) → (∀ p, p ∈ W' ↔ p ∈ W ∨ (p ∈ Mk' ∧ p ∉ Mk)) → L122 μ' x1) → mp_X12_reach_159 L122 K (d + 1) μ x1 (nI (th q)) (nI j) := by
  obtain ⟨g1, g2, g3, g4⟩ := hth.g hq
  have ge := hth.e hq
  have n15 := npt_15 hw (np q g1).2.1
  have hq1 := hq.1
  intro d
  induction d with
  | zero =>
    intro j μ Mk W e R hK
    unfold mp_X12_reach_159
    refine k_cof hw (R.im im) (R.ln ln) np g1 (by omega) (R.tg g2).h ?_
    rw [nI_sub1 (by omega)]
    refine ⟨fun _ => ?_, fun z => absurd ((nI_leI (by omega) (by omega)).mpr (by omega)) z⟩
    exact hK μ Mk W R (fun p => ⟨Or.inl, fun z => z.elim (fun z => z) (fun ⟨i, i1, i2, _⟩ => by omega)⟩) (fun p => ⟨Or.inl, fun z => z.elim (fun z => z) (fun z => absurd z.1 z.2)⟩)
  | succ d ih =>
    intro j μ Mk W e R hK
    unfold mp_X12_reach_159
    refine k_cof hw (R.im im) (R.ln ln) np g1 (by omega) (R.tg g2).h ?_
    rw [nI_sub1 (by omega)]
    refine ⟨fun z => absurd ((nI_leI (by omega) (by omega)).mp z) (by omega), fun _ => ?_⟩
    refine k_isP hw (R.im im) (R.ln ln) np g1 (by omega) (R.tg g2).h (by omega) (fun ⟨v, hv⟩ => ⟨fun z => absurd z (by decide), fun _ => ?_⟩) (fun ⟨x, hx⟩ => ⟨fun _ => ?_, fun z => absurd rfl z⟩)
    · have t29 := (R.tg g2).2.2.2.2.1
      have t31 := (R.tg g2).2.2.2.2.2 j (by omega)
      rw [nI_clamp (by omega), t29, nI_add, nI_clamp (by omega), t31, hv]
      refine ⟨by rw [lr29 (R.ln ln)]; exact vp_in_nI (by omega) (by decide), by rw [lr31 (R.ln ln)]; exact vp_in_nI (by omega) (by decide), ?_⟩
      refine k_mark ln hnt hs R (fun p hp => g4 j p (by omega) (by rw [hv, hp])) (fun μ' Mk' W' R' m1 m2 => ?_)
      unfold mp_X12_reach_196
      intro v1 e1
      rw [e1, nI_1]
      refine ih (j + 1) μ' Mk' W' (by omega) R' (fun μ2 Mk2 W2 R2 k1 k2 => hK μ2 Mk2 W2 R2 (fun p => ?_) (fun p => ?_))
      · rw [k1 p, m1 p]
        constructor
        · intro z
          rcases z with (z | z) | ⟨i, i1, i2, i3⟩
          · exact Or.inl z
          · exact Or.inr ⟨j, Nat.le_refl _, by omega, by rw [hv, z]⟩
          · exact Or.inr ⟨i, by omega, i2, i3⟩
        · intro z
          rcases z with z | ⟨i, i1, i2, i3⟩
          · exact Or.inl (Or.inl z)
          · by_cases c : i = j
            · rw [c, hv] at i3
              cases i3
              exact Or.inl (Or.inr rfl)
            · exact Or.inr ⟨i, by omega, i2, i3⟩
      · rw [k2 p, m2 p]
        constructor
        · intro z
          rcases z with (z | z) | z
          · exact Or.inl z
          · exact Or.inr ⟨(k1 p).mpr (Or.inl ((m1 p).mpr (Or.inr z.1))), z.2⟩
          · exact Or.inr ⟨z.1, fun m => z.2 ((m1 p).mpr (Or.inl m))⟩
        · intro z
          rcases z with z | z
          · exact Or.inl (Or.inl z)
          · by_cases c : p ∈ Mk'
            · rcases (m1 p).mp c with c | c
              · exact absurd c z.2
              · exact Or.inl (Or.inr ⟨c, z.2⟩)
            · exact Or.inr ⟨z.1, c⟩
    · unfold mp_X12_reach_196
      intro v1 e1
      rw [e1, nI_1]
      refine ih (j + 1) μ Mk W (by omega) R (fun μ2 Mk2 W2 R2 k1 k2 => hK μ2 Mk2 W2 R2 (fun p => ?_) k2)
      rw [k1 p]
      constructor
      · intro z
        rcases z with z | ⟨i, i1, i2, i3⟩
        · exact Or.inl z
        · exact Or.inr ⟨i, by omega, i2, i3⟩
      · intro z
        rcases z with z | ⟨i, i1, i2, i3⟩
        · exact Or.inl z
        · by_cases c : i = j
          · rw [c, hx] at i3; cases i3
          · exact Or.inr ⟨i, by omega, i2, i3⟩
/-- until the pile is empty -/
theorem l_rw (hw : wf T b) (im : imM μ0 T b) (ln : lnR μ0) (np : npo T n N) (hth : thM μ0 T n N th nd bg nt us) (hnt : nt ≤ 140000) (hus : us ≤ 300000) (hs : s + 1 < 2 ^ 31) (hr : rls T N fs ids)
    (hK : ∀ μ' Mk, RS μ0 μ' th nd nt s Mk [] → (∀ q, q ∈ Mk ↔ q ∈ ids) → K (nI (rsm T N fs ids)) μ') : ∀ (d : Nat) (μ : sm_S) (Mk W Dn : List Nat), Dn.length + d = ids.length → RS μ0 μ th nd nt s Mk W → Dn.Nodup → (∀ q, q ∈ Mk ↔ q ∈ W ∨ q ∈ Dn) → (∀ q, q ∈ W → q ∉ Dn) → (∀ q, q ∈ Mk → q ∈ ids) → (∀ f i k, f ∈ fs → i < T 15 f.1 + f.2.2.1 → f.2.2.2 i = .inr (k + 1) → k ∈ Mk) → (∀ q j k, q ∈ Dn → j < npt T (N q) → (N q).2.2.2 j = .inr (k + 1) → k ∈ Mk) → mp_X12_reach_122 K (d + 1) μ (nI (16 * fs.length + sumL (fun i => 1 + npt T (N i)) Dn)) := by
  intro d
  induction d with
  | zero =>
    intro μ Mk W Dn e R nD m1 m2 m3 m4 m5
    have lenMk : W.length + Dn.length ≤ ids.length := by
      have nd1 : (W ++ Dn).Nodup := nd_app R.2.2.2.2.2.2.1 nD m2
      have := sumL_sub (f := fun _ => 1) (W ++ Dn) ids nd1 (fun q hq => m3 q ((m1 q).mpr (List.mem_append.mp hq)))
      rw [sumL_1, sumL_1, List.length_append] at this
      exact this
    have W0 : W = [] := List.length_eq_zero_iff.mp (by omega)
    subst W0
    have eq : ∀ q, q ∈ Mk ↔ q ∈ ids := fun q => ⟨m3 q, fun h => hr.2.2.2 (fun q => q ∈ Mk) m4 (fun i j k _ hi hj hk => by
      rcases (m1 i).mp hi with z | z
      · exact absurd z List.not_mem_nil
      · exact m5 i j k z hj hk) q h⟩
    unfold mp_X12_reach_122
    rw [R.2.2.1]
    refine ⟨fun _ => ?_, fun z => absurd (by decide) z⟩
    have : sumL (fun i => 1 + npt T (N i)) Dn = sumL (fun i => 1 + npt T (N i)) ids := sumL_eq nD hr.1 (fun q => ⟨fun h => m3 q ((m1 q).mpr (Or.inr h)), fun h => by
      rcases (m1 q).mp ((eq q).mpr h) with z | z
      · exact absurd z List.not_mem_nil
      · exact z⟩)
    rw [this]
    exact hK μ Mk R eq
  | succ d ih =>
    intro μ Mk W Dn e R nD m1 m2 m3 m4 m5
    cases W with
    | nil =>
      have eq : ∀ q, q ∈ Mk ↔ q ∈ ids := fun q => ⟨m3 q, fun h => hr.2.2.2 (fun q => q ∈ Mk) m4 (fun i j k _ hi hj hk => by
        rcases (m1 i).mp hi with z | z
        · exact absurd z List.not_mem_nil
        · exact m5 i j k z hj hk) q h⟩
      unfold mp_X12_reach_122
      rw [R.2.2.1]
      refine ⟨fun _ => ?_, fun z => absurd (by decide) z⟩
      have : sumL (fun i => 1 + npt T (N i)) Dn = sumL (fun i => 1 + npt T (N i)) ids := sumL_eq nD hr.1 (fun q => ⟨fun h => m3 q ((m1 q).mpr (Or.inr h)), fun h => by
        rcases (m1 q).mp ((eq q).mpr h) with z | z
        · exact absurd z List.not_mem_nil
        · exact z⟩)
      rw [this]
      exact hK μ Mk R eq
    | cons w W' =>
      obtain ⟨r1, r2, r3, r4, r5, r6, r7, r8, r9⟩ := R
      have wM := r9 w List.mem_cons_self
      have hq := r8 w wM
      have hq1 := hq.1
      obtain ⟨g1, g2, g3, g4⟩ := hth.g hq
      have lenW : (w :: W').length ≤ nt := by
        have nd1 : ((w :: W').map th).Nodup := nd_map r7 (fun x y hx hy e => inT_i (r8 x (r9 x hx)) (r8 y (r9 y hy)) e)
        have := nd_len nd1 (n := nt) (fun x hx => by
          obtain ⟨y, y1, y2⟩ := List.mem_map.mp hx
          rw [← y2]; exact (r8 y (r9 y y1)).1)
        rw [List.length_map] at this
        exact this
      have lenW : W'.length + 1 ≤ nt := lenW
      have r3 : μ.1 25 = nI (W'.length + 1) := r3
      unfold mp_X12_reach_122
      rw [r3]
      refine ⟨fun z => absurd ((nI_leI (b := 0) (by omega) (by omega)).mp z) (by omega), fun _ => ?_⟩
      intro s12 e12
      rw [nI_pred] at e12
      have R12 : RS μ0 s12 th nd nt s Mk W' := ⟨by rw [e12]; exact r1.i (by unfold Irc; omega), by rw [e12]; exact r2, by rw [e12]; rfl, by rw [e12]; exact stk_c (μ := μ) W' (fun i hi => rfl) r4.2, by rw [e12]; exact r5, r6, (List.nodup_cons.mp r7).2, r8, fun q hq => r9 q (List.mem_cons_of_mem _ hq)⟩
      have j25 : s12.1 25 = nI W'.length := by rw [e12]; rfl
      have j32 : s12.2.2.2.1 32 W'.length = nI (th w) := by rw [e12]; exact r4.1
      rw [j25, nI_clamp (by omega), j32]
      refine ⟨by rw [lr32 (R12.ln ln)]; exact vp_in_nI (by omega) (by decide), ?_⟩
      intro v14 e14
      rw [e14]
      refine k_cof hw (R12.im im) (R12.ln ln) np g1 (by omega) (R12.tg g2).h ?_
      intro v17 e17
      rw [e17, nI_add]
      refine ⟨npt T (N w) + 1, ?_⟩
      refine l_rp (j := 0) hw im ln np hth hnt hus hs hq (npt T (N w)) s12 Mk W' (by omega) R12 (fun μ2 Mk2 W2 R2 k1 k2 => ?_)
      have wD : w ∉ Dn := m2 w List.mem_cons_self
      have wW : w ∉ W' := (List.nodup_cons.mp r7).1
      have := ih μ2 Mk2 W2 (w :: Dn) (by show Dn.length + 1 + d = _; omega) R2 (List.nodup_cons.mpr ⟨wD, nD⟩) (fun q => ?_) (fun q hq' => ?_) (fun q hq' => ?_) (fun f i k hf hi hk => (k1 k).mpr (Or.inl (m4 f i k hf hi hk))) (fun q j k hq' hj hk => ?_)
      · rw [show 16 * fs.length + sumL (fun i => 1 + npt T (N i)) (w :: Dn) = 16 * fs.length + sumL (fun i => 1 + npt T (N i)) Dn + (1 + npt T (N w)) by show 16 * fs.length + ((1 + npt T (N w)) + sumL _ Dn) = _; omega] at this
        exact this
      · constructor
        · intro z
          by_cases c : q ∈ Mk
          · rcases (m1 q).mp c with c' | c'
            · rcases List.mem_cons.mp c' with c' | c'
              · exact Or.inr (by rw [c']; exact List.mem_cons_self)
              · exact Or.inl ((k2 q).mpr (Or.inl c'))
            · exact Or.inr (List.mem_cons_of_mem _ c')
          · exact Or.inl ((k2 q).mpr (Or.inr ⟨z, c⟩))
        · intro z
          rcases z with z | z
          · rcases (k2 q).mp z with c | c
            · exact (k1 q).mpr (Or.inl (r9 q (List.mem_cons_of_mem _ c)))
            · exact c.1
          · rcases List.mem_cons.mp z with c | c
            · rw [c]; exact (k1 w).mpr (Or.inl wM)
            · exact (k1 q).mpr (Or.inl ((m1 q).mpr (Or.inr c)))
      · intro z
        rcases (k2 q).mp hq' with c | c
        · rcases List.mem_cons.mp z with z | z
          · rw [z] at c; exact wW c
          · exact m2 q (List.mem_cons_of_mem _ c) z
        · rcases List.mem_cons.mp z with z | z
          · rw [z] at c; exact c.2 wM
          · exact c.2 ((m1 q).mpr (Or.inr z))
      · rcases (k1 q).mp hq' with c | ⟨i, i1, i2, i3⟩
        · exact m3 q c
        · exact hr.2.2.1 w i q (m3 w wM) i2 i3
      · rcases List.mem_cons.mp hq' with c | c
        · rw [c] at hj hk
          exact (k1 k).mpr (Or.inr ⟨j, by omega, hj, hk⟩)
        · exact (k1 k).mpr (Or.inl (m5 q j k c hj hk))
theorem fsM_at : ∀ (fs : List AF) (g : Nat), fsM μ T th nd nt fs → g < fs.length → ∃ A f B, fs = A ++ f :: B ∧ B.length = g ∧ fM1 μ T th nd nt g f := by
  intro fs
  induction fs with
  | nil => intro g _ h; exact absurd h (by show ¬ g < 0; omega)
  | cons f r ih =>
    intro g h hg
    by_cases e : g = r.length
    · exact ⟨[], f, r, rfl, e.symm, by rw [e]; exact h.1⟩
    · have hg : g < r.length + 1 := hg
      obtain ⟨A, f', B, e1, e2, e3⟩ := ih g h.2 (by omega)
      exact ⟨f :: A, f', B, by rw [e1]; rfl, e2, e3⟩
theorem split_u {A A' B B' : List AF} {f f' : AF} (e : A ++ f :: B = A' ++ f' :: B') (hl : B.length = B'.length) : f = f' := by
  have h1 := List.append_inj_right' e (by show B.length + 1 = B'.length + 1; omega)
  exact (List.cons.inj h1).1
/-- the values of one frame -/
theorem l_rv {L25 : sm_S → Int32 → Int32 → Prop} {f : AF} {g : Nat} {x1 : Int32} (ln : lnR μ0) (hnt : nt ≤ 140000) (hs : s + 1 < 2 ^ 31) (hg : g < 7600) (h12 : T 15 f.1 + f.2.2.1 ≤ 12) (hf : fM1 μ0 T th nd nt g f) : ∀ (d j : Nat) (μ : sm_S) (Mk W : List Nat), j + d = T 15 f.1 + f.2.2.1 → RS μ0 μ th nd nt s Mk W →
    (∀ μ' Mk' W', RS μ0 μ' th nd nt s Mk' W' → (∀ p, p ∈ Mk' ↔ p ∈ Mk ∨ ∃ i, j ≤ i ∧ i < T 15 f.1 + f.2.2.1 ∧ f.2.2.2 i = .inr (p + 1)) → (∀ p, p ∈ W' ↔ p ∈ W ∨ (p ∈ Mk' ∧ p ∉ Mk)) → L25 μ' x1 (nI (g + 1))) → mp_X12_reach_58 L25 K (d + 1) μ x1 (nI g) (nI (T 15 f.1 + f.2.2.1)) (nI j) := by
  obtain ⟨-, -, -, -, -, -, hv⟩ := hf
  intro d
  induction d with
  | zero =>
    intro j μ Mk W e R hK
    unfold mp_X12_reach_58
    refine ⟨fun _ => ?_, fun z => absurd ((nI_leI (by omega) (by omega)).mpr (by omega)) z⟩
    intro v20 e20
    rw [e20, nI_1]
    exact hK μ Mk W R (fun p => ⟨Or.inl, fun z => z.elim (fun z => z) (fun ⟨i, i1, i2, _⟩ => by omega)⟩) (fun p => ⟨Or.inl, fun z => z.elim (fun z => z) (fun z => absurd z.1 z.2)⟩)
  | succ d ih =>
    intro j μ Mk W e R hK
    obtain ⟨v1, v2, v3⟩ := hv j (by omega)
    have q36 : μ.2.2.2.1 36 (12 * g + j) = vM th (f.2.2.2 j) := by rw [R.f 36 (by decide) (by decide)]; exact v1
    have q37 : μ.2.2.2.1 37 (12 * g + j) = iM (f.2.2.2 j) := by rw [R.f 37 (by decide) (by decide)]; exact v2
    unfold mp_X12_reach_58
    refine ⟨fun z => absurd ((nI_leI (by omega) (by omega)).mp z) (by omega), fun _ => ?_⟩
    rw [l_12, pk_mul, nI_add, nI_clamp (by omega), q36, q37]
    refine ⟨by rw [lr37 (R.ln ln)]; exact vp_in_nI (by omega) (by decide), ?_⟩
    cases hc : f.2.2.2 j with
    | inl x =>
      refine ⟨fun _ => ?_, fun z => absurd rfl z⟩
      unfold mp_X12_reach_95
      intro v18 e18
      rw [e18, nI_1]
      refine ih (j + 1) μ Mk W (by omega) R (fun μ2 Mk2 W2 R2 k1 k2 => hK μ2 Mk2 W2 R2 (fun p => ?_) k2)
      rw [k1 p]
      constructor
      · intro z
        rcases z with z | ⟨i, i1, i2, i3⟩
        · exact Or.inl z
        · exact Or.inr ⟨i, by omega, i2, i3⟩
      · intro z
        rcases z with z | ⟨i, i1, i2, i3⟩
        · exact Or.inl z
        · by_cases c : i = j
          · rw [c, hc] at i3; cases i3
          · exact Or.inr ⟨i, by omega, i2, i3⟩
    | inr v =>
      refine ⟨fun z => absurd z (by show ¬ (1 : Int32) = 0; decide), fun _ => ⟨by rw [lr36 (R.ln ln)]; exact vp_in_nI (by omega) (by decide), ?_⟩⟩
      refine k_mark ln hnt hs R (fun p hp => v3 p (by rw [hc, hp])) (fun μ' Mk' W' R' m1 m2 => ?_)
      unfold mp_X12_reach_95
      intro v18 e18
      rw [e18, nI_1]
      refine ih (j + 1) μ' Mk' W' (by omega) R' (fun μ2 Mk2 W2 R2 k1 k2 => hK μ2 Mk2 W2 R2 (fun p => ?_) (fun p => ?_))
      · rw [k1 p, m1 p]
        constructor
        · intro z
          rcases z with (z | z) | ⟨i, i1, i2, i3⟩
          · exact Or.inl z
          · exact Or.inr ⟨j, Nat.le_refl _, by omega, by rw [hc, z]⟩
          · exact Or.inr ⟨i, by omega, i2, i3⟩
        · intro z
          rcases z with z | ⟨i, i1, i2, i3⟩
          · exact Or.inl (Or.inl z)
          · by_cases c : i = j
            · rw [c, hc] at i3
              cases i3
              exact Or.inl (Or.inr rfl)
            · exact Or.inr ⟨i, by omega, i2, i3⟩
      · rw [k2 p, m2 p]
        constructor
        · intro z
          rcases z with (z | z) | z
          · exact Or.inl z
          · exact Or.inr ⟨(k1 p).mpr (Or.inl ((m1 p).mpr (Or.inr z.1))), z.2⟩
          · exact Or.inr ⟨z.1, fun m => z.2 ((m1 p).mpr (Or.inl m))⟩
        · intro z
          rcases z with z | z
          · exact Or.inl (Or.inl z)
          · by_cases c : p ∈ Mk'
            · rcases (m1 p).mp c with c | c
              · exact absurd c z.2
              · exact Or.inl (Or.inr ⟨c, z.2⟩)
            · exact Or.inr ⟨z.1, c⟩
/-- all frames, then the pile -/
theorem l_rf (hw : wf T b) (x : RMt μ0 T b n N fs th nd bg nt us) (np : npo T n N) (hs : s + 1 < 2 ^ 31) (i15 : μ0.1 15 = 0) (hr : rls T N fs ids)
    (hK : ∀ μ' Mk, RS μ0 μ' th nd nt s Mk [] → (∀ q, q ∈ Mk ↔ q ∈ ids) → K (nI (rsm T N fs ids)) μ') : ∀ (d g : Nat) (μ : sm_S) (Mk : List Nat), g + d = fs.length → RS μ0 μ th nd nt s Mk Mk → (∀ q, q ∈ Mk → q ∈ ids) → (∀ A f B i k, fs = A ++ f :: B → B.length < g → i < T 15 f.1 + f.2.2.1 → f.2.2.2 i = .inr (k + 1) → k ∈ Mk) → mp_X12_reach_25 K (d + 1) μ (nI (16 * fs.length)) (nI g) := by
  obtain ⟨im, ln, ⟨i11, hnt, i13, hus, i14, hfl⟩, hth, hfs⟩ := x
  have w4 := hw.2.2.2.1
  intro d
  induction d with
  | zero =>
    intro g μ Mk e R m3 m4
    have j14 : μ.1 14 = nI fs.length := (R.1.2.2.2.1 14 (by unfold Irc; omega)).trans i14
    have j15 : μ.1 15 = 0 := (R.1.2.2.2.1 15 (by unfold Irc; omega)).trans i15
    unfold mp_X12_reach_25
    rw [j14, j15]
    refine ⟨fun _ => ⟨fun _ => ?_, fun z => absurd rfl z⟩, fun z => absurd ((nI_leI (by omega) (by omega)).mpr (by omega)) z⟩
    refine ⟨ids.length + 1, ?_⟩
    have := l_rw (K := K) hw im ln np hth hnt hus hs hr hK ids.length μ Mk Mk [] (by show 0 + _ = _; omega) R List.nodup_nil (fun q => ⟨Or.inl, fun z => z.elim (fun z => z) (fun z => absurd z List.not_mem_nil)⟩) (fun q _ => List.not_mem_nil) m3 (fun f i k hf hi hk => by
      obtain ⟨A, B, e1⟩ := List.append_of_mem hf
      refine m4 A f B i k e1 ?_ hi hk
      have : fs.length = A.length + (B.length + 1) := by rw [e1, List.length_append]; rfl
      omega) (fun q j k hq => absurd hq List.not_mem_nil)
    exact this
  | succ d ih =>
    intro g μ Mk e R m3 m4
    have j14 : μ.1 14 = nI fs.length := (R.1.2.2.2.1 14 (by unfold Irc; omega)).trans i14
    obtain ⟨A, f, B, e1, e2, e3⟩ := fsM_at fs g hfs (by omega)
    obtain ⟨f1, f2, f3, f4, f5, f6, f7⟩ := e3
    have h12 := (hw.2.2.2.2.2.2.2.2.1 f.1 f2).2.2.2.2.2.2.1
    unfold mp_X12_reach_25
    rw [j14]
    refine ⟨fun z => absurd ((nI_leI (by omega) (by omega)).mp z) (by omega), fun _ => ?_⟩
    have q33 : μ.2.2.2.1 33 g = nI f.1 := by rw [R.f 33 (by decide) (by decide)]; exact f1
    have q35 : μ.2.2.2.1 35 g = nI f.2.2.1 := by rw [R.f 35 (by decide) (by decide)]; exact f5
    have im' := R.im im
    have q15 := (im'.2.2.2.2.2.2.2 f.1 f2).2.2.2.2.1
    rw [nI_clamp (by omega), q33, q35, nI_clamp (by omega), q15]
    refine ⟨by rw [lr33 (R.ln ln)]; exact vp_in_nI (by omega) (by decide), by rw [show μ.2.2.1 15 = 64 from im'.2.1.2.2.2.2.2.2.2.2.2.2.2.1]; exact vp_in_nI (by omega) (by decide), by rw [lr35 (R.ln ln)]; exact vp_in_nI (by omega) (by decide), ?_⟩
    intro v31 e31
    rw [e31, nI_add]
    refine ⟨T 15 f.1 + f.2.2.1 + 1, ?_⟩
    refine l_rv (j := 0) ln hnt hs (by omega) (by omega) ⟨f1, f2, f3, f4, f5, f6, f7⟩ (T 15 f.1 + f.2.2.1) μ Mk Mk (by omega) R (fun μ2 Mk2 W2 R2 k1 k2 => ?_)
    have eW : ∀ p, p ∈ W2 ↔ p ∈ Mk2 := fun p => by
      rw [k2 p]
      constructor
      · intro z
        rcases z with z | z
        · exact (k1 p).mpr (Or.inl z)
        · exact z.1
      · intro z
        by_cases c : p ∈ Mk
        · exact Or.inl c
        · exact Or.inr ⟨z, c⟩
    obtain ⟨r1, r2, r3, r4, r5, r6, r7, r8, r9⟩ := R2
    have R3 : RS μ0 μ2 th nd nt s W2 W2 := ⟨r1, r2, r3, r4, fun t ht => ⟨(r5 t ht).1, ⟨fun z => by
      obtain ⟨q, q1, q2⟩ := (r5 t ht).2.mp z
      exact ⟨q, (eW q).mpr q1, q2⟩, fun ⟨q, q1, q2⟩ => (r5 t ht).2.mpr ⟨q, (eW q).mp q1, q2⟩⟩⟩, r7, r7, fun q hq => r8 q (r9 q hq), fun q hq => hq⟩
    refine ih (g + 1) μ2 W2 (by omega) R3 (fun q hq => ?_) (fun A' f' B' i k e1' hB hi hk => ?_)
    · rcases (k1 q).mp ((eW q).mp hq) with c | ⟨i, i1, i2, i3⟩
      · exact m3 q c
      · exact hr.2.1 f i q (by rw [e1]; exact List.mem_append.mpr (Or.inr List.mem_cons_self)) i2 i3
    · refine (eW k).mpr ((k1 k).mpr ?_)
      by_cases c : B'.length < g
      · exact Or.inl (m4 A' f' B' i k e1' c hi hk)
      · have ef := split_u (e1.symm.trans e1') (by omega)
        rw [← ef] at hi hk
        exact Or.inr ⟨i, by omega, hi, hk⟩
/-- reach(): the sum of what is reached, and the marks -/
theorem k_reach (hw : wf T b) (x : RMt μ T b n N fs th nd bg nt us) (np : npo T n N) (hm : mkM μ s) (hs : s + 1 < 2 ^ 31) (i15 : μ.1 15 = 0) (hr : rls T N fs ids)
    (hK : ∀ μ' Mk, RS μ μ' th nd nt s Mk [] → (∀ q, q ∈ Mk ↔ q ∈ ids) → K (nI (rsm T N fs ids)) μ') : mp_X12_reach μ K := by
  have x' := x
  obtain ⟨im, ln, ⟨i11, hnt, i13, hus, i14, hfl⟩, hth, hfs⟩ := x'
  unfold mp_X12_reach
  intro s1 e1 s2 e2 v34 e34
  rw [hm.1, nI_1] at e1
  have j14 : s2.1 14 = nI fs.length := by rw [e2, e1]; exact i14
  rw [e34, j14, l_16, pk_mul]
  refine ⟨fs.length + 1, ?_⟩
  refine l_rf hw x np hs i15 hr hK fs.length 0 s2 [] (by omega) ⟨?_, by rw [e2, e1]; rfl, by rw [e2]; rfl, trivial, fun t ht => ?_, List.nodup_nil, List.nodup_nil, fun q hq => absurd hq List.not_mem_nil, fun q hq => hq⟩ (fun q hq => absurd hq List.not_mem_nil) (fun A f B i k _ h => absurd h (by omega))
  · rw [e2, e1]; exact (fr_r.i (by unfold Irc; omega)).i (by unfold Irc; omega)
  · obtain ⟨s', q1, q2⟩ := hm.2 t ht
    have : s2.2.2.2.1 30 t = nI s' := by rw [e2, e1]; exact q2
    rw [this]
    refine ⟨⟨s', by omega, rfl⟩, ⟨fun z => ?_, fun ⟨q, h, _⟩ => absurd h List.not_mem_nil⟩⟩
    have := (nI_eq (by omega) (by omega)).mp z
    omega
end
