/-! ===== clearing the things, the copying: the reference ===== -/
section
variable {μ μ1 μ2 : sm_S} {T : Nat → Nat → Nat} {b : Nat → Nat} {n : Nat} {N : Nat → AN} {fs : List AF} {th nd bg : Nat → Nat} {nt us s : Nat} {ids : List Nat} {K : sm_S → Prop}
theorem nbv {v : Nat} (h : v < 128) : vp_nar .byte (nI v) = nI v := by rw [vp_nar_byte]; exact nb8 v h
theorem thh_c {μ' : sm_S} {t q g t' : Nat} (h : thh μ T N t q g) (e : ∀ r, 25 ≤ r → r ≤ 29 → μ'.2.2.2.1 r t' = μ.2.2.2.1 r t) : thh μ' T N t' q g := by
  unfold thh at h ⊢
  rw [e 25 (by omega) (by omega), e 26 (by omega) (by omega), e 27 (by omega) (by omega), e 28 (by omega) (by omega), e 29 (by omega) (by omega)]
  exact h
/-- the state of the copying: all below t is done -/
def CL (μ1 μ : sm_S) (T : Nat → Nat → Nat) (N : Nat → AN) (th nd bg : Nat → Nat) (nt s : Nat) (ids : List Nat) (t : Nat) : Prop := fr Ino Acl μ1 μ ∧ (∀ p, bg t ≤ p → μ.2.2.2.1 31 p = μ1.2.2.2.1 31 p) ∧ (∀ t' r, t ≤ t' → t' < nt → 25 ≤ r → r ≤ 30 → μ.2.2.2.1 r t' = μ1.2.2.2.1 r t') ∧ (∀ t', t' < t → nd t' ∈ ids → thh μ T N (rkn nd ids t') (nd t') (bgs T N nd ids t') ∧ ∀ j, j < npt T (N (nd t')) → μ.2.2.2.1 31 (bgs T N nd ids t' + j) = vM (fun q => rkn nd ids (th q)) ((N (nd t')).2.2.2 j)) ∧ ∀ t', t' < 140000 → ∃ s', s' ≤ s + 1 ∧ μ.2.2.2.1 30 t' = nI s'
/-- the cells of thing t -/
theorem l_c230 {L176 : sm_S → Int32 → Int32 → Int32 → Prop} {t : Nat} {x2 : Int32} (hw : wf T b) (im : imM μ1 T b) (ln : lnR μ1) (np : npo T n N) (hnt : nt ≤ 140000) (hus : us ≤ 300000) (hth : thM μ1 T n N th nd bg nt us) (hm : mkd μ1 th s ids) (hi : ∀ q, q ∈ ids → inT th nd nt q) (h32 : ∀ t, t < nt → μ1.2.2.2.1 32 t = nI (rkn nd ids t)) (ht : t < nt) (mt : nd t ∈ ids) (c0 : CL μ1 μ T N th nd bg nt s ids t)
    (hK : ∀ μ', CL μ1 μ' T N th nd bg nt s ids (t + 1) → mp_X12_clean_373 L176 K μ' x2 (nI (bgs T N nd ids (t + 1))) (nI t)) : ∀ (d i : Nat) (μ' : sm_S), i + d = npt T (N (nd t)) → fr Ino A31 μ μ' → (∀ p, ¬ (bgs T N nd ids t ≤ p ∧ p < bgs T N nd ids t + i) → μ'.2.2.2.1 31 p = μ.2.2.2.1 31 p) → (∀ j, j < i → μ'.2.2.2.1 31 (bgs T N nd ids t + j) = vM (fun q => rkn nd ids (th q)) ((N (nd t)).2.2.2 j)) → mp_X12_clean_230 L176 K (d + 1) μ' x2 (nI (bgs T N nd ids t)) (nI t) (nI (rkn nd ids t)) (nI (npt T (N (nd t)))) (nI (bg t)) (nI i) := by
  obtain ⟨c1, c2, c3, c4, c5⟩ := c0
  obtain ⟨t1, t2, t3, t4, t5⟩ := hth.2.2 t ht
  have bb := bgs_b (ids := ids) hth t (by omega)
  have rm := (rkn_m (nd := nd) (ids := ids) t t (Nat.le_refl _)).2
  have n15 := npt_15 hw (np (nd t) t2).2.1
  have te : bg t + npt T (N (nd t)) ≤ us := by
    have h2 := hth.m (t + 1) nt (by omega) (Nat.le_refl _)
    rw [hth.2.1]; omega
  have lm0 : ∀ r, μ.2.2.1 r = μ1.2.2.1 r := fun r => by rw [c1.2.1]
  intro d
  induction d with
  | zero =>
    intro i μ' e f o v
    have ei : i = npt T (N (nd t)) := by omega
    subst ei
    have lm : ∀ r, μ'.2.2.1 r = μ1.2.2.1 r := fun r => by rw [f.2.1]; exact lm0 r
    have row : ∀ r, r ≠ 31 → μ'.2.2.2.1 r = μ.2.2.2.1 r := fun r h => f.row (fun j => by unfold A31; omega)
    unfold mp_X12_clean_230
    rw [nI_clamp (by omega), nI_clamp (by omega)]
    refine ⟨fun _ => ⟨by rw [lm, lr25 ln]; exact vp_in_nI (by omega) (by decide), by rw [lm, lr25 ln]; exact vp_in_nI (by omega) (by decide), ?_⟩, fun z => absurd ((nI_leI (by omega) (by omega)).mpr (by omega)) z⟩
    intro s1 e1
    refine ⟨by rw [e1]; show vp_in _ (μ'.2.2.1 26); rw [lm, lr26 ln]; exact vp_in_nI (by omega) (by decide), by rw [e1]; show vp_in _ (μ'.2.2.1 26); rw [lm, lr26 ln]; exact vp_in_nI (by omega) (by decide), ?_⟩
    intro s2 e2
    refine ⟨by rw [e2, e1]; show vp_in _ (μ'.2.2.1 27); rw [lm, lr27 ln]; exact vp_in_nI (by omega) (by decide), by rw [e2, e1]; show vp_in _ (μ'.2.2.1 27); rw [lm, lr27 ln]; exact vp_in_nI (by omega) (by decide), ?_⟩
    intro s3 e3
    refine ⟨by rw [e3, e2, e1]; show vp_in _ (μ'.2.2.1 28); rw [lm, lr28 ln]; exact vp_in_nI (by omega) (by decide), by rw [e3, e2, e1]; show vp_in _ (μ'.2.2.1 28); rw [lm, lr28 ln]; exact vp_in_nI (by omega) (by decide), ?_⟩
    intro s4 e4
    refine ⟨by rw [e4, e3, e2, e1]; show vp_in _ (μ'.2.2.1 29); rw [lm, lr29 ln]; exact vp_in_nI (by omega) (by decide), ?_⟩
    intro s5 e5
    refine ⟨by rw [e5, e4, e3, e2, e1]; show vp_in _ (μ'.2.2.1 30); rw [lm, lr30 ln]; exact vp_in_nI (by omega) (by decide), ?_⟩
    intro s6 e6
    intro v28 e28
    rw [e28, nI_add, ← bgs_p mt]
    have r25 : s6.2.2.2.1 25 = upd (μ.2.2.2.1 25) (rkn nd ids t) (vp_nar .byte (μ.2.2.2.1 25 t)) := by rw [e6, e5, e4, e3, e2, e1, ← row 25 (by decide)]; rfl
    have r26 : s6.2.2.2.1 26 = upd (μ.2.2.2.1 26) (rkn nd ids t) (μ.2.2.2.1 26 t) := by rw [e6, e5, e4, e3, e2, e1, ← row 26 (by decide)]; rfl
    have r27 : s6.2.2.2.1 27 = upd (μ.2.2.2.1 27) (rkn nd ids t) (vp_nar .boolean (μ.2.2.2.1 27 t)) := by rw [e6, e5, e4, e3, e2, e1, ← row 27 (by decide)]; rfl
    have r28 : s6.2.2.2.1 28 = upd (μ.2.2.2.1 28) (rkn nd ids t) (vp_nar .byte (μ.2.2.2.1 28 t)) := by rw [e6, e5, e4, e3, e2, e1, ← row 28 (by decide)]; rfl
    have r29 : s6.2.2.2.1 29 = upd (μ.2.2.2.1 29) (rkn nd ids t) (nI (bgs T N nd ids t)) := by rw [e6, e5, e4, e3, e2, e1, ← row 29 (by decide)]; rfl
    have i12 : s5.1 12 = nI (s + 1) := by rw [e5, e4, e3, e2, e1]; exact ((f.2.2.2.1 12 (fun z => z)).trans (c1.2.2.2.1 12 (fun z => z))).trans hm.1
    have r30 : s6.2.2.2.1 30 = upd (μ.2.2.2.1 30) (rkn nd ids t) (nI (s + 1)) := by rw [e6, i12, e5, e4, e3, e2, e1, ← row 30 (by decide)]; rfl
    have r31 : s6.2.2.2.1 31 = μ'.2.2.2.1 31 := by rw [e6, e5, e4, e3, e2, e1]; rfl
    have f6 : fr Ino Acl μ1 s6 := by
      have : fr Ino Acl μ1 μ' := c1.t (f.m (fun k q => q) (fun r j q => by unfold A31 at q; unfold Acl; omega))
      rw [e6, e5, e4, e3, e2, e1]
      exact (((((this.u rfl (by unfold Acl; omega)).u rfl (by unfold Acl; omega)).u rfl (by unfold Acl; omega)).u rfl (by unfold Acl; omega)).u rfl (by unfold Acl; omega)).u rfl (by unfold Acl; omega)
    have ne : ∀ t', t' ≠ rkn nd ids t → ∀ r, 25 ≤ r → r ≤ 30 → s6.2.2.2.1 r t' = μ.2.2.2.1 r t' := fun t' h r h1 h2 => by
      have : r = 25 ∨ r = 26 ∨ r = 27 ∨ r = 28 ∨ r = 29 ∨ r = 30 := by omega
      rcases this with e | e | e | e | e | e <;> subst e
      · rw [r25, pk_un h]
      · rw [r26, pk_un h]
      · rw [r27, pk_un h]
      · rw [r28, pk_un h]
      · rw [r29, pk_un h]
      · rw [r30, pk_un h]
    refine hK s6 ⟨f6, fun p hp => ?_, fun t' r h1 h2 h3 h4 => ?_, fun t' h1 h2 => ?_, fun t' h1 => ?_⟩
    · rw [r31, o p (by omega)]; exact c2 p (by omega)
    · rw [ne t' (by omega) r h3 h4]; exact c3 t' r (by omega) h2 h3 h4
    · by_cases e' : t' = t
      · subst e'
        refine ⟨?_, fun j hj => by rw [r31]; exact v j hj⟩
        obtain ⟨u1, u2, u3, u4, u5⟩ := t4.h
        obtain ⟨k1, k2, k3, -⟩ := np _ t2
        have w32 := hw.2.1
        refine ⟨?_, fun q => ?_, fun q => ?_, fun q => ?_, by rw [r29, pk_us]⟩
        · rw [r25, pk_us, c3 t' 25 (by omega) ht (by omega) (by omega), u1, nbv (by omega)]
        · rw [r26, pk_us, c3 t' 26 (by omega) ht (by omega) (by omega), u2 q]
        · rw [r27, pk_us, c3 t' 27 (by omega) ht (by omega) (by omega)]
          exact ⟨fun z => by rw [(u3 q).1 z]; rfl, fun z => by rw [(u3 q).2 z]; rfl⟩
        · rw [r28, pk_us, c3 t' 28 (by omega) ht (by omega) (by omega), u4 q, nbv (by have := k3 q; omega)]
      · have rl := rkn_l (nd := nd) (ids := ids) (show t' < t by omega) h2
        have bl := bgs_l (T := T) (N := N) (nd := nd) (ids := ids) (show t' < t by omega) h2
        obtain ⟨p1, p2⟩ := c4 t' (by omega) h2
        refine ⟨thh_c p1 (fun r q1 q2 => ne _ (by omega) r q1 (by omega)), fun j hj => ?_⟩
        rw [r31, o _ (by omega)]
        exact p2 j hj
    · by_cases e' : t' = rkn nd ids t
      · exact ⟨s + 1, Nat.le_refl _, by rw [e', r30, pk_us]⟩
      · rw [ne t' e' 30 (by omega) (by omega)]; exact c5 t' h1
  | succ d ih =>
    intro i μ' e f o v
    have lm : ∀ r, μ'.2.2.1 r = μ1.2.2.1 r := fun r => by rw [f.2.1]; exact lm0 r
    have row : ∀ r, r ≠ 31 → μ'.2.2.2.1 r = μ.2.2.2.1 r := fun r h => f.row (fun j => by unfold A31; omega)
    have fa : fr Ino Acl μ1 μ' := c1.t (f.m (fun k q => q) (fun r j q => by unfold A31 at q; unfold Acl; omega))
    have im' : imM μ' T b := im.f fa (fun k _ z => z) (fun r j _ _ => by unfold Acl; omega)
    have ln' : lnR μ' := by unfold lnR; rw [fa.2.1]; exact ln
    have src : μ'.2.2.2.1 31 (bg t + i) = vM th ((N (nd t)).2.2.2 i) := by
      rw [o _ (by omega), c2 _ (by omega)]
      exact t4.2.2.2.2.2 i (by omega)
    have hd' : thh μ' T N t (nd t) (bg t) := thh_c t4.h (fun r q1 q2 => by rw [row r (by omega)]; exact c3 t r (Nat.le_refl _) ht q1 (by omega))
    unfold mp_X12_clean_230
    refine ⟨fun z => absurd ((nI_leI (by omega) (by omega)).mp z) (by omega), fun _ => ?_⟩
    rw [nI_add (bg t) i, nI_clamp (show bg t + i < 2 ^ 31 by omega), src]
    refine ⟨by rw [lr31 ln']; exact vp_in_nI (by omega) (by decide), ?_⟩
    intro v30 e30
    have put : ∀ c : Int32, c = vM (fun q => rkn nd ids (th q)) ((N (nd t)).2.2.2 i) → mp_X12_clean_286 L176 (mp_X12_clean_230 L176 K (d + 1)) K μ' x2 (nI (bgs T N nd ids t)) (nI t) (nI (rkn nd ids t)) (nI (npt T (N (nd t)))) (nI (bg t)) (nI i) (nI (bgs T N nd ids t) + nI i) c := fun c ec => by
      unfold mp_X12_clean_286
      rw [nI_add, nI_clamp (by omega)]
      refine ⟨by rw [lr31 ln']; exact vp_in_nI (by omega) (by decide), ?_⟩
      intro s9 e9 v10 e10
      rw [e10, nI_1]
      have r31 : s9.2.2.2.1 31 = upd (μ'.2.2.2.1 31) (bgs T N nd ids t + i) c := by rw [e9]; rfl
      refine ih (i + 1) s9 (by omega) (by rw [e9]; exact f.u rfl rfl) (fun p hp => ?_) (fun j hj => ?_)
      · rw [r31, pk_un (by omega)]; exact o p (by omega)
      · rw [r31]
        by_cases e' : j = i
        · rw [e', pk_us, ec]
        · rw [pk_un (by omega)]; exact v j (by omega)
    refine k_isP hw im' ln' np t2 (by omega) hd' (by omega) (fun ⟨w, hw'⟩ => ⟨fun z => absurd z (by decide), fun _ => ?_⟩) (fun ⟨xx, hx⟩ => ⟨fun _ => ?_, fun z => absurd rfl z⟩)
    · cases w with
      | zero =>
        rw [hw'] at e30
        have e30 : v30 = -1 := e30
        refine ⟨fun _ => ?_, fun z => absurd e30 z⟩
        unfold mp_X12_clean_284
        exact put _ (by rw [e30, hw']; rfl)
      | succ q =>
        rw [hw', vM_s] at e30
        have hq := t5 i q (by omega) hw'
        have hq1 := hq.1
        rw [e30]
        refine ⟨fun z => absurd z (nI_m1 (by omega)), fun _ => ⟨by rw [lr32 ln']; exact vp_in_nI (by omega) (by decide), ?_⟩⟩
        rw [nI_clamp (by omega), fa.row (r := 32) (fun j => by unfold Acl; omega), h32 _ hq1]
        exact put _ (by rw [hw']; rfl)
    · unfold mp_X12_clean_284
      rw [hx] at e30
      exact put _ (by rw [e30, hx]; rfl)
/-- all things, then the marks behind -/
theorem l_c382 {x2 x3 : Int32} (ln : lnR μ1) (i11 : μ1.1 11 = nI nt) (hnt : nt ≤ 140000)
    (hK : ∀ μ', fr Ino Acl μ1 μ' → (∀ r, r ≠ 30 → μ'.2.2.2.1 r = μ2.2.2.2.1 r) → (∀ t, t < 140000 → ∃ s', s' ≤ s + 1 ∧ μ'.2.2.2.1 30 t = nI s') → K (sm_i (sm_i μ' 11 x2) 13 x3)) : ∀ (d t : Nat) (μ : sm_S), t + d = nt → fr Ino Acl μ1 μ → (∀ r, r ≠ 30 → μ.2.2.2.1 r = μ2.2.2.2.1 r) → (∀ t, t < 140000 → ∃ s', s' ≤ s + 1 ∧ μ.2.2.2.1 30 t = nI s') → mp_X12_clean_382 K (d + 1) μ x2 x3 (nI t) := by
  intro d
  induction d with
  | zero =>
    intro t μ e f o m
    have j11 : μ.1 11 = nI nt := (f.2.2.2.1 11 (fun z => z)).trans i11
    unfold mp_X12_clean_382
    rw [j11]
    refine ⟨fun _ => ?_, fun z => absurd ((nI_leI (by omega) (by omega)).mpr (by omega)) z⟩
    intro s2 e2 s3 e3
    rw [e3, e2]
    exact hK μ f o m
  | succ d ih =>
    intro t μ e f o m
    have j11 : μ.1 11 = nI nt := (f.2.2.2.1 11 (fun z => z)).trans i11
    unfold mp_X12_clean_382
    rw [j11, nI_clamp (by omega)]
    refine ⟨fun z => absurd ((nI_leI (by omega) (by omega)).mp z) (by omega), fun _ => ⟨by rw [f.ln 30, lr30 ln]; exact vp_in_nI (by omega) (by decide), ?_⟩⟩
    intro s5 e5 v6 e6
    rw [e6, nI_1]
    have r30 : s5.2.2.2.1 30 = upd (μ.2.2.2.1 30) t 0 := by rw [e5]; rfl
    refine ih (t + 1) s5 (by omega) (by rw [e5]; exact f.u rfl (by unfold Acl; omega)) (fun r h => ?_) (fun t' h => ?_)
    · rw [e5]
      exact (va_up_ne _ _ h).trans (o r h)
    · rw [r30]
      by_cases e' : t' = t
      · exact ⟨0, by omega, by rw [e', pk_us]; rfl⟩
      · rw [pk_un e']; exact m t' h
theorem l_c176 (hw : wf T b) (im : imM μ1 T b) (ln : lnR μ1) (np : npo T n N) (i11 : μ1.1 11 = nI nt) (hnt : nt ≤ 140000) (hus : us ≤ 300000) (hth : thM μ1 T n N th nd bg nt us) (hm : mkd μ1 th s ids) (hi : ∀ q, q ∈ ids → inT th nd nt q) (h32 : ∀ t, t < nt → μ1.2.2.2.1 32 t = nI (rkn nd ids t))
    (hK : ∀ μ2, CL μ1 μ2 T N th nd bg nt s ids nt → ∀ μ', fr Ino Acl μ1 μ' → (∀ r, r ≠ 30 → μ'.2.2.2.1 r = μ2.2.2.2.1 r) → (∀ t, t < 140000 → ∃ s', s' ≤ s + 1 ∧ μ'.2.2.2.1 30 t = nI s') → K (sm_i (sm_i μ' 11 (nI (rkn nd ids nt))) 13 (nI (bgs T N nd ids nt)))) : ∀ (d t : Nat) (μ : sm_S), t + d = nt → CL μ1 μ T N th nd bg nt s ids t → mp_X12_clean_176 K (d + 1) μ (nI (rkn nd ids nt)) (nI (bgs T N nd ids t)) (nI t) := by
  intro d
  induction d with
  | zero =>
    intro t μ e c
    have et : t = nt := by omega
    subst et
    have j11 : μ.1 11 = nI t := (c.1.2.2.2.1 11 (fun z => z)).trans i11
    have rm := (rkn_m (nd := nd) (ids := ids) t t (Nat.le_refl _)).2
    unfold mp_X12_clean_176
    rw [j11]
    refine ⟨fun _ => ?_, fun z => absurd ((nI_leI (by omega) (by omega)).mpr (by omega)) z⟩
    exact ⟨t - rkn nd ids t + 1, l_c382 (μ2 := μ) ln i11 hnt (hK μ c) (t - rkn nd ids t) (rkn nd ids t) μ (by omega) c.1 (fun _ _ => rfl) c.2.2.2.2⟩
  | succ d ih =>
    intro t μ e c
    have c' := c
    obtain ⟨c1, c2, c3, c4, c5⟩ := c'
    have j11 : μ.1 11 = nI nt := (c1.2.2.2.1 11 (fun z => z)).trans i11
    have j12 : μ.1 12 = nI (s + 1) := (c1.2.2.2.1 12 (fun z => z)).trans hm.1
    obtain ⟨t1, t2, t3, t4, t5⟩ := hth.2.2 t (by omega)
    have bb := bgs_b (ids := ids) hth t (by omega)
    have mono := hth.m t nt (by omega) (Nat.le_refl _)
    have im' : imM μ T b := im.f c1 (fun k _ z => z) (fun r j _ _ => by unfold Acl; omega)
    have ln' : lnR μ := by unfold lnR; rw [c1.2.1]; exact ln
    have mi := hm.i hth hnt hi (show t < nt by omega)
    unfold mp_X12_clean_176
    rw [j11, j12, nI_clamp (by omega), c3 t 30 (Nat.le_refl _) (by omega) (by omega) (by omega)]
    refine ⟨fun z => absurd ((nI_leI (by omega) (by omega)).mp z) (by omega), fun _ => ⟨by rw [lr30 ln']; exact vp_in_nI (by omega) (by decide), fun z => ?_, fun z => ?_⟩⟩
    · have m : nd t ∉ ids := fun q => z (mi.mpr q)
      unfold mp_X12_clean_373
      intro v7 e7
      rw [e7, nI_1, ← bgs_n (T := T) (N := N) m]
      refine ih (t + 1) μ (by omega) ⟨c1, fun p hp => c2 p (by omega), fun t' r h1 => c3 t' r (by omega), fun t' h1 h2 => ?_, c5⟩
      by_cases e' : t' = t
      · rw [e'] at h2; exact absurd h2 m
      · exact c4 t' (by omega) h2
    · have m : nd t ∈ ids := mi.mp z
      have r32 : μ.2.2.2.1 32 t = nI (rkn nd ids t) := by rw [c1.row (r := 32) (fun j => by unfold Acl; omega)]; exact h32 t (by omega)
      rw [r32]
      refine ⟨by rw [lr32 ln']; exact vp_in_nI (by omega) (by decide), ?_⟩
      intro v40 e40
      rw [e40]
      have hd' : thh μ T N t (nd t) (bg t) := thh_c t4.h (fun r q1 q2 => c3 t r (Nat.le_refl _) (by omega) q1 (by omega))
      have n15 := npt_15 hw (np (nd t) t2).2.1
      refine k_cof hw im' ln' np t2 (by omega) hd' ?_
      intro v43 e43
      rw [nI_sub1 (by omega), Nat.add_sub_cancel_left] at e43
      rw [hd'.2.2.2.2]
      refine ⟨by rw [lr29 ln']; exact vp_in_nI (by omega) (by decide), ?_⟩
      intro v45 e45
      rw [e43, e45]
      refine ⟨npt T (N (nd t)) + 1, ?_⟩
      refine l_c230 hw im ln np hnt hus hth hm hi h32 (by omega) m c (fun μ' cc => ?_) (npt T (N (nd t))) 0 μ (by omega) fr_r (fun _ _ => rfl) (fun j hj => absurd hj (by omega))
      unfold mp_X12_clean_373
      intro v7 e7
      rw [e7, nI_1]
      exact ih (t + 1) μ' (by omega) cc
end
