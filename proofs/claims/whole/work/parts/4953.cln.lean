/-! ===== clearing the things: the reference ===== -/
/-- how many are marked below t, and their cells -/
def rkn (nd : Nat → Nat) (ids : List Nat) : Nat → Nat
  | 0 => 0
  | t + 1 => rkn nd ids t + (if nd t ∈ ids then 1 else 0)
def bgs (T : Nat → Nat → Nat) (N : Nat → AN) (nd : Nat → Nat) (ids : List Nat) : Nat → Nat
  | 0 => 0
  | t + 1 => bgs T N nd ids t + (if nd t ∈ ids then npt T (N (nd t)) else 0)
theorem rkn_p {nd : Nat → Nat} {ids : List Nat} {t : Nat} (h : nd t ∈ ids) : rkn nd ids (t + 1) = rkn nd ids t + 1 := by show rkn nd ids t + _ = _; rw [if_pos h]
theorem rkn_n {nd : Nat → Nat} {ids : List Nat} {t : Nat} (h : nd t ∉ ids) : rkn nd ids (t + 1) = rkn nd ids t := by show rkn nd ids t + _ = _; rw [if_neg h]; rfl
theorem bgs_p {T : Nat → Nat → Nat} {N : Nat → AN} {nd : Nat → Nat} {ids : List Nat} {t : Nat} (h : nd t ∈ ids) : bgs T N nd ids (t + 1) = bgs T N nd ids t + npt T (N (nd t)) := by show bgs T N nd ids t + _ = _; rw [if_pos h]
theorem bgs_n {T : Nat → Nat → Nat} {N : Nat → AN} {nd : Nat → Nat} {ids : List Nat} {t : Nat} (h : nd t ∉ ids) : bgs T N nd ids (t + 1) = bgs T N nd ids t := by show bgs T N nd ids t + _ = _; rw [if_neg h]; rfl
theorem rkn_m {nd : Nat → Nat} {ids : List Nat} : ∀ (a c : Nat), a ≤ c → rkn nd ids a ≤ rkn nd ids c ∧ rkn nd ids c ≤ c := by
  intro a c
  induction c with
  | zero => intro h; rw [show a = 0 by omega]; exact ⟨Nat.le_refl _, Nat.le_refl _⟩
  | succ c ih =>
    intro h
    have e : rkn nd ids (c + 1) = rkn nd ids c ∨ rkn nd ids (c + 1) = rkn nd ids c + 1 := by
      by_cases m : nd c ∈ ids
      · exact Or.inr (rkn_p m)
      · exact Or.inl (rkn_n m)
    by_cases e2 : a = c + 1
    · subst e2
      have h0 : rkn nd ids c ≤ c := by
        clear ih e h
        induction c with
        | zero => exact Nat.le_refl _
        | succ c ih2 =>
          by_cases m : nd c ∈ ids
          · rw [rkn_p m]; omega
          · rw [rkn_n m]; omega
      exact ⟨Nat.le_refl _, by omega⟩
    · have := ih (by omega)
      omega
section
variable {μ μ1 μ2 : sm_S} {T : Nat → Nat → Nat} {b : Nat → Nat} {n : Nat} {N : Nat → AN} {fs : List AF} {th nd bg : Nat → Nat} {nt us s : Nat} {ids : List Nat} {K : sm_S → Prop}
theorem rkn_l {t t' : Nat} (h : t' < t) (m : nd t' ∈ ids) : rkn nd ids t' + 1 ≤ rkn nd ids t := by
  have := (rkn_m (nd := nd) (ids := ids) (t' + 1) t (by omega)).1
  rw [rkn_p m] at this
  exact this
theorem bgs_m : ∀ (a c : Nat), a ≤ c → bgs T N nd ids a ≤ bgs T N nd ids c := by
  intro a c
  induction c with
  | zero => intro h; rw [show a = 0 by omega]; exact Nat.le_refl _
  | succ c ih =>
    intro h
    by_cases e2 : a = c + 1
    · rw [e2]; exact Nat.le_refl _
    · have := ih (by omega)
      by_cases m : nd c ∈ ids
      · rw [bgs_p m]; omega
      · rw [bgs_n m]; omega
theorem bgs_l {t t' : Nat} (h : t' < t) (m : nd t' ∈ ids) : bgs T N nd ids t' + npt T (N (nd t')) ≤ bgs T N nd ids t := by
  have := bgs_m (T := T) (N := N) (nd := nd) (ids := ids) (t' + 1) t (by omega)
  rw [bgs_p m] at this
  exact this
theorem bgs_b (hth : thM μ T n N th nd bg nt us) : ∀ (t : Nat), t ≤ nt → bgs T N nd ids t ≤ bg t := by
  intro t
  induction t with
  | zero => intro _; exact Nat.zero_le _
  | succ t ih =>
    intro h
    have := ih (by omega)
    have e := (hth.2.2 t (by omega)).2.2.1
    by_cases m : nd t ∈ ids
    · rw [bgs_p m]; omega
    · rw [bgs_n m]; omega
theorem rkn_s : ∀ (t u : Nat), u < rkn nd ids t → ∃ t', t' < t ∧ nd t' ∈ ids ∧ rkn nd ids t' = u := by
  intro t
  induction t with
  | zero => intro u h; exact absurd h (by show ¬ u < 0; omega)
  | succ t ih =>
    intro u h
    by_cases m : nd t ∈ ids
    · rw [rkn_p m] at h
      by_cases e : u = rkn nd ids t
      · exact ⟨t, by omega, m, e.symm⟩
      · obtain ⟨t', a1, a2, a3⟩ := ih u (by omega)
        exact ⟨t', by omega, a2, a3⟩
    · rw [rkn_n m] at h
      obtain ⟨t', a1, a2, a3⟩ := ih u h
      exact ⟨t', by omega, a2, a3⟩
/-- the new tables -/
theorem nw_ex : ∀ (t : Nat), ∃ nd' bg' : Nat → Nat, (∀ t', t' < t → nd t' ∈ ids → nd' (rkn nd ids t') = nd t') ∧ ∀ t', t' ≤ t → bg' (rkn nd ids t') = bgs T N nd ids t' := by
  intro t
  induction t with
  | zero => exact ⟨fun _ => 0, fun _ => 0, fun t' h => absurd h (by omega), fun t' h => by rw [show t' = 0 by omega]; rfl⟩
  | succ t ih =>
    obtain ⟨nd', bg', h1, h2⟩ := ih
    by_cases m : nd t ∈ ids
    · refine ⟨va_up nd' (rkn nd ids t) (nd t), va_up bg' (rkn nd ids (t + 1)) (bgs T N nd ids (t + 1)), fun t' ht hm => ?_, fun t' ht => ?_⟩
      · by_cases e : t' = t
        · rw [e, va_up_self]
        · have := rkn_l (ids := ids) (nd := nd) (show t' < t by omega) hm
          rw [va_up_ne _ _ (by omega)]
          exact h1 t' (by omega) hm
      · by_cases e : t' = t + 1
        · rw [e, va_up_self]
        · have := (rkn_m (nd := nd) (ids := ids) t' t (by omega)).1
          rw [va_up_ne _ _ (by rw [rkn_p m]; omega)]
          exact h2 t' (by omega)
    · refine ⟨nd', bg', fun t' ht hm => ?_, fun t' ht => ?_⟩
      · by_cases e : t' = t
        · rw [e] at hm; exact absurd hm m
        · exact h1 t' (by omega) hm
      · by_cases e : t' = t + 1
        · rw [e, rkn_n m, bgs_n m]; exact h2 t (Nat.le_refl _)
        · exact h2 t' (by omega)
/-- not more than what is reached -/
theorem rkn_sum (hth : thM μ T n N th nd bg nt us) : rkn nd ids nt + bgs T N nd ids nt ≤ sumL (fun i => 1 + npt T (N i)) ids := by
  have key : ∀ t, t ≤ nt → ∃ l : List Nat, l.Nodup ∧ (∀ q, q ∈ l → q ∈ ids ∧ th q < t) ∧ sumL (fun i => 1 + npt T (N i)) l = rkn nd ids t + bgs T N nd ids t := by
    intro t
    induction t with
    | zero => intro _; exact ⟨[], List.nodup_nil, fun q h => absurd h List.not_mem_nil, rfl⟩
    | succ t ih =>
      intro h
      obtain ⟨l, l1, l2, l3⟩ := ih (by omega)
      by_cases m : nd t ∈ ids
      · have e := (hth.2.2 t (by omega)).1
        refine ⟨nd t :: l, List.nodup_cons.mpr ⟨fun z => ?_, l1⟩, fun q hq => ?_, ?_⟩
        · have := (l2 _ z).2; omega
        · rcases List.mem_cons.mp hq with e1 | e1
          · rw [e1]; exact ⟨m, by omega⟩
          · exact ⟨(l2 q e1).1, by have := (l2 q e1).2; omega⟩
        · rw [rkn_p m, bgs_p m]
          show (1 + npt T (N (nd t))) + sumL _ l = _
          rw [l3]; omega
      · exact ⟨l, l1, fun q hq => ⟨(l2 q hq).1, by have := (l2 q hq).2; omega⟩, by rw [rkn_n m, bgs_n m]; exact l3⟩
  obtain ⟨l, l1, l2, l3⟩ := key nt (Nat.le_refl _)
  rw [← l3]
  exact sumL_sub l ids l1 (fun q hq => (l2 q hq).1)
def Ino (_ : Nat) : Prop := False
def A32 (r _j : Nat) : Prop := r = 32
def A36 (r _j : Nat) : Prop := r = 36
def A31 (r _j : Nat) : Prop := r = 31
def Acl (r _j : Nat) : Prop := 25 ≤ r ∧ r ≤ 31
/-- what was marked -/
def mkd (μ : sm_S) (th : Nat → Nat) (s : Nat) (ids : List Nat) : Prop := μ.1 12 = nI (s + 1) ∧ ∀ t, t < 140000 → (∃ s', s' ≤ s + 1 ∧ μ.2.2.2.1 30 t = nI s') ∧ (μ.2.2.2.1 30 t = nI (s + 1) ↔ ∃ q, q ∈ ids ∧ th q = t)
theorem mkd.i (hm : mkd μ1 th s ids) (hth : thM μ1 T n N th nd bg nt us) (hnt : nt ≤ 140000) (hi : ∀ q, q ∈ ids → inT th nd nt q) {t : Nat} (ht : t < nt) : μ1.2.2.2.1 30 t = nI (s + 1) ↔ nd t ∈ ids := by
  rw [(hm.2 t (by omega)).2]
  constructor
  · intro ⟨q, q1, q2⟩
    have := (hi q q1).2
    rw [q2] at this
    rw [this]; exact q1
  · intro q; exact ⟨nd t, q, (hth.2.2 t ht).1⟩
/-- their new numbers -/
theorem l_c9 (ln : lnR μ1) (i11 : μ1.1 11 = nI nt) (hnt : nt ≤ 140000) (hth : thM μ1 T n N th nd bg nt us) (hm : mkd μ1 th s ids) (hi : ∀ q, q ∈ ids → inT th nd nt q)
    (hK : ∀ μ', fr Ino A32 μ1 μ' → (∀ t, t < nt → μ'.2.2.2.1 32 t = nI (rkn nd ids t)) → ∃ n53, mp_X12_clean_53 K n53 μ' (nI (rkn nd ids nt)) 0) : ∀ (d t : Nat) (μ : sm_S), t + d = nt → fr Ino A32 μ1 μ → (∀ t', t' < t → μ.2.2.2.1 32 t' = nI (rkn nd ids t')) → mp_X12_clean_9 K (d + 1) μ (nI (rkn nd ids t)) (nI t) := by
  intro d
  induction d with
  | zero =>
    intro t μ e f h1
    have j11 : μ.1 11 = nI nt := (f.2.2.2.1 11 (fun z => z)).trans i11
    have et : t = nt := by omega
    subst et
    unfold mp_X12_clean_9
    rw [j11]
    exact ⟨fun _ => hK μ f h1, fun z => absurd ((nI_leI (by omega) (by omega)).mpr (by omega)) z⟩
  | succ d ih =>
    intro t μ e f h1
    have j11 : μ.1 11 = nI nt := (f.2.2.2.1 11 (fun z => z)).trans i11
    have lm : ∀ r, μ.2.2.1 r = μ1.2.2.1 r := fun r => by rw [f.2.1]
    have rm := (rkn_m (nd := nd) (ids := ids) t t (Nat.le_refl _)).2
    unfold mp_X12_clean_9
    rw [j11]
    refine ⟨fun z => absurd ((nI_leI (by omega) (by omega)).mp z) (by omega), fun _ => ⟨by rw [lm, lr32 ln]; exact vp_in_nI (by omega) (by decide), ?_⟩⟩
    intro s2 e2
    rw [nI_clamp (by omega)] at e2
    have f2 : fr Ino A32 μ1 s2 := by rw [e2]; exact f.u rfl rfl
    have r30 : s2.2.2.2.1 30 = μ1.2.2.2.1 30 := f2.row (fun j => by unfold A32; omega)
    have j12 : s2.1 12 = nI (s + 1) := (f2.2.2.2.1 12 (fun z => z)).trans hm.1
    have row : ∀ t', t' < t + 1 → s2.2.2.2.1 32 t' = nI (rkn nd ids t') := fun t' ht => by
      have : s2.2.2.2.1 32 = upd (μ.2.2.2.1 32) t (nI (rkn nd ids t)) := by rw [e2]; rfl
      rw [this]
      by_cases e : t' = t
      · rw [e, pk_us]
      · rw [pk_un e]; exact h1 t' (by omega)
    rw [r30, j12, nI_clamp (by omega)]
    have mi := hm.i hth hnt hi (show t < nt by omega)
    refine ⟨by rw [f2.ln 30, lr30 ln]; exact vp_in_nI (by omega) (by decide), fun z => ?_, fun z => ?_⟩
    · have m : nd t ∉ ids := fun q => z (mi.mpr q)
      unfold mp_X12_clean_43
      intro v64 e64 v65 e65
      rw [e64, e65, Int32.add_zero, nI_1, ← rkn_n m]
      exact ih (t + 1) s2 (by omega) f2 row
    · have m : nd t ∈ ids := mi.mp z
      unfold mp_X12_clean_43
      intro v64 e64 v65 e65
      rw [e64, e65, nI_1, nI_1, ← rkn_p m]
      exact ih (t + 1) s2 (by omega) f2 row
/-- the values of the frames -/
theorem l_c53 (hw : wf T b) (im : imM μ1 T b) (ln : lnR μ1) (i14 : μ1.1 14 = nI fs.length) (hfl : fs.length ≤ 7600) (i15 : μ1.1 15 = 0) (hfs : fsM μ1 T th nd nt fs) (hnt : nt ≤ 140000) (h32 : ∀ t, t < nt → μ1.2.2.2.1 32 t = nI (rkn nd ids t)) {x2 : Int32}
    (hK : ∀ μ', fr Ino A36 μ1 μ' → (∀ A f B i, fs = A ++ f :: B → i < T 15 f.1 + f.2.2.1 → μ'.2.2.2.1 36 (12 * B.length + i) = vM (fun q => rkn nd ids (th q)) (f.2.2.2 i)) → mp_X12_clean_168 K μ' x2 (μ'.1 16)) : ∀ (d p : Nat) (μ : sm_S), p + d = 12 * fs.length → fr Ino A36 μ1 μ → (∀ p', p ≤ p' → μ.2.2.2.1 36 p' = μ1.2.2.2.1 36 p') → (∀ A f B i, fs = A ++ f :: B → i < T 15 f.1 + f.2.2.1 → 12 * B.length + i < p → μ.2.2.2.1 36 (12 * B.length + i) = vM (fun q => rkn nd ids (th q)) (f.2.2.2 i)) → mp_X12_clean_53 K (d + 1) μ x2 (nI p) := by
  have w4 := hw.2.2.2.1
  have lenB : ∀ A (f : AF) B, fs = A ++ f :: B → B.length < fs.length ∧ f ∈ fs := fun A f B e => by
    rw [e]
    refine ⟨?_, List.mem_append.mpr (Or.inr List.mem_cons_self)⟩
    rw [List.length_append]
    show B.length < A.length + (B.length + 1)
    omega
  have bnd : ∀ A (f : AF) B, fs = A ++ f :: B → T 15 f.1 + f.2.2.1 ≤ 12 := fun A f B e => by
    obtain ⟨A', f', B', e1, e2, e3⟩ := fsM_at fs B.length hfs (lenB A f B e).1
    have := split_u (e.symm.trans e1) e2.symm
    subst this
    have := (hw.2.2.2.2.2.2.2.2.1 f.1 e3.2.1).2.2.2.2.2.2.1
    have := e3.2.2.2.2.2.1
    omega
  intro d
  induction d with
  | zero =>
    intro p μ e f h1 h2
    have j14 : μ.1 14 = nI fs.length := (f.2.2.2.1 14 (fun z => z)).trans i14
    have j15 : μ.1 15 = 0 := (f.2.2.2.1 15 (fun z => z)).trans i15
    unfold mp_X12_clean_53
    rw [j14, j15, l_12, pk_mul]
    refine ⟨fun _ => ⟨fun _ => hK μ f (fun A g B i e1 hi => h2 A g B i e1 hi ?_), fun z => absurd rfl z⟩, fun z => absurd ((nI_leI (by omega) (by omega)).mpr (by omega)) z⟩
    have := (lenB A g B e1).1
    have := bnd A g B e1
    omega
  | succ d ih =>
    intro p μ e f h1 h2
    have j14 : μ.1 14 = nI fs.length := (f.2.2.2.1 14 (fun z => z)).trans i14
    have im' : imM μ T b := im.f f (fun k _ z => z) (fun r j _ _ => by unfold A36; omega)
    have lm : ∀ r, μ.2.2.1 r = μ1.2.2.1 r := fun r => by rw [f.2.1]
    obtain ⟨A, g, B, e1, e2, e3⟩ := fsM_at fs (p / 12) hfs (by omega)
    obtain ⟨g1, g2, g3, g4, g5, g6, g7⟩ := e3
    have h12 := bnd A g B e1
    have q33 : μ.2.2.2.1 33 (p / 12) = nI g.1 := by rw [f.row (r := 33) (fun j => by unfold A36; omega)]; exact g1
    have q35 : μ.2.2.2.1 35 (p / 12) = nI g.2.2.1 := by rw [f.row (r := 35) (fun j => by unfold A36; omega)]; exact g5
    have q37 : μ.2.2.2.1 37 = μ1.2.2.2.1 37 := f.row (fun j => by unfold A36; omega)
    have q32 : μ.2.2.2.1 32 = μ1.2.2.2.1 32 := f.row (fun j => by unfold A36; omega)
    have q36 := h1 p (Nat.le_refl _)
    have q15 := (im'.2.2.2.2.2.2.2 g.1 g2).2.2.2.2.1
    have hp : 12 * (p / 12) + p % 12 = p := Nat.div_add_mod p 12
    -- going on
    have go : ∀ s2 : sm_S, fr Ino A36 μ1 s2 → (∀ p', p + 1 ≤ p' → s2.2.2.2.1 36 p' = μ1.2.2.2.1 36 p') → (∀ p', p' < p → s2.2.2.2.1 36 p' = μ.2.2.2.1 36 p') → (p % 12 < T 15 g.1 + g.2.2.1 → s2.2.2.2.1 36 p = vM (fun q => rkn nd ids (th q)) (g.2.2.2 (p % 12))) → mp_X12_clean_138 (mp_X12_clean_53 K (d + 1)) K s2 x2 (nI p) := fun s2 f2 k1 k2 k3 => by
      unfold mp_X12_clean_138
      intro v47 e47
      rw [e47, nI_1]
      refine ih (p + 1) s2 (by omega) f2 k1 (fun A' f' B' i e1' hi hlt => ?_)
      have hb := bnd A' f' B' e1'
      by_cases c : 12 * B'.length + i = p
      · have eB : B'.length = p / 12 := by omega
        have ei : i = p % 12 := by omega
        have ef := split_u (e1.symm.trans e1') (by omega)
        rw [c, ei, ← ef]
        rw [ei, ← ef] at hi
        exact k3 hi
      · rw [k2 _ (by omega)]
        exact h2 A' f' B' i e1' hi (by omega)
    unfold mp_X12_clean_53
    rw [j14, l_12, pk_mul, pk_rem (by omega) (by decide) (by decide), pk_div (by omega) (by decide) (by decide), nI_clamp (by omega), nI_clamp (by omega), q33, q35, nI_clamp (by omega), q15]
    refine ⟨fun z => absurd ((nI_leI (by omega) (by omega)).mp z) (by omega), fun _ => ⟨by rw [lm, lr33 ln]; exact vp_in_nI (by omega) (by decide), by rw [show μ.2.2.1 15 = 64 from im'.2.1.2.2.2.2.2.2.2.2.2.2.2.1]; exact vp_in_nI (by omega) (by decide), by rw [lm, lr35 ln]; exact vp_in_nI (by omega) (by decide), ?_⟩⟩
    intro v54 e54
    rw [e54, nI_add]
    refine ⟨fun z => ?_, fun z => ?_⟩
    · have := (nI_leI (by omega) (by omega)).mp z
      exact go μ f (fun p' hp' => h1 p' (by omega)) (fun _ _ => rfl) (fun q => absurd q (by omega))
    · have hi : p % 12 < T 15 g.1 + g.2.2.1 := by
        have : ¬ T 15 g.1 + g.2.2.1 ≤ p % 12 := fun q => z ((nI_leI (by omega) (by omega)).mpr q)
        omega
      obtain ⟨v1, v2, v3⟩ := g7 (p % 12) hi
      rw [hp] at v1 v2
      rw [q37, v2, q36, v1]
      refine ⟨by rw [lm, lr37 ln]; exact vp_in_nI (by omega) (by decide), ?_⟩
      cases hc : g.2.2.2 (p % 12) with
      | inl xx =>
        refine ⟨fun _ => go μ f (fun p' hp' => h1 p' (by omega)) (fun _ _ => rfl) (fun _ => by rw [q36, v1, hc]; rfl), fun z => absurd rfl z⟩
      | inr v =>
        refine ⟨fun z => absurd z (by show ¬ (1 : Int32) = 0; decide), fun _ => ⟨by rw [lm, lr36 ln]; exact vp_in_nI (by omega) (by decide), ?_⟩⟩
        cases v with
        | zero => exact ⟨fun _ => go μ f (fun p' hp' => h1 p' (by omega)) (fun _ _ => rfl) (fun _ => by rw [q36, v1, hc]; rfl), fun z => absurd rfl z⟩
        | succ q =>
          have hq := v3 q hc
          have hq1 := hq.1
          rw [vM_s]
          refine ⟨fun z => absurd z (nI_m1 (by omega)), fun _ => ⟨by rw [lm, lr36 ln]; exact vp_in_nI (by omega) (by decide), by rw [lm, lr32 ln]; exact vp_in_nI (by omega) (by decide), by rw [lm, lr36 ln]; exact vp_in_nI (by omega) (by decide), ?_⟩⟩
          intro s2 es2
          rw [nI_clamp (by omega), q32, h32 _ hq1] at es2
          have f2 : fr Ino A36 μ1 s2 := by rw [es2]; exact f.u rfl rfl
          have row : s2.2.2.2.1 36 = upd (μ.2.2.2.1 36) p (nI (rkn nd ids (th q))) := by rw [es2]; rfl
          refine go s2 f2 (fun p' hp' => by rw [row, pk_un (by omega)]; exact h1 p' (by omega)) (fun p' hp' => by rw [row, pk_un (by omega)]) (fun _ => by rw [row, pk_us, hc]; rfl)
end
