/-! ===== a new frame: the reference ===== -/
def Aen (g r j : Nat) : Prop := ((r = 33 ∨ r = 34 ∨ r = 35) ∧ j = g) ∨ ((r = 36 ∨ r = 37) ∧ 12 * g ≤ j ∧ j < 12 * g + 12)
def I14 (k : Nat) : Prop := k = 14
section
variable {μ μ' μ0 μ1 : sm_S} {T : Nat → Nat → Nat} {b : Nat → Nat} {h k lim md cy rch n sb : Nat} {N : Nat → AN} {f : AF} {r fs : List AF} {fl st : Nat} {th nd bg : Nat → Nat} {nt us s : Nat} {ids : List Nat} {K : jk}
theorem l_e32 {g : Nat} {K : sm_S → Prop} (ln : lnR μ) (hg : g < 7600) (i14 : μ.1 14 = nI g)
    (hK : ∀ μ', fr Ino (Aen g) μ μ' → (∀ i, i < 12 → μ'.2.2.2.1 36 (12 * g + i) = 0 ∧ μ'.2.2.2.1 37 (12 * g + i) = 0) → (μ'.2.2.2.1 33 = μ.2.2.2.1 33 ∧ μ'.2.2.2.1 34 = μ.2.2.2.1 34 ∧ μ'.2.2.2.1 35 = μ.2.2.2.1 35) → K (sm_i μ' 14 (nI (g + 1)))) : ∀ (d i : Nat) (μ' : sm_S), i + d = 12 → fr Ino (Aen g) μ μ' → (∀ j, j < i → μ'.2.2.2.1 36 (12 * g + j) = 0 ∧ μ'.2.2.2.1 37 (12 * g + j) = 0) → (μ'.2.2.2.1 33 = μ.2.2.2.1 33 ∧ μ'.2.2.2.1 34 = μ.2.2.2.1 34 ∧ μ'.2.2.2.1 35 = μ.2.2.2.1 35) → mp_X12_enter_32 K (d + 1) μ' (nI i) := by
  intro d
  induction d with
  | zero =>
    intro i μ' hi hf hz h3
    have j14 : μ'.1 14 = nI g := by rw [hf.2.2.2.1 14 (fun z => z)]; exact i14
    unfold mp_X12_enter_32
    refine ⟨fun _ => ?_, fun z => absurd ((nI_leI (a := 12) (by omega) (by omega)).mpr (by omega)) z⟩
    intro s2 e2
    rw [e2, j14, nI_1]
    exact hK μ' hf (fun j hj => hz j (by omega)) h3
  | succ d ih =>
    intro i μ' hi hf hz h3
    have j14 : μ'.1 14 = nI g := by rw [hf.2.2.2.1 14 (fun z => z)]; exact i14
    have l36 : μ'.2.2.1 36 = 91200 := by rw [hf.2.1]; exact lr36 ln
    have l37 : μ'.2.2.1 37 = 91200 := by rw [hf.2.1]; exact lr37 ln
    unfold mp_X12_enter_32
    refine ⟨fun z => absurd ((nI_leI (a := 12) (by omega) (by omega)).mp z) (by omega), fun _ => ?_⟩
    rw [j14, l_12, pk_mul, nI_add, nI_clamp (by omega), l36]
    refine ⟨vp_in_nI (by omega) (by decide), ?_⟩
    intro s4 e4
    have k14 : s4.1 14 = nI g := by rw [e4]; exact j14
    have k37 : s4.2.2.1 37 = 91200 := by rw [e4]; exact l37
    rw [k14, pk_mul, nI_add, nI_clamp (by omega), k37]
    refine ⟨vp_in_nI (by omega) (by decide), ?_⟩
    intro s6 e6 v7 e7
    rw [e7, nI_1]
    have w36 : s6.2.2.2.1 36 = upd (μ'.2.2.2.1 36) (12 * g + i) 0 := by rw [e6, e4]; rfl
    have w37 : s6.2.2.2.1 37 = upd (μ'.2.2.2.1 37) (12 * g + i) (vp_nar .boolean 0) := by rw [e6, e4]; rfl
    refine ih (i + 1) s6 (by omega) (by rw [e6, e4]; exact (hf.u rfl (by unfold Aen; omega)).u rfl (by unfold Aen; omega)) (fun j hj => ?_) (by rw [e6, e4]; exact h3)
    rw [w36, w37]
    by_cases e : j = i
    · rw [e, pk_us, pk_us]; exact ⟨rfl, by decide⟩
    · rw [pk_un (by omega), pk_un (by omega)]; exact hz j (by omega)
theorem k_entM {m' : Nat} {K : sm_S → Prop} (hw : wf T b) (y : RMg μ T b k lim md cy rch n N fs fl st th nd bg nt us s) (hm' : m' < T 0 1) (hfl : fs.length < 7600) (hK : ∀ μ', RMg μ' T b k lim md cy rch n N ((m', 0, 0, fun _ => .inl 0) :: fs) fl st th nd bg nt us s → stM μ μ' → (∀ r p, (r = 36 ∨ r = 37) → p < 12 * fs.length → μ'.2.2.2.1 r p = μ.2.2.2.1 r p) → K μ') : mp_X12_enter μ (nI m') K := by
  obtain ⟨⟨im, ln, ⟨i11, hnt, i13, hus, i14, hf0⟩, hth, hfs⟩, y2, y3, y4, y5⟩ := y
  unfold mp_X12_enter
  rw [i14, nI_clamp (by omega)]
  refine ⟨by rw [lr33 ln]; exact vp_in_nI hfl (by decide), ?_⟩
  intro s9 e9
  have a14 : s9.1 14 = nI fs.length := by rw [e9]; exact i14
  have a34 : s9.2.2.1 34 = 7600 := by rw [e9]; exact lr34 ln
  rw [a14, nI_clamp (by omega), a34]
  refine ⟨vp_in_nI hfl (by decide), ?_⟩
  intro s11 e11
  have b14 : s11.1 14 = nI fs.length := by rw [e11]; exact a14
  have b35 : s11.2.2.1 35 = 7600 := by rw [e11, e9]; exact lr35 ln
  rw [b14, nI_clamp (by omega), b35]
  refine ⟨vp_in_nI hfl (by decide), ?_⟩
  intro s13 e13
  have c14 : s13.1 14 = nI fs.length := by rw [e13]; exact b14
  have q33 : s13.2.2.2.1 33 = upd (μ.2.2.2.1 33) fs.length (nI m') := by rw [e13, e11, e9]; rfl
  have q34 : s13.2.2.2.1 34 = upd (μ.2.2.2.1 34) fs.length 0 := by rw [e13, e11, e9]; rfl
  have q35 : s13.2.2.2.1 35 = upd (μ.2.2.2.1 35) fs.length 0 := by rw [e13, e11, e9]; rfl
  have f13 : fr I14 (Aen fs.length) μ s13 := by
    rw [e13, e11, e9]
    exact ((fr_r.u rfl (by unfold Aen; omega)).u rfl (by unfold Aen; omega)).u rfl (by unfold Aen; omega)
  have ln13 : lnR s13 := by unfold lnR; rw [f13.2.1]; exact ln
  refine ⟨12 + 1, ?_⟩
  refine l_e32 ln13 hfl c14 (fun μ' hf hz h3 => ?_) 12 0 s13 rfl fr_r (fun j hj => absurd hj (Nat.not_lt_zero j)) ⟨rfl, rfl, rfl⟩
  have F : fr I14 (Aen fs.length) μ (sm_i μ' 14 (nI (fs.length + 1))) := (f13.t (hf.m (fun k q => q.elim) (fun r j q => q))).i rfl
  have sm : stM μ (sm_i μ' 14 (nI (fs.length + 1))) := F.sM (fun k q => by unfold I14 at q; omega) (fun r j q => by unfold Aen at q; omega)
  generalize hgs : sm_i μ' 14 (nI (fs.length + 1)) = μ2 at *
  have g14 : μ2.1 14 = nI (fs.length + 1) := by rw [← hgs]; rfl
  have r2 : ∀ r, μ2.2.2.2.1 r = μ'.2.2.2.1 r := fun r => by rw [← hgs]
  have ni : ∀ kk, kk ≠ 14 → μ2.1 kk = μ.1 kk := fun kk h => F.2.2.2.1 kk (by unfold I14; omega)
  have row : ∀ r', r' ≤ 32 → μ2.2.2.2.1 r' = μ.2.2.2.1 r' := fun r' h => F.row (fun j => by unfold Aen; omega)
  have lo : ∀ r p, (r = 36 ∨ r = 37) → p < 12 * fs.length → μ2.2.2.2.1 r p = μ.2.2.2.1 r p := fun r p hr hp => F.2.2.2.2 r p (by unfold Aen; omega)
  refine hK μ2 ⟨⟨sm.im im, sm.ln ln, ⟨by rw [ni 11 (by decide)]; exact i11, hnt, by rw [ni 13 (by decide)]; exact i13, hus, g14, hfl⟩, ⟨hth.1, hth.2.1, fun t ht => ?_⟩, ⟨?_, ?_⟩⟩, ⟨by rw [ni 12 (by decide)]; exact y2.1, fun t ht => by rw [row 30 (by decide)]; exact y2.2 t ht⟩, by rw [ni 4 (by decide)]; exact y3, ⟨by rw [ni 21 (by decide)]; exact y4.1, by rw [ni 22 (by decide)]; exact y4.2.1, by rw [ni 23 (by decide)]; exact y4.2.2.1, by rw [F.1]; exact y4.2.2.2.1, by rw [ni 24 (by decide)]; exact y4.2.2.2.2.1, by rw [ni 17 (by decide)]; exact y4.2.2.2.2.2⟩, by rw [ni 15 (by decide), ni 16 (by decide)]; exact y5⟩ sm lo
  · obtain ⟨u1, u2, u3, u4, u5⟩ := hth.2.2 t ht
    exact ⟨u1, u2, u3, thg_c u4 (fun r h1 h2 h3 => row r (by omega)), u5⟩
  · refine ⟨?_, hm', ?_, ?_, ?_, Nat.zero_le _, fun i hi => ?_⟩
    · rw [r2, h3.1, q33, pk_us]
    · rw [r2, h3.2.1, q34, pk_us]; rfl
    · show (0 : Nat) < 2 ^ 16; decide
    · rw [r2, h3.2.2, q35, pk_us]; rfl
    · have hi : i < T 15 m' + 0 := hi
      have w12 := (hw.2.2.2.2.2.2.2.2.1 m' hm').2.2.2.2.2.2.1
      rw [r2, r2, (hz i (by omega)).1, (hz i (by omega)).2]
      exact ⟨rfl, rfl, fun k' e => by cases e⟩
  · exact fsM_lo (μ := μ) fs fs.length (Nat.le_refl _) hfs (fun f g h => fM1_12 hw h) (fun r' h1 h2 g hg => F.2.2.2.2 r' g (by unfold Aen; omega)) (fun r' h1 p hp => lo r' p h1 hp)
theorem k_undN {g m ht j : Nat} (hw : wf T b) (t : TI μ T b g m ht) (hj : j ≤ T 15 m + ht) (hK : ∀ x, (1 ≤ j → x = nI (12 * g + (T 15 m + ht - j))) → K x μ) : mp_X12_under μ (nI j - 1) K := by
  by_cases h0 : j = 0
  · have w4 := hw.2.2.2.1
    have t' := t
    obtain ⟨t1, t2, t3, t4, t5, t6, t7, t8⟩ := t'
    unfold mp_X12_under
    refine k_met hw t ?_
    rw [t3, nI_pred, nI_clamp (by omega)]
    refine ⟨by rw [show μ.2.2.1 15 = 64 from t1.2.1.2.2.2.2.2.2.2.2.2.2.2.1]; exact vp_in_nI (by omega) (by decide), by rw [lr35 t2]; exact vp_in_nI t4 (by decide), hK _ (fun q => by omega)⟩
  · rw [nI_sub1 (by omega)]
    exact k_und hw t (by omega) (hK _ (fun _ => by rw [show T 15 m + ht - 1 - (j - 1) = T 15 m + ht - j by omega]))
/-- the values of a call are copied -/
theorem l_c45 {m' from' : Nat} {P : Nat → AV} (hw : wf T b) (hm' : m' < T 0 1) (hfrm : from' + T 12 m' ≤ 12 * fs.length) (hP : ∀ i, i < T 12 m' → ∀ k, P i = .inr (k + 1) → inT th nd nt k)
    (hK : ∀ μ', RMg μ' T b k lim md cy rch n N ((m', 0, 0, fun i => if i < T 12 m' then P i else .inl 0) :: fs) fl st th nd bg nt us s → stM μ0 μ' → K 1 μ') : ∀ (d i : Nat) (μ : sm_S) {x : Int32}, i + d = T 12 m' → RMg μ T b k lim md cy rch n N ((m', 0, 0, fun i' => if i' < i then P i' else .inl 0) :: fs) fl st th nd bg nt us s → stM μ0 μ → (∀ i', i' < T 12 m' → μ.2.2.2.1 36 (from' + i') = vM th (P i') ∧ μ.2.2.2.1 37 (from' + i') = iM (P i')) → (1 ≤ T 12 m' → x = nI from') → mp_X12_call_45 K (d + 1) μ (nI (T 12 m')) x (nI i) := by
  have wm := hw.2.2.2.2.2.2.2.2.1 m' hm'
  have w8 := wm.2.1
  have wl := wm.2.2.2.2.2.1
  have w12 := wm.2.2.2.2.2.2.1
  clear wm
  intro d
  induction d with
  | zero =>
    intro i μ x hi y sm hr hx
    unfold mp_X12_call_45
    refine ⟨fun _ => hK μ ?_ sm, fun z => absurd (nI_le (by omega) (by omega)) z⟩
    have : i = T 12 m' := by omega
    rw [← this]
    exact y
  | succ d ih =>
    intro i μ x hi y sm hr hx
    obtain ⟨t, f1, f2, f3, f4, f5, f6, f7⟩ := y.ti hw
    have t3 := t.2.2.1
    have t4 := t.2.2.2.1
    unfold mp_X12_call_45
    refine ⟨fun z => absurd ((nI_leI (by omega) (by omega)).mp z) (by omega), fun _ => ?_⟩
    obtain ⟨r36, r37⟩ := hr i (by omega)
    rw [hx (by omega), t3, nI_pred, l_12, pk_mul, nI_add, nI_add]
    unfold mp_X12_copy
    rw [nI_clamp (by omega), nI_clamp (by omega), r36]
    refine ⟨by rw [lr36 t.2.1]; exact vp_in_nI (by omega) (by decide), by rw [lr36 t.2.1]; exact vp_in_nI (by omega) (by decide), ?_⟩
    intro s3 e3
    have p37 : s3.2.2.2.1 37 = μ.2.2.2.1 37 := by rw [e3]; rfl
    have m37 : s3.2.2.1 37 = 91200 := by rw [e3]; exact lr37 t.2.1
    rw [p37, r37, nbi, m37]
    refine ⟨vp_in_nI (by omega) (by decide), vp_in_nI (by omega) (by decide), ?_⟩
    intro s6 e6 v3 ev
    rw [ev, nI_1]
    have w36 : s6.2.2.2.1 36 = upd (μ.2.2.2.1 36) (12 * fs.length + i) (vM th (P i)) := by rw [e6, e3]; rfl
    have w37 : s6.2.2.2.1 37 = upd (μ.2.2.2.1 37) (12 * fs.length + i) (iM (P i)) := by rw [e6, e3]; rfl
    obtain ⟨a, c⟩ := y.sv (μ' := s6) (j := i) (v := P i) hw (by show i < T 15 m' + 0; omega) (fun q e => hP i (by omega) q e) (by rw [e6, e3]; exact (fr_r.u rfl (by unfold Atf; omega)).u rfl (by unfold Atf; omega)) (by rw [e6, e3]; rfl) (by rw [e6, e3]; rfl) (by rw [e6, e3]; rfl) w36 (fun p => by rw [w37])
    refine ih (i + 1) s6 (by omega) ?_ (sm.t c) (fun i' hi' => ?_) (fun _ => rfl)
    · have e : va_up (fun i' => if i' < i then P i' else (Sum.inl 0 : AV)) i (P i) = fun i' => if i' < i + 1 then P i' else Sum.inl 0 := by
        funext u
        by_cases q : u = i
        · rw [q, va_up_self, if_pos (by omega)]
        · rw [va_up_ne _ _ q]
          by_cases q2 : u < i
          · rw [if_pos q2, if_pos (by omega)]
          · rw [if_neg q2, if_neg (by omega)]
      rw [← e]
      exact a
    · rw [w36, w37, pk_un (by omega), pk_un (by omega)]
      exact hr i' hi'
theorem k_drop2 {j : Nat} {K : sm_S → Prop} (hw : wf T b) (y : RMg μ T b k lim md cy rch n N (f :: r) fl st th nd bg nt us s) (hj : j ≤ f.2.2.1) (hK : ∀ μ', RMg μ' T b k lim md cy rch n N ((f.1, f.2.1, f.2.2.1 - j, f.2.2.2) :: r) fl st th nd bg nt us s → stM μ μ' → (∀ r', r' ≠ 35 → μ'.2.2.2.1 r' = μ.2.2.2.1 r') → K μ') : mp_X12_drop μ (nI j) K := by
  obtain ⟨t, f1, f2, f3, f4, f5, f6, f7⟩ := y.ti hw
  have t3 := t.2.2.1
  have t4 := t.2.2.2.1
  unfold mp_X12_drop
  rw [t3, nI_pred, nI_clamp (by omega), f5, nI_sub hj]
  refine ⟨by rw [lr35 t.2.1]; exact vp_in_nI t4 (by decide), by rw [lr35 t.2.1]; exact vp_in_nI t4 (by decide), ?_⟩
  intro s3 e3
  have hf : fr Ino (Atf r.length) μ s3 := by rw [e3]; exact fr_r.u rfl (by unfold Atf; omega)
  have o : ∀ r', r' ≠ 35 → s3.2.2.2.1 r' = μ.2.2.2.1 r' := fun r' h => by rw [e3]; exact va_up_ne _ _ h
  have r35 : s3.2.2.2.1 35 r.length = nI (f.2.2.1 - j) := by
    have : s3.2.2.2.1 35 = upd (μ.2.2.2.1 35) r.length (nI (f.2.2.1 - j)) := by rw [e3]; rfl
    rw [this, pk_us]
  obtain ⟨a, c⟩ := y.tf (f' := (f.1, f.2.1, f.2.2.1 - j, f.2.2.2)) hw hf ⟨by rw [o 33 (by decide)]; exact f1, f2, by rw [o 34 (by decide)]; exact f3, f4, r35, by show f.2.2.1 - j ≤ T 16 f.1; omega, fun i hi => by
    rw [o 36 (by decide), o 37 (by decide)]
    exact f7 i (by have hi : i < T 15 f.1 + (f.2.2.1 - j) := hi; omega)⟩
  exact hK s3 a c o
theorem k_call {m' : Nat} (hw : wf T b) (y : RMg μ T b k lim md cy rch n N (f :: r) 0 1 th nd bg nt us s) (hsb : s ≤ sb) (S : stp T h k lim md rch n N (f :: r) ids sb) (hfl : (f :: r).length < 7600) (hm' : m' < T 0 1) (hp : T 12 m' ≤ f.2.2.1)
    (h0 : rch ≤ k * md → lim < rch → mNO μ K T b k lim md cy rch n N (f :: r) sb)
    (hK : ¬ (rch ≤ k * md ∧ lim < rch) → mOK μ K T b k lim (mm k lim md rch 16) (mcy k lim md rch cy 16) (mr T N (f :: r) ids k lim md rch 16) n N (cfr T f m' :: cbl T f m' :: r) 0 1 sb) : mp_X12_call μ (nI m') (fun r s => sm_z r ∧ K r s) := by
  obtain ⟨S1, S2, S3, S4, S5⟩ := S
  have w4 := hw.2.2.2.1
  have w8 := (hw.2.2.2.2.2.2.2.2.1 m' hm').2.1
  unfold mp_X12_call
  rw [l_16]
  refine k_mk hw y S4 S2 (by omega) (by omega) S1 (fun a1 a2 => ⟨fun z => absurd rfl z, fun _ => k_no y (by omega) stM_r (h0 a1 a2).z⟩) (fun ns μ1 s1 y1 hs1 sm1 => ⟨fun _ => ?_, fun z => absurd z (by decide)⟩)
  obtain ⟨t, f1, f2, f3, f4, f5, f6, f7⟩ := y1.ti hw
  have t4 := t.2.2.2.1
  have r12 := (t.1.2.2.2.2.2.2.2 m' hm').2.1
  rw [nI_clamp (by omega), r12]
  refine ⟨by rw [show μ1.2.2.1 12 = 64 from t.1.2.1.2.2.2.2.2.2.2.2.1]; exact vp_in_nI (by omega) (by decide), ?_⟩
  intro v8 e8
  rw [e8]
  refine k_undN hw t (by omega) (fun x hx => ?_)
  have t8 := t.2.2.2.2.2.2.2
  refine k_drop2 (j := T 12 m') hw y1 hp (fun μ2 y2 sm2 o2 => ?_)
  refine k_entM hw y2 hm' hfl (fun μ3 y3 sm3 o3 => ?_)
  have hl : (f :: r).length = r.length + 1 := rfl
  have e : (fun i' => if i' < 0 then f.2.2.2 (T 15 f.1 + (f.2.2.1 - T 12 m') + i') else (Sum.inl 0 : AV)) = fun _ => Sum.inl 0 := by
    funext u
    rw [if_neg (Nat.not_lt_zero u)]
  rw [← e] at y3
  refine ⟨T 12 m' + 1, ?_⟩
  refine l_c45 (μ0 := μ) (from' := 12 * r.length + (T 15 f.1 + f.2.2.1 - T 12 m')) (P := fun i => f.2.2.2 (T 15 f.1 + (f.2.2.1 - T 12 m') + i)) hw hm' ?_ ?_ ?_ (T 12 m') 0 μ3 (Nat.zero_add _) y3 (sm1.t (sm2.t sm3)) ?_ hx
  · show _ ≤ 12 * (r.length + 1)
    omega
  · intro i hi k' e
    exact (f7 _ (by omega)).2.2 k' e
  · intro μ4 y4 sm4
    exact ⟨sm_z1, hK ns μ4 ⟨_, _, _, _, _, _, y4, by omega⟩ sm4⟩
  · intro i' hi'
    obtain ⟨v1, v2, -⟩ := f7 (T 15 f.1 + (f.2.2.1 - T 12 m') + i') (by omega)
    have ee : 12 * r.length + (T 15 f.1 + f.2.2.1 - T 12 m') + i' = 12 * r.length + (T 15 f.1 + (f.2.2.1 - T 12 m') + i') := by omega
    rw [ee, o3 36 _ (Or.inl rfl) (by show _ < 12 * (r.length + 1); omega), o3 37 _ (Or.inr rfl) (by show _ < 12 * (r.length + 1); omega), o2 36 (by decide), o2 37 (by decide)]
    exact ⟨v1, v2⟩
end
