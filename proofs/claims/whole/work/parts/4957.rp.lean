/-! ===== the top frame of the reference ===== -/
def Atf (g r j : Nat) : Prop := ((r = 34 ∨ r = 35) ∧ j = g) ∨ ((r = 36 ∨ r = 37) ∧ 12 * g ≤ j ∧ j < 12 * g + 12)
theorem nbi (v : AV) : vp_nar .boolean (iM v) = iM v := by
  cases v with
  | inl x => show vp_nar .boolean (0 : Int32) = 0; decide
  | inr q => show vp_nar .boolean (1 : Int32) = 1; decide
section
variable {μ μ' : sm_S} {T : Nat → Nat → Nat} {b : Nat → Nat} {k lim md cy rch n : Nat} {N : Nat → AN} {f f' : AF} {r fs : List AF} {fl st : Nat} {th nd bg : Nat → Nat} {nt us s : Nat} {K : jk}
theorem fsM_lo : ∀ (fs : List AF) (m : Nat), fs.length ≤ m → fsM μ T th nd nt fs → (∀ f g, fM1 μ T th nd nt g f → T 15 f.1 + f.2.2.1 ≤ 12) → (∀ r, 33 ≤ r → r ≤ 35 → ∀ g, g < m → μ'.2.2.2.1 r g = μ.2.2.2.1 r g) → (∀ r, r = 36 ∨ r = 37 → ∀ p, p < 12 * m → μ'.2.2.2.1 r p = μ.2.2.2.1 r p) → fsM μ' T th nd nt fs := by
  intro fs
  induction fs with
  | nil => intro _ _ _ _ _ _; trivial
  | cons f r ih =>
    intro m hm hf h12 e1 e2
    have hm : r.length + 1 ≤ m := hm
    refine ⟨?_, ih m (by omega) hf.2 h12 e1 e2⟩
    have b12 := h12 f _ hf.1
    obtain ⟨f1, f2, f3, f4, f5, f6, f7⟩ := hf.1
    refine ⟨by rw [e1 33 (by omega) (by omega) _ (by omega)]; exact f1, f2, by rw [e1 34 (by omega) (by omega) _ (by omega)]; exact f3, f4, by rw [e1 35 (by omega) (by omega) _ (by omega)]; exact f5, f6, fun i hi => ?_⟩
    rw [e2 36 (Or.inl rfl) _ (by omega), e2 37 (Or.inr rfl) _ (by omega)]
    exact f7 i hi
theorem fM1_12 (hw : wf T b) {g : Nat} (h : fM1 μ T th nd nt g f) : T 15 f.1 + f.2.2.1 ≤ 12 := by
  have := (hw.2.2.2.2.2.2.2.2.1 f.1 h.2.1).2.2.2.2.2.2.1
  have := h.2.2.2.2.2.1
  omega
/-- the top frame has changed -/
theorem RMg.tf (hw : wf T b) (y : RMg μ T b k lim md cy rch n N (f :: r) fl st th nd bg nt us s) (hfr : fr Ino (Atf r.length) μ μ') (h1 : fM1 μ' T th nd nt r.length f') : RMg μ' T b k lim md cy rch n N (f' :: r) fl st th nd bg nt us s ∧ stM μ μ' := by
  obtain ⟨⟨im, ln, ⟨i11, hnt, i13, hus, i14, hfl⟩, hth, hfs⟩, y2, y3, y4, y5⟩ := y
  have sm : stM μ μ' := hfr.sM (fun k q => q.elim) (fun r j q => by unfold Atf at q; omega)
  have ni : ∀ kk, μ'.1 kk = μ.1 kk := fun kk => hfr.2.2.2.1 kk (fun z => z)
  have row : ∀ r', r' ≤ 33 → μ'.2.2.2.1 r' = μ.2.2.2.1 r' := fun r' h => hfr.row (fun j => by unfold Atf; omega)
  refine ⟨⟨⟨sm.im im, sm.ln ln, ⟨by rw [ni]; exact i11, hnt, by rw [ni]; exact i13, hus, by rw [ni]; exact i14, hfl⟩, ⟨hth.1, hth.2.1, fun t ht => ?_⟩, ⟨h1, ?_⟩⟩, ⟨by rw [ni]; exact y2.1, fun t ht => by rw [row 30 (by decide)]; exact y2.2 t ht⟩, by rw [ni]; exact y3, ⟨by rw [ni]; exact y4.1, by rw [ni]; exact y4.2.1, by rw [ni]; exact y4.2.2.1, by rw [hfr.1]; exact y4.2.2.2.1, by rw [ni]; exact y4.2.2.2.2.1, by rw [ni]; exact y4.2.2.2.2.2⟩, by rw [ni, ni]; exact y5⟩, sm⟩
  · obtain ⟨q1, q2, q3, q4, q5⟩ := hth.2.2 t ht
    exact ⟨q1, q2, q3, thg_c q4 (fun r h1 h2 h3 => row r (by omega)), q5⟩
  · refine fsM_lo (μ := μ) r r.length (Nat.le_refl _) hfs.2 (fun f g h => fM1_12 hw h) (fun r' h1 h2 g hg => hfr.2.2.2.2 r' g (by unfold Atf; omega)) (fun r' h1 p hp => hfr.2.2.2.2 r' p (by unfold Atf; omega))
/-- what is known of the top frame within an instruction -/
def TI (μ : sm_S) (T : Nat → Nat → Nat) (b : Nat → Nat) (g m ht : Nat) : Prop := imM μ T b ∧ lnR μ ∧ μ.1 14 = nI (g + 1) ∧ g < 7600 ∧ μ.2.2.2.1 33 g = nI m ∧ m < T 0 1 ∧ μ.2.2.2.1 35 g = nI ht ∧ T 15 m + ht ≤ 12
theorem RMg.ti (hw : wf T b) (y : RMg μ T b k lim md cy rch n N (f :: r) fl st th nd bg nt us s) : TI μ T b r.length f.1 f.2.2.1 ∧ fM1 μ T th nd nt r.length f := by
  obtain ⟨⟨im, ln, ⟨i11, hnt, i13, hus, i14, hfl⟩, hth, hfs⟩, -⟩ := y
  have hfl : r.length + 1 ≤ 7600 := hfl
  have f1 := hfs.1
  exact ⟨⟨im, ln, i14, by omega, f1.1, f1.2.1, f1.2.2.2.2.1, fM1_12 hw f1⟩, f1⟩
theorem TI.x {g m ht ht' : Nat} (t : TI μ T b g m ht) (hfr : fr Ino (Atf g) μ μ') (h35 : μ'.2.2.2.1 35 g = nI ht') (hh : T 15 m + ht' ≤ 12) : TI μ' T b g m ht' := by
  obtain ⟨t1, t2, t3, t4, t5, t6, t7, t8⟩ := t
  have sm : stM μ μ' := hfr.sM (fun k q => q.elim) (fun r j q => by unfold Atf at q; omega)
  exact ⟨sm.im t1, sm.ln t2, by rw [hfr.2.2.2.1 14 (fun z => z)]; exact t3, t4, by rw [hfr.2.2.2.2 33 g (by unfold Atf; omega)]; exact t5, t6, h35, hh⟩
theorem k_met {g m ht : Nat} (hw : wf T b) (t : TI μ T b g m ht) (hK : K (nI m) μ) : mp_X12_method μ K := by
  obtain ⟨t1, t2, t3, t4, t5, t6, t7, t8⟩ := t
  unfold mp_X12_method
  rw [t3, nI_pred, nI_clamp (by omega), t5]
  exact ⟨by rw [lr33 t2]; exact vp_in_nI t4 (by decide), hK⟩
theorem k_und {g m ht j : Nat} (hw : wf T b) (t : TI μ T b g m ht) (hj : j + 1 ≤ T 15 m + ht) (hK : K (nI (12 * g + (T 15 m + ht - 1 - j))) μ) : mp_X12_under μ (nI j) K := by
  have t' := t
  have w4 := hw.2.2.2.1
  obtain ⟨t1, t2, t3, t4, t5, t6, t7, t8⟩ := t'
  unfold mp_X12_under
  refine k_met hw t ?_
  have r15 := (t1.2.2.2.2.2.2.2 m t6).2.2.2.2.1
  rw [t3, nI_pred, nI_clamp (by omega), nI_clamp (by omega), r15, t7, l_12, pk_mul, nI_add, nI_add, nI_sub1 (by omega), nI_sub (by omega), show 12 * g + T 15 m + ht - 1 - j = 12 * g + (T 15 m + ht - 1 - j) by omega]
  exact ⟨by rw [show μ.2.2.1 15 = 64 from t1.2.1.2.2.2.2.2.2.2.2.2.2.2.1]; exact vp_in_nI (by omega) (by decide), by rw [lr35 t2]; exact vp_in_nI t4 (by decide), hK⟩
theorem k_val {j : Nat} (hw : wf T b) (y : RMg μ T b k lim md cy rch n N (f :: r) fl st th nd bg nt us s) (hj : j + 1 ≤ f.2.2.1) (hK : K (vM th (f.2.2.2 (T 15 f.1 + f.2.2.1 - 1 - j))) μ) : mp_X12_value μ (nI j) K := by
  obtain ⟨t, f1⟩ := y.ti hw
  unfold mp_X12_value
  refine k_und hw t (by omega) ?_
  have t8 := t.2.2.2.2.2.2.2
  have t4 := t.2.2.2.1
  rw [nI_clamp (by omega), (f1.2.2.2.2.2.2 _ (by omega)).1]
  exact ⟨by rw [lr36 t.2.1]; exact vp_in_nI (by omega) (by decide), hK⟩
theorem k_drop {j : Nat} {K : sm_S → Prop} (hw : wf T b) (y : RMg μ T b k lim md cy rch n N (f :: r) fl st th nd bg nt us s) (hj : j ≤ f.2.2.1) (hK : ∀ μ', RMg μ' T b k lim md cy rch n N ((f.1, f.2.1, f.2.2.1 - j, f.2.2.2) :: r) fl st th nd bg nt us s → stM μ μ' → K μ') : mp_X12_drop μ (nI j) K := by
  obtain ⟨t, f1, f2, f3, f4, f5, f6, f7⟩ := y.ti hw
  have t3 := t.2.2.1
  have t4 := t.2.2.2.1
  unfold mp_X12_drop
  rw [t3, nI_pred, nI_clamp (by omega), f5, nI_sub hj]
  refine ⟨by rw [lr35 t.2.1]; exact vp_in_nI t4 (by decide), by rw [lr35 t.2.1]; exact vp_in_nI t4 (by decide), ?_⟩
  intro s3 e3
  have hf : fr Ino (Atf r.length) μ s3 := by rw [e3]; exact fr_r.u rfl (by unfold Atf; omega)
  have o : ∀ r', r' ≠ 35 → s3.2.2.2.1 r' = μ.2.2.2.1 r' := fun r' h => by rw [e3]; exact va_up_ne _ _ h
  have r35 : s3.2.2.2.1 35 r.length = nI (f.2.2.1 - j) := by
    have : s3.2.2.2.1 35 = upd (μ.2.2.2.1 35) r.length (nI (f.2.2.1 - j)) := by rw [e3]; rfl
    rw [this, pk_us]
  obtain ⟨a, c⟩ := y.tf (f' := (f.1, f.2.1, f.2.2.1 - j, f.2.2.2)) hw hf ⟨by rw [o 33 (by decide)]; exact f1, f2, by rw [o 34 (by decide)]; exact f3, f4, r35, by show f.2.2.1 - j ≤ T 16 f.1; omega, fun i hi => by
    rw [o 36 (by decide), o 37 (by decide)]
    exact f7 i (by have hi : i < T 15 f.1 + (f.2.2.1 - j) := hi; omega)⟩
  exact hK s3 a c
/-- one value more on the stack: both ways of putting -/
theorem k_pp {w v : Int32} {vv : AV} {K : sm_S → Prop} (hw : wf T b) (y : RMg μ T b k lim md cy rch n N (f :: r) fl st th nd bg nt us s) (hh : f.2.2.1 < T 16 f.1) (hv : v = vM th vv) (hi : w = iM vv) (hin : ∀ q, vv = .inr (q + 1) → inT th nd nt q) (hK : ∀ μ', RMg μ' T b k lim md cy rch n N ((f.1, f.2.1, f.2.2.1 + 1, va_up f.2.2.2 (T 15 f.1 + f.2.2.1) vv) :: r) fl st th nd bg nt us s → stM μ μ' → K μ') : vp_in ((μ.1 14) - 1) (μ.2.2.1 35) ∧ vp_in ((μ.1 14) - 1) (μ.2.2.1 35) ∧ ∀ σ3 : sm_S, σ3 = sm_r μ 35 (upd (μ.2.2.2.1 35) ((μ.1 14) - 1).toNatClampNeg (((μ.2.2.2.1 35) ((μ.1 14) - 1).toNatClampNeg) + 1)) → mp_X12_under σ3 0 (fun r5 σ4 => vp_in r5 (σ4.2.2.1 36) ∧ ∀ σ7 : sm_S, σ7 = sm_r σ4 36 (upd (σ4.2.2.2.1 36) r5.toNatClampNeg v) → mp_X12_under σ7 0 (fun r9 σ8 => vp_in r9 (σ8.2.2.1 37) ∧ ∀ σ11 : sm_S, σ11 = sm_r σ8 37 (upd (σ8.2.2.2.1 37) r9.toNatClampNeg w) → K σ11)) := by
  obtain ⟨t, f1, f2, f3, f4, f5, f6, f7⟩ := y.ti hw
  have t3 := t.2.2.1
  have t4 := t.2.2.2.1
  have h12 := (hw.2.2.2.2.2.2.2.2.1 f.1 f2).2.2.2.2.2.2.1
  rw [t3, nI_pred, nI_clamp (by omega), f5, nI_1]
  refine ⟨by rw [lr35 t.2.1]; exact vp_in_nI t4 (by decide), by rw [lr35 t.2.1]; exact vp_in_nI t4 (by decide), ?_⟩
  intro s3 e3
  have g3 : fr Ino (Atf r.length) μ s3 := by rw [e3]; exact fr_r.u rfl (by unfold Atf; omega)
  have r35 : s3.2.2.2.1 35 = upd (μ.2.2.2.1 35) r.length (nI (f.2.2.1 + 1)) := by rw [e3]; rfl
  have t3' := t.x g3 (ht' := f.2.2.1 + 1) (by rw [r35, pk_us]) (by omega)
  refine k_und (j := 0) hw t3' (by omega) ?_
  rw [show T 15 f.1 + (f.2.2.1 + 1) - 1 - 0 = T 15 f.1 + f.2.2.1 by omega, nI_clamp (by omega)]
  refine ⟨by rw [lr36 t3'.2.1]; exact vp_in_nI (by omega) (by decide), ?_⟩
  intro s7 e7
  have g7 : fr Ino (Atf r.length) μ s7 := by rw [e7]; exact g3.u rfl (by unfold Atf; omega)
  have q35 : s7.2.2.2.1 35 = s3.2.2.2.1 35 := by rw [e7]; rfl
  have t7' := t.x g7 (ht' := f.2.2.1 + 1) (by rw [q35, r35, pk_us]) (by omega)
  refine k_und (j := 0) hw t7' (by omega) ?_
  rw [show T 15 f.1 + (f.2.2.1 + 1) - 1 - 0 = T 15 f.1 + f.2.2.1 by omega, nI_clamp (by omega)]
  refine ⟨by rw [lr37 t7'.2.1]; exact vp_in_nI (by omega) (by decide), ?_⟩
  intro s11 e11
  have g11 : fr Ino (Atf r.length) μ s11 := by rw [e11]; exact g7.u rfl (by unfold Atf; omega)
  have w35 : s11.2.2.2.1 35 r.length = nI (f.2.2.1 + 1) := by rw [e11]; show s7.2.2.2.1 35 r.length = _; rw [q35, r35, pk_us]
  have w36 : s11.2.2.2.1 36 = upd (μ.2.2.2.1 36) (12 * r.length + (T 15 f.1 + f.2.2.1)) v := by rw [e11, e7, e3]; rfl
  have w37 : s11.2.2.2.1 37 = upd (μ.2.2.2.1 37) (12 * r.length + (T 15 f.1 + f.2.2.1)) w := by rw [e11, e7, e3]; rfl
  obtain ⟨a, c⟩ := y.tf (f' := (f.1, f.2.1, f.2.2.1 + 1, va_up f.2.2.2 (T 15 f.1 + f.2.2.1) vv)) hw g11 ⟨by rw [g11.2.2.2.2 33 _ (by unfold Atf; omega)]; exact f1, f2, by rw [e11, e7, e3]; exact f3, f4, w35, by show f.2.2.1 + 1 ≤ T 16 f.1; omega, fun i hi' => by
    have hi' : i < T 15 f.1 + (f.2.2.1 + 1) := hi'
    show _ = vM th (va_up f.2.2.2 (T 15 f.1 + f.2.2.1) vv i) ∧ _ = iM (va_up f.2.2.2 (T 15 f.1 + f.2.2.1) vv i) ∧ ∀ k, va_up f.2.2.2 (T 15 f.1 + f.2.2.1) vv i = .inr (k + 1) → _
    rw [w36, w37]
    by_cases e : i = T 15 f.1 + f.2.2.1
    · rw [e, pk_us, pk_us, va_up_self]
      exact ⟨hv, hi, hin⟩
    · rw [pk_un (by omega), pk_un (by omega), va_up_ne _ _ e]
      exact f7 i (by omega)⟩
  exact hK s11 a c
theorem k_putI {v : Int32} {K : sm_S → Prop} (hw : wf T b) (y : RMg μ T b k lim md cy rch n N (f :: r) fl st th nd bg nt us s) (hh : f.2.2.1 < T 16 f.1) (hK : ∀ μ', RMg μ' T b k lim md cy rch n N ((f.1, f.2.1, f.2.2.1 + 1, va_up f.2.2.2 (T 15 f.1 + f.2.2.1) (.inl v)) :: r) fl st th nd bg nt us s → stM μ μ' → K μ') : mp_X12_putInt μ v K := k_pp hw y hh rfl rfl (fun q e => by cases e) hK
theorem k_putT {v : Nat} {K : sm_S → Prop} (hw : wf T b) (y : RMg μ T b k lim md cy rch n N (f :: r) fl st th nd bg nt us s) (hh : f.2.2.1 < T 16 f.1) (hin : ∀ q, v = q + 1 → inT th nd nt q) (hK : ∀ μ', RMg μ' T b k lim md cy rch n N ((f.1, f.2.1, f.2.2.1 + 1, va_up f.2.2.2 (T 15 f.1 + f.2.2.1) (.inr v)) :: r) fl st th nd bg nt us s → stM μ μ' → K μ') : mp_X12_putThing μ (vM th (.inr v)) K := k_pp hw y hh rfl rfl (fun q e => by cases e; exact hin q rfl) hK
/-- the place -/
theorem k_pc {pc' : Nat} (hw : wf T b) (y : RMg μ T b k lim md cy rch n N (f :: r) fl st th nd bg nt us s) (hp : pc' < 2 ^ 16) : RMg (sm_r μ 34 (upd (μ.2.2.2.1 34) r.length (nI pc'))) T b k lim md cy rch n N ((f.1, pc', f.2.2.1, f.2.2.2) :: r) fl st th nd bg nt us s ∧ stM μ (sm_r μ 34 (upd (μ.2.2.2.1 34) r.length (nI pc'))) := by
  obtain ⟨t, f1, f2, f3, f4, f5, f6, f7⟩ := y.ti hw
  have g : fr Ino (Atf r.length) μ (sm_r μ 34 (upd (μ.2.2.2.1 34) r.length (nI pc'))) := fr_r.u rfl (by unfold Atf; omega)
  exact y.tf (f' := (f.1, pc', f.2.2.1, f.2.2.2)) hw g ⟨f1, f2, pk_us, hp, f5, f6, f7⟩
theorem k_on {p : Nat} {K : sm_S → Prop} (hw : wf T b) (y : RMg μ T b k lim md cy rch n N (f :: r) fl st th nd bg nt us s) (hp : p < T 0 4) (ho : b p < 42) (hpc : f.2.1 + wd (b p) < 2 ^ 16) (hK : ∀ μ', RMg μ' T b k lim md cy rch n N ((f.1, f.2.1 + wd (b p), f.2.2.1, f.2.2.2) :: r) fl st th nd bg nt us s → stM μ μ' → K μ') : mp_X12_onward μ (nI p) K := by
  obtain ⟨t, f1, f2, f3, f4, f5, f6, f7⟩ := y.ti hw
  have w8 := hw.2.2.2.2.1
  have t3 := t.2.2.1
  have t4 := t.2.2.2.1
  have im := t.1
  unfold mp_X12_onward
  rw [t3, nI_pred, nI_clamp (by omega), nI_clamp (by omega), im.1.2.2.2.2 p hp, f3]
  refine ⟨by rw [lr34 t.2.1]; exact vp_in_nI t4 (by decide), by rw [im.1.2.2.1]; exact vp_in_nI (by omega) (by decide), ?_⟩
  refine w_wide ho ?_
  rw [nI_add]
  refine ⟨by rw [lr34 t.2.1]; exact vp_in_nI t4 (by decide), ?_⟩
  intro s6 e6
  obtain ⟨a, c⟩ := k_pc (pc' := f.2.1 + wd (b p)) hw y hpc
  rw [← e6] at a c
  exact hK s6 a c
/-- a value copied within the top frame -/
theorem k_copy {i j : Nat} {K : sm_S → Prop} (hw : wf T b) (y : RMg μ T b k lim md cy rch n N (f :: r) fl st th nd bg nt us s) (hi : i < T 15 f.1 + f.2.2.1) (hj : j < T 15 f.1 + f.2.2.1) (hK : ∀ μ', RMg μ' T b k lim md cy rch n N ((f.1, f.2.1, f.2.2.1, va_up f.2.2.2 j (f.2.2.2 i)) :: r) fl st th nd bg nt us s → stM μ μ' → K μ') : mp_X12_copy μ (nI (12 * r.length + i)) (nI (12 * r.length + j)) K := by
  obtain ⟨t, f1, f2, f3, f4, f5, f6, f7⟩ := y.ti hw
  have t4 := t.2.2.2.1
  have t8 := t.2.2.2.2.2.2.2
  obtain ⟨v1, v2, v3⟩ := f7 i hi
  have bnar := nbi (f.2.2.2 i)
  unfold mp_X12_copy
  rw [nI_clamp (by omega), nI_clamp (by omega), v1]
  refine ⟨by rw [lr36 t.2.1]; exact vp_in_nI (by omega) (by decide), by rw [lr36 t.2.1]; exact vp_in_nI (by omega) (by decide), ?_⟩
  intro s3 e3
  have q37 : s3.2.2.2.1 37 = μ.2.2.2.1 37 := by rw [e3]; rfl
  rw [q37, v2, bnar]
  refine ⟨by rw [e3]; show vp_in _ (μ.2.2.1 37); rw [lr37 t.2.1]; exact vp_in_nI (by omega) (by decide), by rw [e3]; show vp_in _ (μ.2.2.1 37); rw [lr37 t.2.1]; exact vp_in_nI (by omega) (by decide), ?_⟩
  intro s6 e6
  have g : fr Ino (Atf r.length) μ s6 := by rw [e6, e3]; exact (fr_r.u rfl (by unfold Atf; omega)).u rfl (by unfold Atf; omega)
  have w36 : s6.2.2.2.1 36 = upd (μ.2.2.2.1 36) (12 * r.length + j) (vM th (f.2.2.2 i)) := by rw [e6, e3]; rfl
  have w37 : s6.2.2.2.1 37 = upd (μ.2.2.2.1 37) (12 * r.length + j) (iM (f.2.2.2 i)) := by rw [e6, e3]; rfl
  obtain ⟨a, c⟩ := y.tf (f' := (f.1, f.2.1, f.2.2.1, va_up f.2.2.2 j (f.2.2.2 i))) hw g ⟨by rw [e6, e3]; exact f1, f2, by rw [e6, e3]; exact f3, f4, by rw [e6, e3]; exact f5, f6, fun l hl => by
    have hl : l < T 15 f.1 + f.2.2.1 := hl
    show _ = vM th (va_up f.2.2.2 j (f.2.2.2 i) l) ∧ _ = iM (va_up f.2.2.2 j (f.2.2.2 i) l) ∧ ∀ k, va_up f.2.2.2 j (f.2.2.2 i) l = .inr (k + 1) → _
    rw [w36, w37]
    by_cases e : l = j
    · rw [e, pk_us, pk_us, va_up_self]
      exact ⟨rfl, rfl, v3⟩
    · rw [pk_un (by omega), pk_un (by omega), va_up_ne _ _ e]
      exact f7 l hl⟩
  exact hK s6 a c
end
