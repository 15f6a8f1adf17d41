/-! ===== simple instructions: the reference ===== -/
theorem va_cm {α : Type} (f : Nat → α) {i j : Nat} (a c : α) (h : i ≠ j) : va_up (va_up f i a) j c = va_up (va_up f j c) i a := by
  funext x
  by_cases e1 : x = i
  · rw [e1, va_up_ne _ _ h, va_up_self, va_up_self]
  · by_cases e2 : x = j
    · rw [e2, va_up_self, va_up_ne _ _ (fun e => h e.symm), va_up_self]
    · rw [va_up_ne _ _ e2, va_up_ne _ _ e1, va_up_ne _ _ e1, va_up_ne _ _ e2]
theorem an31 (c : Int32) : (c &&& 31) &&& 31 = c &&& 31 := by rw [Int32.and_assoc]; rfl
theorem an31u (c : Int32) : (c &&& 31).toUInt32 &&& Int32.toUInt32 31 = c.toUInt32 &&& Int32.toUInt32 31 := by
  show (c.toUInt32 &&& Int32.toUInt32 31) &&& Int32.toUInt32 31 = _
  rw [UInt32.and_assoc]; rfl
theorem w_rkM {μ : sm_S} {op : Nat} {a c : Int32} {K : jk} (h1 : 7 ≤ op) (h2 : op ≤ 17) (h0 : ¬ ((op = 10 ∨ op = 11) ∧ c = 0)) (hK : K (rk2 op a c) μ) : mp_X12_reckon μ (nI op) a c K := by
  have h3 : op = 7 ∨ op = 8 ∨ op = 9 ∨ op = 10 ∨ op = 11 ∨ op = 12 ∨ op = 13 ∨ op = 14 ∨ op = 15 ∨ op = 16 ∨ op = 17 := by omega
  unfold mp_X12_reckon
  rw [an31, an31u]
  rcases h3 with e | e | e | e | e | e | e | e | e | e | e <;> subst e
  · exact ⟨fun _ => hK, fun q => absurd q (by decide), fun q => absurd q (by decide), fun q => absurd q (by decide), fun q => absurd q (by decide), fun q => absurd q (by decide), fun q => absurd q (by decide), fun q => absurd q (by decide), fun q => absurd q (by decide), fun q => absurd q (by decide), fun q => absurd rfl q⟩
  · exact ⟨fun q => absurd q (by decide), fun _ => hK, fun q => absurd q (by decide), fun q => absurd q (by decide), fun q => absurd q (by decide), fun q => absurd q (by decide), fun q => absurd q (by decide), fun q => absurd q (by decide), fun q => absurd q (by decide), fun q => absurd q (by decide), fun _ q => absurd rfl q⟩
  · exact ⟨fun q => absurd q (by decide), fun q => absurd q (by decide), fun _ => hK, fun q => absurd q (by decide), fun q => absurd q (by decide), fun q => absurd q (by decide), fun q => absurd q (by decide), fun q => absurd q (by decide), fun q => absurd q (by decide), fun q => absurd q (by decide), fun _ _ q => absurd rfl q⟩
  · exact ⟨fun q => absurd q (by decide), fun q => absurd q (by decide), fun q => absurd q (by decide), fun _ => ⟨fun q => h0 ⟨Or.inl rfl, q⟩, hK⟩, fun q => absurd q (by decide), fun q => absurd q (by decide), fun q => absurd q (by decide), fun q => absurd q (by decide), fun q => absurd q (by decide), fun q => absurd q (by decide), fun _ _ _ q => absurd rfl q⟩
  · exact ⟨fun q => absurd q (by decide), fun q => absurd q (by decide), fun q => absurd q (by decide), fun q => absurd q (by decide), fun _ => ⟨fun q => h0 ⟨Or.inr rfl, q⟩, hK⟩, fun q => absurd q (by decide), fun q => absurd q (by decide), fun q => absurd q (by decide), fun q => absurd q (by decide), fun q => absurd q (by decide), fun _ _ _ _ q => absurd rfl q⟩
  · exact ⟨fun q => absurd q (by decide), fun q => absurd q (by decide), fun q => absurd q (by decide), fun q => absurd q (by decide), fun q => absurd q (by decide), fun _ => hK, fun q => absurd q (by decide), fun q => absurd q (by decide), fun q => absurd q (by decide), fun q => absurd q (by decide), fun _ _ _ _ _ q => absurd rfl q⟩
  · exact ⟨fun q => absurd q (by decide), fun q => absurd q (by decide), fun q => absurd q (by decide), fun q => absurd q (by decide), fun q => absurd q (by decide), fun q => absurd q (by decide), fun _ => hK, fun q => absurd q (by decide), fun q => absurd q (by decide), fun q => absurd q (by decide), fun _ _ _ _ _ _ q => absurd rfl q⟩
  · exact ⟨fun q => absurd q (by decide), fun q => absurd q (by decide), fun q => absurd q (by decide), fun q => absurd q (by decide), fun q => absurd q (by decide), fun q => absurd q (by decide), fun q => absurd q (by decide), fun _ => hK, fun q => absurd q (by decide), fun q => absurd q (by decide), fun _ _ _ _ _ _ _ q => absurd rfl q⟩
  · exact ⟨fun q => absurd q (by decide), fun q => absurd q (by decide), fun q => absurd q (by decide), fun q => absurd q (by decide), fun q => absurd q (by decide), fun q => absurd q (by decide), fun q => absurd q (by decide), fun q => absurd q (by decide), fun _ => hK, fun q => absurd q (by decide), fun _ _ _ _ _ _ _ _ q => absurd rfl q⟩
  · exact ⟨fun q => absurd q (by decide), fun q => absurd q (by decide), fun q => absurd q (by decide), fun q => absurd q (by decide), fun q => absurd q (by decide), fun q => absurd q (by decide), fun q => absurd q (by decide), fun q => absurd q (by decide), fun q => absurd q (by decide), fun _ => hK, fun _ _ _ _ _ _ _ _ _ q => absurd rfl q⟩
  · exact ⟨fun q => absurd q (by decide), fun q => absurd q (by decide), fun q => absurd q (by decide), fun q => absurd q (by decide), fun q => absurd q (by decide), fun q => absurd q (by decide), fun q => absurd q (by decide), fun q => absurd q (by decide), fun q => absurd q (by decide), fun q => absurd q (by decide), fun _ _ _ _ _ _ _ _ _ _ => hK⟩
theorem w_cmp {σ : sm_S} {q : Nat} {a c : Int32} {K : jk} (hq : q ≤ 5) (h1 : qst q a c → K 1 σ) (h0 : ¬ qst q a c → K 0 σ) : mp_X12_compares σ (nI q) a c K := by
  have hq : q = 0 ∨ q = 1 ∨ q = 2 ∨ q = 3 ∨ q = 4 ∨ q = 5 := by omega
  unfold mp_X12_compares mp_X12_compares_46 mp_X12_compares_57 mp_X12_compares_68 mp_X12_compares_79 mp_X12_compares_90 mp_X12_compares_101
  rcases hq with e | e | e | e | e | e <;> subst e
  · refine ⟨fun _ => ⟨fun z => ⟨sm_z0, h0 (fun w => ?_)⟩, fun z => ⟨sm_z1, h1 (Or.inl ⟨rfl, z⟩)⟩⟩, fun z => absurd z (by decide), fun z => absurd z (by decide), fun z => absurd z (by decide), fun z => absurd z (by decide), fun z => absurd rfl z⟩
    rcases w with w | w | w | w | w | w
    · exact z w.2
    · omega
    · omega
    · omega
    · omega
    · omega
  · refine ⟨fun z => absurd z (by decide), fun _ => ⟨fun z => ⟨sm_z0, h0 (fun w => ?_)⟩, fun z => ⟨sm_z1, h1 (Or.inr (Or.inl ⟨rfl, z⟩))⟩⟩, fun z => absurd z (by decide), fun z => absurd z (by decide), fun z => absurd z (by decide), fun _ z => absurd rfl z⟩
    rcases w with w | w | w | w | w | w
    · omega
    · exact w.2 z
    · omega
    · omega
    · omega
    · omega
  · refine ⟨fun z => absurd z (by decide), fun z => absurd z (by decide), fun _ => ⟨fun z => ⟨sm_z0, h0 (fun w => ?_)⟩, fun z => ⟨sm_z1, h1 (Or.inr (Or.inr (Or.inl ⟨rfl, z⟩)))⟩⟩, fun z => absurd z (by decide), fun z => absurd z (by decide), fun _ _ z => absurd rfl z⟩
    rcases w with w | w | w | w | w | w
    · omega
    · omega
    · exact w.2 z
    · omega
    · omega
    · omega
  · refine ⟨fun z => absurd z (by decide), fun z => absurd z (by decide), fun z => absurd z (by decide), fun _ => ⟨fun z => ⟨sm_z0, h0 (fun w => ?_)⟩, fun z => ⟨sm_z1, h1 (Or.inr (Or.inr (Or.inr (Or.inl ⟨rfl, z⟩))))⟩⟩, fun z => absurd z (by decide), fun _ _ _ z => absurd rfl z⟩
    rcases w with w | w | w | w | w | w
    · omega
    · omega
    · omega
    · exact w.2 z
    · omega
    · omega
  · refine ⟨fun z => absurd z (by decide), fun z => absurd z (by decide), fun z => absurd z (by decide), fun z => absurd z (by decide), fun _ => ⟨fun z => ⟨sm_z0, h0 (fun w => ?_)⟩, fun z => ⟨sm_z1, h1 (Or.inr (Or.inr (Or.inr (Or.inr (Or.inl ⟨rfl, z⟩)))))⟩⟩, fun _ _ _ _ z => absurd rfl z⟩
    rcases w with w | w | w | w | w | w
    · omega
    · omega
    · omega
    · omega
    · exact w.2 z
    · omega
  · refine ⟨fun z => absurd z (by decide), fun z => absurd z (by decide), fun z => absurd z (by decide), fun z => absurd z (by decide), fun z => absurd z (by decide), fun _ _ _ _ _ => ⟨fun z => ⟨sm_z0, h0 (fun w => ?_)⟩, fun z => ⟨sm_z1, h1 (Or.inr (Or.inr (Or.inr (Or.inr (Or.inr ⟨rfl, z⟩)))))⟩⟩⟩
    rcases w with w | w | w | w | w | w
    · omega
    · omega
    · omega
    · omega
    · omega
    · exact w.2 z

section
variable {μ μ' μ0 : sm_S} {T : Nat → Nat → Nat} {b : Nat → Nat} {h k lim md cy rch n sb : Nat} {N : Nat → AN} {f : AF} {r fs : List AF} {fl st : Nat} {th nd bg : Nat → Nat} {nt us s : Nat} {ids : List Nat} {K : jk}
/-- one value is set -/
theorem RMg.sv {j : Nat} {v : AV} (hw : wf T b) (y : RMg μ T b k lim md cy rch n N (f :: r) fl st th nd bg nt us s) (hj : j < T 15 f.1 + f.2.2.1) (hin : ∀ q, v = .inr (q + 1) → inT th nd nt q) (g : fr Ino (Atf r.length) μ μ') (w33 : μ'.2.2.2.1 33 = μ.2.2.2.1 33) (w34 : μ'.2.2.2.1 34 = μ.2.2.2.1 34) (w35 : μ'.2.2.2.1 35 = μ.2.2.2.1 35) (w36 : μ'.2.2.2.1 36 = upd (μ.2.2.2.1 36) (12 * r.length + j) (vM th v)) (w37 : ∀ p, μ'.2.2.2.1 37 p = upd (μ.2.2.2.1 37) (12 * r.length + j) (iM v) p) : RMg μ' T b k lim md cy rch n N ((f.1, f.2.1, f.2.2.1, va_up f.2.2.2 j v) :: r) fl st th nd bg nt us s ∧ stM μ μ' := by
  obtain ⟨t, f1, f2, f3, f4, f5, f6, f7⟩ := y.ti hw
  refine y.tf (f' := (f.1, f.2.1, f.2.2.1, va_up f.2.2.2 j v)) hw g ⟨by rw [w33]; exact f1, f2, by rw [w34]; exact f3, f4, by rw [w35]; exact f5, f6, fun l hl => ?_⟩
  have hl : l < T 15 f.1 + f.2.2.1 := hl
  show _ = vM th (va_up f.2.2.2 j v l) ∧ _ = iM (va_up f.2.2.2 j v l) ∧ ∀ k, va_up f.2.2.2 j v l = .inr (k + 1) → _
  rw [w36, w37]
  by_cases e : l = j
  · rw [e, pk_us, pk_us, va_up_self]
    exact ⟨rfl, rfl, hin⟩
  · rw [pk_un (by omega), pk_un (by omega), va_up_ne _ _ e]
    exact f7 l hl
/-- a value copied to the top -/
theorem k_cpT {i : Nat} {s2 : sm_S} {K : sm_S → Prop} (hw : wf T b) (y : RMg μ T b k lim md cy rch n N (f :: r) fl st th nd bg nt us s) (hh : f.2.2.1 < T 16 f.1) (hi : i < T 15 f.1 + f.2.2.1) (e2 : s2 = sm_r μ 35 (upd (μ.2.2.2.1 35) r.length (nI (f.2.2.1 + 1)))) : TI s2 T b r.length f.1 (f.2.2.1 + 1) ∧ ((∀ μ', RMg μ' T b k lim md cy rch n N ((f.1, f.2.1, f.2.2.1 + 1, va_up f.2.2.2 (T 15 f.1 + f.2.2.1) (f.2.2.2 i)) :: r) fl st th nd bg nt us s → stM μ μ' → K μ') → mp_X12_copy s2 (nI (12 * r.length + i)) (nI (12 * r.length + (T 15 f.1 + f.2.2.1))) K) := by
  obtain ⟨t, f1, f2, f3, f4, f5, f6, f7⟩ := y.ti hw
  have t4 := t.2.2.2.1
  have t8 := t.2.2.2.2.2.2.2
  have h12 := (hw.2.2.2.2.2.2.2.2.1 f.1 f2).2.2.2.2.2.2.1
  have g2 : fr Ino (Atf r.length) μ s2 := by rw [e2]; exact fr_r.u rfl (by unfold Atf; omega)
  have r35 : s2.2.2.2.1 35 r.length = nI (f.2.2.1 + 1) := by rw [e2]; exact pk_us
  refine ⟨t.x g2 r35 (by omega), fun hK => ?_⟩
  obtain ⟨v1, v2, v3⟩ := f7 i hi
  have l36 : s2.2.2.1 36 = 91200 := by rw [e2]; exact lr36 t.2.1
  have l37 : s2.2.2.1 37 = 91200 := by rw [e2]; exact lr37 t.2.1
  have q36 : s2.2.2.2.1 36 = μ.2.2.2.1 36 := by rw [e2]; rfl
  have q37 : s2.2.2.2.1 37 = μ.2.2.2.1 37 := by rw [e2]; rfl
  unfold mp_X12_copy
  rw [nI_clamp (by omega), nI_clamp (by omega), q36, v1, l36]
  refine ⟨vp_in_nI (by omega) (by decide), vp_in_nI (by omega) (by decide), ?_⟩
  intro s3 e3
  have p37 : s3.2.2.2.1 37 = μ.2.2.2.1 37 := by rw [e3]; exact q37
  have m37 : s3.2.2.1 37 = 91200 := by rw [e3]; exact l37
  rw [p37, v2, nbi, m37]
  refine ⟨vp_in_nI (by omega) (by decide), vp_in_nI (by omega) (by decide), ?_⟩
  intro s6 e6
  have g : fr Ino (Atf r.length) μ s6 := by rw [e6, e3]; exact (g2.u q36.symm (by unfold Atf; omega)).u (by rw [← p37, e3]) (by unfold Atf; omega)
  have w36 : s6.2.2.2.1 36 = upd (μ.2.2.2.1 36) (12 * r.length + (T 15 f.1 + f.2.2.1)) (vM th (f.2.2.2 i)) := by rw [e6, e3]; rfl
  have w37 : s6.2.2.2.1 37 = upd (μ.2.2.2.1 37) (12 * r.length + (T 15 f.1 + f.2.2.1)) (iM (f.2.2.2 i)) := by rw [e6, e3]; rfl
  obtain ⟨a, c⟩ := y.tf (f' := (f.1, f.2.1, f.2.2.1 + 1, va_up f.2.2.2 (T 15 f.1 + f.2.2.1) (f.2.2.2 i))) hw g ⟨by rw [e6, e3, e2]; exact f1, f2, by rw [e6, e3, e2]; exact f3, f4, by rw [e6, e3]; exact r35, by show f.2.2.1 + 1 ≤ T 16 f.1; omega, fun l hl => by
    have hl : l < T 15 f.1 + (f.2.2.1 + 1) := hl
    show _ = vM th (va_up f.2.2.2 (T 15 f.1 + f.2.2.1) (f.2.2.2 i) l) ∧ _ = iM (va_up f.2.2.2 (T 15 f.1 + f.2.2.1) (f.2.2.2 i) l) ∧ ∀ k, va_up f.2.2.2 (T 15 f.1 + f.2.2.1) (f.2.2.2 i) l = .inr (k + 1) → _
    rw [w36, w37]
    by_cases e : l = T 15 f.1 + f.2.2.1
    · rw [e, pk_us, pk_us, va_up_self]
      exact ⟨rfl, rfl, v3⟩
    · rw [pk_un (by omega), pk_un (by omega), va_up_ne _ _ e]
      exact f7 l (by omega)⟩
  exact hK s6 a c
/-- values, up to reckoning -/
theorem k_dv {zv : Int32} {ht' : Nat} {vs' : Nat → AV} {K : sm_S → Prop} (hw : wf T b) (y : RMg μ T b k lim md cy rch n N (f :: r) fl st th nd bg nt us s) (hin : inC T f.1 (T 17 f.1 + f.2.1)) (h4 : T 4 (T 17 f.1 + f.2.1) = 1) (ho : b (T 17 f.1 + f.2.1) ≤ 18) (hg : hgt T f.1 (b (T 17 f.1 + f.2.1)) f.2.2.1) {jc : Prop} (hs : smp b (T 17 f.1 + f.2.1) (T 15 f.1) f.2.2.1 f.2.2.2 zv jc) (he : efS b (T 17 f.1 + f.2.1) (T 15 f.1) f.2.2.1 f.2.2.2 zv ht' vs')
    (hK : ∀ μ', RMg μ' T b k lim md cy rch n N ((f.1, f.2.1, ht', vs') :: r) fl st th nd bg nt us s → stM μ μ' → K μ') : mp_X12_doValues μ (nI (T 17 f.1 + f.2.1)) (nI (b (T 17 f.1 + f.2.1))) K := by
  obtain ⟨t, f1, f2, f3, f4, f5, f6, f7⟩ := y.ti hw
  obtain ⟨o1, o2, o3, o4, o5, o6⟩ := opB hw f2 hin h4
  have t3 := t.2.2.1
  have t4 := t.2.2.2.1
  have t8 := t.2.2.2.2.2.2.2
  have im := t.1
  generalize hpe : T 17 f.1 + f.2.1 = p at *
  have nlt : ∀ a : Nat, a < 2 ^ 31 → ((nI (b p) < nI a) ↔ b p < a) := fun a ha => nI_ltI (by omega) ha
  have ngt : ∀ a : Nat, a < 2 ^ 31 → ((nI a < nI (b p)) ↔ a < b p) := fun a ha => nI_ltI ha (by omega)
  unfold mp_X12_doValues
  have vals : (b p < 7 ∨ b p = 18) → mp_X12_doValues_42 K μ (nI p) (nI (b p)) := fun hc => by
    have hw1 : 1 ≤ wd (b p) := by unfold wd; (repeat' split) <;> omega
    unfold mp_X12_doValues_42
    intro v8 e8
    rw [t3, nI_pred, l_12, pk_mul] at e8
    rw [nI_1, nI_clamp (by omega)]
    refine ⟨by rw [im.1.2.2.1]; exact vp_in_nI (by omega) (by decide), ?_⟩
    intro v10 e10
    rw [im.1.2.2.2.2 (p + 1) (by omega)] at e10
    rw [e8, e10]
    rw [t3, nI_pred, nI_clamp (by omega), f5, nI_1]
    by_cases c0 : b p = 0
    · obtain ⟨d1, d2⟩ := he.1 (Or.inl c0)
      have hz := hs.1 c0
      have hw5 : wd (b p) = 5 := by rw [c0]; rfl
      rw [c0]
      refine ⟨fun _ => ?_, fun q => absurd q (by decide), fun q => absurd q (by decide), fun q => absurd q (by decide), fun q => absurd q (by decide), fun q => absurd q (by decide), fun q => absurd q (by decide), fun q => absurd q (by decide), fun q => absurd q (by decide), fun q => absurd rfl q⟩
      refine w_twoP im.1 (by omega) ?_
      rw [l_3, nI_add]
      refine w_twoP im.1 (by omega) ?_
      have := k_putI (v := zv) (K := K) hw y (hg.1 (Or.inl c0)) (fun μ' a c => hK μ' (by rw [d1, d2]; exact a) c)
      rw [hz] at this
      exact this
    by_cases c1 : b p = 1
    · obtain ⟨d1, d2⟩ := he.2.1 c1
      rw [c1]
      refine ⟨fun q => absurd q (by decide), fun _ => ?_, fun q => absurd q (by decide), fun q => absurd q (by decide), fun q => absurd q (by decide), fun q => absurd q (by decide), fun q => absurd q (by decide), fun q => absurd q (by decide), fun q => absurd q (by decide), fun _ q => absurd rfl q⟩
      exact k_putT (v := 0) hw y (hg.1 (Or.inr (Or.inl c1))) (fun q e => by omega) (fun μ' a c => hK μ' (by rw [d1, d2]; exact a) c)
    by_cases c2 : b p = 2
    · obtain ⟨d1, d2⟩ := he.2.2.1 c2
      have hl := o1.2.1 (Or.inl c2)
      have hh := hg.1 (Or.inr (Or.inr c2))
      rw [c2]
      refine ⟨fun q => absurd q (by decide), fun q => absurd q (by decide), fun _ => ⟨by rw [lr35 t.2.1]; exact vp_in_nI t4 (by decide), by rw [lr35 t.2.1]; exact vp_in_nI t4 (by decide), ?_⟩, fun q => absurd q (by decide), fun q => absurd q (by decide), fun q => absurd q (by decide), fun q => absurd q (by decide), fun q => absurd q (by decide), fun q => absurd q (by decide), fun _ _ q => absurd rfl q⟩
      intro s2 e2
      obtain ⟨t2, cp⟩ := k_cpT (i := b (p + 1)) (K := K) hw y hh (by omega) e2
      refine k_und (j := 0) hw t2 (by omega) ?_
      rw [show T 15 f.1 + (f.2.2.1 + 1) - 1 - 0 = T 15 f.1 + f.2.2.1 by omega, nI_add]
      exact cp (fun μ' a c => hK μ' (by rw [d1, d2]; exact a) c)
    by_cases c3 : b p = 3
    · obtain ⟨d1, d2⟩ := he.2.2.2.1 c3
      have hl := o1.2.1 (Or.inr c3)
      have hh := hg.2.1 (Or.inl c3)
      rw [c3]
      refine ⟨fun q => absurd q (by decide), fun q => absurd q (by decide), fun q => absurd q (by decide), fun _ => ?_, fun q => absurd q (by decide), fun q => absurd q (by decide), fun q => absurd q (by decide), fun q => absurd q (by decide), fun q => absurd q (by decide), fun _ _ _ q => absurd rfl q⟩
      refine k_und (j := 0) hw t (by omega) ?_
      rw [nI_add, show T 15 f.1 + f.2.2.1 - 1 - 0 = T 15 f.1 + f.2.2.1 - 1 by omega]
      refine k_copy hw y (by omega) (by omega) (fun μ1 a1 sm1 => ?_)
      refine k_drop (j := 1) hw a1 hh (fun μ2 a2 sm2 => ?_)
      exact hK μ2 (by rw [d1, d2]; exact a2) (sm1.t sm2)
    by_cases c4 : b p = 4
    · obtain ⟨d1, d2⟩ := he.2.2.2.2.1 c4
      have hh := hg.2.1 (Or.inr (Or.inl c4))
      rw [c4]
      refine ⟨fun q => absurd q (by decide), fun q => absurd q (by decide), fun q => absurd q (by decide), fun q => absurd q (by decide), fun _ => ?_, fun q => absurd q (by decide), fun q => absurd q (by decide), fun q => absurd q (by decide), fun q => absurd q (by decide), fun _ _ _ _ q => absurd rfl q⟩
      exact k_drop (j := 1) hw y hh (fun μ2 a2 sm2 => hK μ2 (by rw [d1, d2]; exact a2) sm2)
    by_cases c5 : b p = 5
    · obtain ⟨d1, d2⟩ := he.2.2.2.2.2.1 c5
      have hh := hg.2.2.1 c5
      rw [c5]
      refine ⟨fun q => absurd q (by decide), fun q => absurd q (by decide), fun q => absurd q (by decide), fun q => absurd q (by decide), fun q => absurd q (by decide), fun _ => ⟨by rw [lr35 t.2.1]; exact vp_in_nI t4 (by decide), by rw [lr35 t.2.1]; exact vp_in_nI t4 (by decide), ?_⟩, fun q => absurd q (by decide), fun q => absurd q (by decide), fun q => absurd q (by decide), fun _ _ _ _ _ q => absurd rfl q⟩
      intro s2 e2
      obtain ⟨t2, cp⟩ := k_cpT (i := T 15 f.1 + f.2.2.1 - 1) (K := K) hw y hh.2 (by omega) e2
      refine k_und (j := 1) hw t2 (by omega) ?_
      refine k_und (j := 0) hw t2 (by omega) ?_
      rw [show T 15 f.1 + (f.2.2.1 + 1) - 1 - 0 = T 15 f.1 + f.2.2.1 by omega, show T 15 f.1 + (f.2.2.1 + 1) - 1 - 1 = T 15 f.1 + f.2.2.1 - 1 by omega]
      exact cp (fun μ' a c => hK μ' (by rw [d1, d2]; exact a) c)
    by_cases c6 : b p = 6
    · obtain ⟨d1, d2⟩ := he.2.2.2.2.2.2.1 c6
      have hh := hg.2.2.2 (Or.inl c6)
      rw [c6]
      refine ⟨fun q => absurd q (by decide), fun q => absurd q (by decide), fun q => absurd q (by decide), fun q => absurd q (by decide), fun q => absurd q (by decide), fun q => absurd q (by decide), fun _ => ?_, fun q => absurd q (by decide), fun q => absurd q (by decide), fun _ _ _ _ _ _ q => absurd rfl q⟩
      refine k_val (j := 0) hw y (by omega) ?_
      refine k_und (j := 0) hw t (by omega) ?_
      rw [show T 15 f.1 + f.2.2.1 - 1 - 0 = T 15 f.1 + f.2.2.1 - 1 by omega, nI_clamp (by omega)]
      obtain ⟨v1, v2, v3⟩ := f7 (T 15 f.1 + f.2.2.1 - 1) (by omega)
      rw [v2]
      refine ⟨by rw [lr37 t.2.1]; exact vp_in_nI (by omega) (by decide), ?_⟩
      intro v48 e48
      refine k_und (j := 1) hw t (by omega) ?_
      refine k_und (j := 0) hw t (by omega) ?_
      rw [show T 15 f.1 + f.2.2.1 - 1 - 0 = T 15 f.1 + f.2.2.1 - 1 by omega]
      refine k_copy hw y (by omega) (by omega) (fun μ1 y1 sm1 => ?_)
      obtain ⟨t', -⟩ := y1.ti hw
      have t' : TI μ1 T b r.length f.1 f.2.2.1 := t'
      refine k_und (j := 1) hw t' (by omega) ?_
      rw [nI_clamp (by omega)]
      refine ⟨by rw [lr36 t'.2.1]; exact vp_in_nI (by omega) (by decide), ?_⟩
      intro s57 e57
      have g57 : fr Ino (Atf r.length) μ1 s57 := by rw [e57]; exact fr_r.u rfl (by unfold Atf; omega)
      have q35 : s57.2.2.2.1 35 = μ1.2.2.2.1 35 := by rw [e57]; rfl
      have t57 := t'.x g57 (ht' := f.2.2.1) (by rw [q35]; exact t'.2.2.2.2.2.2.1) t8
      refine k_und (j := 1) hw t57 (by omega) ?_
      rw [nI_clamp (by omega)]
      refine ⟨by rw [lr37 t57.2.1]; exact vp_in_nI (by omega) (by decide), ?_⟩
      intro s61 e61
      rw [e48, nbi] at e61
      have g61 : fr Ino (Atf r.length) μ1 s61 := by rw [e61]; exact g57.u rfl (by unfold Atf; omega)
      obtain ⟨a, c⟩ := y1.sv (j := T 15 f.1 + f.2.2.1 - 1 - 1) (v := f.2.2.2 (T 15 f.1 + f.2.2.1 - 1)) hw (by show _ < T 15 f.1 + f.2.2.1; omega) v3 g61 (by rw [e61, e57]; rfl) (by rw [e61, e57]; rfl) (by rw [e61, e57]; rfl) (by rw [e61, e57]; rfl) (fun p => by rw [e61, e57]; rfl)
      refine hK s61 ?_ (sm1.t c)
      rw [d1, d2, va_cm _ _ _ (show T 15 f.1 + f.2.2.1 - 2 ≠ T 15 f.1 + f.2.2.1 - 1 by omega), show T 15 f.1 + f.2.2.1 - 2 = T 15 f.1 + f.2.2.1 - 1 - 1 by omega]
      exact a
    · have c18 : b p = 18 := by omega
      obtain ⟨d1, d2⟩ := he.2.2.2.2.2.2.2.2.1 c18
      obtain ⟨yv, s1, s2⟩ := hs.2.2.1 c18
      have hh := hg.2.1 (by omega)
      rw [c18]
      refine ⟨fun q => absurd q (by decide), fun q => absurd q (by decide), fun q => absurd q (by decide), fun q => absurd q (by decide), fun q => absurd q (by decide), fun q => absurd q (by decide), fun q => absurd q (by decide), fun _ => ?_, fun q => absurd q (by decide), fun _ _ _ _ _ _ _ q => absurd rfl q⟩
      refine k_und (j := 0) hw t (by omega) ?_
      refine k_val (j := 0) hw y (by omega) ?_
      rw [show T 15 f.1 + f.2.2.1 - 1 - 0 = T 15 f.1 + f.2.2.1 - 1 by omega, nI_clamp (by omega), s1]
      refine ⟨by rw [lr36 t.2.1]; exact vp_in_nI (by omega) (by decide), ?_⟩
      intro s68 e68
      obtain ⟨v1, v2, v3⟩ := f7 (T 15 f.1 + f.2.2.1 - 1) (by omega)
      rw [s1] at v2
      obtain ⟨a, c⟩ := y.sv (μ' := s68) (j := T 15 f.1 + f.2.2.1 - 1) (v := .inl (-yv)) hw (by omega) (fun q e => by cases e) (by rw [e68]; exact fr_r.u rfl (by unfold Atf; omega)) (by rw [e68]; rfl) (by rw [e68]; rfl) (by rw [e68]; rfl) (by rw [e68]; rfl) (fun p' => by
        rw [e68]
        show μ.2.2.2.1 37 p' = _
        by_cases e : p' = 12 * r.length + (T 15 f.1 + f.2.2.1 - 1)
        · rw [e, pk_us, v2]; rfl
        · rw [pk_un e])
      exact hK s68 (by rw [d1, d2, s2]; exact a) c
  refine ⟨fun z => vals (Or.inl ((nlt 7 (by decide)).mp z)), fun z => ⟨fun z2 => vals (Or.inr ?_), fun z2 => ?_⟩⟩
  · have := (ngt 17 (by decide)).mp z2
    omega
  · have q1 : ¬ b p < 7 := fun q => z ((nlt 7 (by decide)).mpr q)
    have q2 : ¬ 17 < b p := fun q => z2 ((ngt 17 (by decide)).mpr q)
    obtain ⟨xv, yv, s1, s2, s3, s4⟩ := hs.2.1 ⟨by omega, by omega⟩
    obtain ⟨d1, d2⟩ := he.2.2.2.2.2.2.2.1 ⟨by omega, by omega⟩
    have hh := hg.2.2.2 (by omega)
    refine k_val (j := 0) hw y (by omega) ?_
    refine k_val (j := 1) hw y (by omega) ?_
    rw [show T 15 f.1 + f.2.2.1 - 1 - 0 = T 15 f.1 + f.2.2.1 - 1 by omega, show T 15 f.1 + f.2.2.1 - 1 - 1 = T 15 f.1 + f.2.2.1 - 2 by omega, s1, s2, vM_i, vM_i]
    refine k_drop (j := 2) hw y hh (fun μ1 y1 sm1 => ?_)
    refine w_rkM (by omega) (by omega) s4 ?_
    refine k_putI hw y1 (by show f.2.2.1 - 2 < T 16 f.1; omega) (fun μ2 y2 sm2 => ?_)
    refine hK μ2 ?_ (sm1.t sm2)
    have y2 : RMg μ2 T b k lim md cy rch n N ((f.1, f.2.1, f.2.2.1 - 2 + 1, va_up f.2.2.2 (T 15 f.1 + (f.2.2.1 - 2)) (.inl (rk2 (b p) xv yv))) :: r) fl st th nd bg nt us s := y2
    rw [d1, d2, s3, show f.2.2.1 - 1 = f.2.2.1 - 2 + 1 by omega, show T 15 f.1 + f.2.2.1 - 2 = T 15 f.1 + (f.2.2.1 - 2) by omega]
    exact y2
end
