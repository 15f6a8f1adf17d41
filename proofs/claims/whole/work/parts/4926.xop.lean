/-! ===== instructions of the class that make nothing ===== -/
def gcl (hf B : Nat) (c : Int64) : Prop := okx c ∧ ∀ w, w < 2 ^ 30 → c = mkc 1 (nI w) → ¬ ldb hf B 1 w
/-- the top frame's cells hold the values -/
def tv (hf B : Nat) (s0 : List Nat) (ml : List (Nat × Nat)) (nb : List Nat) (al : Nat → Nat) (C : Nat → Int64) (tp : Nat) (D : Nat → Int64) (n : Nat) (vs : Nat → AV) : Prop := (∀ x, ¬ (tp + 4 ≤ x ∧ x < tp + 16) → D x = C x) ∧ (∀ i, i < 12 → gcl hf B (D (tp + 4 + i))) ∧ ∀ i, i < n → vcl s0 ml nb al (vs i) (D (tp + 4 + i))
theorem tv.up {hf B : Nat} {s0 : List Nat} {ml : List (Nat × Nat)} {nb : List Nat} {al : Nat → Nat} {C : Nat → Int64} {tp : Nat} {D : Nat → Int64} {n n' k : Nat} {vs : Nat → AV} {v : AV} {c : Int64} (h : tv hf B s0 ml nb al C tp D n vs) (hk : k < 12) (hg : gcl hf B c) (hv : vcl s0 ml nb al v c) (hn : n' ≤ n ∨ (n' = n + 1 ∧ k = n)) : tv hf B s0 ml nb al C tp (vp_updL D (tp + 4 + k) c) n' (va_up vs k v) := by
  refine ⟨fun x hx => ?_, fun i hi => ?_, fun i hi => ?_⟩
  · rw [pk_uLn (by omega)]; exact h.1 x hx
  · by_cases e : i = k
    · rw [e, pk_uLs]; exact hg
    · rw [pk_uLn (by omega)]; exact h.2.1 i hi
  · by_cases e : i = k
    · rw [e, pk_uLs, va_up_self]; exact hv
    · rw [pk_uLn (by omega), va_up_ne _ _ e]; exact h.2.2 i (by omega)
theorem tv.le {hf B : Nat} {s0 : List Nat} {ml : List (Nat × Nat)} {nb : List Nat} {al : Nat → Nat} {C : Nat → Int64} {tp : Nat} {D : Nat → Int64} {n n' : Nat} {vs : Nat → AV} (h : tv hf B s0 ml nb al C tp D n vs) (hn : n' ≤ n) : tv hf B s0 ml nb al C tp D n' vs := ⟨h.1, h.2.1, fun i hi => h.2.2 i (by omega)⟩
theorem gcl_n (hf B : Nat) (v : Int32) : gcl hf B (mkc 0 v) := ⟨Or.inr ⟨0, v, by decide, by decide, rfl⟩, fun w _ q => absurd q (mk_ne1 (by decide) (by decide))⟩
theorem gcl_0 (hf B : Nat) : gcl hf B (mkc 1 (nI 0)) := ⟨Or.inl ⟨0, by decide, rfl⟩, fun w hw q => by rw [← mk1_i (by decide) hw q]; exact fun z => z.2.1 rfl⟩
theorem vcl_n {s0 : List Nat} {ml : List (Nat × Nat)} {nb : List Nat} {al : Nat → Nat} (v : Int32) : vcl s0 ml nb al (.inl v) (mkc 0 v) := Or.inl ⟨v, rfl, rfl⟩
theorem vcl_0 {s0 : List Nat} {ml : List (Nat × Nat)} {nb : List Nat} {al : Nat → Nat} : vcl s0 ml nb al (.inr 0) (mkc 1 (nI 0)) := Or.inr (Or.inl ⟨rfl, rfl⟩)
/-- a number's cell -/
theorem vcl.nu {s0 : List Nat} {ml : List (Nat × Nat)} {nb : List Nat} {al : Nat → Nat} {x : Int32} {c : Int64} (h : vcl s0 ml nb al (.inl x) c) : c = mkc 0 x := by
  rcases h with ⟨y, h1, h2⟩ | ⟨h1, -⟩ | ⟨k, w, h1, -⟩
  · cases h1; exact h2
  · cases h1
  · cases h1
/-- the number of an instruction that pushes one -/
def c4 (b : Nat → Nat) (p : Nat) : Int32 := (nI (pr b (p + 1)) <<< ((16 : Int32) &&& 31)) ||| nI (pr b (p + 3))
theorem x_mv {σ0 σ : sm_S} {T : Nat → Nat → Nat} {b : Nat → Nat} {hf B : Nat} {s0 : List Nat} {ml : List (Nat × Nat)} {nb : List Nat} {al : Nat → Nat} {C : Nat → Int64} {tp m pc ht nx l : Nat} {vs vs' : Nat → AV} {ht' : Nat} {z : Int32} {K : jk} (hw : wf T b) (h : WK σ0 σ T b C tp m pc ht nx l) (ho : b (T 17 m + pc) ≤ 6) (hlo : (b (T 17 m + pc) = 2 ∨ b (T 17 m + pc) = 3) → b (T 17 m + pc + 1) < T 15 m) (hr : T 17 m + pc + wd (b (T 17 m + pc)) ≤ T 17 m + T 18 m) (hz : b (T 17 m + pc) = 0 → z = c4 b (T 17 m + pc)) (ht0 : tv hf B s0 ml nb al C tp C (T 15 m + ht) vs) (hp : ((b (T 17 m + pc) = 0 ∨ b (T 17 m + pc) = 1 ∨ b (T 17 m + pc) = 2) → ht < T 16 m) ∧ ((b (T 17 m + pc) = 3 ∨ b (T 17 m + pc) = 4) → 1 ≤ ht) ∧ (b (T 17 m + pc) = 5 → 1 ≤ ht ∧ ht < T 16 m) ∧ (b (T 17 m + pc) = 6 → 2 ≤ ht)) (he : efS b (T 17 m + pc) (T 15 m) ht vs z ht' vs') (hl : l + 4 < 2 ^ 19)
    (hK : ∀ σ' D l', WK σ0 σ' T b D tp m pc ht' nx l' → l' ≤ l + 4 → tv hf B s0 ml nb al C tp D (T 15 m + ht') vs' → K (-1) σ') : mp_X7_moveValues σ (nI (b (T 17 m + pc))) K := by
  have t := h.t12 hw
  have w5 := hw.2.2.2.2.1
  have hm := h.2.2.2.2.2.2.2.2.1
  have hpc := h.2.2.2.2.2.2.2.2.2.1
  have hht := h.2.2.2.2.2.2.2.2.2.2.1
  have h14 := h.2.2.2.2.2.2.2.2.2.2.2.2.2.1
  have h15 := h.2.2.2.2.2.2.2.2.2.2.2.2.2.2.1
  have y := hw.2.2.2.2.2.2.2.2.1 m hm
  have y11 := y.2.2.2.2.2.2.2.2.2.2.1
  have y12 := y.2.2.2.2.2.2.2.2.2.2.2.1
  clear y
  generalize hpe : T 17 m + pc = p at *
  have i10 := h.2.2.1
  unfold mp_X7_moveValues
  refine k_oper (i := 1) hw h (by decide) (by omega) ?_
  intro v3 e3
  rw [i10, l_4, nI_add, nI_add, hpe] at e3
  rw [e3]
  have hb1 : b (p + 1) < 256 := h.2.1.1.2.2.2.2.1 _
  by_cases o0 : b p = 0
  · obtain ⟨d1, d2⟩ := he.1 (Or.inl o0)
    have q := hp.1 (Or.inl o0)
    have hwd : wd (b p) = 5 := by rw [o0]; rfl
    rw [o0]
    refine ⟨fun _ => ?_, fun q => absurd q (by decide), fun q => absurd q (by decide), fun q => absurd q (by decide), fun q => absurd q (by decide), fun q => absurd q (by decide), fun q => absurd rfl q⟩
    have hLX := h.2.1.2.1
    have r26 := (h.2.1.2.2.2.2.2.2.2.2 m hm).2.2.2.2.2.2.1
    rw [h.2.2.2.1, nI_clamp (by omega), r26, h.2.2.2.2.1, nI_add, hpe, nI_1]
    refine ⟨by rw [lx26 hLX]; exact vp_in_nI (by omega) (by decide), ?_⟩
    unfold mp_X2_four
    refine w_pairP h.2.1.1 (by omega) ?_
    rw [k_p2]
    refine w_pairP h.2.1.1 (by omega) ?_
    refine k_pushI hw h q (by omega) (fun σ' w => hK σ' _ (l + 1) (by rw [d1]; exact w) (by omega) ?_)
    rw [d1, d2]
    have := ht0.up (k := T 15 m + ht) (n' := T 15 m + (ht + 1)) (v := .inl z) (by omega) (gcl_n hf B z) (vcl_n z) (Or.inr ⟨by omega, rfl⟩)
    rw [show tp + 4 + (T 15 m + ht) = tp + 4 + T 15 m + ht by omega, hz o0] at this
    rw [hz o0]
    exact this
  by_cases o1 : b p = 1
  · obtain ⟨d1, d2⟩ := he.2.1 o1
    have q := hp.1 (Or.inr (Or.inl o1))
    rw [o1]
    refine ⟨fun q => absurd q (by decide), fun _ => ?_, fun q => absurd q (by decide), fun q => absurd q (by decide), fun q => absurd q (by decide), fun q => absurd q (by decide), fun _ q => absurd rfl q⟩
    rw [mk_nil]
    refine k_push hw h q (by omega) (fun σ' w => hK σ' _ (l + 1) (by rw [d1]; exact w) (by omega) ?_)
    rw [d1, d2]
    have := ht0.up (k := T 15 m + ht) (n' := T 15 m + (ht + 1)) (v := .inr 0) (by omega) (gcl_0 hf B) vcl_0 (Or.inr ⟨by omega, rfl⟩)
    rw [show tp + 4 + (T 15 m + ht) = tp + 4 + T 15 m + ht by omega] at this
    exact this
  by_cases o2 : b p = 2
  · obtain ⟨d1, d2⟩ := he.2.2.1 o2
    have q := hp.1 (Or.inr (Or.inr o2))
    have q2 := hlo (Or.inl o2)
    rw [o2]
    refine ⟨fun q => absurd q (by decide), fun q => absurd q (by decide), fun _ => ?_, fun q => absurd q (by decide), fun q => absurd q (by decide), fun q => absurd q (by decide), fun _ _ q => absurd rfl q⟩
    refine k_look h (by omega) (by omega) (by omega) (fun σ1 w1 => ?_)
    refine k_push hw w1 q (by omega) (fun σ' w => hK σ' _ (l + 1 + 1) (by rw [d1]; exact w) (by omega) ?_)
    rw [d1, d2]
    have := ht0.up (k := T 15 m + ht) (n' := T 15 m + (ht + 1)) (by omega) (ht0.2.1 (b (p + 1)) (by omega)) (ht0.2.2 (b (p + 1)) (by omega)) (Or.inr ⟨by omega, rfl⟩)
    rw [show tp + 4 + (T 15 m + ht) = tp + 4 + T 15 m + ht by omega] at this
    exact this
  by_cases o3 : b p = 3
  · obtain ⟨d1, d2⟩ := he.2.2.2.1 o3
    have q := hp.2.1 (Or.inl o3)
    have q2 := hlo (Or.inr o3)
    rw [o3]
    refine ⟨fun q => absurd q (by decide), fun q => absurd q (by decide), fun q => absurd q (by decide), fun _ => ?_, fun q => absurd q (by decide), fun q => absurd q (by decide), fun _ _ _ q => absurd rfl q⟩
    refine k_pop hw h q (by omega) (fun σ1 w1 => ?_)
    have len1 : σ1.2.2.1 17 = σ.2.2.1 17 := by rw [w1.1.2.1, h.1.2.1]
    refine k_put w1 (by omega) (by omega) (by omega) (fun σ' w => hK σ' _ (l + 1 + 1) (by rw [d1]; exact w) (by omega) ?_)
    rw [d1, d2]
    have := ht0.up (k := b (p + 1)) (n' := T 15 m + (ht - 1)) (by omega) (ht0.2.1 (T 15 m + ht - 1) (by omega)) (ht0.2.2 (T 15 m + ht - 1) (by omega)) (Or.inl (by omega))
    rw [show tp + 4 + (T 15 m + ht - 1) = tp + 4 + T 15 m + (ht - 1) by omega] at this
    exact this
  by_cases o4 : b p = 4
  · obtain ⟨d1, d2⟩ := he.2.2.2.2.1 o4
    have q := hp.2.1 (Or.inr o4)
    rw [o4]
    refine ⟨fun q => absurd q (by decide), fun q => absurd q (by decide), fun q => absurd q (by decide), fun q => absurd q (by decide), fun _ => ?_, fun q => absurd q (by decide), fun _ _ _ _ q => absurd rfl q⟩
    intro s1 e1
    rw [h.2.2.2.2.2.2.1, nI_sub1 q] at e1
    rw [e1]
    refine hK _ C l (by rw [d1]; exact h.h1 (by omega)) (by omega) ?_
    rw [d1, d2]
    exact ht0.le (by omega)
  by_cases o5 : b p = 5
  · obtain ⟨d1, d2⟩ := he.2.2.2.2.2.1 o5
    have q := hp.2.2.1 o5
    rw [o5]
    refine ⟨fun q => absurd q (by decide), fun q => absurd q (by decide), fun q => absurd q (by decide), fun q => absurd q (by decide), fun q => absurd q (by decide), fun _ => ?_, fun _ _ _ _ _ q => absurd rfl q⟩
    refine k_below (j := 0) hw h (by omega) (by omega) (fun σ1 w1 => ?_)
    refine k_push hw w1 q.2 (by omega) (fun σ' w => hK σ' _ (l + 1 + 1) (by rw [d1]; exact w) (by omega) ?_)
    rw [d1, d2]
    have := ht0.up (k := T 15 m + ht) (n' := T 15 m + (ht + 1)) (by omega) (ht0.2.1 (T 15 m + ht - 1) (by omega)) (ht0.2.2 (T 15 m + ht - 1) (by omega)) (Or.inr ⟨by omega, rfl⟩)
    rw [show tp + 4 + (T 15 m + ht) = tp + 4 + T 15 m + ht by omega, show tp + 4 + (T 15 m + ht - 1) = tp + 4 + T 15 m + (ht - 1 - 0) by omega] at this
    exact this
  · have o6 : b p = 6 := by omega
    obtain ⟨d1, d2⟩ := he.2.2.2.2.2.2.1 o6
    have q := hp.2.2.2 o6
    rw [o6]
    refine ⟨fun q => absurd q (by decide), fun q => absurd q (by decide), fun q => absurd q (by decide), fun q => absurd q (by decide), fun q => absurd q (by decide), fun q => absurd q (by decide), fun _ _ _ _ _ _ => ?_⟩
    refine k_pop hw h (by omega) (by omega) (fun σ1 w1 => ?_)
    refine k_pop hw w1 (by omega) (by omega) (fun σ2 w2 => ?_)
    refine k_push hw w2 (by omega) (by omega) (fun σ3 w3 => ?_)
    refine k_push hw w3 (by omega) (by omega) (fun σ' w => hK σ' _ (l + 1 + 1 + 1 + 1) (by rw [d1, show ht = ht - 1 - 1 + 1 + 1 by omega]; exact w) (by omega) ?_)
    rw [d1, d2]
    have v1 := ht0.2.2 (T 15 m + ht - 1) (by omega)
    have v2 := ht0.2.2 (T 15 m + ht - 2) (by omega)
    have k1 := ht0.2.1 (T 15 m + ht - 1) (by omega)
    have k2 := ht0.2.1 (T 15 m + ht - 2) (by omega)
    have := (ht0.up (k := T 15 m + ht - 2) (n' := T 15 m + ht) (by omega) k1 v1 (Or.inl (Nat.le_refl _))).up (k := T 15 m + ht - 1) (n' := T 15 m + ht) (by omega) k2 v2 (Or.inl (Nat.le_refl _))
    rw [show tp + 4 + (T 15 m + ht - 2) = tp + 4 + T 15 m + (ht - 1 - 1) by omega, show tp + 4 + (T 15 m + ht - 1) = tp + 4 + T 15 m + (ht - 1 - 1 + 1) by omega] at this
    rw [show tp + 4 + T 15 m + (ht - 1) = tp + 4 + T 15 m + (ht - 1 - 1 + 1) by omega]
    exact this
