/-! ===== reckoning and jumping, the class ===== -/
/-- what comes of two numbers -/
def rk2 (op : Nat) (a c : Int32) : Int32 := if op = 7 then a + c else if op = 8 then a - c else if op = 9 then a * c else if op = 10 then a / c else if op = 11 then a - a / c * c else if op = 12 then a &&& c else if op = 13 then a ||| c else if op = 14 then a ^^^ c else if op = 15 then a <<< (c &&& 31) else if op = 16 then a >>> (c &&& 31) else (a.toUInt32 >>> (c.toUInt32 &&& Int32.toUInt32 31)).toInt32
theorem w_comb {σ : sm_S} {op : Nat} {a c : Int32} {K : jk} (h1 : 7 ≤ op) (h2 : op ≤ 17) (n10 : op ≠ 10) (n11 : op ≠ 11) (hK : K (rk2 op a c) σ) : mp_X7_combine σ (nI op) a c K := by
  have h3 : op = 7 ∨ op = 8 ∨ op = 9 ∨ op = 12 ∨ op = 13 ∨ op = 14 ∨ op = 15 ∨ op = 16 ∨ op = 17 := by omega
  unfold mp_X7_combine
  rcases h3 with e | e | e | e | e | e | e | e | e <;> subst e
  · exact ⟨fun _ => hK, fun q => absurd q (by decide), fun q => absurd q (by decide), fun q => absurd q (by decide), fun q => absurd q (by decide), fun q => absurd q (by decide), fun q => absurd q (by decide), fun q => absurd q (by decide), fun q => absurd q (by decide), fun q => absurd q (by decide), fun q => absurd rfl q⟩
  · exact ⟨fun q => absurd q (by decide), fun _ => hK, fun q => absurd q (by decide), fun q => absurd q (by decide), fun q => absurd q (by decide), fun q => absurd q (by decide), fun q => absurd q (by decide), fun q => absurd q (by decide), fun q => absurd q (by decide), fun q => absurd q (by decide), fun _ q => absurd rfl q⟩
  · exact ⟨fun q => absurd q (by decide), fun q => absurd q (by decide), fun _ => hK, fun q => absurd q (by decide), fun q => absurd q (by decide), fun q => absurd q (by decide), fun q => absurd q (by decide), fun q => absurd q (by decide), fun q => absurd q (by decide), fun q => absurd q (by decide), fun _ _ q => absurd rfl q⟩
  · exact ⟨fun q => absurd q (by decide), fun q => absurd q (by decide), fun q => absurd q (by decide), fun q => absurd q (by decide), fun q => absurd q (by decide), fun _ => hK, fun q => absurd q (by decide), fun q => absurd q (by decide), fun q => absurd q (by decide), fun q => absurd q (by decide), fun _ _ _ _ _ q => absurd rfl q⟩
  · exact ⟨fun q => absurd q (by decide), fun q => absurd q (by decide), fun q => absurd q (by decide), fun q => absurd q (by decide), fun q => absurd q (by decide), fun q => absurd q (by decide), fun _ => hK, fun q => absurd q (by decide), fun q => absurd q (by decide), fun q => absurd q (by decide), fun _ _ _ _ _ _ q => absurd rfl q⟩
  · exact ⟨fun q => absurd q (by decide), fun q => absurd q (by decide), fun q => absurd q (by decide), fun q => absurd q (by decide), fun q => absurd q (by decide), fun q => absurd q (by decide), fun q => absurd q (by decide), fun _ => hK, fun q => absurd q (by decide), fun q => absurd q (by decide), fun _ _ _ _ _ _ _ q => absurd rfl q⟩
  · exact ⟨fun q => absurd q (by decide), fun q => absurd q (by decide), fun q => absurd q (by decide), fun q => absurd q (by decide), fun q => absurd q (by decide), fun q => absurd q (by decide), fun q => absurd q (by decide), fun q => absurd q (by decide), fun _ => hK, fun q => absurd q (by decide), fun _ _ _ _ _ _ _ _ q => absurd rfl q⟩
  · exact ⟨fun q => absurd q (by decide), fun q => absurd q (by decide), fun q => absurd q (by decide), fun q => absurd q (by decide), fun q => absurd q (by decide), fun q => absurd q (by decide), fun q => absurd q (by decide), fun q => absurd q (by decide), fun q => absurd q (by decide), fun _ => hK, fun _ _ _ _ _ _ _ _ _ q => absurd rfl q⟩
  · exact ⟨fun q => absurd q (by decide), fun q => absurd q (by decide), fun q => absurd q (by decide), fun q => absurd q (by decide), fun q => absurd q (by decide), fun q => absurd q (by decide), fun q => absurd q (by decide), fun q => absurd q (by decide), fun q => absurd q (by decide), fun q => absurd q (by decide), fun _ _ _ _ _ _ _ _ _ _ => hK⟩
theorem x_rk {σ0 σ : sm_S} {T : Nat → Nat → Nat} {b : Nat → Nat} {hf B : Nat} {s0 : List Nat} {ml : List (Nat × Nat)} {nb : List Nat} {al : Nat → Nat} {C : Nat → Int64} {tp m pc ht nx l : Nat} {vs : Nat → AV} {x y : Int32} {K : jk} (hw : wf T b) (h : WK σ0 σ T b C tp m pc ht nx l) {op : Nat} (h1 : 7 ≤ op) (h2 : op ≤ 18) (ht0 : tv hf B s0 ml nb al C tp C (T 15 m + ht) vs) (h3 : 1 ≤ ht) (hy : vs (T 15 m + ht - 1) = .inl y) (hx : op ≠ 18 → 2 ≤ ht ∧ vs (T 15 m + ht - 2) = .inl x) (hl : l + 4 < 2 ^ 19)
    (hK : ¬ ((op = 10 ∨ op = 11) ∧ y = 0) → ∀ σ' D l', WK σ0 σ' T b D tp m pc (if op = 18 then ht else ht - 1) nx l' → l' ≤ l + 4 → (if op = 18 then tv hf B s0 ml nb al C tp D (T 15 m + ht) (va_up vs (T 15 m + ht - 1) (.inl (-y))) else tv hf B s0 ml nb al C tp D (T 15 m + (ht - 1)) (va_up vs (T 15 m + ht - 2) (.inl (rk2 op x y)))) → K (-1) σ')
    (hF : ((op = 10 ∨ op = 11) ∧ y = 0) → ∀ σ', WK σ0 σ' T b C tp m pc ht nx (l + 1) → K 2 σ') : mp_X7_reckon σ (nI op) K := by
  have t := h.t12 hw
  have hht := h.2.2.2.2.2.2.2.2.2.2.1
  have cy : C (tp + 4 + T 15 m + (ht - 1 - 0)) = mkc 0 y := by
    have := ht0.2.2 (T 15 m + ht - 1) (by omega)
    rw [hy, show tp + 4 + (T 15 m + ht - 1) = tp + 4 + T 15 m + (ht - 1 - 0) by omega] at this
    exact this.nu
  unfold mp_X7_reckon
  refine k_below (j := 0) hw h (by omega) (by omega) (fun σ1 w1 => ?_)
  rw [cy, mk_lo (by decide)]
  by_cases e18 : op = 18
  · subst e18
    refine ⟨fun q => absurd rfl q, fun _ => ?_⟩
    intro s1 e1
    rw [w1.2.2.2.2.2.2.1, nI_sub1 h3] at e1
    rw [e1]
    refine k_pushI hw (w1.h1 (by omega)) (by omega) (by omega) (fun σ' w => hK (fun q => by omega) σ' _ (l + 1 + 1) (by rw [if_pos rfl, show ht = ht - 1 + 1 by omega]; exact w) (by omega) ?_)
    rw [if_pos rfl]
    have := ht0.up (k := T 15 m + ht - 1) (n' := T 15 m + ht) (v := .inl (-y)) (by omega) (gcl_n hf B (-y)) (vcl_n (-y)) (Or.inl (Nat.le_refl _))
    rw [show tp + 4 + (T 15 m + ht - 1) = tp + 4 + T 15 m + (ht - 1) by omega] at this
    exact this
  · obtain ⟨h4, h5⟩ := hx e18
    have n18 : ¬ nI op = 18 := fun q => e18 ((nI_eq (b := 18) (by omega) (by omega)).mp q)
    have cx : C (tp + 4 + T 15 m + (ht - 1 - 1)) = mkc 0 x := by
      have := ht0.2.2 (T 15 m + ht - 2) (by omega)
      rw [h5, show tp + 4 + (T 15 m + ht - 2) = tp + 4 + T 15 m + (ht - 1 - 1) by omega] at this
      exact this.nu
    -- the push
    have fin : ∀ σ3, WK σ0 σ3 T b C tp m pc (ht - 2) nx (l + 1 + 1) → ¬ ((op = 10 ∨ op = 11) ∧ y = 0) → mp_X7_reckon_96 K σ3 (rk2 op x y) := fun σ3 w3 hne => by
      unfold mp_X7_reckon_96
      refine k_pushI hw w3 (by omega) (by omega) (fun σ' w => hK hne σ' _ (l + 1 + 1 + 1) (by rw [if_neg e18, show ht - 1 = ht - 2 + 1 by omega]; exact w) (by omega) ?_)
      rw [if_neg e18]
      have := ht0.up (k := T 15 m + ht - 2) (n' := T 15 m + (ht - 1)) (v := .inl (rk2 op x y)) (by omega) (gcl_n hf B _) (vcl_n _) (Or.inl (by omega))
      rw [show tp + 4 + (T 15 m + ht - 2) = tp + 4 + T 15 m + (ht - 2) by omega] at this
      exact this
    have go48 : ¬ ((op = 10 ∨ op = 11) ∧ y = 0) → mp_X7_reckon_48 K σ1 (nI op) y := fun hne => by
      unfold mp_X7_reckon_48
      refine k_below (j := 1) hw w1 (by omega) (by omega) (fun σ2 w2 => ?_)
      rw [cx, mk_lo (by decide)]
      intro s5 e5
      rw [w2.2.2.2.2.2.2.1, l_2, nI_sub (by omega)] at e5
      rw [e5]
      have w3 := w2.h1 (ht' := ht - 2) (by omega)
      have := fin _ w3 hne
      by_cases e10 : op = 10
      · have y0 : ¬ y = 0 := fun q => hne ⟨Or.inl e10, q⟩
        subst e10
        exact ⟨fun q => absurd rfl q, fun _ => ⟨y0, this⟩⟩
      · have n10 : ¬ nI op = 10 := fun q => e10 ((nI_eq (b := 10) (by omega) (by omega)).mp q)
        by_cases e11 : op = 11
        · have y0 : ¬ y = 0 := fun q => hne ⟨Or.inr e11, q⟩
          subst e11
          exact ⟨fun _ => ⟨fun q => absurd rfl q, fun _ => ⟨y0, this⟩⟩, fun q => absurd q (by decide)⟩
        · have n11 : ¬ nI op = 11 := fun q => e11 ((nI_eq (b := 11) (by omega) (by omega)).mp q)
          exact ⟨fun _ => ⟨fun _ => w_comb h1 (by omega) e10 e11 this, fun q => absurd q n11⟩, fun q => absurd q n10⟩
    have go42 : (op = 10 ∨ op = 11) → mp_X7_reckon_42 K σ1 (nI op) y := fun ho => by
      unfold mp_X7_reckon_42
      by_cases y0 : y = 0
      · exact ⟨fun q => absurd y0 q, fun _ => hF ⟨ho, y0⟩ σ1 w1⟩
      · exact ⟨fun _ => go48 (fun q => y0 q.2), fun q => absurd q y0⟩
    refine ⟨fun _ => ?_, fun q => absurd q n18⟩
    by_cases e10 : op = 10
    · have n10 : nI op = 10 := by rw [e10]; rfl
      exact ⟨fun _ => go42 (Or.inl e10), fun q => absurd n10 q⟩
    · have n10 : ¬ nI op = 10 := fun q => e10 ((nI_eq (b := 10) (by omega) (by omega)).mp q)
      refine ⟨fun q => absurd q n10, fun _ => ?_⟩
      by_cases e11 : op = 11
      · have n11 : nI op = 11 := by rw [e11]; rfl
        exact ⟨fun q => absurd n11 q, fun _ => go42 (Or.inr e11)⟩
      · have n11 : ¬ nI op = 11 := fun q => e11 ((nI_eq (b := 11) (by omega) (by omega)).mp q)
        exact ⟨fun _ => go48 (fun q => by omega), fun q => absurd q n11⟩
/-- whether a question holds of two numbers -/
def qst (q : Nat) (a c : Int32) : Prop := (q = 0 ∧ a = c) ∨ (q = 1 ∧ a ≠ c) ∨ (q = 2 ∧ ¬ c ≤ a) ∨ (q = 3 ∧ ¬ a < c) ∨ (q = 4 ∧ ¬ a ≤ c) ∨ (q = 5 ∧ ¬ c < a)
theorem w_holds {σ : sm_S} {q : Nat} {a c : Int32} {K : jk} (hq : q ≤ 5) (h1 : qst q a c → K 1 σ) (h0 : ¬ qst q a c → K 0 σ) : mp_X7_holds σ (nI q) a c K := by
  have hq : q = 0 ∨ q = 1 ∨ q = 2 ∨ q = 3 ∨ q = 4 ∨ q = 5 := by omega
  unfold mp_X7_holds mp_X7_holds_46 mp_X7_holds_57 mp_X7_holds_68 mp_X7_holds_79 mp_X7_holds_90 mp_X7_holds_101
  rcases hq with e | e | e | e | e | e <;> subst e
  · refine ⟨fun _ => ⟨fun z => ⟨sm_z0, h0 (fun w => ?_)⟩, fun z => ⟨sm_z1, h1 (Or.inl ⟨rfl, z⟩)⟩⟩, fun z => absurd z (by decide), fun z => absurd z (by decide), fun z => absurd z (by decide), fun z => absurd z (by decide), fun z => absurd rfl z⟩
    rcases w with w | w | w | w | w | w
    · exact z w.2
    · omega
    · omega
    · omega
    · omega
    · omega
  · refine ⟨fun z => absurd z (by decide), fun _ => ⟨fun z => ⟨sm_z0, h0 (fun w => ?_)⟩, fun z => ⟨sm_z1, h1 (Or.inr (Or.inl ⟨rfl, z⟩))⟩⟩, fun z => absurd z (by decide), fun z => absurd z (by decide), fun z => absurd z (by decide), fun _ z => absurd rfl z⟩
    rcases w with w | w | w | w | w | w
    · omega
    · exact w.2 z
    · omega
    · omega
    · omega
    · omega
  · refine ⟨fun z => absurd z (by decide), fun z => absurd z (by decide), fun _ => ⟨fun z => ⟨sm_z0, h0 (fun w => ?_)⟩, fun z => ⟨sm_z1, h1 (Or.inr (Or.inr (Or.inl ⟨rfl, z⟩)))⟩⟩, fun z => absurd z (by decide), fun z => absurd z (by decide), fun _ _ z => absurd rfl z⟩
    rcases w with w | w | w | w | w | w
    · omega
    · omega
    · exact w.2 z
    · omega
    · omega
    · omega
  · refine ⟨fun z => absurd z (by decide), fun z => absurd z (by decide), fun z => absurd z (by decide), fun _ => ⟨fun z => ⟨sm_z0, h0 (fun w => ?_)⟩, fun z => ⟨sm_z1, h1 (Or.inr (Or.inr (Or.inr (Or.inl ⟨rfl, z⟩))))⟩⟩, fun z => absurd z (by decide), fun _ _ _ z => absurd rfl z⟩
    rcases w with w | w | w | w | w | w
    · omega
    · omega
    · omega
    · exact w.2 z
    · omega
    · omega
  · refine ⟨fun z => absurd z (by decide), fun z => absurd z (by decide), fun z => absurd z (by decide), fun z => absurd z (by decide), fun _ => ⟨fun z => ⟨sm_z0, h0 (fun w => ?_)⟩, fun z => ⟨sm_z1, h1 (Or.inr (Or.inr (Or.inr (Or.inr (Or.inl ⟨rfl, z⟩)))))⟩⟩, fun _ _ _ _ z => absurd rfl z⟩
    rcases w with w | w | w | w | w | w
    · omega
    · omega
    · omega
    · omega
    · exact w.2 z
    · omega
  · refine ⟨fun z => absurd z (by decide), fun z => absurd z (by decide), fun z => absurd z (by decide), fun z => absurd z (by decide), fun z => absurd z (by decide), fun _ _ _ _ _ => ⟨fun z => ⟨sm_z0, h0 (fun w => ?_)⟩, fun z => ⟨sm_z1, h1 (Or.inr (Or.inr (Or.inr (Or.inr (Or.inr ⟨rfl, z⟩)))))⟩⟩⟩
    rcases w with w | w | w | w | w | w
    · omega
    · omega
    · omega
    · omega
    · omega
    · exact w.2 z
