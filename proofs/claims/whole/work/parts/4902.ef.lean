/-! ===== the abstract machine: instructions that make nothing ===== -/
/-- what they do to height and values; z: the number that comes out -/
def efS (b : Nat → Nat) (p lo ht : Nat) (vs : Nat → AV) (z : Int32) (ht' : Nat) (vs' : Nat → AV) : Prop := ((b p = 0 ∨ b p = 40) → ht' = ht + 1 ∧ vs' = va_up vs (lo + ht) (.inl z)) ∧ ((b p = 1) → ht' = ht + 1 ∧ vs' = va_up vs (lo + ht) (.inr 0)) ∧ ((b p = 2) → ht' = ht + 1 ∧ vs' = va_up vs (lo + ht) (vs (b (p + 1)))) ∧ ((b p = 3) → ht' = ht - 1 ∧ vs' = va_up vs (b (p + 1)) (vs (lo + ht - 1))) ∧ ((b p = 4) → ht' = ht - 1 ∧ vs' = vs) ∧ ((b p = 5) → ht' = ht + 1 ∧ vs' = va_up vs (lo + ht) (vs (lo + ht - 1))) ∧ ((b p = 6) → ht' = ht ∧ vs' = va_up (va_up vs (lo + ht - 2) (vs (lo + ht - 1))) (lo + ht - 1) (vs (lo + ht - 2))) ∧ ((7 ≤ b p ∧ b p ≤ 17) → ht' = ht - 1 ∧ vs' = va_up vs (lo + ht - 2) (.inl z)) ∧ ((b p = 18) → ht' = ht ∧ vs' = va_up vs (lo + ht - 1) (.inl z)) ∧ ((b p = 19 ∨ b p = 41) → ht' = ht - 1 ∧ vs' = vs) ∧ ((b p = 20) → ht' = ht - 2 ∧ vs' = vs) ∧ ((b p = 21 ∨ b p = 22) → ht' = ht - 1 ∧ vs' = vs) ∧ ((b p = 23 ∨ b p = 24) → ht' = ht - 2 ∧ vs' = vs) ∧ ((b p = 25) → ht' = ht ∧ vs' = vs) ∧ ((b p = 29 ∨ b p = 32) → ht' = ht ∧ vs' = va_up vs (lo + ht - 1) (.inl z)) ∧ ((b p = 30) → ht' = ht ∧ vs' = vs)
theorem ef_ex {b : Nat → Nat} (p lo ht : Nat) (vs : Nat → AV) (z : Int32) (ho : b p ≤ 25 ∨ b p = 29 ∨ b p = 30 ∨ b p = 32 ∨ b p = 40 ∨ b p = 41) : ∃ ht' vs', efS b p lo ht vs z ht' vs' := by
  by_cases g0 : b p = 0 ∨ b p = 40
  · exact ⟨ht + 1, va_up vs (lo + ht) (.inl z), fun _ => ⟨rfl, rfl⟩, fun z => absurd z (by omega), fun z => absurd z (by omega), fun z => absurd z (by omega), fun z => absurd z (by omega), fun z => absurd z (by omega), fun z => absurd z (by omega), fun z => absurd z (by omega), fun z => absurd z (by omega), fun z => absurd z (by omega), fun z => absurd z (by omega), fun z => absurd z (by omega), fun z => absurd z (by omega), fun z => absurd z (by omega), fun z => absurd z (by omega), fun z => absurd z (by omega)⟩
  by_cases g1 : b p = 1
  · exact ⟨ht + 1, va_up vs (lo + ht) (.inr 0), fun z => absurd z (by omega), fun _ => ⟨rfl, rfl⟩, fun z => absurd z (by omega), fun z => absurd z (by omega), fun z => absurd z (by omega), fun z => absurd z (by omega), fun z => absurd z (by omega), fun z => absurd z (by omega), fun z => absurd z (by omega), fun z => absurd z (by omega), fun z => absurd z (by omega), fun z => absurd z (by omega), fun z => absurd z (by omega), fun z => absurd z (by omega), fun z => absurd z (by omega), fun z => absurd z (by omega)⟩
  by_cases g2 : b p = 2
  · exact ⟨ht + 1, va_up vs (lo + ht) (vs (b (p + 1))), fun z => absurd z (by omega), fun z => absurd z (by omega), fun _ => ⟨rfl, rfl⟩, fun z => absurd z (by omega), fun z => absurd z (by omega), fun z => absurd z (by omega), fun z => absurd z (by omega), fun z => absurd z (by omega), fun z => absurd z (by omega), fun z => absurd z (by omega), fun z => absurd z (by omega), fun z => absurd z (by omega), fun z => absurd z (by omega), fun z => absurd z (by omega), fun z => absurd z (by omega), fun z => absurd z (by omega)⟩
  by_cases g3 : b p = 3
  · exact ⟨ht - 1, va_up vs (b (p + 1)) (vs (lo + ht - 1)), fun z => absurd z (by omega), fun z => absurd z (by omega), fun z => absurd z (by omega), fun _ => ⟨rfl, rfl⟩, fun z => absurd z (by omega), fun z => absurd z (by omega), fun z => absurd z (by omega), fun z => absurd z (by omega), fun z => absurd z (by omega), fun z => absurd z (by omega), fun z => absurd z (by omega), fun z => absurd z (by omega), fun z => absurd z (by omega), fun z => absurd z (by omega), fun z => absurd z (by omega), fun z => absurd z (by omega)⟩
  by_cases g4 : b p = 4
  · exact ⟨ht - 1, vs, fun z => absurd z (by omega), fun z => absurd z (by omega), fun z => absurd z (by omega), fun z => absurd z (by omega), fun _ => ⟨rfl, rfl⟩, fun z => absurd z (by omega), fun z => absurd z (by omega), fun z => absurd z (by omega), fun z => absurd z (by omega), fun z => absurd z (by omega), fun z => absurd z (by omega), fun z => absurd z (by omega), fun z => absurd z (by omega), fun z => absurd z (by omega), fun z => absurd z (by omega), fun z => absurd z (by omega)⟩
  by_cases g5 : b p = 5
  · exact ⟨ht + 1, va_up vs (lo + ht) (vs (lo + ht - 1)), fun z => absurd z (by omega), fun z => absurd z (by omega), fun z => absurd z (by omega), fun z => absurd z (by omega), fun z => absurd z (by omega), fun _ => ⟨rfl, rfl⟩, fun z => absurd z (by omega), fun z => absurd z (by omega), fun z => absurd z (by omega), fun z => absurd z (by omega), fun z => absurd z (by omega), fun z => absurd z (by omega), fun z => absurd z (by omega), fun z => absurd z (by omega), fun z => absurd z (by omega), fun z => absurd z (by omega)⟩
  by_cases g6 : b p = 6
  · exact ⟨ht, va_up (va_up vs (lo + ht - 2) (vs (lo + ht - 1))) (lo + ht - 1) (vs (lo + ht - 2)), fun z => absurd z (by omega), fun z => absurd z (by omega), fun z => absurd z (by omega), fun z => absurd z (by omega), fun z => absurd z (by omega), fun z => absurd z (by omega), fun _ => ⟨rfl, rfl⟩, fun z => absurd z (by omega), fun z => absurd z (by omega), fun z => absurd z (by omega), fun z => absurd z (by omega), fun z => absurd z (by omega), fun z => absurd z (by omega), fun z => absurd z (by omega), fun z => absurd z (by omega), fun z => absurd z (by omega)⟩
  by_cases g7 : 7 ≤ b p ∧ b p ≤ 17
  · exact ⟨ht - 1, va_up vs (lo + ht - 2) (.inl z), fun z => absurd z (by omega), fun z => absurd z (by omega), fun z => absurd z (by omega), fun z => absurd z (by omega), fun z => absurd z (by omega), fun z => absurd z (by omega), fun z => absurd z (by omega), fun _ => ⟨rfl, rfl⟩, fun z => absurd z (by omega), fun z => absurd z (by omega), fun z => absurd z (by omega), fun z => absurd z (by omega), fun z => absurd z (by omega), fun z => absurd z (by omega), fun z => absurd z (by omega), fun z => absurd z (by omega)⟩
  by_cases g8 : b p = 18
  · exact ⟨ht, va_up vs (lo + ht - 1) (.inl z), fun z => absurd z (by omega), fun z => absurd z (by omega), fun z => absurd z (by omega), fun z => absurd z (by omega), fun z => absurd z (by omega), fun z => absurd z (by omega), fun z => absurd z (by omega), fun z => absurd z (by omega), fun _ => ⟨rfl, rfl⟩, fun z => absurd z (by omega), fun z => absurd z (by omega), fun z => absurd z (by omega), fun z => absurd z (by omega), fun z => absurd z (by omega), fun z => absurd z (by omega), fun z => absurd z (by omega)⟩
  by_cases g9 : b p = 19 ∨ b p = 41
  · exact ⟨ht - 1, vs, fun z => absurd z (by omega), fun z => absurd z (by omega), fun z => absurd z (by omega), fun z => absurd z (by omega), fun z => absurd z (by omega), fun z => absurd z (by omega), fun z => absurd z (by omega), fun z => absurd z (by omega), fun z => absurd z (by omega), fun _ => ⟨rfl, rfl⟩, fun z => absurd z (by omega), fun z => absurd z (by omega), fun z => absurd z (by omega), fun z => absurd z (by omega), fun z => absurd z (by omega), fun z => absurd z (by omega)⟩
  by_cases g10 : b p = 20
  · exact ⟨ht - 2, vs, fun z => absurd z (by omega), fun z => absurd z (by omega), fun z => absurd z (by omega), fun z => absurd z (by omega), fun z => absurd z (by omega), fun z => absurd z (by omega), fun z => absurd z (by omega), fun z => absurd z (by omega), fun z => absurd z (by omega), fun z => absurd z (by omega), fun _ => ⟨rfl, rfl⟩, fun z => absurd z (by omega), fun z => absurd z (by omega), fun z => absurd z (by omega), fun z => absurd z (by omega), fun z => absurd z (by omega)⟩
  by_cases g11 : b p = 21 ∨ b p = 22
  · exact ⟨ht - 1, vs, fun z => absurd z (by omega), fun z => absurd z (by omega), fun z => absurd z (by omega), fun z => absurd z (by omega), fun z => absurd z (by omega), fun z => absurd z (by omega), fun z => absurd z (by omega), fun z => absurd z (by omega), fun z => absurd z (by omega), fun z => absurd z (by omega), fun z => absurd z (by omega), fun _ => ⟨rfl, rfl⟩, fun z => absurd z (by omega), fun z => absurd z (by omega), fun z => absurd z (by omega), fun z => absurd z (by omega)⟩
  by_cases g12 : b p = 23 ∨ b p = 24
  · exact ⟨ht - 2, vs, fun z => absurd z (by omega), fun z => absurd z (by omega), fun z => absurd z (by omega), fun z => absurd z (by omega), fun z => absurd z (by omega), fun z => absurd z (by omega), fun z => absurd z (by omega), fun z => absurd z (by omega), fun z => absurd z (by omega), fun z => absurd z (by omega), fun z => absurd z (by omega), fun z => absurd z (by omega), fun _ => ⟨rfl, rfl⟩, fun z => absurd z (by omega), fun z => absurd z (by omega), fun z => absurd z (by omega)⟩
  by_cases g13 : b p = 25
  · exact ⟨ht, vs, fun z => absurd z (by omega), fun z => absurd z (by omega), fun z => absurd z (by omega), fun z => absurd z (by omega), fun z => absurd z (by omega), fun z => absurd z (by omega), fun z => absurd z (by omega), fun z => absurd z (by omega), fun z => absurd z (by omega), fun z => absurd z (by omega), fun z => absurd z (by omega), fun z => absurd z (by omega), fun z => absurd z (by omega), fun _ => ⟨rfl, rfl⟩, fun z => absurd z (by omega), fun z => absurd z (by omega)⟩
  by_cases g14 : b p = 29 ∨ b p = 32
  · exact ⟨ht, va_up vs (lo + ht - 1) (.inl z), fun z => absurd z (by omega), fun z => absurd z (by omega), fun z => absurd z (by omega), fun z => absurd z (by omega), fun z => absurd z (by omega), fun z => absurd z (by omega), fun z => absurd z (by omega), fun z => absurd z (by omega), fun z => absurd z (by omega), fun z => absurd z (by omega), fun z => absurd z (by omega), fun z => absurd z (by omega), fun z => absurd z (by omega), fun z => absurd z (by omega), fun _ => ⟨rfl, rfl⟩, fun z => absurd z (by omega)⟩
  by_cases g15 : b p = 30
  · exact ⟨ht, vs, fun z => absurd z (by omega), fun z => absurd z (by omega), fun z => absurd z (by omega), fun z => absurd z (by omega), fun z => absurd z (by omega), fun z => absurd z (by omega), fun z => absurd z (by omega), fun z => absurd z (by omega), fun z => absurd z (by omega), fun z => absurd z (by omega), fun z => absurd z (by omega), fun z => absurd z (by omega), fun z => absurd z (by omega), fun z => absurd z (by omega), fun z => absurd z (by omega), fun _ => ⟨rfl, rfl⟩⟩
  · omega
/-- values that go with types -/
def cfw (T : Nat → Nat → Nat) (N : Nat → AN) (n : Nat) (vs : Nat → AV) (w : Nat → Nat) : Prop := ∀ i, i < n → cf T N (vs i) (w i)
theorem cfw.le {T : Nat → Nat → Nat} {N : Nat → AN} {n n' : Nat} {vs : Nat → AV} {w : Nat → Nat} (h : cfw T N n vs w) (hn : n' ≤ n) : cfw T N n' vs w := fun i hi => h i (by omega)
theorem cfw.up {T : Nat → Nat → Nat} {N : Nat → AN} {n n' k : Nat} {vs : Nat → AV} {w : Nat → Nat} {v : AV} {t : Nat} (h : cfw T N n vs w) (hv : cf T N v t) (hn : n' ≤ n ∨ (n' = n + 1 ∧ k = n)) : cfw T N n' (va_up vs k v) (va_up w k t) := fun i hi => by
  by_cases e : i = k
  · subst e; rw [va_up_self, va_up_self]; exact hv
  · rw [va_up_ne _ _ e, va_up_ne _ _ e]; exact h i (by omega)
/-- a number on top of which its type was left as it was -/
theorem cfw.u0 {T : Nat → Nat → Nat} {N : Nat → AN} {n n' k : Nat} {vs : Nat → AV} {w : Nat → Nat} {z : Int32} (h : cfw T N n vs w) (hk : w k = 0) (hn : n' ≤ n) : cfw T N n' (va_up vs k (.inl z)) w := fun i hi => by
  by_cases e : i = k
  · subst e; rw [va_up_self, hk]; exact cf_i z
  · rw [va_up_ne _ _ e]; exact h i (by omega)
theorem ef_t {T : Nat → Nat → Nat} {b : Nat → Nat} {N : Nat → AN} {m p t : Nat} {w : Nat → Nat} {c : Prop} {t' : Nat} {w' : Nat → Nat} {vs vs' : Nat → AV} {z : Int32} {ht' : Nat} (ho : b p ≤ 25 ∨ b p = 29 ∨ b p = 30 ∨ b p = 32 ∨ b p = 40 ∨ b p = 41) (hlo : (b p = 2 ∨ b p = 3) → b (p + 1) < T 15 m) (hav : avS T b m p t w c t' w') (hc : c) (hv : cfw T N (T 15 m + t) vs w) (he : efS b p (T 15 m) t vs z ht' vs') (h30 : b p = 30 → cf T N (vs (T 15 m + t - 1)) (b (p + 1) + 1)) : ht' = t' ∧ cfw T N (T 15 m + t') vs' w' := by
  by_cases g1 : b p = 0 ∨ b p = 40
  · obtain ⟨e1, e2, e3⟩ := (hav.1) g1
    obtain ⟨d1, d2⟩ := (he.1) g1
    rw [d1, d2, e2, e3]
    exact ⟨rfl, hv.up (cf_i z) (Or.inr ⟨rfl, rfl⟩)⟩
  by_cases g2 : b p = 1
  · obtain ⟨e1, e2, e3⟩ := (hav.2.1) g2
    obtain ⟨d1, d2⟩ := (he.2.1) g2
    rw [d1, d2, e2, e3]
    exact ⟨rfl, hv.up (cf_n (by omega)) (Or.inr ⟨rfl, rfl⟩)⟩
  by_cases g3 : b p = 2
  · obtain ⟨e1, e2, e3⟩ := (hav.2.2.1) g3
    obtain ⟨d1, d2⟩ := (he.2.2.1) g3
    have := hlo (Or.inl g3)
    rw [d1, d2, e2, e3]
    exact ⟨rfl, hv.up (hv _ (by omega)) (Or.inr ⟨rfl, rfl⟩)⟩
  by_cases g4 : b p = 3
  · obtain ⟨e1, e2, e3⟩ := (hav.2.2.2.1) g4
    obtain ⟨d1, d2⟩ := (he.2.2.2.1) g4
    have q := e1.mp hc
    rw [d1, d2, e2, e3]
    exact ⟨rfl, hv.up (hv _ (by omega)) (Or.inl (by omega))⟩
  by_cases g5 : b p = 4
  · obtain ⟨e1, e2, e3⟩ := (hav.2.2.2.2.1) g5
    obtain ⟨d1, d2⟩ := (he.2.2.2.2.1) g5
    rw [d1, d2, e2, e3]
    exact ⟨rfl, hv.le (by omega)⟩
  by_cases g6 : b p = 5
  · obtain ⟨e1, e2, e3⟩ := (hav.2.2.2.2.2.1) g6
    obtain ⟨d1, d2⟩ := (he.2.2.2.2.2.1) g6
    have q := e1.mp hc
    rw [d1, d2, e2, e3]
    exact ⟨rfl, hv.up (hv _ (by omega)) (Or.inr ⟨rfl, rfl⟩)⟩
  by_cases g7 : b p = 6
  · obtain ⟨e1, e2, e3⟩ := (hav.2.2.2.2.2.2.1) g7
    obtain ⟨d1, d2⟩ := (he.2.2.2.2.2.2.1) g7
    have q := e1.mp hc
    rw [d1, d2, e2, e3]
    exact ⟨rfl, (hv.up (hv _ (by omega)) (Or.inl (Nat.le_refl _))).up (hv _ (by omega)) (Or.inl (Nat.le_refl _))⟩
  by_cases g8 : 7 ≤ b p ∧ b p ≤ 17
  · obtain ⟨e1, e2, e3⟩ := (hav.2.2.2.2.2.2.2.1) g8
    obtain ⟨d1, d2⟩ := (he.2.2.2.2.2.2.2.1) g8
    have q := e1.mp hc
    rw [d1, d2, e2, e3]
    exact ⟨rfl, hv.u0 q.2.2 (by omega)⟩
  by_cases g9 : b p = 18
  · obtain ⟨e1, e2, e3⟩ := (hav.2.2.2.2.2.2.2.2.1) g9
    obtain ⟨d1, d2⟩ := (he.2.2.2.2.2.2.2.2.1) g9
    have q := e1.mp hc
    rw [d1, d2, e2, e3]
    exact ⟨rfl, hv.u0 q.2 (by omega)⟩
  by_cases g10 : b p = 19 ∨ b p = 41
  · obtain ⟨e1, e2, e3⟩ := (hav.2.2.2.2.2.2.2.2.2.1) g10
    obtain ⟨d1, d2⟩ := (he.2.2.2.2.2.2.2.2.2.1) g10
    rw [d1, d2, e2, e3]
    exact ⟨rfl, hv.le (by omega)⟩
  by_cases g11 : b p = 20
  · obtain ⟨e1, e2, e3⟩ := (hav.2.2.2.2.2.2.2.2.2.2.1) g11
    obtain ⟨d1, d2⟩ := (he.2.2.2.2.2.2.2.2.2.2.1) g11
    rw [d1, d2, e2, e3]
    exact ⟨rfl, hv.le (by omega)⟩
  by_cases g12 : b p = 21 ∨ b p = 22
  · obtain ⟨e1, e2, e3⟩ := (hav.2.2.2.2.2.2.2.2.2.2.2.1) g12
    obtain ⟨d1, d2⟩ := (he.2.2.2.2.2.2.2.2.2.2.2.1) g12
    rw [d1, d2, e2, e3]
    exact ⟨rfl, hv.le (by omega)⟩
  by_cases g13 : b p = 23 ∨ b p = 24
  · obtain ⟨e1, e2, e3⟩ := (hav.2.2.2.2.2.2.2.2.2.2.2.2.1) g13
    obtain ⟨d1, d2⟩ := (he.2.2.2.2.2.2.2.2.2.2.2.2.1) g13
    rw [d1, d2, e2, e3]
    exact ⟨rfl, hv.le (by omega)⟩
  by_cases g14 : b p = 25
  · obtain ⟨e1, e2, e3⟩ := (hav.2.2.2.2.2.2.2.2.2.2.2.2.2.1) g14
    obtain ⟨d1, d2⟩ := (he.2.2.2.2.2.2.2.2.2.2.2.2.2.1) g14
    rw [d1, d2, e2, e3]
    exact ⟨rfl, hv.le (by omega)⟩
  by_cases g15 : b p = 29
  · obtain ⟨e1, e2, e3⟩ := (hav.2.2.2.2.2.2.2.2.2.2.2.2.2.2.2.2.2.1) g15
    obtain ⟨d1, d2⟩ := (he.2.2.2.2.2.2.2.2.2.2.2.2.2.2.1) (Or.inl g15)
    rw [d1, d2, e2, e3]
    exact ⟨rfl, hv.up (cf_i z) (Or.inl (Nat.le_refl _))⟩
  by_cases g16 : b p = 32
  · obtain ⟨e1, e2, e3⟩ := (hav.2.2.2.2.2.2.2.2.2.2.2.2.2.2.2.2.2.2.2.2.1) g16
    obtain ⟨d1, d2⟩ := (he.2.2.2.2.2.2.2.2.2.2.2.2.2.2.1) (Or.inr g16)
    rw [d1, d2, e2, e3]
    exact ⟨rfl, hv.up (cf_i z) (Or.inl (Nat.le_refl _))⟩
  · have g17 : b p = 30 := by omega
    obtain ⟨e1, e2, e3⟩ := (hav.2.2.2.2.2.2.2.2.2.2.2.2.2.2.2.2.2.2.1) g17
    obtain ⟨d1, d2⟩ := (he.2.2.2.2.2.2.2.2.2.2.2.2.2.2.2) g17
    have q := e1.mp hc
    rw [d1, d2, e2, e3]
    refine ⟨rfl, fun i hi => ?_⟩
    by_cases e : i = T 15 m + t - 1
    · rw [e, va_up_self]; exact h30 g17
    · rw [va_up_ne _ _ e]; exact hv i hi
