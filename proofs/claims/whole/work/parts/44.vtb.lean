/-! ===== the verifier's tables, both sides ===== -/
/-- the tables of method m: h heights (1 more; 0 where nothing came), ty types, mk marks -/
def vtb (σ μ : sm_S) (T : Nat → Nat → Nat) (m : Nat) (h ty mk : Nat → Nat) : Prop := ∀ p, T 17 m ≤ p → p < T 17 m + T 18 m → σ.2.2.2.1 32 p = oN (h p) ∧ μ.2.2.2.1 21 p = oN (h p) ∧ h p ≤ T 16 m + 1 ∧ σ.2.2.2.1 34 p = nI (mk p) ∧ μ.2.2.2.1 23 p = nI (mk p) ∧ mk p ≤ 1 ∧ (h p = 0 → mk p = 0) ∧ (h p ≠ 0 → ∀ i, i < T 15 m + (h p - 1) → σ.2.2.2.1 33 (12 * p + i) = nI (ty (12 * p + i)) ∧ μ.2.2.2.1 22 (12 * p + i) = nI (ty (12 * p + i)) ∧ vt T (ty (12 * p + i)) ∧ (T 15 m ≤ i → ty (12 * p + i) ≠ 99))
/-- the places of method m in the tables -/
def AmW (T : Nat → Nat → Nat) (m r j : Nat) : Prop := ((r = 32 ∨ r = 34) ∧ T 17 m ≤ j ∧ j < T 17 m + T 18 m) ∨ (r = 33 ∧ 12 * T 17 m ≤ j ∧ j < 12 * (T 17 m + T 18 m))
def AmV (T : Nat → Nat → Nat) (m r j : Nat) : Prop := ((r = 21 ∨ r = 23) ∧ T 17 m ≤ j ∧ j < T 17 m + T 18 m) ∨ (r = 22 ∧ 12 * T 17 m ≤ j ∧ j < 12 * (T 17 m + T 18 m))
/-- the types when w came to p -/
def nty (T : Nat → Nat → Nat) (p n : Nat) (h ty w : Nat → Nat) (j : Nat) : Nat := if 12 * p ≤ j ∧ j < 12 * p + n then nwT T p h ty w (j - 12 * p) else ty j
/-- both came to p alike -/
def rkk (σ μ : sm_S) (T : Nat → Nat → Nat) (m p t l0 : Nat) (h ty mk w : Nat → Nat) (_ : Int32) (σ' : sm_S) (r' : Int32) (μ' : sm_S) : Prop := fr IwX AwX σ σ' ∧ fr IwM AwM μ μ' ∧ ((¬ cbd T (T 15 m) p t h ty w ∧ r' = 1 ∧ μ'.1 10 = μ.1 10 ∧ fr IwX (AmW T m) σ σ' ∧ fr IwM (AmV T m) μ μ' ∧ σ'.1 34 = σ.1 34 ∧ ∃ v, vtb σ' μ' T m (va_up h p (t + 1)) (nty T p (T 15 m + t) h ty w) (va_up mk p v) ∧ ((chg T p (T 15 m + t) h ty w ∧ v = 1 ∧ σ'.1 32 = nI (if p < l0 then p else l0)) ∨ (¬ chg T p (T 15 m + t) h ty w ∧ v = mk p ∧ σ'.1 32 = nI l0))) ∨ (cbd T (T 15 m) p t h ty w ∧ r' = 0 ∧ σ'.1 34 = nI p ∧ μ'.1 10 = nI p))
theorem jv_come {P Q : jk → Prop} {σ μ : sm_S} {T : Nat → Nat → Nat} {b : Nat → Nat} {m p t l0 : Nat} {h ty mk w : Nat → Nat} (hw : wf T b) (hm : m < T 0 1) (hp1 : T 17 m ≤ p) (hp2 : p < T 17 m + T 18 m) (ht : t ≤ T 16 m) (s32 : σ.1 32 = nI l0) (hv : vtb σ μ T m h ty mk) (hvw : ∀ i, i < T 15 m + t → vt T (w i)) (hx : et P (rkX σ T (T 15 m) p t l0 h ty w)) (hmm : et Q (rkM μ T (T 15 m) p t h ty w)) : jt P Q (rkk σ μ T m p t l0 h ty mk w) := by
  have h12 := (hw.2.2.2.2.2.2.2.2.1 m hm).2.2.2.2.2.2.1
  obtain ⟨r, σ', a, f1, c1⟩ := hx
  obtain ⟨r', μ', a', f2, c2⟩ := hmm
  refine ⟨r, σ', r', μ', a, a', f1, f2, ?_⟩
  by_cases cb : cbd T (T 15 m) p t h ty w
  · rcases c1 with ⟨z, -⟩ | ⟨-, z⟩
    · exact absurd cb z
    · rcases c2 with ⟨y, -⟩ | ⟨-, y1, y2⟩
      · exact absurd cb y
      · exact Or.inr ⟨cb, y1, z, y2⟩
  · rcases c1 with ⟨-, x1, x2, x3, x4⟩ | ⟨z, -⟩
    · rcases c2 with ⟨-, y1, y10, y2, y3, y4⟩ | ⟨z, -⟩
      · -- the marks of both sides
        obtain ⟨v, ev, k1, k2, k3⟩ : ∃ v, v ≤ 1 ∧ σ'.2.2.2.1 34 = upd (σ.2.2.2.1 34) p (nI v) ∧ μ'.2.2.2.1 23 = upd (μ.2.2.2.1 23) p (nI v) ∧ ((chg T p (T 15 m + t) h ty w ∧ v = 1 ∧ σ'.1 32 = nI (if p < l0 then p else l0)) ∨ (¬ chg T p (T 15 m + t) h ty w ∧ v = mk p ∧ σ'.1 32 = nI l0)) := by
          obtain ⟨-, -, -, q4, q5, q6, -⟩ := hv p hp1 hp2
          by_cases cc : chg T p (T 15 m + t) h ty w
          · rcases x4 with ⟨-, z2, z3⟩ | ⟨z, -⟩
            · rcases y4 with ⟨-, z4⟩ | ⟨z, -⟩
              · exact ⟨1, by omega, z2, z4, Or.inl ⟨cc, rfl, z3⟩⟩
              · exact absurd cc z
            · exact absurd cc z
          · rcases x4 with ⟨z, -⟩ | ⟨-, z2, z3⟩
            · exact absurd z cc
            · rcases y4 with ⟨z, -⟩ | ⟨-, z4⟩
              · exact absurd z cc
              · exact ⟨mk p, q6, by rw [upd_id q4]; exact z2, by rw [upd_id q5]; exact z4, Or.inr ⟨cc, rfl, z3.trans s32⟩⟩
        refine Or.inl ⟨cb, y1, y10, ⟨f1.1, f1.2.1, f1.2.2.1, f1.2.2.2.1, fun r j q => ?_⟩, ⟨f2.1, f2.2.1, f2.2.2.1, f2.2.2.2.1, fun r j q => ?_⟩, x3, v, fun q q1 q2 => ?_, k3⟩
        · by_cases e32 : r = 32
          · subst e32
            have : j ≠ p := fun e => q (by unfold AmW; omega)
            rw [x1, pk_un this]
          by_cases e33 : r = 33
          · subst e33
            have : ¬ (12 * p ≤ j ∧ j < 12 * p + 12) := fun e => q (by unfold AmW; omega)
            rw [x2, tp_ou (by omega)]
          by_cases e34 : r = 34
          · subst e34
            have : j ≠ p := fun e => q (by unfold AmW; omega)
            rw [k1, pk_un this]
          exact f1.2.2.2.2 r j (by unfold AwX; omega)
        · by_cases e32 : r = 21
          · subst e32
            have : j ≠ p := fun e => q (by unfold AmV; omega)
            rw [y2, pk_un this]
          by_cases e33 : r = 22
          · subst e33
            have : ¬ (12 * p ≤ j ∧ j < 12 * p + 12) := fun e => q (by unfold AmV; omega)
            rw [y3, tp_ou (by omega)]
          by_cases e34 : r = 23
          · subst e34
            have : j ≠ p := fun e => q (by unfold AmV; omega)
            rw [k2, pk_un this]
          exact f2.2.2.2.2 r j (by unfold AwM; omega)
        · obtain ⟨u1, u2, u3, u4, u5, u6, u7, u8⟩ := hv q q1 q2
          by_cases e : q = p
          · subst e
            rw [va_up_self, va_up_self, x1, y2, k1, k2, x2, y3, pk_us, pk_us, pk_us, pk_us, oN_s]
            refine ⟨rfl, rfl, by omega, rfl, rfl, ev, fun z => absurd z (by omega), fun _ i hi => ?_⟩
            rw [Nat.add_sub_cancel] at hi
            have en : nty T q (T 15 m + t) h ty w (12 * q + i) = nwT T q h ty w i := by
              unfold nty
              rw [if_pos (by omega)]
              exact congrArg _ (by omega)
            rw [tp_inn hi, tp_inn hi, en]
            refine ⟨rfl, rfl, ?_, fun z1 z2 => cb (Or.inr ⟨i, z1, hi, z2⟩)⟩
            unfold nwT
            by_cases c0 : h q = 0
            · rw [if_pos c0]; exact hvw i hi
            · rw [if_neg c0]
              have ht1 : h q = t + 1 := Classical.byContradiction (fun z => cb (Or.inl ⟨c0, z⟩))
              exact (meet_le hw (u8 c0 i (by omega)).2.2.1 (hvw i hi)).1
          · rw [va_up_ne _ _ e, va_up_ne _ _ e, x1, y2, k1, k2, x2, y3, pk_un e, pk_un e, pk_un e, pk_un e]
            refine ⟨u1, u2, u3, u4, u5, u6, u7, fun z i hi => ?_⟩
            have en : nty T p (T 15 m + t) h ty w (12 * q + i) = ty (12 * q + i) := by
              unfold nty
              rw [if_neg (by omega)]
            rw [tp_ou (by omega), tp_ou (by omega), en]
            exact u8 z i hi
      · exact absurd z cb
    · exact absurd z cb
