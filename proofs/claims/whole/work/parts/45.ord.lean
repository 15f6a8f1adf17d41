/-! ===== the order of the types; ranks ===== -/
/-- b is a, or above a -/
def leT (T : Nat → Nat → Nat) (a b : Nat) : Prop := a = b ∨ b = 99 ∨ (a = 97 ∧ b ≠ 0) ∨ (b = 98 ∧ a ≠ 0 ∧ a ≠ 99) ∨ (1 ≤ a ∧ a ≤ 32 ∧ 1 ≤ b ∧ b ≤ 32 ∧ isA T (a - 1) (b - 1))
theorem isA_t {T : Nat → Nat → Nat} {C : Nat} (h5 : ∀ c, c < C → T 5 c ≤ c) (hC : C ≤ 32) {a z : Nat} (h2 : isA T a z) : ∀ c, c < C → isA T c a → isA T c z := by
  intro c
  induction c using Nat.strongRecOn with
  | _ c ih =>
    intro hc h1
    rcases (isA_u h5 hC hc).mp h1 with e | ⟨e0, e⟩
    · rw [e]; exact h2
    · have v := h5 c hc
      exact (isA_u h5 hC hc).mpr (Or.inr ⟨e0, ih (T 5 c - 1) (by omega) (by omega) e⟩)
theorem leT_r {T : Nat → Nat → Nat} (a : Nat) : leT T a a := Or.inl rfl
theorem leT_t {T : Nat → Nat → Nat} {b : Nat → Nat} {x y z : Nat} (hw : wf T b) (hx : vt T x) (h1 : leT T x y) (h2 : leT T y z) : leT T x z := by
  have w2 := hw.2.1
  have h5 := fun c (hc : c < T 0 0) => (hw.2.2.2.2.2.2.1 c hc).1
  unfold vt at hx
  rcases h1 with e | e | e | e | e
  · rw [e]; exact h2
  · rcases h2 with f | f | f | f | f
    · exact Or.inr (Or.inl (by omega))
    · exact Or.inr (Or.inl f)
    · omega
    · omega
    · omega
  · rcases h2 with f | f | f | f | f
    · exact Or.inr (Or.inr (Or.inl ⟨e.1, by omega⟩))
    · exact Or.inr (Or.inl f)
    · exact Or.inr (Or.inr (Or.inl ⟨e.1, f.2⟩))
    · exact Or.inr (Or.inr (Or.inl ⟨e.1, by omega⟩))
    · exact Or.inr (Or.inr (Or.inl ⟨e.1, by omega⟩))
  · rcases h2 with f | f | f | f | f
    · exact Or.inr (Or.inr (Or.inr (Or.inl ⟨by omega, e.2⟩)))
    · exact Or.inr (Or.inl f)
    · omega
    · exact Or.inr (Or.inr (Or.inr (Or.inl ⟨f.1, e.2⟩)))
    · omega
  · rcases h2 with f | f | f | f | f
    · rw [← f]; exact Or.inr (Or.inr (Or.inr (Or.inr e)))
    · exact Or.inr (Or.inl f)
    · omega
    · exact Or.inr (Or.inr (Or.inr (Or.inl ⟨f.1, by omega⟩)))
    · exact Or.inr (Or.inr (Or.inr (Or.inr ⟨e.1, e.2.1, f.2.2.1, f.2.2.2.1, isA_t h5 w2 f.2.2.2.2 (x - 1) (by omega) e.2.2.2.2⟩)))
/-- what two come to is above both -/
theorem meet_up {T : Nat → Nat → Nat} {b : Nat → Nat} {x y : Nat} (hw : wf T b) (hx : vt T x) (hy : vt T y) : leT T x (meetT T x y) ∧ leT T y (meetT T x y) := by
  have w2 := hw.2.1
  have h5 := fun c (hc : c < T 0 0) => (hw.2.2.2.2.2.2.1 c hc).1
  unfold vt at hx hy
  unfold meetT
  by_cases e1 : x = y
  · rw [if_pos e1]; exact ⟨Or.inl rfl, Or.inl e1.symm⟩
  rw [if_neg e1]
  by_cases e2 : x = 0 ∨ x = 99 ∨ y = 0 ∨ y = 99
  · rw [if_pos e2]; exact ⟨Or.inr (Or.inl rfl), Or.inr (Or.inl rfl)⟩
  rw [if_neg e2]
  by_cases e3 : x = 97
  · rw [if_pos e3]; exact ⟨Or.inr (Or.inr (Or.inl ⟨e3, by omega⟩)), Or.inl rfl⟩
  rw [if_neg e3]
  by_cases e4 : y = 97
  · rw [if_pos e4]; exact ⟨Or.inl rfl, Or.inr (Or.inr (Or.inl ⟨e4, by omega⟩))⟩
  rw [if_neg e4]
  by_cases e5 : x ≤ 32 ∧ y ≤ 32
  · rw [if_pos e5]
    have hl := lca_l h5 w2 (x := x) (y := y) (by omega) (by omega) (by omega)
    by_cases e6 : lca T x y = 0
    · rw [if_pos e6]
      exact ⟨Or.inr (Or.inr (Or.inr (Or.inl ⟨rfl, by omega, by omega⟩))), Or.inr (Or.inr (Or.inr (Or.inl ⟨rfl, by omega, by omega⟩)))⟩
    · rw [if_neg e6]
      have hle := isL_le h5 w2 (show x ≤ T 0 0 by omega) hl
      rcases hl with ⟨a, _⟩ | ⟨_, a1, a2, _⟩
      · exact absurd a e6
      · exact ⟨Or.inr (Or.inr (Or.inr (Or.inr ⟨by omega, by omega, by omega, by omega, a1.2⟩))), Or.inr (Or.inr (Or.inr (Or.inr ⟨by omega, by omega, by omega, by omega, a2.2⟩)))⟩
  · rw [if_neg e5]
    exact ⟨Or.inr (Or.inr (Or.inr (Or.inl ⟨rfl, by omega, by omega⟩))), Or.inr (Or.inr (Or.inr (Or.inl ⟨rfl, by omega, by omega⟩)))⟩
/-- how often a type may yet rise -/
def rk (t : Nat) : Nat := if t = 99 then 0 else if t = 98 ∨ t = 0 then 1 else if t = 97 then 34 else if t ≤ 32 then 1 + t else 2
theorem rk_le (t : Nat) : rk t ≤ 34 := by unfold rk; (repeat' split) <;> omega
theorem rk_lt {T : Nat → Nat → Nat} {b : Nat → Nat} {x y : Nat} (hw : wf T b) (hx : vt T x) (hy : vt T y) (hne : meetT T x y ≠ x) : rk (meetT T x y) < rk x := by
  have w2 := hw.2.1
  have h5 := fun c (hc : c < T 0 0) => (hw.2.2.2.2.2.2.1 c hc).1
  unfold vt at hx hy
  revert hne
  unfold meetT
  by_cases e1 : x = y
  · rw [if_pos e1]; exact fun z => absurd rfl z
  rw [if_neg e1]
  by_cases e2 : x = 0 ∨ x = 99 ∨ y = 0 ∨ y = 99
  · rw [if_pos e2]
    intro hne
    unfold rk
    rw [if_pos rfl]
    (repeat' split) <;> omega
  rw [if_neg e2]
  by_cases e3 : x = 97
  · rw [if_pos e3]
    intro hne
    unfold rk
    (repeat' split) <;> omega
  rw [if_neg e3]
  by_cases e4 : y = 97
  · rw [if_pos e4]; exact fun z => absurd rfl z
  rw [if_neg e4]
  by_cases e5 : x ≤ 32 ∧ y ≤ 32
  · rw [if_pos e5]
    have hl := lca_l h5 w2 (x := x) (y := y) (by omega) (by omega) (by omega)
    have hle := isL_le h5 w2 (show x ≤ T 0 0 by omega) hl
    by_cases e6 : lca T x y = 0
    · rw [if_pos e6]
      intro hne
      unfold rk
      (repeat' split) <;> omega
    · rw [if_neg e6]
      intro hne
      unfold rk
      (repeat' split) <;> omega
  · rw [if_neg e5]
    intro hne
    unfold rk
    (repeat' split) <;> omega
/-! ===== the tables of one method as numbers ===== -/
/-- a place of the code of method m -/
def inC (T : Nat → Nat → Nat) (m p : Nat) : Prop := T 17 m ≤ p ∧ p < T 17 m + T 18 m
def tbv (T : Nat → Nat → Nat) (m : Nat) (h ty mk : Nat → Nat) : Prop := ∀ p, inC T m p → h p ≤ T 16 m + 1 ∧ mk p ≤ 1 ∧ (h p = 0 → mk p = 0) ∧ (h p ≠ 0 → T 4 p = 1 ∧ ∀ i, i < T 15 m + (h p - 1) → vt T (ty (12 * p + i)) ∧ (T 15 m ≤ i → ty (12 * p + i) ≠ 99))
/-- the tables went up -/
def tup (T : Nat → Nat → Nat) (m : Nat) (h ty mk h' ty' mk' : Nat → Nat) : Prop := (∀ p, inC T m p → h p ≠ 0 → h' p = h p ∧ ∀ i, i < T 15 m + (h p - 1) → leT T (ty (12 * p + i)) (ty' (12 * p + i))) ∧ (∀ p, inC T m p → mk' p = 0 → mk p = 0 ∧ h' p = h p ∧ ∀ i, i < T 15 m + (h p - 1) → ty' (12 * p + i) = ty (12 * p + i))
theorem tup_r {T : Nat → Nat → Nat} {m : Nat} {h ty mk : Nat → Nat} : tup T m h ty mk h ty mk := ⟨fun _ _ _ => ⟨rfl, fun _ _ => leT_r _⟩, fun _ _ q => ⟨q, rfl, fun _ _ => rfl⟩⟩
theorem tup_t {T : Nat → Nat → Nat} {b : Nat → Nat} {m : Nat} {h ty mk h' ty' mk' h2 ty2 mk2 : Nat → Nat} (hw : wf T b) (hv : tbv T m h ty mk) (a : tup T m h ty mk h' ty' mk') (c : tup T m h' ty' mk' h2 ty2 mk2) : tup T m h ty mk h2 ty2 mk2 := by
  refine ⟨fun p hp h0 => ?_, fun p hp h0 => ?_⟩
  · obtain ⟨a1, a2⟩ := a.1 p hp h0
    obtain ⟨c1, c2⟩ := c.1 p hp (by omega)
    refine ⟨c1.trans a1, fun i hi => leT_t hw (((hv p hp).2.2.2 h0).2 i hi).1 (a2 i hi) (c2 i (by omega))⟩
  · obtain ⟨c1, c2, c3⟩ := c.2 p hp h0
    obtain ⟨a1, a2, a3⟩ := a.2 p hp c1
    exact ⟨a1, c2.trans a2, fun i hi => (c3 i (by omega)).trans (a3 i hi)⟩
/-- types w, so high, have come to q -/
def arr (T : Nat → Nat → Nat) (m q t : Nat) (w h ty : Nat → Nat) : Prop := inC T m q ∧ h q = t + 1 ∧ ∀ i, i < T 15 m + t → vt T (w i) ∧ leT T (w i) (ty (12 * q + i))
theorem arr.u {T : Nat → Nat → Nat} {b : Nat → Nat} {m q t : Nat} {w h ty mk h' ty' mk' : Nat → Nat} (hw : wf T b) (a : arr T m q t w h ty) (u : tup T m h ty mk h' ty' mk') : arr T m q t w h' ty' := by
  obtain ⟨a1, a2, a3⟩ := a
  obtain ⟨u1, u2⟩ := u.1 q a1 (by omega)
  exact ⟨a1, by omega, fun i hi => ⟨(a3 i hi).1, leT_t hw (a3 i hi).1 (a3 i hi).2 (u2 i (by omega))⟩⟩
/-- handler k of method m is for place p -/
def cov (T : Nat → Nat → Nat) (b : Nat → Nat) (m p k : Nat) : Prop := pr b (T 20 m + 7 * k) ≤ p - T 17 m ∧ p - T 17 m < pr b (T 20 m + 7 * k + 2)
/-- what stands at p came to handler k -/
def hst (T : Nat → Nat → Nat) (b : Nat → Nat) (m p k : Nat) (h ty : Nat → Nat) : Prop := cov T b m p k → 1 ≤ T 16 m ∧ inC T m (T 17 m + pr b (T 20 m + 7 * k + 5)) ∧ h (T 17 m + pr b (T 20 m + 7 * k + 5)) = 2 ∧ leT T (b (T 20 m + 7 * k + 4) + 1) (ty (12 * (T 17 m + pr b (T 20 m + 7 * k + 5)) + T 15 m)) ∧ ∀ i, i < T 15 m → leT T (ty (12 * p + i)) (ty (12 * (T 17 m + pr b (T 20 m + 7 * k + 5)) + i))
theorem hst.u {T : Nat → Nat → Nat} {b : Nat → Nat} {m p k : Nat} {h ty mk h' ty' mk' : Nat → Nat} (hw : wf T b) (hm : m < T 0 1) (hk : k < T 19 m) (hp : inC T m p) (h0 : h p ≠ 0) (hv : tbv T m h ty mk) (a : hst T b m p k h ty) (u : tup T m h ty mk h' ty' mk') (hmk : mk' p = 0) : hst T b m p k h' ty' := by
  intro hc
  obtain ⟨a1, a2, a3, a4, a5⟩ := a hc
  obtain ⟨u1, u2⟩ := u.1 _ a2 (by omega)
  obtain ⟨v1, v2, v3⟩ := u.2 p hp hmk
  have hcl := (hw.2.2.2.2.2.2.2.2.1 m hm).2.2.2.2.2.2.2.2.2.2.2.2.1 k hk
  refine ⟨a1, a2, by omega, leT_t hw (Or.inl (by omega)) a4 (u2 _ (by omega)), fun i hi => ?_⟩
  rw [v3 i (by omega)]
  exact leT_t hw (((hv p hp).2.2.2 h0).2 i (by omega)).1 (a5 i hi) (u2 i (by omega))
/-- the instruction at p fits, and what is behind it came on -/
def ost (T : Nat → Nat → Nat) (b : Nat → Nat) (m p : Nat) (h ty : Nat → Nat) : Prop := ∃ w, (∀ i, i < T 15 m + (h p - 1) → w i = ty (12 * p + i)) ∧ ∃ (c : Prop) (t' : Nat) (w' : Nat → Nat), avS T b m p (h p - 1) w c t' w' ∧ c ∧ (¬ (b p = 25 ∨ b p = 37 ∨ b p = 38 ∨ b p = 39) → arr T m (p + wd (b p)) t' w' h ty) ∧ ((19 ≤ b p ∧ b p ≤ 25) → arr T m (T 17 m + pr b (jpl b p)) t' w' h ty)
theorem ost.u {T : Nat → Nat → Nat} {b : Nat → Nat} {m p : Nat} {h ty mk h' ty' mk' : Nat → Nat} (hw : wf T b) (hp : inC T m p) (a : ost T b m p h ty) (u : tup T m h ty mk h' ty' mk') (hmk : mk' p = 0) : ost T b m p h' ty' := by
  obtain ⟨w, a1, c, t', w', a2, a3, a4, a5⟩ := a
  obtain ⟨v1, v2, v3⟩ := u.2 p hp hmk
  refine ⟨w, fun i hi => ?_, c, t', w', by rw [v2]; exact a2, a3, fun q => (a4 q).u hw u, fun q => (a5 q).u hw u⟩
  rw [v2] at hi
  rw [a1 i hi, v3 i hi]
/-- all that is wanted of a place that is not marked -/
def stb (T : Nat → Nat → Nat) (b : Nat → Nat) (m p : Nat) (h ty : Nat → Nat) : Prop := (∀ k, k < T 19 m → hst T b m p k h ty) ∧ ost T b m p h ty
theorem stb.u {T : Nat → Nat → Nat} {b : Nat → Nat} {m p : Nat} {h ty mk h' ty' mk' : Nat → Nat} (hw : wf T b) (hm : m < T 0 1) (hp : inC T m p) (h0 : h p ≠ 0) (hv : tbv T m h ty mk) (a : stb T b m p h ty) (u : tup T m h ty mk h' ty' mk') (hmk : mk' p = 0) : stb T b m p h' ty' := ⟨fun k hk => (a.1 k hk).u hw hm hk hp h0 hv u hmk, a.2.u hw hp u hmk⟩
/-- one coming: tables before and behind -/
def cst (T : Nat → Nat → Nat) (m p t : Nat) (w h ty mk h' ty' mk' : Nat → Nat) : Prop := ¬ cbd T (T 15 m) p t h ty w ∧ h' = va_up h p (t + 1) ∧ ty' = nty T p (T 15 m + t) h ty w ∧ ∃ v, mk' = va_up mk p v ∧ ((chg T p (T 15 m + t) h ty w ∧ v = 1) ∨ (¬ chg T p (T 15 m + t) h ty w ∧ v = mk p))
theorem nty_in {T : Nat → Nat → Nat} {p n i : Nat} {h ty w : Nat → Nat} (hi : i < n) : nty T p n h ty w (12 * p + i) = nwT T p h ty w i := by
  unfold nty
  rw [if_pos (by omega), Nat.add_sub_cancel_left]
theorem nty_ou {T : Nat → Nat → Nat} {p q n i : Nat} {h ty w : Nat → Nat} (hn : n ≤ 12) (hi : i < 12) (hq : q ≠ p) : nty T p n h ty w (12 * q + i) = ty (12 * q + i) := by
  unfold nty
  rw [if_neg (by omega)]
theorem cst.f {T : Nat → Nat → Nat} {b : Nat → Nat} {m p t : Nat} {w h ty mk h' ty' mk' : Nat → Nat} (hw : wf T b) (hm : m < T 0 1) (hp : inC T m p) (h4 : T 4 p = 1) (ht : t ≤ T 16 m) (hv : tbv T m h ty mk) (hvw : ∀ i, i < T 15 m + t → vt T (w i)) (c : cst T m p t w h ty mk h' ty' mk') : tup T m h ty mk h' ty' mk' ∧ arr T m p t w h' ty' ∧ tbv T m h' ty' mk' := by
  have h12 := (hw.2.2.2.2.2.2.2.2.1 m hm).2.2.2.2.2.2.1
  obtain ⟨c1, c2, c3, v, c4, c5⟩ := c
  have hh : h p = 0 ∨ h p = t + 1 := by
    by_cases e : h p = 0
    · exact Or.inl e
    · exact Or.inr (Classical.byContradiction (fun z => c1 (Or.inl ⟨e, z⟩)))
  obtain ⟨p1, p2, p3, p4⟩ := hv p hp
  have hn : ∀ i, i < T 15 m + t → vt T (nwT T p h ty w i) ∧ leT T (w i) (nwT T p h ty w i) ∧ (h p ≠ 0 → leT T (ty (12 * p + i)) (nwT T p h ty w i)) := fun i hi => by
    unfold nwT
    by_cases e : h p = 0
    · rw [if_pos e]
      exact ⟨hvw i hi, leT_r _, fun z => absurd e z⟩
    · rw [if_neg e]
      have vi := ((p4 e).2 i (by omega)).1
      have mu := meet_up hw vi (hvw i hi)
      exact ⟨(meet_le hw vi (hvw i hi)).1, mu.2, fun _ => mu.1⟩
  refine ⟨⟨fun q hq q0 => ?_, fun q hq q0 => ?_⟩, ⟨hp, by rw [c2, va_up_self], fun i hi => ⟨hvw i hi, ?_⟩⟩, fun q hq => ?_⟩
  · by_cases e : q = p
    · subst e
      rw [c2, va_up_self, c3]
      refine ⟨by omega, fun i hi => ?_⟩
      rw [nty_in (by omega)]
      exact (hn i (by omega)).2.2 q0
    · rw [c2, va_up_ne _ _ e, c3]
      refine ⟨rfl, fun i hi => ?_⟩
      have := (hv q hq).1
      rw [nty_ou (by omega) (by omega) e]
      exact leT_r _
  · by_cases e : q = p
    · subst e
      rw [c4, va_up_self] at q0
      rcases c5 with ⟨z, y⟩ | ⟨z, y⟩
      · omega
      · have z0 : h q ≠ 0 := fun e => z (Or.inl e)
        refine ⟨by omega, by rw [c2, va_up_self]; omega, fun i hi => ?_⟩
        rw [c3, nty_in (by omega)]
        exact Classical.byContradiction (fun y => z (Or.inr ⟨i, by omega, y⟩))
    · rw [c4, va_up_ne _ _ e] at q0
      refine ⟨q0, by rw [c2, va_up_ne _ _ e], fun i hi => ?_⟩
      have := (hv q hq).1
      rw [c3, nty_ou (by omega) (by omega) e]
  · rw [c3, nty_in hi]
    exact (hn i hi).2.1
  · by_cases e : q = p
    · subst e
      rw [c2, c3, c4, va_up_self, va_up_self]
      refine ⟨by omega, by rcases c5 with z | z <;> omega, fun z => by omega, fun _ => ⟨h4, fun i hi => ?_⟩⟩
      rw [nty_in (by omega)]
      exact ⟨(hn i (by omega)).1, fun z y => c1 (Or.inr ⟨i, z, by omega, y⟩)⟩
    · rw [c2, c3, c4, va_up_ne _ _ e, va_up_ne _ _ e]
      obtain ⟨q1, q2, q3, q4⟩ := hv q hq
      refine ⟨q1, q2, q3, fun z => ⟨(q4 z).1, fun i hi => ?_⟩⟩
      rw [nty_ou (by omega) (by omega) e]
      exact (q4 z).2 i hi
/-! ===== the measure ===== -/
def sumN (f : Nat → Nat) : Nat → Nat
  | 0 => 0
  | n + 1 => sumN f n + f n
theorem sumN_le {f g : Nat → Nat} : ∀ n, (∀ i, i < n → f i ≤ g i) → sumN f n ≤ sumN g n := by
  intro n
  induction n with
  | zero => intro _; exact Nat.le_refl _
  | succ n ih =>
    intro h
    have := ih (fun i hi => h i (by omega))
    have := h n (by omega)
    show sumN f n + f n ≤ sumN g n + g n
    omega
theorem sumN_lt {f g : Nat → Nat} {k : Nat} : ∀ n, k < n → (∀ i, i < n → f i ≤ g i) → f k < g k → sumN f n < sumN g n := by
  intro n
  induction n with
  | zero => intro h; omega
  | succ n ih =>
    intro hk h hl
    show sumN f n + f n < sumN g n + g n
    by_cases e : k = n
    · subst e
      have := sumN_le k (fun i hi => h i (by omega))
      omega
    · have := ih (by omega) (fun i hi => h i (by omega)) hl
      have := h n (by omega)
      omega
theorem sumN_b {f : Nat → Nat} {v : Nat} : ∀ n, (∀ i, i < n → f i ≤ v) → sumN f n ≤ n * v := by
  intro n
  induction n with
  | zero => intro _; exact Nat.zero_le _
  | succ n ih =>
    intro h
    have := ih (fun i hi => h i (by omega))
    have := h n (by omega)
    show sumN f n + f n ≤ (n + 1) * v
    rw [Nat.succ_mul]
    omega
def phN (lo : Nat) (h ty mk : Nat → Nat) (p : Nat) : Nat := if h p = 0 then 818 else 2 * sumN (fun i => rk (ty (12 * p + i))) (lo + (h p - 1)) + mk p
def PHN (T : Nat → Nat → Nat) (m : Nat) (h ty mk : Nat → Nat) : Nat := sumN (fun a => phN (T 15 m) h ty mk (T 17 m + a)) (T 18 m)
theorem phN_b {T : Nat → Nat → Nat} {b : Nat → Nat} {m p : Nat} {h ty mk : Nat → Nat} (hw : wf T b) (hm : m < T 0 1) (hp : inC T m p) (hv : tbv T m h ty mk) : phN (T 15 m) h ty mk p ≤ 818 ∧ (h p ≠ 0 → phN (T 15 m) h ty mk p ≤ 817) := by
  have h12 := (hw.2.2.2.2.2.2.2.2.1 m hm).2.2.2.2.2.2.1
  obtain ⟨p1, p2, p3, p4⟩ := hv p hp
  unfold phN
  by_cases e : h p = 0
  · rw [if_pos e]; exact ⟨Nat.le_refl _, fun z => absurd e z⟩
  · rw [if_neg e]
    have := sumN_b (f := fun i => rk (ty (12 * p + i))) (v := 34) (T 15 m + (h p - 1)) (fun i _ => rk_le _)
    have : (T 15 m + (h p - 1)) * 34 ≤ 12 * 34 := Nat.mul_le_mul_right _ (by omega)
    omega
theorem PHN_b {T : Nat → Nat → Nat} {b : Nat → Nat} {m : Nat} {h ty mk : Nat → Nat} (hw : wf T b) (hm : m < T 0 1) (hv : tbv T m h ty mk) : PHN T m h ty mk ≤ 818000 := by
  have h18 := (hw.2.2.2.2.2.2.2.2.1 m hm).2.2.2.2.2.2.2.2.1
  have := sumN_b (f := fun a => phN (T 15 m) h ty mk (T 17 m + a)) (v := 818) (T 18 m) (fun i hi => (phN_b hw hm ⟨by omega, by omega⟩ hv).1)
  have : T 18 m * 818 ≤ 1000 * 818 := Nat.mul_le_mul_right _ h18
  unfold PHN
  omega
/-- a coming never lets the measure rise -/
theorem cst.p {T : Nat → Nat → Nat} {b : Nat → Nat} {m p t : Nat} {w h ty mk h' ty' mk' : Nat → Nat} (hw : wf T b) (hm : m < T 0 1) (hp : inC T m p) (h4 : T 4 p = 1) (ht : t ≤ T 16 m) (hv : tbv T m h ty mk) (hvw : ∀ i, i < T 15 m + t → vt T (w i)) (c : cst T m p t w h ty mk h' ty' mk') : PHN T m h' ty' mk' ≤ PHN T m h ty mk := by
  have h12 := (hw.2.2.2.2.2.2.2.2.1 m hm).2.2.2.2.2.2.1
  obtain ⟨-, -, hv'⟩ := c.f hw hm hp h4 ht hv hvw
  have hb' := phN_b hw hm hp hv'
  obtain ⟨c1, c2, c3, v, c4, c5⟩ := c
  have hh : h p = 0 ∨ h p = t + 1 := by
    by_cases e : h p = 0
    · exact Or.inl e
    · exact Or.inr (Classical.byContradiction (fun z => c1 (Or.inl ⟨e, z⟩)))
  unfold PHN
  refine sumN_le _ (fun a ha => ?_)
  by_cases e : T 17 m + a = p
  · rw [e]
    have hp' : h' p = t + 1 := by rw [c2, va_up_self]
    by_cases e0 : h p = 0
    · have := hb'.2 (by omega)
      have e1 : phN (T 15 m) h ty mk p = 818 := by unfold phN; rw [if_pos e0]
      omega
    · have e1 : h p = t + 1 := by omega
      unfold phN
      rw [if_neg e0, if_neg (by omega), hp', e1, Nat.add_sub_cancel, c4, va_up_self]
      have en : ∀ i, i < T 15 m + t → ty' (12 * p + i) = meetT T (ty (12 * p + i)) (w i) := fun i hi => by
        rw [c3, nty_in hi]; unfold nwT; rw [if_neg e0]
      have hr : ∀ i, i < T 15 m + t → ty' (12 * p + i) ≠ ty (12 * p + i) → rk (ty' (12 * p + i)) < rk (ty (12 * p + i)) := fun i hi z => by
        rw [en i hi] at z ⊢
        exact rk_lt hw (((hv p hp).2.2.2 e0).2 i (by omega)).1 (hvw i hi) z
      have hr2 : ∀ i, i < T 15 m + t → rk (ty' (12 * p + i)) ≤ rk (ty (12 * p + i)) := fun i hi => by
        by_cases z : ty' (12 * p + i) = ty (12 * p + i)
        · rw [z]; exact Nat.le_refl _
        · exact Nat.le_of_lt (hr i hi z)
      rcases c5 with ⟨z, y⟩ | ⟨z, y⟩
      · rcases z with z | ⟨i, z1, z2⟩
        · exact absurd z e0
        · have := sumN_lt (f := fun i => rk (ty' (12 * p + i))) (g := fun i => rk (ty (12 * p + i))) (k := i) (T 15 m + t) z1 hr2 (hr i z1 (by rw [c3, nty_in z1]; exact z2))
          omega
      · have := sumN_le (f := fun i => rk (ty' (12 * p + i))) (g := fun i => rk (ty (12 * p + i))) (T 15 m + t) hr2
        omega
  · have ei : inC T m (T 17 m + a) := ⟨by omega, by omega⟩
    have := (hv _ ei).1
    unfold phN
    rw [c2, c4, va_up_ne _ _ e, va_up_ne _ _ e]
    by_cases e0 : h (T 17 m + a) = 0
    · rw [if_pos e0, if_pos e0]; exact Nat.le_refl _
    · rw [if_neg e0, if_neg e0]
      have := sumN_le (f := fun i => rk (ty' (12 * (T 17 m + a) + i))) (g := fun i => rk (ty (12 * (T 17 m + a) + i))) (T 15 m + (h (T 17 m + a) - 1)) (fun i hi => by
        show rk (ty' (12 * (T 17 m + a) + i)) ≤ rk (ty (12 * (T 17 m + a) + i))
        rw [c3, nty_ou (by omega) (by omega) e]; exact Nat.le_refl _)
      omega
/-- a mark taken away -/
theorem PHN_m {T : Nat → Nat → Nat} {m p : Nat} {h ty mk : Nat → Nat} (hp : inC T m p) (h0 : h p ≠ 0) (hmk : mk p = 1) : PHN T m h ty (va_up mk p 0) < PHN T m h ty mk := by
  obtain ⟨p1, p2⟩ := hp
  unfold PHN
  refine sumN_lt (k := p - T 17 m) (T 18 m) (by omega) (fun a ha => ?_) ?_
  · show phN (T 15 m) h ty (va_up mk p 0) (T 17 m + a) ≤ phN (T 15 m) h ty mk (T 17 m + a)
    unfold phN
    by_cases e0 : h (T 17 m + a) = 0
    · rw [if_pos e0, if_pos e0]; exact Nat.le_refl _
    · rw [if_neg e0, if_neg e0]
      unfold va_up
      by_cases e : T 17 m + a = p
      · rw [if_pos e]; omega
      · rw [if_neg e]; omega
  · show phN (T 15 m) h ty (va_up mk p 0) (T 17 m + (p - T 17 m)) < phN (T 15 m) h ty mk (T 17 m + (p - T 17 m))
    rw [show T 17 m + (p - T 17 m) = p by omega]
    unfold phN
    rw [if_neg h0, if_neg h0, va_up_self]
    omega
