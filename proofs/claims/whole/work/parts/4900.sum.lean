/-! ===== sums over lists ===== -/
def sumL (f : Nat → Nat) : List Nat → Nat
  | [] => 0
  | x :: l => f x + sumL f l
theorem sumL_app (f : Nat → Nat) (a c : List Nat) : sumL f (a ++ c) = sumL f a + sumL f c := by
  induction a with
  | nil => show sumL f c = 0 + sumL f c; omega
  | cons x a ih => show f x + sumL f (a ++ c) = f x + sumL f a + sumL f c; rw [ih]; omega
theorem sumL_mid (f : Nat → Nat) (a c : List Nat) (x : Nat) : sumL f (a ++ x :: c) = f x + sumL f (a ++ c) := by
  rw [sumL_app, sumL_app]
  show sumL f a + (f x + sumL f c) = _
  omega
theorem sumL_sub {f : Nat → Nat} : ∀ (a c : List Nat), a.Nodup → (∀ x, x ∈ a → x ∈ c) → sumL f a ≤ sumL f c := by
  intro a
  induction a with
  | nil => intro c _ _; exact Nat.zero_le _
  | cons x a ih =>
    intro c hn hs
    obtain ⟨c1, c2, e⟩ := List.append_of_mem (hs x List.mem_cons_self)
    rw [e, sumL_mid]
    have hn2 := List.nodup_cons.mp hn
    have := ih (c1 ++ c2) hn2.2 (fun y hy => by
      have h1 := hs y (List.mem_cons_of_mem _ hy)
      rw [e] at h1
      rcases List.mem_append.mp h1 with z | z
      · exact List.mem_append.mpr (Or.inl z)
      · rcases List.mem_cons.mp z with z | z
        · exact absurd (z ▸ hy) hn2.1
        · exact List.mem_append.mpr (Or.inr z))
    show f x + sumL f a ≤ _
    omega
theorem sumL_eq {f : Nat → Nat} {a c : List Nat} (ha : a.Nodup) (hc : c.Nodup) (h : ∀ x, x ∈ a ↔ x ∈ c) : sumL f a = sumL f c := Nat.le_antisymm (sumL_sub a c ha (fun x q => (h x).mp q)) (sumL_sub c a hc (fun x q => (h x).mpr q))
theorem sumL_c {f g : Nat → Nat} : ∀ (a : List Nat), (∀ x, x ∈ a → f x = g x) → sumL f a = sumL g a := by
  intro a
  induction a with
  | nil => intro _; rfl
  | cons x a ih =>
    intro h
    show f x + sumL f a = g x + sumL g a
    rw [h x List.mem_cons_self, ih (fun y hy => h y (List.mem_cons_of_mem _ hy))]
theorem sumL_le {f g : Nat → Nat} : ∀ (a : List Nat), (∀ x, x ∈ a → f x ≤ g x) → sumL f a ≤ sumL g a := by
  intro a
  induction a with
  | nil => intro _; exact Nat.le_refl _
  | cons x a ih =>
    intro h
    have := h x List.mem_cons_self
    have := ih (fun y hy => h y (List.mem_cons_of_mem _ hy))
    show f x + sumL f a ≤ g x + sumL g a
    omega
theorem sumL_map {f g : Nat → Nat} : ∀ (a : List Nat), sumL f (a.map g) = sumL (fun x => f (g x)) a := by
  intro a
  induction a with
  | nil => rfl
  | cons x a ih => show f (g x) + sumL f (a.map g) = f (g x) + _; rw [ih]
theorem sumL_1 : ∀ (a : List Nat), sumL (fun _ => 1) a = a.length := by
  intro a
  induction a with
  | nil => rfl
  | cons x a ih => show 1 + sumL _ a = a.length + 1; rw [ih]; omega
theorem nd_len {a : List Nat} {n : Nat} (h : a.Nodup) (hl : ∀ x, x ∈ a → x < n) : a.length ≤ n := by
  have := sumL_sub (f := fun _ => 1) a (List.range n) h (fun x hx => List.mem_range.mpr (hl x hx))
  rw [sumL_1, sumL_1, List.length_range] at this
  exact this
theorem nd_map {g : Nat → Nat} : ∀ {a : List Nat}, a.Nodup → (∀ x y, x ∈ a → y ∈ a → g x = g y → x = y) → (a.map g).Nodup := by
  intro a
  induction a with
  | nil => intro _ _; exact List.nodup_nil
  | cons x a ih =>
    intro h hi
    have h2 := List.nodup_cons.mp h
    refine List.nodup_cons.mpr ⟨fun z => ?_, ih h2.2 (fun y z hy hz => hi y z (List.mem_cons_of_mem _ hy) (List.mem_cons_of_mem _ hz))⟩
    obtain ⟨y, hy, e⟩ := List.mem_map.mp z
    have := hi y x (List.mem_cons_of_mem _ hy) List.mem_cons_self e
    exact h2.1 (this ▸ hy)
