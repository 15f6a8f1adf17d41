/-! ===== the abstract machine: values, nodes, what goes with a type ===== -/
/-- a number, or a node (0 nothing, 1 more than its number) -/
abbrev AV : Type := Sum Int32 Nat
/-- a node: kind (2 object, 3 row, 4 child), info (class, length, level), item, parts -/
abbrev AN : Type := Nat × Nat × Nat × (Nat → AV)
/-- a frame: method, place, height, values -/
abbrev AF : Type := Nat × Nat × Nat × (Nat → AV)
/-- a value goes with a type -/
def cf (T : Nat → Nat → Nat) (N : Nat → AN) (v : AV) (t : Nat) : Prop := (t = 99 ∧ ∀ i, v = .inr (i + 1) → (N i).1 ≠ 4) ∨ (t = 0 ∧ ∃ x, v = .inl x) ∨ (t ≠ 0 ∧ t ≠ 99 ∧ (v = .inr 0 ∨ ∃ i, v = .inr (i + 1) ∧ ((t = 98 ∧ ((N i).1 = 2 ∨ (N i).1 = 3)) ∨ (1 ≤ t ∧ t ≤ 32 ∧ (N i).1 = 2 ∧ isA T (N i).2.1 (t - 1)) ∨ (64 ≤ t ∧ t ≤ 96 ∧ (N i).1 = 3 ∧ (N i).2.2.1 = t - 64))))
theorem cf.i {T : Nat → Nat → Nat} {N : Nat → AN} {v : AV} (h : cf T N v 0) : ∃ x, v = .inl x := by
  rcases h with h | h | h
  · exact absurd h.1 (by decide)
  · exact h.2
  · exact absurd rfl h.1
theorem cf_i {T : Nat → Nat → Nat} {N : Nat → AN} (x : Int32) : cf T N (.inl x) 0 := Or.inr (Or.inl ⟨rfl, x, rfl⟩)
theorem cf_n {T : Nat → Nat → Nat} {N : Nat → AN} {t : Nat} (h : t ≠ 0) : cf T N (.inr 0) t := by
  by_cases e : t = 99
  · exact Or.inl ⟨e, fun i q => by cases q⟩
  · exact Or.inr (Or.inr ⟨h, e, Or.inl rfl⟩)
/-- a value of a type that is neither int nor unusable is nothing or a node -/
theorem cf.r {T : Nat → Nat → Nat} {N : Nat → AN} {v : AV} {t : Nat} (h : cf T N v t) (h0 : t ≠ 0) (h9 : t ≠ 99) : v = .inr 0 ∨ ∃ i, v = .inr (i + 1) ∧ ((N i).1 = 2 ∨ (N i).1 = 3) := by
  rcases h with h | h | ⟨-, -, h | ⟨i, h1, h2⟩⟩
  · exact absurd h.1 h9
  · exact absurd h.1 h0
  · exact Or.inl h
  · refine Or.inr ⟨i, h1, ?_⟩
    rcases h2 with z | z | z
    · exact z.2
    · exact Or.inl z.2.2.1
    · exact Or.inr z.2.2.1
theorem cf.o {T : Nat → Nat → Nat} {N : Nat → AN} {v : AV} {t : Nat} (h : cf T N v t) (h1 : 1 ≤ t) (h2 : t ≤ 32) : v = .inr 0 ∨ ∃ i, v = .inr (i + 1) ∧ (N i).1 = 2 ∧ isA T (N i).2.1 (t - 1) := by
  rcases h with h | h | ⟨-, -, h | ⟨i, h3, h4⟩⟩
  · omega
  · omega
  · exact Or.inl h
  · refine Or.inr ⟨i, h3, ?_⟩
    rcases h4 with z | z | z
    · omega
    · exact z.2.2
    · omega
theorem cf.w {T : Nat → Nat → Nat} {N : Nat → AN} {v : AV} {t : Nat} (h : cf T N v t) (h1 : 64 ≤ t) (h2 : t ≤ 97) : v = .inr 0 ∨ ∃ i, v = .inr (i + 1) ∧ (N i).1 = 3 ∧ t ≠ 97 ∧ (N i).2.2.1 = t - 64 := by
  rcases h with h | h | ⟨-, -, h | ⟨i, h3, h4⟩⟩
  · omega
  · omega
  · exact Or.inl h
  · refine Or.inr ⟨i, h3, ?_⟩
    rcases h4 with z | z | z
    · omega
    · omega
    · exact ⟨z.2.2.1, by omega, z.2.2.2⟩
/-- no value is a child -/
theorem cf.k {T : Nat → Nat → Nat} {N : Nat → AN} {v : AV} {t : Nat} (h : cf T N v t) : ∀ i, v = .inr (i + 1) → (N i).1 ≠ 4 := fun i q => by
  rcases h with h | h | ⟨-, -, h | ⟨i', h3, h4⟩⟩
  · exact h.2 i q
  · obtain ⟨x, e2⟩ := h.2
    rw [e2] at q
    cases q
  · rw [h] at q
    cases q
  · rw [h3] at q
    cases q
    rcases h4 with z | z | z <;> omega
/-- types above -/
theorem cf.le {T : Nat → Nat → Nat} {b : Nat → Nat} {N : Nat → AN} {v : AV} {x y : Nat} (hw : wf T b) (hx : vt T x) (hN : ∀ i, v = .inr (i + 1) → (N i).1 = 2 → (N i).2.1 < T 0 0) (h : cf T N v x) (hl : leT T x y) : cf T N v y := by
  have w2 := hw.2.1
  have h5 := fun c (hc : c < T 0 0) => (hw.2.2.2.2.2.2.1 c hc).1
  unfold vt at hx
  rcases hl with e | e | e | e | e
  · rw [← e]; exact h
  · exact Or.inl ⟨e, h.k⟩
  · rcases h with h | h | ⟨-, -, h | ⟨i, h3, h4⟩⟩
    · omega
    · omega
    · rw [h]; exact cf_n e.2
    · omega
  · by_cases e9 : x = 99
    · omega
    · rcases h.r e.2.1 e9 with q | ⟨i, q1, q2⟩
      · rw [q]; exact cf_n (by omega)
      · exact Or.inr (Or.inr ⟨by omega, by omega, Or.inr ⟨i, q1, Or.inl ⟨e.1, q2⟩⟩⟩)
  · rcases h.o e.1 e.2.1 with q | ⟨i, q1, q2, q3⟩
    · rw [q]; exact cf_n (by omega)
    · exact Or.inr (Or.inr ⟨by omega, by omega, Or.inr ⟨i, q1, Or.inr (Or.inl ⟨e.2.2.1, e.2.2.2.1, q2, isA_t h5 w2 e.2.2.2.2 _ (hN i q1 q2) q3⟩)⟩⟩)
/-- into what a value may go -/
theorem cf.go {T : Nat → Nat → Nat} {b : Nat → Nat} {N : Nat → AN} {v : AV} {x y : Nat} (hw : wf T b) (hN : ∀ i, v = .inr (i + 1) → (N i).1 = 2 → (N i).2.1 < T 0 0) (h : cf T N v x) (hl : goesT T x y) : cf T N v y := by
  have w2 := hw.2.1
  have h5 := fun c (hc : c < T 0 0) => (hw.2.2.2.2.2.2.1 c hc).1
  rcases hl with e | e | e
  · rw [← e]; exact h
  · rcases h with h | h | ⟨-, -, h | ⟨i, h3, h4⟩⟩
    · omega
    · omega
    · rw [h]; exact cf_n e.2.1
    · omega
  · rcases h.o e.1 e.2.1 with q | ⟨i, q1, q2, q3⟩
    · rw [q]; exact cf_n (by omega)
    · exact Or.inr (Or.inr ⟨by omega, by omega, Or.inr ⟨i, q1, Or.inr (Or.inl ⟨e.2.2.1, e.2.2.2.1, q2, isA_t h5 w2 e.2.2.2.2 _ (hN i q1 q2) q3⟩)⟩⟩)
/-- nodes may be added; those that are there keep kind, info and item -/
def nle (n : Nat) (N N' : Nat → AN) : Prop := ∀ i, i < n → (N' i).1 = (N i).1 ∧ (N' i).2.1 = (N i).2.1 ∧ (N' i).2.2.1 = (N i).2.2.1
theorem cf.n {T : Nat → Nat → Nat} {N N' : Nat → AN} {n : Nat} {v : AV} {t : Nat} (h : cf T N v t) (hn : ∀ i, v = .inr (i + 1) → i < n) (hle : nle n N N') : cf T N' v t := by
  rcases h with h | h | ⟨h1, h2, h | ⟨i, h3, h4⟩⟩
  · exact Or.inl ⟨h.1, fun i q => by rw [(hle i (hn i q)).1]; exact h.2 i q⟩
  · exact Or.inr (Or.inl h)
  · exact Or.inr (Or.inr ⟨h1, h2, Or.inl h⟩)
  · obtain ⟨e1, e2, e3⟩ := hle i (hn i h3)
    refine Or.inr (Or.inr ⟨h1, h2, Or.inr ⟨i, h3, ?_⟩⟩)
    rw [e1, e2, e3]
    exact h4
/-- how deep a row of so many items is -/
def dpt (l : Nat) : Nat := if l ≤ 15 then 0 else if l ≤ 225 then 1 else 2
/-- how many parts a node has -/
def npt (T : Nat → Nat → Nat) (x : AN) : Nat := if x.1 = 2 then T 6 x.2.1 else 15
/-- whether part j of a node may be a node -/
def isP (T : Nat → Nat → Nat) (x : AN) (j : Nat) : Prop := if x.1 = 2 then T 7 (15 * x.2.1 + j) ≠ 0 else if x.1 = 3 then x.2.2.1 ≠ 0 ∨ dpt x.2.1 ≠ 0 else x.2.2.1 ≠ 0 ∨ x.2.1 ≠ 0
/-- the type of a part: of a row or child by its level -/
def ptl (T : Nat → Nat → Nat) (N : Nat → AN) (lv it : Nat) (v : AV) : Prop := if lv = 0 then cf T N v it else (v = .inr 0 ∨ ∃ i, v = .inr (i + 1) ∧ (N i).1 = 4 ∧ (N i).2.1 = lv - 1 ∧ (N i).2.2.1 = it)
/-- a node is well -/
def nwl (T : Nat → Nat → Nat) (N : Nat → AN) (x : AN) : Prop := (x.1 = 2 ∧ x.2.1 < T 0 0 ∧ ∀ j, j < T 6 x.2.1 → cf T N (x.2.2.2 j) (T 7 (15 * x.2.1 + j))) ∨ (x.1 = 3 ∧ x.2.1 ≤ 3375 ∧ x.2.2.1 ≤ T 0 0 ∧ ∀ j, j < 15 → ptl T N (dpt x.2.1) x.2.2.1 (x.2.2.2 j)) ∨ (x.1 = 4 ∧ x.2.1 ≤ 1 ∧ x.2.2.1 ≤ T 0 0 ∧ ∀ j, j < 15 → ptl T N x.2.1 x.2.2.1 (x.2.2.2 j))
theorem ptl.n {T : Nat → Nat → Nat} {N N' : Nat → AN} {n lv it : Nat} {v : AV} (h : ptl T N lv it v) (hn : ∀ i, v = .inr (i + 1) → i < n) (hle : nle n N N') : ptl T N' lv it v := by
  unfold ptl at h ⊢
  by_cases e : lv = 0
  · rw [if_pos e] at h ⊢; exact h.n hn hle
  · rw [if_neg e] at h ⊢
    rcases h with h | ⟨i, h1, h2⟩
    · exact Or.inl h
    · obtain ⟨e1, e2, e3⟩ := hle i (hn i h1)
      exact Or.inr ⟨i, h1, by rw [e1, e2, e3]; exact h2⟩
theorem nwl.n {T : Nat → Nat → Nat} {N N' : Nat → AN} {n : Nat} {x : AN} (h : nwl T N x) (hn : ∀ j i, j < npt T x → x.2.2.2 j = .inr (i + 1) → i < n) (hle : nle n N N') : nwl T N' x := by
  rcases h with ⟨h1, h2, h3⟩ | ⟨h1, h2, h3, h4⟩ | ⟨h1, h2, h3, h4⟩
  · exact Or.inl ⟨h1, h2, fun j hj => (h3 j hj).n (fun i q => hn j i (by unfold npt; rw [if_pos h1]; exact hj) q) hle⟩
  · exact Or.inr (Or.inl ⟨h1, h2, h3, fun j hj => (h4 j hj).n (fun i q => hn j i (by unfold npt; rw [if_neg (by omega)]; exact hj) q) hle⟩)
  · exact Or.inr (Or.inr ⟨h1, h2, h3, fun j hj => (h4 j hj).n (fun i q => hn j i (by unfold npt; rw [if_neg (by omega)]; exact hj) q) hle⟩)
