/-! ===== a cycle of the class's heap, in numbers ===== -/
/-- a cell that may stand in a block -/
def okx (c : Int64) : Prop := (∃ x, x < 2 ^ 30 ∧ c = mkc 1 (nI x)) ∨ ∃ k v, k < 6 ∧ k ≠ 1 ∧ c = mkc k v
/-- moved blocks, the last one first: from B to F -/
def lay (z : Nat → Nat) (B : Nat) : List (Nat × Nat) → Nat → Prop
  | [], F => F = B
  | q :: r, F => F = q.2 + z q.1 ∧ lay z B r q.2
/-- made blocks, the last one first: from R up to E -/
def lan (y : Nat → Nat) (E : Nat) : List Nat → Nat → Prop
  | [], R => R = E
  | x :: r, R => R = x ∧ lan y E r (x + y x)
theorem lay_in {z : Nat → Nat} {B : Nat} : ∀ (l : List (Nat × Nat)) (F : Nat), lay z B l F → B ≤ F ∧ ∀ q, q ∈ l → B ≤ q.2 ∧ q.2 + z q.1 ≤ F := by
  intro l
  induction l with
  | nil => intro F h; exact ⟨by rw [show F = B from h]; exact Nat.le_refl _, fun q hq => by cases hq⟩
  | cons p r ih =>
    intro F h
    obtain ⟨h1, h2⟩ := h
    obtain ⟨i1, i2⟩ := ih p.2 h2
    refine ⟨by omega, fun q hq => ?_⟩
    rcases List.mem_cons.mp hq with e | e
    · subst e; exact ⟨i1, by omega⟩
    · have := i2 q e; omega
theorem lay_dj {z : Nat → Nat} {B : Nat} (hz : ∀ a, 1 ≤ z a) : ∀ (l : List (Nat × Nat)) (F : Nat), lay z B l F → ∀ q q', q ∈ l → q' ∈ l → q ≠ q' → q.2 + z q.1 ≤ q'.2 ∨ q'.2 + z q'.1 ≤ q.2 := by
  intro l
  induction l with
  | nil => intro F h q q' hq; cases hq
  | cons p r ih =>
    intro F h q q' hq hq' hne
    obtain ⟨h1, h2⟩ := h
    have i2 := (lay_in r p.2 h2).2
    rcases List.mem_cons.mp hq with e | e
    · rcases List.mem_cons.mp hq' with e' | e'
      · exact absurd (e.trans e'.symm) hne
      · subst e; exact Or.inr (i2 q' e').2
    · rcases List.mem_cons.mp hq' with e' | e'
      · subst e'; exact Or.inl (i2 q e).2
      · exact ih p.2 h2 q q' e e' hne
theorem lay_s {z : Nat → Nat} {B : Nat} : ∀ (l : List (Nat × Nat)) (F : Nat), lay z B l F → F = B + sumL z (l.map Prod.fst) := by
  intro l
  induction l with
  | nil => intro F h; exact h
  | cons p r ih =>
    intro F h
    obtain ⟨h1, h2⟩ := h
    have := ih p.2 h2
    show F = B + (z p.1 + sumL z (r.map Prod.fst))
    omega
theorem lan_in {y : Nat → Nat} {E : Nat} : ∀ (l : List Nat) (R : Nat), lan y E l R → R ≤ E ∧ ∀ x, x ∈ l → R ≤ x ∧ x + y x ≤ E := by
  intro l
  induction l with
  | nil => intro R h; exact ⟨by rw [show R = E from h]; exact Nat.le_refl _, fun q hq => by cases hq⟩
  | cons p r ih =>
    intro R h
    obtain ⟨h1, h2⟩ := h
    obtain ⟨i1, i2⟩ := ih (p + y p) h2
    refine ⟨by omega, fun q hq => ?_⟩
    rcases List.mem_cons.mp hq with e | e
    · subst e; exact ⟨by omega, i1⟩
    · have := i2 q e; omega
theorem lan_dj {y : Nat → Nat} {E : Nat} : ∀ (l : List Nat) (R : Nat), lan y E l R → ∀ x x', x ∈ l → x' ∈ l → x ≠ x' → x + y x ≤ x' ∨ x' + y x' ≤ x := by
  intro l
  induction l with
  | nil => intro R h q q' hq; cases hq
  | cons p r ih =>
    intro R h q q' hq hq' hne
    obtain ⟨h1, h2⟩ := h
    have i2 := (lan_in r (p + y p) h2).2
    rcases List.mem_cons.mp hq with e | e
    · rcases List.mem_cons.mp hq' with e' | e'
      · exact absurd (e.trans e'.symm) hne
      · subst e; exact Or.inl (i2 q' e').1
    · rcases List.mem_cons.mp hq' with e' | e'
      · subst e'; exact Or.inr (i2 q e).1
      · exact ih (p + y p) h2 q q' e e' hne
theorem lan_s {y : Nat → Nat} {E : Nat} : ∀ (l : List Nat) (R : Nat), lan y E l R → R + sumL y l = E := by
  intro l
  induction l with
  | nil => intro R h; exact h
  | cons p r ih =>
    intro R h
    obtain ⟨h1, h2⟩ := h
    have := ih (p + y p) h2
    show R + (y p + sumL y r) = E
    omega
/-- where the half that is left begins -/
def obs (hf B : Nat) : Nat := if B = 1 then 1 + hf else 1
/-- x was moved -/
def mvd (ml : List (Nat × Nat)) (x : Nat) : Prop := ∃ x', (x, x') ∈ ml
/-- the state of a cycle. z, lv: sizes and live cells of what was reached; y: sizes of made blocks; C0: the cells as the cycle began -/
def GI (hf B F S R : Nat) (C C0 : Nat → Int64) (s0 : List Nat) (ml : List (Nat × Nat)) (nb : List Nat) (z lv y : Nat → Nat) : Prop :=
  (B = 1 ∨ B = 1 + hf) ∧ lay z B ml F ∧ lan y (B + hf) nb R ∧ F ≤ R ∧ (B ≤ S ∧ S ≤ F) ∧ (∀ a, 1 ≤ z a ∧ z a ≤ 16 ∧ lv a ≤ z a) ∧ (∀ x, 1 ≤ y x ∧ y x ≤ 16) ∧ hf < 2 ^ 26 ∧
  s0.Nodup ∧ (∀ a, a ∈ s0 → obs hf B ≤ a ∧ a + z a ≤ obs hf B + hf) ∧ (∀ a a', a ∈ s0 → a' ∈ s0 → a ≠ a' → a + z a ≤ a' ∨ a' + z a' ≤ a) ∧
  (ml.map Prod.fst).Nodup ∧ (∀ q, q ∈ ml → q.1 ∈ s0) ∧
  (∀ a, a ∈ s0 → ¬ mvd ml a → ∀ i, i < z a → C (a + i) = C0 (a + i)) ∧ (∀ q, q ∈ ml → C q.1 = mkc 6 (nI q.2)) ∧
  (∀ a i, a ∈ s0 → i < z a → okx (C0 (a + i))) ∧
  (∀ q i, q ∈ ml → i < z q.1 → okx (C (q.2 + i)) ∧ (∀ x, i < lv q.1 → x ≠ 0 → x < 2 ^ 30 → C0 (q.1 + i) = mkc 1 (nI x) → mvd ml x ∨ (S ≤ q.2 + i ∧ C (q.2 + i) = mkc 1 (nI x))) ∧ (∀ x, x < 2 ^ 30 → ldb hf B 1 x → C (q.2 + i) = mkc 1 (nI x) → S ≤ q.2 + i ∧ i < lv q.1 ∧ C0 (q.1 + i) = mkc 1 (nI x))) ∧
  (∀ x i, x ∈ nb → i < y x → okx (C (x + i)) ∧ ∀ w, w < 2 ^ 30 → C (x + i) = mkc 1 (nI w) → ¬ ldb hf B 1 w) ∧
  (∀ a i x, a ∈ s0 → i < lv a → x ≠ 0 → x < 2 ^ 30 → C0 (a + i) = mkc 1 (nI x) → x ∈ s0)
theorem mk_6 {k : Nat} {v w : Int32} (hk : k < 6) : mkc k v ≠ mkc 6 w := fun h => by have := (mk_inj (by omega) (by decide) h).1; omega
theorem okx_6 {c : Int64} {w : Int32} (h : okx c) : c ≠ mkc 6 w := by
  rcases h with ⟨x, -, e⟩ | ⟨k, v, h1, -, e⟩
  · rw [e]; exact mk_6 (by decide)
  · rw [e]; exact mk_6 h1
theorem okx_0 : okx (mkc 0 0) := Or.inr ⟨0, 0, by decide, by decide, rfl⟩
theorem mk1_i {x w : Nat} (hx : x < 2 ^ 30) (hw : w < 2 ^ 30) (h : mkc 1 (nI x) = mkc 1 (nI w)) : x = w := (nI_eq (by omega) (by omega)).mp (mk_inj (by decide) (by decide) h).2
/-- a block is moved -/
theorem GI.mv {hf B F S R : Nat} {C C0 : Nat → Int64} {s0 : List Nat} {ml : List (Nat × Nat)} {nb : List Nat} {z lv y : Nat → Nat} (g : GI hf B F S R C C0 s0 ml nb z lv y) {a : Nat} (ha : a ∈ s0) (hm : ¬ mvd ml a) (hR : F + z a ≤ R) : GI hf B (F + z a) S R (mvD C a F (z a) (lv a)) C0 s0 ((a, F) :: ml) nb z lv y := by
  obtain ⟨g1, g2, g3, g4, g5, g6, g6', g7, g8, g9, g10, g11, g12, g13, g14, g15, g16, g17, g18⟩ := g
  obtain ⟨z1, z2, z3⟩ := g6 a
  have hob : (obs hf B = 1 ∧ B = 1 + hf) ∨ (obs hf B = 1 + hf ∧ B = 1) := by
    unfold obs
    rcases g1 with e | e
    · exact Or.inr ⟨if_pos e, e⟩
    · by_cases h0 : hf = 0
      · exact Or.inr ⟨if_pos (by omega), by omega⟩
      · exact Or.inl ⟨if_neg (by omega), e⟩
  have hin := lay_in ml F g2
  have hnn := lan_in nb R g3
  obtain ⟨o1, o2⟩ := g9 a ha
  have far : ∀ x, B ≤ x → x < B + hf → x ≠ a := fun x h1 h2 => by omega
  have mono : ∀ x, mvd ml x → mvd ((a, F) :: ml) x := fun x ⟨x', q⟩ => ⟨x', List.mem_cons_of_mem _ q⟩
  have oth : ∀ x, x ≠ a → ¬ (F ≤ x ∧ x < F + z a) → mvD C a F (z a) (lv a) x = C x := fun x h1 h2 => by unfold mvD; rw [if_neg h1, if_neg h2]
  refine ⟨g1, ⟨rfl, g2⟩, g3, hR, ⟨g5.1, by omega⟩, g6, g6', g7, g8, g9, g10, ?_, ?_, ?_, ?_, g15, ?_, ?_, g18⟩
  · show (a :: ml.map Prod.fst).Nodup
    refine List.nodup_cons.mpr ⟨fun q => hm ?_, g11⟩
    obtain ⟨p, p1, p2⟩ := List.mem_map.mp q
    exact ⟨p.2, by rw [← p2]; exact p1⟩
  · intro q hq
    rcases List.mem_cons.mp hq with e | e
    · rw [e]; exact ha
    · exact g12 q e
  · intro a2 h2 hn i hi
    have hne : a2 ≠ a := fun e => hn ⟨F, by rw [e]; exact List.mem_cons_self⟩
    have hn2 : ¬ mvd ml a2 := fun q => hn (mono _ q)
    have dj := g10 a a2 ha h2 hne.symm
    obtain ⟨p1, p2⟩ := g9 a2 h2
    rw [oth _ (by omega) (by omega)]
    exact g13 a2 h2 hn2 i hi
  · intro q hq
    rcases List.mem_cons.mp hq with e | e
    · rw [e]
      show mvD C a F (z a) (lv a) a = mkc 6 (nI F)
      unfold mvD; rw [if_pos rfl]
    · by_cases e2 : q.1 = a
      · exact absurd ⟨q.2, by rw [← e2]; exact e⟩ hm
      · obtain ⟨p1, p2⟩ := g9 q.1 (g12 q e)
        have := (g6 q.1).1
        rw [oth _ e2 (by omega)]
        exact g14 q e
  · intro q i hq hi
    rcases List.mem_cons.mp hq with e | e
    · subst e
      have hi' : i < z a := hi
      have ec : mvD C a F (z a) (lv a) (F + i) = if i < lv a then C0 (a + i) else mkc 0 0 := by
        unfold mvD
        rw [if_neg (far _ (by omega) (by omega)), if_pos (by omega), Nat.add_sub_cancel_left, g13 a ha hm i hi']
      refine ⟨?_, fun x h1 h2 h2' h3 => Or.inr ⟨?_, ?_⟩, fun x h1 h2 h3 => ?_⟩
      · show okx (mvD C a F (z a) (lv a) (F + i))
        rw [ec]
        by_cases c : i < lv a
        · rw [if_pos c]; exact g15 a i ha hi'
        · rw [if_neg c]; exact okx_0
      · show S ≤ F + i
        omega
      · show mvD C a F (z a) (lv a) (F + i) = mkc 1 (nI x)
        rw [ec, if_pos h1]; exact h3
      · have h3 : mvD C a F (z a) (lv a) (F + i) = mkc 1 (nI x) := h3
        rw [ec] at h3
        by_cases c : i < lv a
        · rw [if_pos c] at h3
          exact ⟨by show S ≤ F + i; omega, c, h3⟩
        · rw [if_neg c] at h3
          exact absurd (mk_inj (by decide) (by decide) h3).1 (by decide)
    · obtain ⟨p1, p2⟩ := hin.2 q e
      obtain ⟨w1, w2, w3⟩ := g16 q i e hi
      rw [oth _ (far _ (by omega) (by omega)) (by omega)]
      exact ⟨w1, fun x h1 h2 h2' h3 => (w2 x h1 h2 h2' h3).elim (fun t => Or.inl (mono _ t)) Or.inr, w3⟩
  · intro x i hx hi
    obtain ⟨p1, p2⟩ := hnn.2 x hx
    rw [oth _ (far _ (by omega) (by omega)) (by omega)]
    exact g17 x i hx hi
/-- a cell of a block in use is written: nothing that was reached is lost, and it does not lead back -/
theorem GI.wr {hf B F S R : Nat} {C C0 : Nat → Int64} {s0 : List Nat} {ml : List (Nat × Nat)} {nb : List Nat} {z lv y : Nat → Nat} (g : GI hf B F S R C C0 s0 ml nb z lv y) {a : Nat} {c : Int64} (ha : B ≤ a ∧ a < B + hf) (hc : okx c) (hb : ∀ w, w < 2 ^ 30 → c = mkc 1 (nI w) → ¬ ldb hf B 1 w) (hm : ∀ q i x, q ∈ ml → i < lv q.1 → a = q.2 + i → x ≠ 0 → x < 2 ^ 30 → C0 (q.1 + i) = mkc 1 (nI x) → mvd ml x) : GI hf B F S R (vp_updL C a c) C0 s0 ml nb z lv y := by
  obtain ⟨g1, g2, g3, g4, g5, g6, g6', g7, g8, g9, g10, g11, g12, g13, g14, g15, g16, g17, g18⟩ := g
  have hob : (obs hf B = 1 ∧ B = 1 + hf) ∨ (obs hf B = 1 + hf ∧ B = 1) := by
    unfold obs
    rcases g1 with e | e
    · exact Or.inr ⟨if_pos e, e⟩
    · by_cases h0 : hf = 0
      · exact Or.inr ⟨if_pos (by omega), by omega⟩
      · exact Or.inl ⟨if_neg (by omega), e⟩
  refine ⟨g1, g2, g3, g4, g5, g6, g6', g7, g8, g9, g10, g11, g12, ?_, ?_, g15, ?_, ?_, g18⟩
  · intro a2 h2 hn i hi
    obtain ⟨p1, p2⟩ := g9 a2 h2
    rw [pk_uLn (by omega)]
    exact g13 a2 h2 hn i hi
  · intro q hq
    obtain ⟨p1, p2⟩ := g9 q.1 (g12 q hq)
    have := (g6 q.1).1
    rw [pk_uLn (by omega)]
    exact g14 q hq
  · intro q i hq hi
    obtain ⟨w1, w2, w3⟩ := g16 q i hq hi
    by_cases e : q.2 + i = a
    · rw [e, pk_uLs]
      refine ⟨hc, fun x h1 h2 h2' h3 => Or.inl (hm q i x hq h1 e.symm h2 h2' h3), fun x h1 h2 h3 => absurd h2 (hb x h1 h3)⟩
    · rw [pk_uLn e]
      exact ⟨w1, w2, w3⟩
  · intro x i hx hi
    by_cases e : x + i = a
    · rw [e, pk_uLs]
      exact ⟨hc, hb⟩
    · rw [pk_uLn e]
      exact g17 x i hx hi
/-- a cell is scanned -/
theorem GI.sc {hf B F S R : Nat} {C C0 : Nat → Int64} {s0 : List Nat} {ml : List (Nat × Nat)} {nb : List Nat} {z lv y : Nat → Nat} (g : GI hf B F S R C C0 s0 ml nb z lv y) (hS : S < F) (hb : ∀ w, w < 2 ^ 30 → C S = mkc 1 (nI w) → ¬ ldb hf B 1 w) : GI hf B F (S + 1) R C C0 s0 ml nb z lv y := by
  obtain ⟨g1, g2, g3, g4, g5, g6, g6', g7, g8, g9, g10, g11, g12, g13, g14, g15, g16, g17, g18⟩ := g
  refine ⟨g1, g2, g3, g4, ⟨by omega, by omega⟩, g6, g6', g7, g8, g9, g10, g11, g12, g13, g14, g15, ?_, g17, g18⟩
  intro q i hq hi
  obtain ⟨w1, w2, w3⟩ := g16 q i hq hi
  refine ⟨w1, fun x h1 h2 h2' h3 => ?_, fun x h1 h2 h3 => ?_⟩
  · rcases w2 x h1 h2 h2' h3 with t | ⟨t1, t2⟩
    · exact Or.inl t
    · by_cases e : q.2 + i = S
      · have hx := g9 x (g18 q.1 i x (g12 q hq) h1 h2 h2' h3)
        have := (g6 x).1
        rw [e] at t2
        have hob : (obs hf B = 1 ∧ B = 1 + hf) ∨ (obs hf B = 1 + hf ∧ B = 1) := by
          unfold obs
          rcases g1 with e | e
          · exact Or.inr ⟨if_pos e, e⟩
          · by_cases h0 : hf = 0
            · exact Or.inr ⟨if_pos (by omega), by omega⟩
            · exact Or.inl ⟨if_neg (by omega), e⟩
        exact absurd ⟨rfl, h2, by omega⟩ (hb x h2' t2)
      · exact Or.inr ⟨by omega, t2⟩
  · obtain ⟨t1, t2⟩ := w3 x h1 h2 h3
    refine ⟨?_, t2⟩
    by_cases e : q.2 + i = S
    · rw [e] at h3
      exact absurd h2 (hb x h1 h3)
    · omega
