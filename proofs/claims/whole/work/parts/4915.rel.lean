/-! ===== the class's heap holds the nodes and frames of the abstract machine ===== -/
/-- where an address leads in the end -/
def cano (s0 : List Nat) (ml : List (Nat × Nat)) (nb : List Nat) (w x : Nat) : Prop := (w, x) ∈ ml ∨ (w = x ∧ ((w ∈ s0 ∧ ¬ mvd ml w) ∨ (∃ q, q ∈ ml ∧ q.2 = w) ∨ w ∈ nb))
/-- a block that is in use, of such a size -/
def lbs (s0 : List Nat) (ml : List (Nat × Nat)) (nb : List Nat) (z y : Nat → Nat) (a s : Nat) : Prop := (∃ q, q ∈ ml ∧ q.2 = a ∧ z q.1 = s) ∨ (a ∈ nb ∧ y a = s) ∨ (a ∈ s0 ∧ ¬ mvd ml a ∧ z a = s)
/-- a cell holds a value -/
def vcl (s0 : List Nat) (ml : List (Nat × Nat)) (nb : List Nat) (al : Nat → Nat) (v : AV) (c : Int64) : Prop := (∃ x, v = .inl x ∧ c = mkc 0 x) ∨ (v = .inr 0 ∧ c = mkc 1 (nI 0)) ∨ (∃ k w, v = .inr (k + 1) ∧ w ≠ 0 ∧ w < 2 ^ 30 ∧ c = mkc 1 (nI w) ∧ cano s0 ml nb w (al k))
/-- the head of a node -/
def hdv (x : AN) : Int64 := if x.1 = 2 then mkc 2 (nI x.2.1) else if x.1 = 3 then mkc 3 (nI (4096 * x.2.2.1 + x.2.1)) else mkc 4 (nI 0)
def ndc (T : Nat → Nat → Nat) (C : Nat → Int64) (s0 : List Nat) (ml : List (Nat × Nat)) (nb : List Nat) (al : Nat → Nat) (x : AN) (a : Nat) : Prop := C a = hdv x ∧ ∀ j, j < npt T x → vcl s0 ml nb al (x.2.2.2 j) (C (a + 1 + j))
def frc (T : Nat → Nat → Nat) (C : Nat → Int64) (s0 : List Nat) (ml : List (Nat × Nat)) (nb : List Nat) (al : Nat → Nat) (f : AF) (a ca : Nat) : Prop := f.1 < T 0 1 ∧ f.2.1 < 2 ^ 16 ∧ f.2.2.1 ≤ T 16 f.1 ∧ C a = mkc 5 (nI f.1) ∧ C (a + 1) = mkc 0 (nI f.2.1) ∧ C (a + 2) = mkc 0 (nI f.2.2.1) ∧ (∃ w, w < 2 ^ 30 ∧ C (a + 3) = mkc 1 (nI w) ∧ ((ca = 0 ∧ w = 0) ∨ (ca ≠ 0 ∧ w ≠ 0 ∧ cano s0 ml nb w ca))) ∧ ∀ i, i < T 15 f.1 + f.2.2.1 → vcl s0 ml nb al (f.2.2.2 i) (C (a + 4 + i))
def fra (T : Nat → Nat → Nat) (C : Nat → Int64) (s0 : List Nat) (ml : List (Nat × Nat)) (nb : List Nat) (al : Nat → Nat) : List AF → List Nat → Prop
  | [], l => l = []
  | f :: r, l => ∃ a t, l = a :: t ∧ frc T C s0 ml nb al f a (t.headD 0) ∧ fra T C s0 ml nb al r t
/-- all of it; L: the nodes that are looked at -/
def rlX (T : Nat → Nat → Nat) (s0 : List Nat) (nb : List Nat) (z y : Nat → Nat) (L : Nat → Prop) (N : Nat → AN) (fs : List AF) (al : Nat → Nat) (fas : List Nat) (C : Nat → Int64) (ml : List (Nat × Nat)) : Prop := (∀ i, L i → ((N i).1 = 2 → (N i).2.1 < T 0 0) ∧ ((N i).1 = 3 → (N i).2.1 ≤ 3375 ∧ (N i).2.2.1 ≤ 32) ∧ lbs s0 ml nb z y (al i) (1 + npt T (N i)) ∧ ndc T C s0 ml nb al (N i) (al i)) ∧ (∀ i j, L i → L j → al i = al j → i = j) ∧ (∀ a, a ∈ fas → lbs s0 ml nb z y a 16) ∧ fas.Nodup ∧ (∀ i, L i → al i ∉ fas) ∧ fra T C s0 ml nb al fs fas ∧ (∀ i j k, L i → j < npt T (N i) → (N i).2.2.2 j = .inr (k + 1) → L k) ∧ (∀ f, f ∈ fs → ∀ i k, i < T 15 f.1 + f.2.2.1 → f.2.2.2 i = .inr (k + 1) → L k)
theorem ml_u {ml : List (Nat × Nat)} (h : (ml.map Prod.fst).Nodup) : ∀ {a x y : Nat}, (a, x) ∈ ml → (a, y) ∈ ml → x = y := by
  induction ml with
  | nil => intro a x y h1; cases h1
  | cons p r ih =>
    intro a x y h1 h2
    have hn := List.nodup_cons.mp (show (p.1 :: r.map Prod.fst).Nodup from h)
    rcases List.mem_cons.mp h1 with e1 | e1
    · rcases List.mem_cons.mp h2 with e2 | e2
      · have := e1.trans e2.symm
        exact (Prod.mk.inj this).2
      · exact absurd (List.mem_map.mpr ⟨(a, y), e2, by rw [← e1]⟩) hn.1
    · rcases List.mem_cons.mp h2 with e2 | e2
      · exact absurd (List.mem_map.mpr ⟨(a, x), e1, by rw [← e2]⟩) hn.1
      · exact ih hn.2 e1 e2
/-- a live block's cells: where they lie -/
theorem lbs.in {hf B F S R : Nat} {C C0 : Nat → Int64} {s0 : List Nat} {ml : List (Nat × Nat)} {nb : List Nat} {z lv y : Nat → Nat} (g : GI hf B F S R C C0 s0 ml nb z lv y) {c s : Nat} (h : lbs s0 ml nb z y c s) : (B ≤ c ∧ c + s ≤ F) ∨ (R ≤ c ∧ c + s ≤ B + hf) ∨ (c ∈ s0 ∧ ¬ mvd ml c ∧ z c = s ∧ obs hf B ≤ c ∧ c + s ≤ obs hf B + hf) := by
  rcases h with ⟨q, h1, h2, h3⟩ | ⟨h1, h2⟩ | ⟨h1, h2, h3⟩
  · have := (lay_in ml F g.2.1).2 q h1
    left; omega
  · have := (lan_in nb R g.2.2.1).2 c h1
    right; left; omega
  · have := g.2.2.2.2.2.2.2.2.2.1 c h1
    right; right
    exact ⟨h1, h2, h3, by omega, by omega⟩
/-- the new address when a is moved to F -/
def nad (a F c : Nat) : Nat := if c = a then F else c
theorem cano.mv {hf B F S R : Nat} {C C0 : Nat → Int64} {s0 : List Nat} {ml : List (Nat × Nat)} {nb : List Nat} {z lv y : Nat → Nat} (g : GI hf B F S R C C0 s0 ml nb z lv y) {a : Nat} (ha : a ∈ s0) (hm : ¬ mvd ml a) {w x : Nat} (h : cano s0 ml nb w x) : cano s0 ((a, F) :: ml) nb w (nad a F x) := by
  have o := g.2.2.2.2.2.2.2.2.2.1 a ha
  have z1 := (g.2.2.2.2.2.1 a).1
  have ob := g.ob
  have gR := (lan_in nb R g.2.2.1).1
  unfold nad
  rcases h with h | ⟨e, h | ⟨q, h1, h2⟩ | h⟩
  · have := g.to h
    rw [if_neg (by show ¬ x = a; omega)]
    exact Or.inl (List.mem_cons_of_mem _ h)
  · by_cases c : x = a
    · rw [if_pos c, e, c]
      exact Or.inl List.mem_cons_self
    · rw [if_neg c]
      refine Or.inr ⟨e, Or.inl ⟨h.1, fun ⟨u, hu⟩ => ?_⟩⟩
      rcases List.mem_cons.mp hu with t | t
      · exact c (e ▸ (Prod.mk.inj t).1)
      · exact h.2 ⟨u, t⟩
  · have := g.to h1
    rw [if_neg (by omega)]
    exact Or.inr ⟨e, Or.inr (Or.inl ⟨q, List.mem_cons_of_mem _ h1, h2⟩)⟩
  · have := (lan_in nb R g.2.2.1).2 w h
    have := (lay_in ml F g.2.1).1
    have g4 := g.2.2.2.1
    have := (g.2.2.2.2.2.2.1 w).1
    rw [if_neg (by omega)]
    exact Or.inr ⟨e, Or.inr (Or.inr h)⟩
theorem vcl.mv {hf B F S R : Nat} {C C0 : Nat → Int64} {s0 : List Nat} {ml : List (Nat × Nat)} {nb : List Nat} {z lv y : Nat → Nat} (g : GI hf B F S R C C0 s0 ml nb z lv y) {a : Nat} (ha : a ∈ s0) (hm : ¬ mvd ml a) {al : Nat → Nat} {v : AV} {c : Int64} (h : vcl s0 ml nb al v c) : vcl s0 ((a, F) :: ml) nb (fun i => nad a F (al i)) v c := by
  rcases h with h | h | ⟨k, w, h1, h2, h3, h4, h5⟩
  · exact Or.inl h
  · exact Or.inr (Or.inl h)
  · exact Or.inr (Or.inr ⟨k, w, h1, h2, h3, h4, h5.mv g ha hm⟩)
/-- the cells of a live block, wherever it is now -/
theorem blk_mv {hf B F S R : Nat} {C C0 : Nat → Int64} {s0 : List Nat} {ml : List (Nat × Nat)} {nb : List Nat} {z lv y : Nat → Nat} (g : GI hf B F S R C C0 s0 ml nb z lv y) {a : Nat} (ha : a ∈ s0) (hm : ¬ mvd ml a) (hR : F + z a ≤ R) {c s : Nat} (hs1 : 1 ≤ s) (h : lbs s0 ml nb z y c s) : lbs s0 ((a, F) :: ml) nb z y (nad a F c) s ∧ ∀ j, j < s → (c = a → j < lv a) → mvD C a F (z a) (lv a) (nad a F c + j) = C (c + j) := by
  have o := g.2.2.2.2.2.2.2.2.2.1 a ha
  obtain ⟨z1, z2, z3⟩ := g.2.2.2.2.2.1 a
  have ob := g.ob
  have gF := (lay_in ml F g.2.1).1
  have gR := (lan_in nb R g.2.2.1).1
  have g4 := g.2.2.2.1
  unfold nad
  by_cases e : c = a
  · subst e
    rw [if_pos rfl]
    have hs : z c = s := by
      rcases h.in g with t | t | t
      · omega
      · omega
      · exact t.2.2.1
    refine ⟨Or.inl ⟨(c, F), List.mem_cons_self, rfl, hs⟩, fun j hj hl => ?_⟩
    have hl := hl rfl
    unfold mvD
    rw [if_neg (by omega), if_pos (by omega), if_pos (by omega), Nat.add_sub_cancel_left]
  · rw [if_neg e]
    refine ⟨?_, fun j hj _ => ?_⟩
    · rcases h with ⟨q, h1, h2⟩ | h | ⟨h1, h2, h3⟩
      · exact Or.inl ⟨q, List.mem_cons_of_mem _ h1, h2⟩
      · exact Or.inr (Or.inl h)
      · refine Or.inr (Or.inr ⟨h1, fun ⟨u, hu⟩ => ?_, h3⟩)
        rcases List.mem_cons.mp hu with t | t
        · exact e (Prod.mk.inj t).1
        · exact h2 ⟨u, t⟩
    · unfold mvD
      rcases h.in g with t | t | t
      · rw [if_neg (by omega), if_neg (by omega)]
      · rw [if_neg (by omega), if_neg (by omega)]
      · have dj := g.2.2.2.2.2.2.2.2.2.2.1 a c ha t.1 (fun q => e q.symm)
        rw [if_neg (by omega), if_neg (by omega)]
theorem nad_i {hf B F S R : Nat} {C C0 : Nat → Int64} {s0 : List Nat} {ml : List (Nat × Nat)} {nb : List Nat} {z lv y : Nat → Nat} (g : GI hf B F S R C C0 s0 ml nb z lv y) {a : Nat} (hR : F + z a ≤ R) {c s : Nat} (h : lbs s0 ml nb z y c s) (hs : 1 ≤ s) : c ≠ F := by
  have z1 := (g.2.2.2.2.2.1 a).1
  have ob := g.ob
  have gF := (lay_in ml F g.2.1).1
  have gR := (lan_in nb R g.2.2.1).1
  rcases h.in g with t | t | t <;> omega
theorem nad_in {a F x y : Nat} (hx : x ≠ F) (hy : y ≠ F) (h : nad a F x = nad a F y) : x = y := by
  unfold nad at h
  by_cases e1 : x = a
  · by_cases e2 : y = a
    · omega
    · rw [if_pos e1, if_neg e2] at h; omega
  · by_cases e2 : y = a
    · rw [if_neg e1, if_pos e2] at h; omega
    · rw [if_neg e1, if_neg e2] at h; exact h
theorem lbs_1 {hf B F S R : Nat} {C C0 : Nat → Int64} {s0 : List Nat} {ml : List (Nat × Nat)} {nb : List Nat} {z lv y : Nat → Nat} (g : GI hf B F S R C C0 s0 ml nb z lv y) {c s : Nat} (h : lbs s0 ml nb z y c s) : 1 ≤ c ∧ c < 2 ^ 30 := by
  have ob := g.ob
  have g7 := g.2.2.2.2.2.2.2.1
  have gF := (lay_in ml F g.2.1).1
  have gR := (lan_in nb R g.2.2.1).1
  have g4 := g.2.2.2.1
  rcases h.in g with t | t | t <;> omega
theorem hdv_k (x : AN) : ∃ k v, 2 ≤ k ∧ k ≤ 4 ∧ hdv x = mkc k (nI v) := by
  unfold hdv
  by_cases e : x.1 = 2
  · rw [if_pos e]; exact ⟨2, _, by decide, by decide, rfl⟩
  · rw [if_neg e]
    by_cases e2 : x.1 = 3
    · rw [if_pos e2]; exact ⟨3, _, by decide, by decide, rfl⟩
    · rw [if_neg e2]; exact ⟨4, _, by decide, by decide, rfl⟩
theorem fra.mv {T : Nat → Nat → Nat} {hf B F S R : Nat} {C C0 : Nat → Int64} {s0 : List Nat} {ml : List (Nat × Nat)} {nb : List Nat} {z lv y : Nat → Nat} {al : Nat → Nat} (hb : ∀ a, a ∈ s0 → bhd T C0 a (z a) (lv a)) (g : GI hf B F S R C C0 s0 ml nb z lv y) {a : Nat} (ha : a ∈ s0) (hm : ¬ mvd ml a) (hR : F + z a ≤ R) (hT : ∀ m, m < T 0 1 → T 15 m + T 16 m ≤ 12) (hT1 : T 0 1 ≤ 64) : ∀ (fs : List AF) (fas : List Nat), (∀ x, x ∈ fas → lbs s0 ml nb z y x 16) → fra T C s0 ml nb al fs fas → fra T (mvD C a F (z a) (lv a)) s0 ((a, F) :: ml) nb (fun i => nad a F (al i)) fs (fas.map (nad a F)) := by
  intro fs
  induction fs with
  | nil => intro fas _ h; have h : fas = [] := h; rw [h]; rfl
  | cons f r ih =>
    intro fas hl h
    obtain ⟨x, t, e, ⟨q1, q2, q3, q4, q5, q6, ⟨w, q7, q8, q9⟩, q10⟩, h2⟩ := h
    subst e
    have lx := hl x List.mem_cons_self
    obtain ⟨-, cells⟩ := blk_mv g ha hm hR (by decide) lx
    have h12 := hT _ q1
    have live : ∀ j, j < 4 + T 15 f.1 + f.2.2.1 → (x = a → j < lv a) := fun j hj e => by
      subst e
      obtain ⟨k, v, b1, b2, b3, b4, b5, b6, b7, b8⟩ := hb x ha
      have c0 := g.2.2.2.2.2.2.2.2.2.2.2.2.2.1 x ha hm
      have z16 : z x = 16 := by
        rcases lx.in g with t | t | t
        · have := g.2.2.2.2.2.2.2.2.2.1 x ha
          have := (g.2.2.2.2.2.1 x).1
          have := g.ob
          have := (lan_in nb R g.2.2.1).1
          have := g.2.2.2.1
          exfalso
          clear b4 b5 b7 b8
          omega
        · have := g.2.2.2.2.2.2.2.2.2.1 x ha
          have := (g.2.2.2.2.2.1 x).1
          have := g.ob
          have := (lay_in ml F g.2.1).1
          have := g.2.2.2.1
          exfalso
          clear b4 b5 b7 b8
          omega
        · exact t.2.2.1
      have e0 := c0 0 (by omega)
      have e2 := c0 2 (by omega)
      rw [Nat.add_zero, q4, b3] at e0
      obtain ⟨f1, f2⟩ := mk_inj (by decide) (by omega) e0
      obtain ⟨u1, h', u2, u3, u4⟩ := b8 f1.symm
      have vv : f.1 = v := (nI_eq (by omega) (by omega)).mp f2
      rw [q6, u2] at e2
      subst vv
      have hh : f.2.2.1 = h' := by
        have := (mk_inj (by decide) (by decide) e2).2
        clear b4 b5 b7 b8
        exact (nI_eq (by omega) (by omega)).mp this
      omega
    have cl : ∀ j, j < 4 + T 15 f.1 + f.2.2.1 → mvD C a F (z a) (lv a) (nad a F x + j) = C (x + j) := fun j hj => cells j (by omega) (live j hj)
    refine ⟨nad a F x, t.map (nad a F), rfl, ⟨q1, q2, q3, ?_, ?_, ?_, ⟨w, q7, ?_, ?_⟩, fun i hi => ?_⟩, ih t (fun c hc => hl c (List.mem_cons_of_mem _ hc)) h2⟩
    · have := cl 0 (by omega)
      rw [Nat.add_zero, Nat.add_zero] at this
      rw [this]; exact q4
    · rw [cl 1 (by omega)]; exact q5
    · rw [cl 2 (by omega)]; exact q6
    · rw [cl 3 (by omega)]; exact q8
    · cases t with
      | nil =>
        rcases q9 with q | q
        · exact Or.inl ⟨rfl, q.2⟩
        · exact absurd rfl q.1
      | cons u t' =>
        have lu := hl u (List.mem_cons_of_mem _ List.mem_cons_self)
        have u1 := lbs_1 g lu
        rcases q9 with q | q
        · have : u = 0 := q.1
          omega
        · refine Or.inr ⟨?_, q.2.1, q.2.2.mv g ha hm⟩
          show nad a F u ≠ 0
          have gF := (lay_in ml F g.2.1).1
          have ob := g.ob
          unfold nad
          split <;> omega
    · have := cl (4 + i) (by omega)
      rw [show nad a F x + 4 + i = nad a F x + (4 + i) by omega, this, show x + (4 + i) = x + 4 + i by omega]
      exact (q10 i hi).mv g ha hm
theorem rlX.mv {T : Nat → Nat → Nat} {hf B F S R : Nat} {C C0 : Nat → Int64} {s0 : List Nat} {ml : List (Nat × Nat)} {nb : List Nat} {z lv y : Nat → Nat} {L : Nat → Prop} {N : Nat → AN} {fs : List AF} {al : Nat → Nat} {fas : List Nat} (hb : ∀ a, a ∈ s0 → bhd T C0 a (z a) (lv a)) (g : GI hf B F S R C C0 s0 ml nb z lv y) {a : Nat} (ha : a ∈ s0) (hm : ¬ mvd ml a) (hR : F + z a ≤ R) (hT : ∀ m, m < T 0 1 → T 15 m + T 16 m ≤ 12) (hT1 : T 0 1 ≤ 64) (h : rlX T s0 nb z y L N fs al fas C ml) : rlX T s0 nb z y L N fs (fun i => nad a F (al i)) (fas.map (nad a F)) (mvD C a F (z a) (lv a)) ((a, F) :: ml) := by
  obtain ⟨r1, r2, r3, r4, r5, r6, r7, r8⟩ := h
  refine ⟨fun i hi => ?_, fun i j hi hj e => ?_, fun c hc => ?_, ?_, fun i hi q => ?_, fra.mv hb g ha hm hR hT hT1 fs fas r3 r6, r7, r8⟩
  · obtain ⟨k1, k2, lb, hd, ps⟩ := r1 i hi
    obtain ⟨lb', cells⟩ := blk_mv g ha hm hR (by omega) lb
    have live : ∀ j, j < 1 + npt T (N i) → (al i = a → j < lv a) := fun j hj e => by
      rw [e] at hd lb
      obtain ⟨k, v, b1, b2, b3, -, -, b6, b7, -⟩ := hb a ha
      have c0 := g.2.2.2.2.2.2.2.2.2.2.2.2.2.1 a ha hm 0 (by have := (g.2.2.2.2.2.1 a).1; omega)
      obtain ⟨k', v', d1, d2, d3⟩ := hdv_k (N i)
      rw [Nat.add_zero, hd, d3, b3] at c0
      have := (mk_inj (by omega) (by omega) c0).1
      have zl := b7 (by omega)
      have zs : z a = 1 + npt T (N i) := by
        have o := g.2.2.2.2.2.2.2.2.2.1 a ha
        have z1 := (g.2.2.2.2.2.1 a).1
        have ob := g.ob
        have gR := (lan_in nb R g.2.2.1).1
        have gF := (lay_in ml F g.2.1).1
        have g4 := g.2.2.2.1
        clear b6 b7
        rcases lb.in g with t | t | t
        · omega
        · omega
        · exact t.2.2.1
      omega
    refine ⟨k1, k2, lb', ?_, fun j hj => ?_⟩
    · have := cells 0 (by omega) (live 0 (by omega))
      rw [Nat.add_zero, Nat.add_zero] at this
      rw [this]; exact hd
    · have := cells (1 + j) (by omega) (live (1 + j) (by omega))
      rw [show nad a F (al i) + 1 + j = nad a F (al i) + (1 + j) by omega, this, show al i + (1 + j) = al i + 1 + j by omega]
      exact (ps j hj).mv g ha hm
  · exact r2 i j hi hj (nad_in (nad_i (a := a) g hR (r1 i hi).2.2.1 (by omega)) (nad_i (a := a) g hR (r1 j hj).2.2.1 (by omega)) e)
  · obtain ⟨x, hx, e⟩ := List.mem_map.mp hc
    rw [← e]
    exact (blk_mv g ha hm hR (by decide) (r3 x hx)).1
  · exact nd_map r4 (fun x y hx hy e => nad_in (nad_i (a := a) g hR (r3 x hx) (by decide)) (nad_i (a := a) g hR (r3 y hy) (by decide)) e)
  · obtain ⟨x, hx, e⟩ := List.mem_map.mp q
    have := nad_in (nad_i (a := a) g hR (r3 x hx) (by decide)) (nad_i (a := a) g hR (r1 i hi).2.2.1 (by omega)) e
    exact r5 i hi (this ▸ hx)
