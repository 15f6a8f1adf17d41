/-! ===== making cells: the class ===== -/
theorem e_mvs {σ : sm_S} {T : Nat → Nat → Nat} {b : Nat → Nat} {hf B F S R fr l a : Nat} {C C0 : Nat → Int64} {s0 : List Nat} {ml : List (Nat × Nat)} {nb : List Nat} {z lv y : Nat → Nat} (hw : wf T b) (h : HS σ T b hf B F S R fr C C0 s0 ml nb z lv y) (as0 : a ∈ s0) (cm : ¬ mvd ml a) (i13 : σ.1 13 = nI l) (hl : l < 2 ^ 27) : ∃ σ', HS σ' T b hf B (F + z a) S R fr (mvD C a F (z a) (lv a)) C0 s0 ((a, F) :: ml) nb z lv y ∧ frL I133 σ σ' (mvD C a F (z a) (lv a)) ∧ σ'.1 13 = nI (l + (2 * z a + 2)) ∧ ∀ K : jk, K (nI F) σ' → mp_X1_move σ (nI a) K := by
  have hF := h.F
  obtain ⟨h0, h1, h2, h3, h4, h5, h6, h7, h8, g, h9, h10, h10', h11⟩ := h
  have hob := g.ob
  have g7 := g.2.2.2.2.2.2.2.1
  have hR := hF.2.2.1 a as0 cm
  obtain ⟨k, v, b1, b2, b3, b4, b5, b6, b7, b8⟩ := h9 a as0
  have o := g.2.2.2.2.2.2.2.2.2.1 a as0
  obtain ⟨z1, z2, z3⟩ := g.2.2.2.2.2.1 a
  have same := g.2.2.2.2.2.2.2.2.2.2.2.2.2.1 a as0 cm
  have c0 : C a = C0 a := same 0 (by omega)
  have gF := (lay_in ml F g.2.1).1
  have gR := (lan_in nb R g.2.2.1).1
  obtain ⟨σ2, m1, m2, m3, m4⟩ := l_move (σ := σ) (T := T) (b := b) (a := a) (F := F) (l := l) (k := k) (v := v) (lv := lv a) h0 hw ⟨b1, b2⟩ (by rw [h8, c0]; exact b3) (by omega) (by rw [← b6]; omega) (by rw [← b6]; omega) h7 (by rw [← b6]; omega) b4 b5 (fun e => by
    obtain ⟨c1, hh, c2, c3, c4⟩ := b8 e
    have s16 : z a = 16 := by rw [b6]; unfold bsz; rw [if_neg (by omega)]
    refine ⟨c1, hh, ?_, c3, c4⟩
    rw [h8, same 2 (by omega)]; exact c2) (fun e => by rw [← b6]; exact b7 e) h3 i13 (by omega)
  rw [← b6, h8] at m1
  rw [← b6] at m2 m3
  refine ⟨σ2, ⟨h0.L m1 (fun k q => by unfold I133; omega), ?_, ?_, m2, ?_, ?_, ?_, ?_, m1.2.2.2.2.1, g.mv as0 cm (by omega), h9, h10, h10', h11⟩, m1, m3, m4⟩
  · rw [m1.2.2.2.2.2 1 (by unfold I133; omega)]; exact h1
  · rw [m1.2.2.2.2.2 2 (by unfold I133; omega)]; exact h2
  · rw [m1.2.2.2.2.2 4 (by unfold I133; omega)]; exact h4
  · rw [m1.2.2.2.2.2 5 (by unfold I133; omega)]; exact h5
  · rw [m1.2.1]; exact h6
  · rw [m1.2.1]; exact h7
/-- the least set: what is reached from t0 -/
def rmn (C0 : Nat → Int64) (s0 : List Nat) (lv : Nat → Nat) (t0 : Nat) : Prop := ∀ P : Nat → Prop, P t0 → (∀ a i x, P a → a ∈ s0 → i < lv a → x ≠ 0 → x < 2 ^ 30 → C0 (a + i) = mkc 1 (nI x) → P x) → ∀ a, a ∈ s0 → P a
/-- bounds of what is reached and made -/
def ACb (h k lim rch md : Nat) : Prop := 1024 ≤ h ∧ h ≤ 60000 ∧ 1 ≤ k ∧ k ≤ 64 ∧ lim * (k + 1) ≤ h * k ∧ 512 ≤ lim ∧ rch ≤ h + 16 ∧ (rch + md ≤ lim ∨ k * md ≤ rch + 16 * k)
theorem ACb.le {h k lim rch md : Nat} (a : ACb h k lim rch md) : rch + md ≤ 2 * h + 48 ∧ lim ≤ h ∧ k * md ≤ 64 * 61000 := by
  obtain ⟨a1, a2, a3, a4, a5, a6, a7, a8⟩ := a
  have hl : lim ≤ h := by
    by_cases c : lim ≤ h
    · exact c
    · exfalso
      have h1 : (h + 1) * (k + 1) ≤ lim * (k + 1) := Nat.mul_le_mul_right _ (by omega)
      have h2 : (h + 1) * (k + 1) = h * k + h + k + 1 := by rw [Nat.add_mul, Nat.mul_add]; omega
      omega
  rcases a8 with a8 | a8
  · refine ⟨by omega, hl, ?_⟩
    have : k * md ≤ 64 * md := Nat.mul_le_mul_right _ a4
    omega
  · have h1 : k * (md - 16) ≤ rch := by
      rw [Nat.mul_sub]
      omega
    have h2 : md - 16 ≤ k * (md - 16) := Nat.le_mul_of_pos_left _ a3
    have : 16 * k ≤ 16 * 64 := Nat.mul_le_mul_left _ a4
    exact ⟨by omega, hl, by omega⟩
/-- the class's heap while it runs; fr + pending cells = R -/
def RXg (σ : sm_S) (T : Nat → Nat → Nat) (b : Nat → Nat) (h k lim md cy rch : Nat) (L : Nat → Prop) (N : Nat → AN) (fs : List AF) (fl : Nat) (B F S R fr : Nat) (C C0 : Nat → Int64) (s0 : List Nat) (ml : List (Nat × Nat)) (nb : List Nat) (z lv y : Nat → Nat) (al : Nat → Nat) (fas : List Nat) : Prop :=
  HS σ T b (2 * h + 64) B F S R fr C C0 s0 ml nb z lv y ∧ rlX T s0 nb z y L N fs al fas C ml ∧ (σ.1 6 = nI k ∧ σ.1 7 = nI lim ∧ σ.1 8 = nI md ∧ σ.1 9 = nI cy ∧ σ.1 10 = nI (fas.headD 0)) ∧ (fas ≠ [] → (∀ i, i < 16 → tcl' ml nb z y (fas.headD 0 + i)) ∧ stl (2 * h + 64) B C (fas.headD 0)) ∧ ((fl = 0 ∧ σ.1 11 = 0) ∨ (fl ≠ 0 ∧ L (fl - 1) ∧ σ.1 11 = nI (al (fl - 1)) ∧ tcl' ml nb z y (al (fl - 1)))) ∧ (s0 = [] ∨ ∃ t0, mvd ml t0 ∧ rmn C0 s0 lv t0) ∧ sumL z s0 = rch ∧ B + (2 * h + 64) = fr + md ∧ (S = F ∨ 2 * (k * md) ≤ (F - B) + (S - B)) ∧ ACb h k lim rch md
/-- when a cycle is done, both ways of saying it -/
theorem RXg.dn {σ : sm_S} {T : Nat → Nat → Nat} {b : Nat → Nat} {h k lim md cy rch : Nat} {L : Nat → Prop} {N : Nat → AN} {fs : List AF} {fl B F S R fr : Nat} {C C0 : Nat → Int64} {s0 : List Nat} {ml : List (Nat × Nat)} {nb : List Nat} {z lv y al : Nat → Nat} {fas : List Nat} (x : RXg σ T b h k lim md cy rch L N fs fl B F S R fr C C0 s0 ml nb z lv y al fas) : (S = F → F - B = rch ∧ ∀ a, a ∈ s0 → mvd ml a) ∧ (rch ≤ k * md → S = F) := by
  obtain ⟨x1, x2, x3, x4, x5, x6, x7, x8, x9, x10⟩ := x
  have hF := x1.F
  have g := x1.2.2.2.2.2.2.2.2.2.1
  have g5 := g.2.2.2.2.1
  have all : S = F → ∀ a, a ∈ s0 → mvd ml a := fun e => by
    rcases x6 with q | ⟨t0, q1, q2⟩
    · intro a ha; rw [q] at ha; cases ha
    · exact all_mv g e q1 q2
  refine ⟨fun e => ⟨?_, all e⟩, fun hd => ?_⟩
  · have := sumL_eq (f := z) (a := ml.map Prod.fst) (c := s0) g.2.2.2.2.2.2.2.2.2.2.2.1 g.2.2.2.2.2.2.2.2.1 (fun a => ⟨fun q => by
      obtain ⟨p, p1, p2⟩ := List.mem_map.mp q
      rw [← p2]; exact g.2.2.2.2.2.2.2.2.2.2.2.2.1 p p1, fun q => mvd_of (all e a q)⟩)
    omega
  · rcases x9 with e | e
    · exact e
    · omega
