/-! ===== making cells: the class, on ===== -/
def I90 (k : Nat) : Prop := k = 13 ∨ k = 3 ∨ k = 4 ∨ k = 5 ∨ k = 8
theorem rdc_l {hf B F S R : Nat} {C C' C0 : Nat → Int64} {s0 : List Nat} {ml : List (Nat × Nat)} {nb : List Nat} {z lv y : Nat → Nat} (g : GI hf B F S R C' C0 s0 ml nb z lv y) {u : Nat} (h : rdc C C' ml u) (hn : ∀ w, w < 2 ^ 30 → C u = mkc 1 (nI w) → ¬ ldb hf B 1 w) : ∀ w, w < 2 ^ 30 → C' u = mkc 1 (nI w) → ¬ ldb hf B 1 w := fun w hw hc => by
  rcases h with t | ⟨a, a', t1, t2, t3, t4, t5⟩
  · rw [t] at hc; exact hn w hw hc
  · obtain ⟨u1, u2, u3, u4⟩ := g.to t4
    have u1 : B ≤ a' := u1
    have u2 : a' < B + hf := u2
    have u3 : a' < 2 ^ 30 := u3
    rw [t5] at hc
    have := mk1_i u3 hw hc
    intro q
    unfold ldb at q
    omega
theorem s0_no {hf B F S R : Nat} {C C0 : Nat → Int64} {s0 : List Nat} {ml : List (Nat × Nat)} {nb : List Nat} {z lv y : Nat → Nat} (g : GI hf B F S R C C0 s0 ml nb z lv y) {u : Nat} (h : tcl' ml nb z y u) : u ∉ s0 := fun q => by
  obtain ⟨u1, u2, -⟩ := g.tc h
  have o := g.2.2.2.2.2.2.2.2.2.1 u q
  have z1 := (g.2.2.2.2.2.1 u).1
  have ob := g.ob
  omega
theorem e_90 {σ : sm_S} {T : Nat → Nat → Nat} {b : Nat → Nat} {h k lim md cy rch n l : Nat} {L : Nat → Prop} {N : Nat → AN} {fs : List AF} {B F S R : Nat} {C C0 : Nat → Int64} {s0 : List Nat} {ml : List (Nat × Nat)} {nb : List Nat} {z lv y al : Nat → Nat} {fas : List Nat} (hw : wf T b) (H : HS σ T b (2 * h + 64) B F S R R C C0 s0 ml nb z lv y) (rl : rlX T s0 nb z y L N fs al fas C ml) (i6 : σ.1 6 = nI k) (i7 : σ.1 7 = nI lim) (i8 : σ.1 8 = nI md) (i9 : σ.1 9 = nI cy) (i10 : σ.1 10 = nI (fas.headD 0)) (tps : fas ≠ [] → (∀ i, i < 16 → tcl' ml nb z y (fas.headD 0 + i)) ∧ stl (2 * h + 64) B C (fas.headD 0)) (i11 : σ.1 11 = 0) (hmn : s0 = [] ∨ ∃ t0, mvd ml t0 ∧ rmn C0 s0 lv t0) (rs : sumL z s0 = rch) (acc : B + (2 * h + 64) = R + md) (pg : S = F ∨ 2 * (k * md) ≤ (F - B) + (S - B)) (hA : ACb h k lim rch (md + n)) (hn : 1 ≤ n ∧ n ≤ 16) (i13 : σ.1 13 = nI l) (hl : l < 2 ^ 20) : ∃ σ' F' S' fr' C' ml' al' fas' l', RXg σ' T b h k lim (md + n) cy rch L N fs 0 B F' S' R fr' C' C0 s0 ml' nb z lv y al' fas' ∧ fr' + n = R ∧ F' ≤ fr' ∧ 1 ≤ fr' ∧ frL I90 σ σ' C' ∧ σ'.1 13 = nI l' ∧ l ≤ l' ∧ l' ≤ l + (96 * k + 51) ∧ fas'.headD 0 = fas.headD 0 ∧ ∀ K : jk, K (nI fr') σ' → mp_X1_make_90 K σ (nI n) := by
  have hb := hA.le
  have hk := hA.2.2.2.1
  have hk1 := hA.2.2.1
  have hh := hA.2.1
  obtain ⟨H0, H1, H2, H3, H4, H5, H6, H7, H8, g, H9, H10, H10', H11⟩ := H
  have ob := g.ob
  have e1 : k * (md + n) = k * md + k * n := Nat.mul_add _ _ _
  have kn : k * n ≤ k * 16 := Nat.mul_le_mul_left _ hn.2
  have htp : fas.headD 0 ∉ s0 := by
    cases fas with
    | nil =>
      intro q
      have o := g.2.2.2.2.2.2.2.2.2.1 0 q
      omega
    | cons u t =>
      have := (tps (fun q => by cases q)).1 0 (by decide)
      exact s0_no g this
  have hQ := rlQ_c (hf := 2 * h + 64) (B := B) (nb := nb) (y := y) (L := L) (N := N) (fs := fs) (fl := 0) (fa := 0) hw H9 htp (fun q => absurd rfl q)
  obtain ⟨σ1, es1⟩ : ∃ σ1, σ1 = sm_i σ 8 (nI (md + n)) := ⟨_, rfl⟩
  have HS1 : HS σ1 T b (2 * h + 64) B F S R R C C0 s0 ml nb z lv y := by
    rw [es1]
    exact ⟨H0.f (I := I90) (A := A0) (fr_r.i (by unfold I90; omega)) (fun k q => by unfold I90; omega) (fun r j _ _ _ q => q), H1, H2, H3, H4, H5, H6, H7, H8, g, H9, H10, H10', H11⟩
  have go : 2 * (k * (md + n)) < 2 ^ 27 := by omega
  have gR := (lan_in nb R g.2.2.1).1
  have gF := (lay_in ml F g.2.1).1
  obtain ⟨σ2, F2, S2, C2, ml2, l2, HS2, Q2, f2, m13, n1, n2, n3, n4, n5, n6, n7, n8, n9, n10⟩ := e_moveOn hw hQ go (2 * h + 64) 0 l F S σ1 C ml (by have := g.2.2.2.2.1; omega) (by omega) HS1 ⟨al, fas, rl, rfl, fun q => absurd rfl q⟩ (by rw [es1]; exact i13) (by omega)
  obtain ⟨al2, fas2, rl2, hd2, -⟩ := Q2
  have g2 := HS2.2.2.2.2.2.2.2.2.2.1
  have hF2 := HS2.F
  have len2 : fas2 = [] → fas = [] := fun e => by
    have h1 := (fra_f fs fas rl.2.2.2.2.2.1).1
    have h2 := (fra_f fs fas2 rl2.2.2.2.2.2.1).1
    rw [e] at h2
    have : fas.length = 0 := by rw [h1, ← h2]; rfl
    exact List.length_eq_zero_iff.mp this
  have j5 : σ2.1 5 = nI R := HS2.2.2.2.2.2.1
  refine ⟨sm_i σ2 5 (nI (R - n)), F2, S2, R - n, C2, ml2, al2, fas2, l2, ⟨⟨HS2.1.f (I := I90) (A := A0) (fr_r.i (by unfold I90; omega)) (fun k q => by unfold I90; omega) (fun r j _ _ _ q => q), HS2.2.1, HS2.2.2.1, HS2.2.2.2.1, HS2.2.2.2.2.1, rfl, HS2.2.2.2.2.2.2.1, HS2.2.2.2.2.2.2.2.1, HS2.2.2.2.2.2.2.2.2.1, g2, H9, by omega, by omega, by omega⟩, rl2, ⟨?_, ?_, ?_, ?_, ?_⟩, fun q => ⟨fun i hi => ?_, fun i w hi hw' hc => ?_⟩, Or.inl ⟨rfl, ?_⟩, ?_, rs, by omega, ?_, hA⟩, by omega, by omega, by omega, ?_, m13, n1, ?_, hd2, fun K q => ?_⟩
  · show σ2.1 6 = nI k
    rw [f2.2.2.2.2.2 6 (by unfold I1334; omega), es1]; exact i6
  · show σ2.1 7 = nI lim
    rw [f2.2.2.2.2.2 7 (by unfold I1334; omega), es1]; exact i7
  · show σ2.1 8 = nI (md + n)
    rw [f2.2.2.2.2.2 8 (by unfold I1334; omega), es1]; rfl
  · show σ2.1 9 = nI cy
    rw [f2.2.2.2.2.2 9 (by unfold I1334; omega), es1]; exact i9
  · show σ2.1 10 = nI (fas2.headD 0)
    rw [f2.2.2.2.2.2 10 (by unfold I1334; omega), es1, hd2]; exact i10
  · rw [hd2]
    exact ((tps (fun e => q (by
      have h1 := (fra_f fs fas rl.2.2.2.2.2.1).1
      have h2 := (fra_f fs fas2 rl2.2.2.2.2.2.1).1
      rw [e] at h1
      have : fas2.length = 0 := by rw [h2, ← h1]; rfl
      exact List.length_eq_zero_iff.mp this))).1 i hi).m n8
  · have fne : fas ≠ [] := fun e => q (by
      have h1 := (fra_f fs fas rl.2.2.2.2.2.1).1
      have h2 := (fra_f fs fas2 rl2.2.2.2.2.2.1).1
      rw [e] at h1
      have : fas2.length = 0 := by rw [h2, ← h1]; rfl
      exact List.length_eq_zero_iff.mp this)
    obtain ⟨t1, t2⟩ := tps fne
    rw [hd2] at hc
    exact rdc_l g2 (n9 _ (t1 i hi)) (fun w' hw2 hc2 => t2 i w' hi hw2 hc2) w hw' hc
  · show σ2.1 11 = 0
    rw [f2.2.2.2.2.2 11 (by unfold I1334; omega), es1]; exact i11
  · rcases hmn with q | ⟨t0, ⟨t0', q1⟩, q2⟩
    · exact Or.inl q
    · exact Or.inr ⟨t0, ⟨t0', n8 _ q1⟩, q2⟩
  · rcases n6 with e | e
    · exact Or.inl e
    · exact Or.inr e
  · have f1 : frL I90 σ σ1 C := by rw [es1, ← H8]; exact frL_r.i (by unfold I90; omega)
    exact (f1.t (f2.m (fun k q => by unfold I1334 at q; unfold I90; omega))).i (by unfold I90; omega)
  · have g5 := g2.2.2.2.2.1
    have g5' := g.2.2.2.2.1
    rcases pg with e | e
    · have := n7 e
      omega
    · rcases n5 with e2 | e2
      · omega
      · omega
  · have z := n10 (fun σ2 => K (σ2.1 5 - nI n) (sm_i σ2 5 (σ2.1 5 - nI n))) (by
      rw [j5, nI_sub (by omega)]
      exact q)
    unfold mp_X1_make_90 mp_X1_moveOn
    intro s1 e8
    rw [i8, nI_add] at e8
    rw [e8, ← es1]
    have k6 : σ1.1 6 = nI k := by rw [es1]; exact i6
    have k8 : σ1.1 8 = nI (md + n) := by rw [es1]; rfl
    intro v ev
    rw [k6, k8, l_2, pk_mul, pk_mul, Nat.mul_assoc] at ev
    rw [ev]
    refine ⟨2 * h + 64 + 1, ?_⟩
    have z2 : mp_X1_moveOn_14 (fun σ2 => ∀ σ3 : sm_S, σ3 = sm_i σ2 5 ((σ2.1 5) - nI n) → K (σ3.1 5) σ3) (2 * h + 64 + 1) σ1 (nI (2 * (k * (md + n)))) (nI 0) := n10 _ (fun s3 e3 => by
      rw [e3, j5, nI_sub (by omega)]
      exact q)
    exact z2
