/-! ===== a step of the class: instructions that make nothing, up to jumps ===== -/
def hgt (T : Nat → Nat → Nat) (m op ht : Nat) : Prop := ((op = 0 ∨ op = 1 ∨ op = 2) → ht < T 16 m) ∧ ((op = 3 ∨ op = 4 ∨ op = 18 ∨ op = 19 ∨ op = 21 ∨ op = 22) → 1 ≤ ht) ∧ (op = 5 → 1 ≤ ht ∧ ht < T 16 m) ∧ ((op = 6 ∨ (7 ≤ op ∧ op ≤ 17) ∨ op = 20 ∨ op = 23 ∨ op = 24) → 2 ≤ ht)
/-- the numbers and the jump -/
def smp (b : Nat → Nat) (p lo ht : Nat) (vs : Nat → AV) (z : Int32) (jc : Prop) : Prop := (b p = 0 → z = c4 b p) ∧ ((7 ≤ b p ∧ b p ≤ 17) → ∃ x y, vs (lo + ht - 1) = .inl y ∧ vs (lo + ht - 2) = .inl x ∧ z = rk2 (b p) x y ∧ ¬ ((b p = 10 ∨ b p = 11) ∧ y = 0)) ∧ (b p = 18 → ∃ y, vs (lo + ht - 1) = .inl y ∧ z = -y) ∧ (b p = 19 → ∃ y, vs (lo + ht - 1) = .inl y ∧ (jc ↔ qst (b (p + 1)) y 0)) ∧ (b p = 20 → ∃ x y, vs (lo + ht - 1) = .inl y ∧ vs (lo + ht - 2) = .inl x ∧ (jc ↔ qst (b (p + 1)) x y)) ∧ (b p = 21 → ∃ k, vs (lo + ht - 1) = .inr k ∧ (jc ↔ k = 0)) ∧ (b p = 22 → ∃ k, vs (lo + ht - 1) = .inr k ∧ (jc ↔ k ≠ 0)) ∧ (b p = 23 → ∃ k j, vs (lo + ht - 1) = .inr k ∧ vs (lo + ht - 2) = .inr j ∧ (jc ↔ k = j)) ∧ (b p = 24 → ∃ k j, vs (lo + ht - 1) = .inr k ∧ vs (lo + ht - 2) = .inr j ∧ (jc ↔ k ≠ j)) ∧ (b p = 25 → jc) ∧ (b p ≤ 18 → ¬ jc)
/-- no value comes from nowhere -/
theorem ef_L {b : Nat → Nat} {p lo ht : Nat} {vs vs' : Nat → AV} {z : Int32} {ht' : Nat} (ho : b p ≤ 25 ∨ b p = 29 ∨ b p = 30 ∨ b p = 32 ∨ b p = 40 ∨ b p = 41) (he : efS b p lo ht vs z ht' vs') (hlo : (b p = 2 ∨ b p = 3) → b (p + 1) < lo) (h1 : (b p = 3 ∨ b p = 5) → 1 ≤ ht) (h2 : b p = 6 → 2 ≤ ht) : ∀ i k, i < lo + ht' → vs' i = .inr (k + 1) → ∃ j, j < lo + ht ∧ vs j = .inr (k + 1) := by
  intro i k hi hk
  have up : ∀ (w : Nat → AV) (c : Nat) (v : AV), va_up w c v i = .inr (k + 1) → (i = c ∧ v = .inr (k + 1)) ∨ (i ≠ c ∧ w i = .inr (k + 1)) := fun w c v q => by
    by_cases e : i = c
    · rw [e, va_up_self] at q; exact Or.inl ⟨e, q⟩
    · rw [va_up_ne _ _ e] at q; exact Or.inr ⟨e, q⟩
  by_cases g1 : b p = 0 ∨ b p = 40
  · obtain ⟨d1, d2⟩ := he.1 g1
    rw [d2] at hk
    rcases up _ _ _ hk with q | q
    · cases q.2
    · exact ⟨i, by omega, q.2⟩
  by_cases g2 : b p = 1
  · obtain ⟨d1, d2⟩ := he.2.1 g2
    rw [d2] at hk
    rcases up _ _ _ hk with q | q
    · cases q.2
    · exact ⟨i, by omega, q.2⟩
  by_cases g3 : b p = 2
  · obtain ⟨d1, d2⟩ := he.2.2.1 g3
    have := hlo (Or.inl g3)
    rw [d2] at hk
    rcases up _ _ _ hk with q | q
    · exact ⟨b (p + 1), by omega, q.2⟩
    · exact ⟨i, by omega, q.2⟩
  by_cases g4 : b p = 3
  · obtain ⟨d1, d2⟩ := he.2.2.2.1 g4
    have := h1 (Or.inl g4)
    rw [d2] at hk
    rcases up _ _ _ hk with q | q
    · exact ⟨lo + ht - 1, by omega, q.2⟩
    · exact ⟨i, by omega, q.2⟩
  by_cases g5 : b p = 4
  · obtain ⟨d1, d2⟩ := he.2.2.2.2.1 g5
    rw [d2] at hk
    exact ⟨i, by omega, hk⟩
  by_cases g6 : b p = 5
  · obtain ⟨d1, d2⟩ := he.2.2.2.2.2.1 g6
    have := h1 (Or.inr g6)
    rw [d2] at hk
    rcases up _ _ _ hk with q | q
    · exact ⟨lo + ht - 1, by omega, q.2⟩
    · exact ⟨i, by omega, q.2⟩
  by_cases g7 : b p = 6
  · obtain ⟨d1, d2⟩ := he.2.2.2.2.2.2.1 g7
    have := h2 g7
    rw [d2] at hk
    rcases up _ _ _ hk with q | q
    · exact ⟨lo + ht - 2, by omega, q.2⟩
    · rcases up _ _ _ q.2 with q | q
      · exact ⟨lo + ht - 1, by omega, q.2⟩
      · exact ⟨i, by omega, q.2⟩
  by_cases g8 : 7 ≤ b p ∧ b p ≤ 17
  · obtain ⟨d1, d2⟩ := he.2.2.2.2.2.2.2.1 g8
    rw [d2] at hk
    rcases up _ _ _ hk with q | q
    · cases q.2
    · exact ⟨i, by omega, q.2⟩
  by_cases g9 : b p = 18
  · obtain ⟨d1, d2⟩ := he.2.2.2.2.2.2.2.2.1 g9
    rw [d2] at hk
    rcases up _ _ _ hk with q | q
    · cases q.2
    · exact ⟨i, by omega, q.2⟩
  by_cases g10 : b p = 19 ∨ b p = 41
  · obtain ⟨d1, d2⟩ := he.2.2.2.2.2.2.2.2.2.1 g10
    rw [d2] at hk
    exact ⟨i, by omega, hk⟩
  by_cases g11 : b p = 20
  · obtain ⟨d1, d2⟩ := he.2.2.2.2.2.2.2.2.2.2.1 g11
    rw [d2] at hk
    exact ⟨i, by omega, hk⟩
  by_cases g12 : b p = 21 ∨ b p = 22
  · obtain ⟨d1, d2⟩ := he.2.2.2.2.2.2.2.2.2.2.2.1 g12
    rw [d2] at hk
    exact ⟨i, by omega, hk⟩
  by_cases g13 : b p = 23 ∨ b p = 24
  · obtain ⟨d1, d2⟩ := he.2.2.2.2.2.2.2.2.2.2.2.2.1 g13
    rw [d2] at hk
    exact ⟨i, by omega, hk⟩
  by_cases g14 : b p = 25
  · obtain ⟨d1, d2⟩ := he.2.2.2.2.2.2.2.2.2.2.2.2.2.1 g14
    rw [d2] at hk
    exact ⟨i, by omega, hk⟩
  by_cases g15 : b p = 29 ∨ b p = 32
  · obtain ⟨d1, d2⟩ := he.2.2.2.2.2.2.2.2.2.2.2.2.2.2.1 g15
    rw [d2] at hk
    rcases up _ _ _ hk with q | q
    · cases q.2
    · exact ⟨i, by omega, q.2⟩
  · obtain ⟨d1, d2⟩ := he.2.2.2.2.2.2.2.2.2.2.2.2.2.2.2 (by omega)
    rw [d2] at hk
    exact ⟨i, by omega, hk⟩
theorem X_smp {σ : sm_S} {T : Nat → Nat → Nat} {b : Nat → Nat} {h k lim md cy rch : Nat} {L : Nat → Prop} {N : Nat → AN} {f : AF} {r : List AF} {B F S R : Nat} {C C0 : Nat → Int64} {s0 : List Nat} {ml : List (Nat × Nat)} {nb : List Nat} {z' lv y al : Nat → Nat} {tp : Nat} {t : List Nat} {K : jk} {zv : Int32} {jc : Prop} {ht' pc' : Nat} {vs' : Nat → AV} (hw : wf T b) (lk : lkd T b) (x : RXg σ T b h k lim md cy rch L N (f :: r) 0 B F S R R C C0 s0 ml nb z' lv y al (tp :: t)) (i12 : σ.1 12 = 1) (hin : inC T f.1 (T 17 f.1 + f.2.1)) (h4 : T 4 (T 17 f.1 + f.2.1) = 1) (ho : b (T 17 f.1 + f.2.1) ≤ 25) (hg : hgt T f.1 (b (T 17 f.1 + f.2.1)) f.2.2.1) (hs : smp b (T 17 f.1 + f.2.1) (T 15 f.1) f.2.2.1 f.2.2.2 zv jc) (he : efS b (T 17 f.1 + f.2.1) (T 15 f.1) f.2.2.1 f.2.2.2 zv ht' vs') (hpc : (jc ∧ pc' = pr b (jpl b (T 17 f.1 + f.2.1))) ∨ (¬ jc ∧ pc' = f.2.1 + wd (b (T 17 f.1 + f.2.1))))
    (hK : ∀ σ' E, RXg σ' T b h k lim md cy rch L N ((f.1, pc', ht', vs') :: r) 0 B F S R R E C0 s0 ml nb z' lv y al (tp :: t) → stR σ σ' E → K 1 σ') : mp_X7_step σ K := by
  obtain ⟨tv0, fc⟩ := x.tv
  have q1 := fc.1
  have q3 := fc.2.2.1
  obtain ⟨o1, o2, o3⟩ := hw.op q1 hin h4
  have r2 := x.2.1.2.1
  have r8 := x.2.1.2.2.2.2.2.2.2
  have fL : ∀ i k, i < T 15 f.1 + f.2.2.1 → f.2.2.2 i = .inr (k + 1) → L k := r8 f List.mem_cons_self
  have g := x.1.2.2.2.2.2.2.2.2.2.1
  have hL' : ∀ i k, i < T 15 f.1 + ht' → vs' i = .inr (k + 1) → L k := fun i k hi hk => by
    obtain ⟨j, j1, j2⟩ := ef_L (Or.inl ho) he o1.2.1 (fun q => by
      rcases q with q | q
      · exact hg.2.1 (Or.inl q)
      · exact (hg.2.2.1 q).1) (fun q => hg.2.2.2 (Or.inl q)) i k hi hk
    exact fL j k j1 j2
  have y := hw.2.2.2.2.2.2.2.2.1 f.1 q1
  have h12 := y.2.2.2.2.2.2.1
  have y9 := y.2.2.2.2.2.2.2.2.1
  have y11 := y.2.2.2.2.2.2.2.2.2.2.1
  have y12 := y.2.2.2.2.2.2.2.2.2.2.2.1
  clear y
  refine x_pre hw x hin (by omega) (fun σ1 w1 => ?_)
  have fin : ∀ σ2 D l2, WK σ σ2 T b D tp f.1 f.2.1 ht' pc' l2 → l2 ≤ 100 → tv (2 * h + 64) B s0 ml nb al C tp D (T 15 f.1 + ht') vs' → mp_X7_step_164 K σ2 (-1) := fun σ2 D l2 w2 hl2 tv2 => x_done hw x i12 w2 (by omega) tv2 hL' hK
  unfold XD
  generalize hpe : T 17 f.1 + f.2.1 = p at *
  have nlt : ∀ a : Nat, a < 2 ^ 31 → ((nI a < nI (b p)) ↔ a < b p) := fun a ha => nI_ltI ha (by omega)
  by_cases c6 : b p ≤ 6
  · have njc : ¬ jc := hs.2.2.2.2.2.2.2.2.2.2 (by omega)
    have epc : pc' = f.2.1 + wd (b p) := by
      rcases hpc with q | q
      · exact absurd q.1 njc
      · exact q.2
    refine ⟨fun q => absurd ((nlt 6 (by decide)).mp q) (by omega), fun _ => ?_⟩
    subst hpe
    refine x_mv (z := zv) hw w1 c6 o1.2.1 o2 (fun q => hs.1 q) tv0 ⟨fun q => hg.1 q, fun q => hg.2.1 (by omega), fun q => hg.2.2.1 q, fun q => hg.2.2.2 (Or.inl q)⟩ he (by decide) (fun σ2 D l2 w2 hl2 tv2 => fin σ2 D l2 (by rw [epc]; exact w2) (by omega) tv2)
  refine ⟨fun _ => ?_, fun q => absurd ((nlt 6 (by decide)).mpr (by omega)) q⟩
  by_cases c18 : b p ≤ 18
  · have njc : ¬ jc := hs.2.2.2.2.2.2.2.2.2.2 (by omega)
    have epc : pc' = f.2.1 + wd (b p) := by
      rcases hpc with q | q
      · exact absurd q.1 njc
      · exact q.2
    refine ⟨fun q => absurd ((nlt 18 (by decide)).mp q) (by omega), fun _ => ?_⟩
    by_cases e18 : b p = 18
    · obtain ⟨yv, s1, s2⟩ := hs.2.2.1 e18
      obtain ⟨d1, d2⟩ := he.2.2.2.2.2.2.2.2.1 e18
      have h1 := hg.2.1 (by omega)
      refine x_rk (x := 0) hw w1 (by omega) c18 tv0 h1 s1 (fun q => absurd e18 q) (by decide) (fun _ σ2 D l2 w2 hl2 tv2 => ?_) (fun q => by omega)
      rw [if_pos e18] at w2 tv2
      refine fin σ2 D l2 (by rw [epc, d1]; exact w2) (by omega) ?_
      rw [d1, d2, s2]
      exact tv2
    · obtain ⟨xv, yv, s1, s2, s3, s4⟩ := hs.2.1 ⟨by omega, by omega⟩
      obtain ⟨d1, d2⟩ := he.2.2.2.2.2.2.2.1 ⟨by omega, by omega⟩
      have h1 := hg.2.2.2 (by omega)
      refine x_rk hw w1 (by omega) c18 tv0 (by omega) s1 (fun _ => ⟨h1, s2⟩) (by decide) (fun _ σ2 D l2 w2 hl2 tv2 => ?_) (fun q => absurd q s4)
      rw [if_neg e18] at w2 tv2
      refine fin σ2 D l2 (by rw [epc, d1]; exact w2) (by omega) ?_
      rw [d1, d2, s3]
      exact tv2
  refine ⟨fun _ => ?_, fun q => absurd ((nlt 18 (by decide)).mpr (by omega)) q⟩
  refine ⟨fun q => absurd ((nlt 25 (by decide)).mp q) (by omega), fun _ => ?_⟩
  have hj2 : jpl b p + 1 < T 0 4 := by
    have hwd : (b p = 19 ∨ b p = 20) ∧ wd (b p) = 4 ∨ ¬ (b p = 19 ∨ b p = 20) ∧ wd (b p) = 3 := by
      unfold wd
      (repeat' split) <;> omega
    unfold jpl
    split <;> omega
  subst hpe
  refine x_jp hw g w1 ⟨by omega, ho⟩ hj2 o1 tv0 (by decide) jc (fun q => ⟨hg.2.1 (by omega), hs.2.2.2.1 q⟩) (fun q => ⟨hg.2.2.2 (by omega), hs.2.2.2.2.1 q⟩) (fun q => ⟨hg.2.1 (by omega), hs.2.2.2.2.2.1 q⟩) (fun q => ⟨hg.2.1 (by omega), hs.2.2.2.2.2.2.1 q⟩) (fun q => ?_) (fun q => ?_) (fun q => hs.2.2.2.2.2.2.2.2.2.1 q) (fun σ2 ht2 l2 k1 k2 k3 hl2 hw2 => ?_)
  · obtain ⟨kk, j, s1, s2, s3⟩ := hs.2.2.2.2.2.2.2.1 q
    have h2 := hg.2.2.2 (by omega)
    refine ⟨h2, kk, j, s1, s2, s3, fun e1 e2 e3 => ?_⟩
    have l1 := fL (T 15 f.1 + f.2.2.1 - 1) (kk - 1) (by omega) (by rw [s1, Nat.sub_add_cancel (by omega)])
    have l2 := fL (T 15 f.1 + f.2.2.1 - 2) (j - 1) (by omega) (by rw [s2, Nat.sub_add_cancel (by omega)])
    have := r2 _ _ l1 l2 e3
    omega
  · obtain ⟨kk, j, s1, s2, s3⟩ := hs.2.2.2.2.2.2.2.2.1 q
    have h2 := hg.2.2.2 (by omega)
    refine ⟨h2, kk, j, s1, s2, s3, fun e1 e2 e3 => ?_⟩
    have l1 := fL (T 15 f.1 + f.2.2.1 - 1) (kk - 1) (by omega) (by rw [s1, Nat.sub_add_cancel (by omega)])
    have l2 := fL (T 15 f.1 + f.2.2.1 - 2) (j - 1) (by omega) (by rw [s2, Nat.sub_add_cancel (by omega)])
    have := r2 _ _ l1 l2 e3
    omega
  · have eh : ht2 = ht' ∧ vs' = f.2.2.2 ∧ ht' ≤ f.2.2.1 := by
      by_cases o19 : b (T 17 f.1 + f.2.1) = 19
      · obtain ⟨d1, d2⟩ := he.2.2.2.2.2.2.2.2.2.1 (Or.inl o19)
        exact ⟨by rw [d1]; exact k1 (Or.inl o19), d2, by omega⟩
      by_cases o20 : b (T 17 f.1 + f.2.1) = 20
      · obtain ⟨d1, d2⟩ := he.2.2.2.2.2.2.2.2.2.2.1 o20
        exact ⟨by rw [d1]; exact k2 (Or.inl o20), d2, by omega⟩
      by_cases o21 : b (T 17 f.1 + f.2.1) = 21 ∨ b (T 17 f.1 + f.2.1) = 22
      · obtain ⟨d1, d2⟩ := he.2.2.2.2.2.2.2.2.2.2.2.1 o21
        exact ⟨by rw [d1]; exact k1 (Or.inr o21), d2, by omega⟩
      by_cases o23 : b (T 17 f.1 + f.2.1) = 23 ∨ b (T 17 f.1 + f.2.1) = 24
      · obtain ⟨d1, d2⟩ := he.2.2.2.2.2.2.2.2.2.2.2.2.1 o23
        exact ⟨by rw [d1]; exact k2 (Or.inr o23), d2, by omega⟩
      · have o25 : b (T 17 f.1 + f.2.1) = 25 := by omega
        obtain ⟨d1, d2⟩ := he.2.2.2.2.2.2.2.2.2.2.2.2.2.1 o25
        exact ⟨by rw [d1]; exact k3 o25, d2, by omega⟩
    obtain ⟨eh1, eh2, eh3⟩ := eh
    have tv2 : tv (2 * h + 64) B s0 ml nb al C tp C (T 15 f.1 + ht') vs' := by rw [eh2]; exact tv0.le (by omega)
    rcases hw2 with ⟨c1, c2⟩ | ⟨c1, c2⟩
    · have epc : pc' = pr b (jpl b (T 17 f.1 + f.2.1)) := by
        rcases hpc with q | q
        · exact q.2
        · exact absurd c1 q.1
      exact fin σ2 C l2 (by rw [epc, ← eh1]; exact c2) (by omega) tv2
    · have epc : pc' = f.2.1 + wd (b (T 17 f.1 + f.2.1)) := by
        rcases hpc with q | q
        · exact absurd q.1 c1
        · exact q.2
      exact fin σ2 C l2 (by rw [epc, ← eh1]; exact c2) (by omega) tv2
