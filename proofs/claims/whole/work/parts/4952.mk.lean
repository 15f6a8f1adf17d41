/-! ===== making: the reference ===== -/
/-- all but the ports, the image, the steps -/
def stM (μ μ' : sm_S) : Prop := μ'.2.2.1 = μ.2.2.1 ∧ (∀ r, r ≤ 24 ∨ 38 ≤ r → μ'.2.2.2.1 r = μ.2.2.2.1 r) ∧ μ'.2.2.2.2 = μ.2.2.2.2 ∧ (∀ k, k ≤ 10 ∨ (18 ≤ k ∧ k ≤ 20) → μ'.1 k = μ.1 k) ∧ ∀ j, j ≠ 2 → μ'.2.1 j = μ.2.1 j
theorem stM_r {μ : sm_S} : stM μ μ := ⟨rfl, fun _ _ => rfl, rfl, fun _ _ => rfl, fun _ _ => rfl⟩
theorem stM.t {a b c : sm_S} (h : stM a b) (h2 : stM b c) : stM a c := ⟨h2.1.trans h.1, fun r q => (h2.2.1 r q).trans (h.2.1 r q), h2.2.2.1.trans h.2.2.1, fun k q => (h2.2.2.2.1 k q).trans (h.2.2.2.1 k q), fun j q => (h2.2.2.2.2 j q).trans (h.2.2.2.2 j q)⟩
theorem stM.i {a b : sm_S} (h : stM a b) {k : Nat} {v : Int32} (hk : ¬ (k ≤ 10 ∨ (18 ≤ k ∧ k ≤ 20))) : stM a (sm_i b k v) := ⟨h.1, h.2.1, h.2.2.1, fun j q => (va_up_ne b.1 v (fun (e : j = k) => hk (e ▸ q))).trans (h.2.2.2.1 j q), h.2.2.2.2⟩
theorem stM.r {a b : sm_S} (h : stM a b) {k : Nat} {f : Nat → Int32} (hk : ¬ (k ≤ 24 ∨ 38 ≤ k)) : stM a (sm_r b k f) := ⟨h.1, fun r q => (va_up_ne b.2.2.2.1 f (fun (e : r = k) => hk (e ▸ q))).trans (h.2.1 r q), h.2.2.1, h.2.2.2.1, h.2.2.2.2⟩
theorem stM.j {a b : sm_S} (h : stM a b) {v : Int64} : stM a (sm_j b 2 v) := ⟨h.1, h.2.1, h.2.2.1, h.2.2.2.1, fun j q => (va_up_ne b.2.1 v q).trans (h.2.2.2.2 j q)⟩
theorem stM.im {μ μ' : sm_S} {T : Nat → Nat → Nat} {b : Nat → Nat} (h : stM μ μ') (im : imM μ T b) : imM μ' T b := by
  unfold imM iv_bM lnM icM imtM at im ⊢
  rw [h.1, h.2.1 3 (by omega), h.2.1 4 (by omega), h.2.1 5 (by omega), h.2.1 6 (by omega), h.2.1 7 (by omega), h.2.1 8 (by omega), h.2.1 9 (by omega), h.2.1 10 (by omega), h.2.1 11 (by omega), h.2.1 12 (by omega), h.2.1 13 (by omega), h.2.1 14 (by omega), h.2.1 15 (by omega), h.2.1 16 (by omega), h.2.1 17 (by omega), h.2.1 18 (by omega), h.2.1 19 (by omega), h.2.1 20 (by omega), h.2.2.2.1 1 (by omega), h.2.2.2.1 5 (by omega), h.2.2.2.1 6 (by omega), h.2.2.2.1 7 (by omega), h.2.2.2.1 8 (by omega)]
  exact im
theorem stM.ln {μ μ' : sm_S} (h : stM μ μ') (ln : lnR μ) : lnR μ' := by
  unfold lnR
  rw [h.1]
  exact ln
section
variable {μ μ' : sm_S} {T : Nat → Nat → Nat} {b : Nat → Nat} {h k lim md cy rch n : Nat} {N : Nat → AN} {fs : List AF} {fl st : Nat} {th nd bg : Nat → Nat} {nt us s : Nat} {ids : List Nat} {K : jk}
def RMg (μ : sm_S) (T : Nat → Nat → Nat) (b : Nat → Nat) (k lim md cy rch n : Nat) (N : Nat → AN) (fs : List AF) (fl st : Nat) (th nd bg : Nat → Nat) (nt us s : Nat) : Prop := RMt μ T b n N fs th nd bg nt us ∧ mkM μ s ∧ μ.1 4 = 1 ∧ (μ.1 21 = nI k ∧ μ.1 22 = nI lim ∧ μ.1 23 = nI rch ∧ μ.2.1 2 = lN md ∧ μ.1 24 = nI cy ∧ μ.1 17 = nI st) ∧ ((fl = 0 ∧ μ.1 15 = 0) ∨ (fl ≠ 0 ∧ μ.1 15 = 1 ∧ inT th nd nt (fl - 1) ∧ μ.1 16 = nI (th (fl - 1))))
theorem fM1_c {g : Nat} {f : AF} (hh : fM1 μ T th nd nt g f) (e : ∀ r, 33 ≤ r → r ≤ 37 → μ'.2.2.2.1 r = μ.2.2.2.1 r) : fM1 μ' T th nd nt g f := by
  unfold fM1 at hh ⊢
  rw [e 33 (by omega) (by omega), e 34 (by omega) (by omega), e 35 (by omega) (by omega), e 36 (by omega) (by omega), e 37 (by omega) (by omega)]
  exact hh
theorem fsM_c : ∀ (fs : List AF), fsM μ T th nd nt fs → (∀ r, 33 ≤ r → r ≤ 37 → μ'.2.2.2.1 r = μ.2.2.2.1 r) → fsM μ' T th nd nt fs := by
  intro fs
  induction fs with
  | nil => intro _ _; trivial
  | cons f r ih => intro hh e; exact ⟨fM1_c hh.1 e, ih hh.2 e⟩
theorem RMt.c (x : RMt μ T b n N fs th nd bg nt us) (im : imM μ' T b) (ln : lnR μ') (e : ∀ r, 25 ≤ r → r ≤ 37 → r ≠ 30 → r ≠ 32 → μ'.2.2.2.1 r = μ.2.2.2.1 r) (i : ∀ k, k = 11 ∨ k = 13 ∨ k = 14 → μ'.1 k = μ.1 k) : RMt μ' T b n N fs th nd bg nt us := by
  obtain ⟨x1, x2, ⟨i11, hnt, i13, hus, i14, hfl⟩, hth, hfs⟩ := x
  exact ⟨im, ln, ⟨by rw [i 11 (by omega)]; exact i11, hnt, by rw [i 13 (by omega)]; exact i13, hus, by rw [i 14 (by omega)]; exact i14, hfl⟩, ⟨hth.1, hth.2.1, fun t ht => by
    obtain ⟨q1, q2, q3, q4, q5⟩ := hth.2.2 t ht
    exact ⟨q1, q2, q3, thg_c q4 (fun r h1 h2 h3 => e r h1 (by omega) h3 (by omega)), q5⟩⟩, fsM_c fs hfs (fun r h1 h2 => e r (by omega) h2 (by omega) (by omega))⟩
theorem lc_lt {a c : Nat} (ha : a < 2 ^ 62) (hc : c < 2 ^ 62) : lg_cmp (lN a) (lN c) < 0 ↔ a < c := by
  have h1 := lc_ge (a := a) (b := c) (by omega) (by omega)
  constructor
  · intro z
    by_cases q : a < c
    · exact q
    · exact absurd z (Int32.not_lt.mpr (h1.mpr (by omega)))
  · intro z
    exact Int32.not_le.mp (fun q => absurd (h1.mp q) (by omega))
theorem lc_le {a c : Nat} (ha : a < 2 ^ 62) (hc : c < 2 ^ 62) : lg_cmp (lN a) (lN c) ≤ 0 ↔ a ≤ c := by
  unfold lg_cmp
  by_cases q : c < a
  · rw [if_pos ((pk_lLT (by omega) (by omega)).mpr q)]
    exact ⟨fun z => absurd z (by decide), fun z => by omega⟩
  · rw [if_neg (fun z => q ((pk_lLT (by omega) (by omega)).mp z))]
    split
    · exact ⟨fun _ => by omega, fun _ => by decide⟩
    · exact ⟨fun _ => by omega, fun _ => by decide⟩
theorem lN_m (a c : Nat) : lN a * lN c = lN (a * c) := (Int64.ofNat_mul a c).symm
theorem lN_p (a c : Nat) : lN a + lN c = lN (a + c) := (Int64.ofNat_add a c).symm
theorem k_mk {sz : Nat} (hw : wf T b) (x : RMg μ T b k lim md cy rch n N fs 0 st th nd bg nt us s) (np : npo T n N) (hA : ACb h k lim rch md) (hsz : sz ≤ 16) (hs : s + 1 < 2 ^ 31) (hr : rls T N fs ids) (h0 : rch ≤ k * md → lim < rch → K 0 μ)
    (hK : ¬ (rch ≤ k * md ∧ lim < rch) → ∀ μ' s', RMg μ' T b k lim (mm k lim md rch sz) (mcy k lim md rch cy sz) (mr T N fs ids k lim md rch sz) n N fs 0 st th nd bg nt us s' → s' ≤ s + 1 → stM μ μ' → K 1 μ') : mp_X12_make μ (nI sz) K := by
  obtain ⟨x1, x2, x3, ⟨i21, i22, i23, l2, i24, i17⟩, x5⟩ := x
  have hb := hA.le
  have hh := hA.2.1
  have hk := hA.2.2.2.1
  have i15 : μ.1 15 = 0 := by
    rcases x5 with q | q
    · exact q.2
    · exact absurd rfl q.1
  unfold mp_X12_make mp_X12_isDone mp_X12_isDone_24
  have h64 : k * md < 2 ^ 62 := by omega
  dsimp only
  rw [i21, i22, i23, l2, nI_l (by omega), nI_l (by omega), nI_l (by omega), nI_l (by omega), lN_m, lN_p, lN_p]
  have fin : ∀ (μ1 : sm_S) md1 cy1 rch1 s1, RMg μ1 T b k lim md1 cy1 rch1 n N fs 0 st th nd bg nt us s1 → s1 ≤ s + 1 → stM μ μ1 → md1 + sz = mm k lim md rch sz → cy1 = mcy k lim md rch cy sz → rch1 = mr T N fs ids k lim md rch sz → ¬ (rch ≤ k * md ∧ lim < rch) → mp_X12_make_65 K μ1 (nI sz) := fun μ1 md1 cy1 rch1 s1 y hs1 sM e1 e2 e3 ns => by
    unfold mp_X12_make_65
    intro s2 q2
    obtain ⟨y1, y2, y3, ⟨j21, j22, j23, jl2, j24, j17⟩, y5⟩ := y
    rw [jl2, nI_l (by omega), lN_p, e1] at q2
    rw [e2] at j24
    rw [e3] at j23
    refine hK ns s2 s1 ?_ hs1 (by rw [q2]; exact sM.j)
    have c : RMt s2 T b n N fs th nd bg nt us := by rw [q2]; exact y1.c y1.1 y1.2.1 (fun _ _ _ _ _ => rfl) (fun _ _ => rfl)
    exact ⟨c, by rw [q2]; exact y2, by rw [q2]; exact y3, ⟨by rw [q2]; exact j21, by rw [q2]; exact j22, by rw [q2]; exact j23, by rw [q2]; rfl, by rw [q2]; exact j24, by rw [q2]; exact j17⟩, by rw [q2]; exact y5⟩
  have X : RMg μ T b k lim md cy rch n N fs 0 st th nd bg nt us s := ⟨x1, x2, x3, ⟨i21, i22, i23, l2, i24, i17⟩, x5⟩
  refine ⟨fun z => ⟨sm_z0, fun _ => ?_, fun q => absurd rfl q⟩, fun z => ⟨sm_z1, fun q => absurd q (by decide), fun _ => ?_⟩⟩
  · have c := (lc_lt h64 (by omega)).mp z
    have nc : ¬ (rch ≤ k * md ∧ lim < rch + md + sz) := fun q => by omega
    refine fin μ md cy rch s X (by omega) stM_r ?_ ?_ ?_ (fun q => by omega)
    · unfold mm; rw [if_neg nc]
    · unfold mcy; rw [if_neg nc]
    · unfold mr; rw [if_neg nc]
  · have c : rch ≤ k * md := by
      have : ¬ k * md < rch := fun q => z ((lc_lt h64 (by omega)).mpr q)
      omega
    refine ⟨fun z1 => ?_, fun z1 => ?_⟩
    · have c1 : rch ≤ lim := (nI_leI (by omega) (by omega)).mp z1
      refine ⟨fun z2 => ?_, fun z2 => ?_⟩
      · have c2 := (lc_le (by omega) (by omega)).mp z2
        have nc : ¬ (rch ≤ k * md ∧ lim < rch + md + sz) := fun q => by omega
        refine fin μ md cy rch s X (by omega) stM_r ?_ ?_ ?_ (fun q => by omega)
        · unfold mm; rw [if_neg nc]
        · unfold mcy; rw [if_neg nc]
        · unfold mr; rw [if_neg nc]
      · have c2 : lim < rch + md + sz := by
          have : ¬ rch + md + sz ≤ lim := fun q => z2 ((lc_le (by omega) (by omega)).mpr q)
          omega
        have pc : rch ≤ k * md ∧ lim < rch + md + sz := ⟨c, c2⟩
        refine k_reach hw x1 np x2 hs i15 hr (fun μ1 Mk R _ => ?_)
        intro s9 q9 s10 q10 s11 q11
        have f11 : stM μ s11 := by
          have e := R.1
          have : stM μ μ1 := ⟨e.2.1, fun r q => e.row (fun j => by unfold Arc; omega), e.2.2.1, fun kk q => e.2.2.2.1 kk (by unfold Irc; omega), fun j _ => by rw [e.1]⟩
          rw [q11, q10, q9]
          exact ((this.i (by omega)).j).i (by omega)
        have ii : ∀ kk, kk ≠ 12 → kk ≠ 25 → μ1.1 kk = μ.1 kk := fun kk h1 h2 => R.1.2.2.2.1 kk (by unfold Irc; omega)
        have Y : RMg s11 T b k lim 0 (cy + 1) (rsm T N fs ids) n N fs 0 st th nd bg nt us (s + 1) := by
          refine ⟨x1.c (f11.im x1.1) (f11.ln x1.2.1) (fun r h1 h2 h3 h4 => by rw [q11, q10, q9]; exact R.f r h3 h4) (fun kk hk => by rw [q11, q10, q9]; exact ((va_up_ne _ _ (by omega)).trans (va_up_ne _ _ (by omega))).trans (ii kk (by omega) (by omega))), ⟨by rw [q11, q10, q9]; exact R.2.1, fun t ht => by rw [q11, q10, q9]; exact (R.2.2.2.2.1 t ht).1⟩, ?_, ⟨?_, ?_, ?_, ?_, ?_, ?_⟩, Or.inl ⟨rfl, ?_⟩⟩
          · rw [q11, q10, q9]; exact (ii 4 (by decide) (by decide)).trans x3
          · rw [q11, q10, q9]; exact (ii 21 (by decide) (by decide)).trans i21
          · rw [q11, q10, q9]; exact (ii 22 (by decide) (by decide)).trans i22
          · rw [q11, q10, q9]; rfl
          · rw [q11, q10]; rfl
          · rw [q11]
            show s10.1 24 + 1 = _
            rw [q10, q9]
            show μ1.1 24 + 1 = _
            rw [ii 24 (by decide) (by decide), i24, nI_1]
          · rw [q11, q10, q9]; exact (ii 17 (by decide) (by decide)).trans i17
          · rw [q11, q10, q9]; exact (ii 15 (by decide) (by decide)).trans i15
        refine fin s11 0 (cy + 1) (rsm T N fs ids) (s + 1) Y (Nat.le_refl _) f11 ?_ ?_ ?_ (fun q => by omega)
        · unfold mm; rw [if_pos pc]; omega
        · unfold mcy; rw [if_pos pc]
        · unfold mr; rw [if_pos pc]
    · have c1 : lim < rch := by
        have : ¬ rch ≤ lim := fun q => z1 ((nI_leI (by omega) (by omega)).mpr q)
        omega
      exact h0 c c1
end
