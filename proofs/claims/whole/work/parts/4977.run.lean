/-! ===== run, both sides ===== -/
theorem pts_ex {σ μ : sm_S} {B : Nat} (h : pts σ μ B) : ∃ i tk g inF ouF, i ≤ 1000 ∧ tk ≤ 1000 ∧ g ≤ B ∧ PX σ i inF tk g ouF ∧ PM μ i inF tk g ouF := by
  obtain ⟨i, g, tk, a1, a2, a3, a4, a5, a6, a7, a8, a9, a10, a11, a12, a13, a14, a15, a16⟩ := h
  exact ⟨i, tk, g, μ.2.2.2.1 38, μ.2.2.2.1 39, a1, a3, a2, ⟨a4, a6, a7, a10, a11, a13, a16⟩, ⟨a5, a8, a9, fun _ _ => rfl, a12, a14, a15, fun _ _ => rfl⟩⟩
theorem pts_of {σ μ : sm_S} {B i tk g : Nat} {inF ouF : Nat → Int32} (h1 : i ≤ 1000) (h2 : tk ≤ 1000) (h3 : g ≤ B) (P : PX σ i inF tk g ouF) (Q : PM μ i inF tk g ouF) : pts σ μ B := by
  obtain ⟨a1, a2, a3, a4, a5, a6, a7⟩ := P
  obtain ⟨b1, b2, b3, b4, b5, b6, b7, b8⟩ := Q
  exact ⟨i, g, tk, h1, h3, h2, a1, b1, a2, a3, b2, b3, fun j hj => (a4 j hj).trans (b4 j hj).symm, a5, b5, a6, b6, b7, fun j hj => (a7 j hj).trans (b8 j hj).symm⟩
section
variable {σ0 μ0 : sm_S} {T : Nat → Nat → Nat} {b : Nat → Nat} {H Y : Nat → Nat → Nat} {h k lim : Nat} {i : Nat} {inF : Nat → Int32} {n g0 sb0 : Nat}
theorem MA.j0 {μ : sm_S} {a : OC} {tk g sb : Nat} {ouF : Nat → Int32} {s : Int64} {v : Int64} (M : MA μ T b k lim a i inF tk g ouF s sb) : MA (sm_j μ 0 v) T b k lim a i inF tk g ouF v sb := by
  obtain ⟨⟨th, nd, bg, nt, us, s2, y, hs⟩, Q, -⟩ := M
  exact ⟨⟨th, nd, bg, nt, us, s2, y.pt rfl (fun _ _ => rfl) (fun _ _ => rfl) rfl, hs⟩, Q, rfl⟩
theorem MA.st {μ : sm_S} {a : OC} {tk g sb : Nat} {ouF : Nat → Int32} {s : Int64} (M : MA μ T b k lim a i inF tk g ouF s sb) : μ.1 17 = nI a.2.2.2.2.2.2.2 := by
  obtain ⟨⟨th, nd, bg, nt, us, s2, y, hs⟩, Q, -⟩ := M
  exact y.2.2.2.1.2.2.2.2.2
theorem XA.st {σ : sm_S} {a : OC} {tk g : Nat} {ouF : Nat → Int32} {s : Int64} (X : XA σ T b h k lim a i inF tk g ouF s) : σ.1 22 = nI a.2.2.2.2.2.2.2 := by
  obtain ⟨⟨L, B, F, S, R, C, C0, s0, ml, nb, z, lv, y, al, fas, x, x2, x3, x4, x5⟩, -, -⟩ := X
  exact x4
theorem l_run {K : jk} {KK : Int32 → sm_S → Int32 → sm_S → Prop} (hw : wf T b) (lk : lkd T b) (vk : vOK T b H Y) (bi : i ≤ 1000) (hn : n ≤ 20000) (hg0 : g0 + 20001 < 2 ^ 62) (hsb0 : sb0 + 50000 < 2 ^ 31)
    (hKK : ∀ r σ', mp_X12_run_23 (fun r' μ' => KK r σ' r' μ') (n + 2) μ0 (nI n) (nI 0) → K r σ')
    (hK : ∀ σ' μ' a tk g ouF s c sb', XA σ' T b h k lim a i inF tk g ouF s → MA μ' T b k lim a i inF tk g ouF s sb' → WA T b H Y a → a.2.2.2.2.2.2.2 ≤ 4 → a.2.2.2.2.2.2.2 ≠ 0 → tk ≤ 1000 → g ≤ g0 + n → sb' ≤ sb0 + (2 * n + 2) → rsX σ0 σ' → rsM μ0 μ' → KK (nI c) σ' (nI c) μ') :
    ∀ (d j : Nat) (σ : sm_S) (a : OC) (tk g : Nat) (ouF : Nat → Int32) (s : Int64) (sb : Nat), j + d = n → XA σ T b h k lim a i inF tk g ouF s → WA T b H Y a → a.2.2.2.2.2.2.2 ≤ 4 → a.2.2.2.2.2.2.2 ≠ 0 → tk ≤ 1000 → g ≤ g0 + j → sb ≤ sb0 + 2 * j → rsX σ0 σ → (∀ K' : jk, (∀ μ, MA μ T b k lim a i inF tk g ouF s sb → rsM μ0 μ → mp_X12_run_23 K' (d + 2) μ (nI n) (nI j)) → mp_X12_run_23 K' (n + 2) μ0 (nI n) (nI 0)) → mp_X10_run_28 K (d + 2) σ (nI n) (nI j) (nI j) := by
  intro d
  induction d with
  | zero =>
    intro j σ a tk g ouF s sb hj X W s4 s0 bt hg hs rx acc
    have fin : K (nI j) σ := hKK (nI j) σ (acc _ (fun μ M rm => by
      unfold mp_X12_run_23 mp_X12_run_59
      refine ⟨fun _ => hK σ μ a tk g ouF s j sb X M W s4 s0 bt (by omega) (by omega) rx rm, fun z => absurd (nI_le (by omega) (by omega)) z⟩))
    unfold mp_X10_run_28 mp_X10_run_63
    exact ⟨fun _ => fin, fun z => absurd (nI_le (by omega) (by omega)) z⟩
  | succ d ih =>
    intro j σ a tk g ouF s sb hj X W s4 s0 bt hg hs rx acc
    have i22 := X.st
    have c1 : σ.1 22 = 1 ↔ a.2.2.2.2.2.2.2 = 1 := by rw [i22]; exact nI_eq (b := 1) (by omega) (by omega)
    have nj : ¬ nI n ≤ nI j := fun z => absurd ((nI_leI (by omega) (by omega)).mp z) (by omega)
    unfold mp_X10_run_28 mp_X10_run_63
    refine ⟨fun z => absurd z nj, fun _ => ⟨fun z => ?_, fun z => ?_⟩⟩
    · refine hKK (nI j) σ (acc _ (fun μ M rm => ?_))
      have c2 : ¬ μ.1 17 = 1 := fun q => z (c1.mpr ((nI_eq (b := 1) (by omega) (by omega)).mp (M.st.symm.trans q)))
      unfold mp_X12_run_23 mp_X12_run_59
      exact ⟨fun z => absurd z nj, fun _ => ⟨fun _ => hK σ μ a tk g ouF s j sb X M W s4 s0 bt (by omega) (by omega) rx rm, fun z => absurd z c2⟩⟩
    · have st1 := c1.mp z
      obtain ⟨a', tk', g', ouF', dd, e1, W', u4, u0, bt', bg', hX, hM⟩ := s_ex (sb := sb) hw lk vk X W st1 bi bt (by omega) (by omega)
      refine hX _ (fun σ' X' rx' => ?_)
      rcases e1 with e1 | ⟨e1, e4⟩
      · subst e1
        refine ⟨fun z => absurd z (by decide), fun _ => ?_⟩
        intro v7 e7
        unfold mp_X10_run_57
        intro v1 ev1
        rw [e7, ev1, nI_1]
        rw [if_pos rfl] at X'
        refine ih (j + 1) σ' a' tk' g' ouF' (s + 1) (sb + 2) (by omega) X' W' u4 u0 bt' (by omega) (by omega) (rx.t rx') (fun K' hK' => acc K' (fun μ M rm => ?_))
        have c2 : μ.1 17 = 1 := by rw [M.st, st1]; rfl
        unfold mp_X12_run_23
        refine ⟨fun z => absurd z nj, fun _ => ⟨fun z => absurd c2 z, fun _ => ?_⟩⟩
        refine hM μ M _ (fun μ' M' rm' => ⟨fun z => absurd z (by decide), fun _ => ?_⟩)
        intro s6 e6 v7' e7'
        have M6 := M'.j0 (v := s + 1)
        have es : μ'.2.1 0 = s := M'.2.2
        rw [es] at e6
        rw [← e6] at M6
        rw [e7', nI_1]
        exact hK' s6 M6 ((rm.t rm').t (by rw [e6]; exact ⟨rfl, fun _ _ => rfl, fun _ _ => rfl⟩))
      · subst e1
        rw [if_neg (by decide)] at X'
        refine ⟨fun _ => ?_, fun z => absurd rfl z⟩
        have fin : K (nI j) σ' := hKK (nI j) σ' (acc _ (fun μ M rm => by
          have c2 : μ.1 17 = 1 := by rw [M.st, st1]; rfl
          unfold mp_X12_run_23
          refine ⟨fun z => absurd z nj, fun _ => ⟨fun z => absurd c2 z, fun _ => ?_⟩⟩
          refine hM μ M _ (fun μ' M' rm' => ⟨fun _ => ?_, fun z => absurd rfl z⟩)
          have c3 : ¬ μ'.1 17 = 1 := by rw [M'.st, e4]; decide
          unfold mp_X12_run_23 mp_X12_run_59
          exact ⟨fun z => absurd z nj, fun _ => ⟨fun _ => hK σ' μ' a' tk' g' ouF' s j (sb + 2) X' M' W' u4 u0 bt' (by omega) (by omega) (rx.t rx') (rm.t rm'), fun z => absurd z c3⟩⟩))
        have c3 : ¬ σ'.1 22 = 1 := by rw [X'.st, e4]; decide
        unfold mp_X10_run_57
        intro v1 ev1
        unfold mp_X10_run_28 mp_X10_run_63
        exact ⟨fun _ => fin, fun _ => ⟨fun _ => fin, fun z => absurd z c3⟩⟩
/-- run, when something may run -/
theorem j_run1 {σ μ : sm_S} {KK : Int32 → sm_S → Int32 → sm_S → Prop} {a : OC} {tk g sb : Nat} {ouF : Nat → Int32} {s : Int64} (p : Int32) (hw : wf T b) (lk : lkd T b) (vk : vOK T b H Y) (bi : i ≤ 1000) (hg0 : g + 20001 < 2 ^ 62) (hsb0 : sb + 50000 < 2 ^ 31) (X : XA σ T b h k lim a i inF tk g ouF s) (M : MA μ T b k lim a i inF tk g ouF s sb) (W : WA T b H Y a) (s4 : a.2.2.2.2.2.2.2 ≤ 4) (s0 : a.2.2.2.2.2.2.2 ≠ 0) (bt : tk ≤ 1000)
    (h0 : KK (-1) σ (-1) μ)
    (hK : ∀ r σ' μ' a tk' g' ouF s sb', XA σ' T b h k lim a i inF tk' g' ouF s → MA μ' T b k lim a i inF tk' g' ouF s sb' → WA T b H Y a → a.2.2.2.2.2.2.2 ≤ 4 → a.2.2.2.2.2.2.2 ≠ 0 → tk' ≤ 1000 → g' ≤ g + 20000 → sb' ≤ sb + 40002 → rsX σ σ' → rsM μ μ' → KK r σ' r μ') : mp_X10_run σ p (fun r σ' => mp_X12_run μ p (fun r' μ' => KK r σ' r' μ')) := by
  have i22 := X.st
  have i17 := M.st
  have c1 : σ.1 22 = 1 ↔ a.2.2.2.2.2.2.2 = 1 := by rw [i22]; exact nI_eq (b := 1) (by omega) (by omega)
  have c2 : μ.1 17 = 1 ↔ a.2.2.2.2.2.2.2 = 1 := by rw [i17]; exact nI_eq (b := 1) (by omega) (by omega)
  unfold mp_X10_run mp_X10_run_22 mp_X12_run mp_X12_run_19
  refine ⟨fun z => ⟨fun _ => h0, fun q => absurd z q⟩, fun z => ⟨fun z2 => ⟨fun q => absurd q z, fun _ => ⟨fun _ => h0, fun q => absurd z2 q⟩⟩, fun z2 => ⟨fun z3 => ?_, fun z3 => ⟨fun q => absurd q z, fun _ => ⟨fun q => absurd q z2, fun _ => ⟨fun q => absurd (c1.mpr (c2.mp q)) z3, fun _ => h0⟩⟩⟩⟩⟩⟩
  obtain ⟨n, n1, n2⟩ := nI_of z
  rw [n2] at z2 ⊢
  have hn : n ≤ 20000 := by
    have : ¬ 20000 < n := fun q => z2 ((nI_ltI (a := 20000) (by omega) n1).mpr q)
    omega
  refine ⟨n + 2, ?_⟩
  refine l_run (σ0 := σ) (μ0 := μ) (KK := KK) (g0 := g) (sb0 := sb) hw lk vk bi hn (by omega) (by omega) (fun r σ' hr => ?_) (fun σ' μ' a tk' g' ouF s c sb' x1 x2 x3 x4 x5 x6 x7 x8 x9 x10 => hK (nI c) σ' μ' a tk' g' ouF s sb' x1 x2 x3 x4 x5 x6 (by omega) (by omega) x9 x10) n 0 σ a tk g ouF s sb (Nat.zero_add _) X W s4 s0 bt (by omega) (by omega) rsX_r (fun K' hK' => hK' μ M rsM_r)
  exact ⟨fun q => absurd q (nI_neg n1), fun _ => ⟨fun q => absurd q z2, fun _ => ⟨fun _ => ⟨n + 2, hr⟩, fun q => absurd (c2.mpr (c1.mp z3)) q⟩⟩⟩
end
