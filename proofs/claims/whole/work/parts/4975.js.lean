/-! ===== a step, both sides ===== -/
/-- the ports, both sides; not more than B outputs so far -/
def pts (σ μ : sm_S) (B : Nat) : Prop := ∃ i g tk : Nat, i ≤ 1000 ∧ g ≤ B ∧ tk ≤ 1000 ∧ σ.1 18 = nI i ∧ μ.1 19 = nI i ∧ σ.2.2.1 30 = 1000 ∧ σ.2.2.1 31 = 1000 ∧ μ.2.2.1 38 = 1000 ∧ μ.2.2.1 39 = 1000 ∧ (∀ j : Nat, j < i → σ.2.2.2.1 30 j = μ.2.2.2.1 38 j) ∧ σ.1 19 = nI tk ∧ μ.1 18 = nI tk ∧ σ.2.1 0 = lN g ∧ μ.2.1 1 = lN g ∧ μ.1 20 = nI (min g 1000) ∧ ∀ j : Nat, j < min g 1000 → σ.2.2.2.1 31 j = μ.2.2.2.1 39 j
/-- what a step leaves of all else -/
def rsX (σ σ' : sm_S) : Prop := σ'.2.2.1 = σ.2.2.1 ∧ (∀ r, r ≠ 31 → σ'.2.2.2.1 r = σ.2.2.2.1 r) ∧ ∀ k, ¬ (Ixs k ∨ k = 19) → σ'.1 k = σ.1 k
def rsM (μ μ' : sm_S) : Prop := μ'.2.2.1 = μ.2.2.1 ∧ (∀ r, r ≤ 24 ∨ r = 38 → μ'.2.2.2.1 r = μ.2.2.2.1 r) ∧ ∀ k, k ≤ 10 ∨ k = 19 → μ'.1 k = μ.1 k
theorem rsX.t {a c d : sm_S} (h : rsX a c) (h2 : rsX c d) : rsX a d := ⟨h2.1.trans h.1, fun r q => (h2.2.1 r q).trans (h.2.1 r q), fun k q => (h2.2.2 k q).trans (h.2.2 k q)⟩
theorem rsM.t {a c d : sm_S} (h : rsM a c) (h2 : rsM c d) : rsM a d := ⟨h2.1.trans h.1, fun r q => (h2.2.1 r q).trans (h.2.1 r q), fun k q => (h2.2.2 k q).trans (h.2.2 k q)⟩
theorem rsX_r {a : sm_S} : rsX a a := ⟨rfl, fun _ _ => rfl, fun _ _ => rfl⟩
theorem rsM_r {a : sm_S} : rsM a a := ⟨rfl, fun _ _ => rfl, fun _ _ => rfl⟩
theorem stG.rs {σ σ' : sm_S} (h : stG σ σ') : rsX σ σ' := ⟨h.2.1, fun r _ => congrFun h.2.2.1 r, fun k q => h.2.2.2.2.2 k (fun z => q (Or.inl z))⟩
theorem stM.rs {μ μ' : sm_S} (h : stM μ μ') : rsM μ μ' := ⟨h.1, fun r q => h.2.1 r (by omega), fun k q => h.2.2.2.1 k (by omega)⟩
theorem pts.g {σ σ' μ μ' : sm_S} {B B' : Nat} (h : pts σ μ B) (hs : stG σ σ') (hm : stM μ μ') (hl : σ'.2.1 0 = σ.2.1 0) (hB : B ≤ B') : pts σ' μ' B' := by
  obtain ⟨i, g, tk, a1, a2, a3, a4, a5, a6, a7, a8, a9, a10, a11, a12, a13, a14, a15, a16⟩ := h
  have s1 : σ'.2.2.1 = σ.2.2.1 := hs.2.1
  have s2 : σ'.2.2.2.1 = σ.2.2.2.1 := hs.2.2.1
  have s3 : ∀ k, ¬ Ixs k → σ'.1 k = σ.1 k := hs.2.2.2.2.2
  refine ⟨i, g, tk, a1, by omega, a3, ?_, ?_, ?_, ?_, ?_, ?_, ?_, ?_, ?_, ?_, ?_, ?_, ?_⟩
  · rw [s3 18 (by unfold Ixs; omega)]; exact a4
  · rw [hm.2.2.2.1 19 (by omega)]; exact a5
  · rw [s1]; exact a6
  · rw [s1]; exact a7
  · rw [hm.1]; exact a8
  · rw [hm.1]; exact a9
  · rw [s2, hm.2.1 38 (by omega)]; exact a10
  · rw [s3 19 (by unfold Ixs; omega)]; exact a11
  · rw [hm.2.2.2.1 18 (by omega)]; exact a12
  · rw [hl]; exact a13
  · rw [hm.2.2.2.2 1 (by decide)]; exact a14
  · rw [hm.2.2.2.1 20 (by omega)]; exact a15
  · rw [s2, hm.2.1 39 (by omega)]; exact a16
theorem l1N (g : Nat) : lN g + 1 = lN (g + 1) := lN_p g 1
/-- IN, the ports -/
theorem pts.in {σ μ : sm_S} {B : Nat} (h : pts σ μ B) : ∃ i tk, i ≤ 1000 ∧ tk ≤ 1000 ∧ σ.1 18 = nI i ∧ σ.1 19 = nI tk ∧ μ.1 19 = nI i ∧ μ.1 18 = nI tk ∧ σ.2.2.1 30 = 1000 ∧ μ.2.2.1 38 = 1000 ∧ zin σ = zinM μ i tk ∧ pts (pin σ) (pinM μ i tk) B ∧ (pin σ).2 = σ.2 ∧ (∀ k, k ≠ 19 → (pin σ).1 k = σ.1 k) := by
  obtain ⟨i, g, tk, a1, a2, a3, a4, a5, a6, a7, a8, a9, a10, a11, a12, a13, a14, a15, a16⟩ := h
  refine ⟨i, tk, a1, a3, a4, a11, a5, a12, a6, a8, ?_, ?_, ?_, ?_⟩
  · unfold zin zinM
    rw [a4, a11]
    by_cases c : tk < i
    · rw [if_pos (nI_lt c (by omega)), if_pos c, nI_clamp (by omega), a10 tk c]
    · rw [if_neg (fun q => c ((nI_ltI (by omega) (by omega)).mp q)), if_neg c]
  · unfold pin pinM
    rw [a4, a11]
    by_cases c : tk < i
    · rw [if_pos (nI_lt c (by omega)), if_pos c, nI_1]
      exact ⟨i, g, tk + 1, a1, a2, by omega, a4, a5, a6, a7, a8, a9, a10, rfl, rfl, a13, a14, a15, a16⟩
    · rw [if_neg (fun q => c ((nI_ltI (by omega) (by omega)).mp q)), if_neg c]
      exact ⟨i, g, tk, a1, a2, a3, a4, a5, a6, a7, a8, a9, a10, a11, rfl, a13, a14, a15, a16⟩
  · unfold pin
    by_cases c : σ.1 19 < σ.1 18
    · rw [if_pos c]
    · rw [if_neg c]
  · intro kk hk
    unfold pin
    by_cases c : σ.1 19 < σ.1 18
    · rw [if_pos c]; exact va_up_ne _ _ hk
    · rw [if_neg c]
theorem lN_32 {g : Nat} (h : g < 2 ^ 31) : (lN g).toInt32 = nI g := by rw [← nI_l h, mk_N h, mk_lo (by decide)]
/-- OUT, the ports -/
theorem pts.ou {σ μ : sm_S} {B : Nat} (h : pts σ μ B) (hB : B < 2 ^ 62) (v : Int32) : ∃ ou, ou ≤ 1000 ∧ μ.1 20 = nI ou ∧ μ.2.2.1 39 = 1000 ∧ (¬ (0 : Int32) ≤ lg_cmp (σ.2.1 0) 1000 → vp_in ((σ.2.1 0).toInt32) (σ.2.2.1 31)) ∧ pts (pou σ v) (pouM μ ou v) (B + 1) ∧ rsX σ (pou σ v) ∧ rsM μ (pouM μ ou v) ∧ (pou σ v).2.1 1 = σ.2.1 1 ∧ (pouM μ ou v).2.1 0 = μ.2.1 0 := by
  obtain ⟨i, g, tk, a1, a2, a3, a4, a5, a6, a7, a8, a9, a10, a11, a12, a13, a14, a15, a16⟩ := h
  have c1 : (0 : Int32) ≤ lg_cmp (σ.2.1 0) 1000 ↔ 1000 ≤ g := by
    rw [a13]
    exact lc_ge (b := 1000) (by omega) (by omega)
  refine ⟨min g 1000, by omega, a15, a9, fun z => ?_, ?_, ?_, ?_, ?_, ?_⟩
  · have : ¬ 1000 ≤ g := fun q => z (c1.mpr q)
    rw [a13, lN_32 (by omega), a7]
    exact vp_in_nI (by omega) (by decide)
  · unfold pou pouM
    by_cases c : 1000 ≤ g
    · rw [if_pos (c1.mpr c), if_neg (by omega), a13, a14, l1N]
      exact ⟨i, g + 1, tk, a1, by omega, a3, a4, a5, a6, a7, a8, a9, a10, a11, a12, rfl, rfl, by show μ.1 20 = _; rw [a15, show min (g + 1) 1000 = min g 1000 by omega], fun j hj => a16 j (by omega)⟩
    · rw [if_neg (fun q => c (c1.mp q)), if_pos (by omega), a13, a14, l1N, lN_32 (by omega), nI_clamp (by omega)]
      refine ⟨i, g + 1, tk, a1, by omega, a3, a4, a5, a6, a7, a8, a9, a10, a11, a12, rfl, rfl, ?_, fun j hj => ?_⟩
      · show nI (min g 1000 + 1) = _
        rw [show min (g + 1) 1000 = min g 1000 + 1 by omega]
      · show upd (σ.2.2.2.1 31) g v j = upd (μ.2.2.2.1 39) (min g 1000) v j
        rw [show min g 1000 = g by omega]
        by_cases e : j = g
        · rw [e, pk_us, pk_us]
        · rw [pk_un e, pk_un e]; exact a16 j (by omega)
  · unfold pou
    by_cases c : (0 : Int32) ≤ lg_cmp (σ.2.1 0) 1000
    · rw [if_pos c]; exact ⟨rfl, fun _ _ => rfl, fun _ _ => rfl⟩
    · rw [if_neg c]; exact ⟨rfl, fun r q => va_up_ne _ _ q, fun _ _ => rfl⟩
  · unfold pouM
    by_cases c : min g 1000 < 1000
    · rw [if_pos c]; exact ⟨rfl, fun r q => va_up_ne _ _ (by omega), fun k q => va_up_ne _ _ (by omega)⟩
    · rw [if_neg c]; exact ⟨rfl, fun _ _ => rfl, fun _ _ => rfl⟩
  · unfold pou
    by_cases c : (0 : Int32) ≤ lg_cmp (σ.2.1 0) 1000
    · rw [if_pos c]; rfl
    · rw [if_neg c]; rfl
  · unfold pouM
    by_cases c : min g 1000 < 1000
    · rw [if_pos c]; rfl
    · rw [if_neg c]; rfl
/-- what is reached -/
def rcN (T : Nat → Nat → Nat) (N : Nat → AN) (fs : List AF) (i : Nat) : Prop := ∀ P : Nat → Prop, (∀ f i k, f ∈ fs → i < T 15 f.1 + f.2.2.1 → f.2.2.2 i = .inr (k + 1) → P k) → (∀ i j k, P i → j < npt T (N i) → (N i).2.2.2 j = .inr (k + 1) → P k) → P i
section
variable {σ μ : sm_S} {T : Nat → Nat → Nat} {b : Nat → Nat} {H Y : Nat → Nat → Nat} {h k lim md cy rch n sb B : Nat} {N : Nat → AN} {f : AF} {r fs : List AF} {fl : Nat}
theorem rls_ex (nk : nok T n N) (hf : ∀ f, f ∈ fs → vlt n (T 15 f.1 + f.2.2.1) f.2.2.2) : ∃ ids, rls T N fs ids := by
  have lt : ∀ i, rcN T N fs i → i < n := fun i hi => hi (fun i => i < n) (fun f i k h1 h2 h3 => hf f h1 i k h2 h3) (fun i j k h1 h2 h3 => (nk i h1).2 j k h2 h3)
  have mem : ∀ i, i ∈ (List.range n).filter (fun i => @decide (rcN T N fs i) (Classical.propDecidable _)) ↔ rcN T N fs i := fun i => by
    rw [List.mem_filter, List.mem_range, @decide_eq_true_iff _ (Classical.propDecidable _)]
    exact ⟨fun q => q.2, fun q => ⟨lt i q, q⟩⟩
  refine ⟨(List.range n).filter (fun i => @decide (rcN T N fs i) (Classical.propDecidable _)), List.Pairwise.filter _ List.nodup_range, fun f i k h1 h2 h3 => (mem k).mpr (fun P p1 p2 => p1 f i k h1 h2 h3), fun i j k h1 h2 h3 => (mem k).mpr (fun P p1 p2 => p2 i j k ((mem i).mp h1 P p1 p2) h2 h3), fun P p1 p2 i hi => ?_⟩
  have q := (mem i).mp hi (fun i => rcN T N fs i ∧ P i) (fun f i k h1 h2 h3 => ⟨fun P p1 p2 => p1 f i k h1 h2 h3, p1 f i k h1 h2 h3⟩) (fun i j k h1 h2 h3 => ⟨fun P q1 q2 => q2 i j k (h1.1 P q1 q2) h2 h3, p2 i j k ((mem i).mpr h1.1) h1.2 h2 h3⟩)
  exact q.2
theorem fsT.vl : ∀ (r : List AF) (m : Nat), fsT T b H Y n N r m → ∀ g, g ∈ r → vlt n (T 15 g.1 + g.2.2.1) g.2.2.2 := by
  intro r
  induction r with
  | nil => intro m _ g hg; cases hg
  | cons a r ih =>
    intro m h' g hg
    rcases List.mem_cons.mp hg with e | e
    · rw [e]; exact h'.1.1.2.2.2.2.2
    · exact ih a.1 h'.2 g e
theorem WT.vl (W : WT T b H Y n N fs fl 1) : ∀ g, g ∈ fs → vlt n (T 15 g.1 + g.2.2.1) g.2.2.2 := fun g hg => by
  cases fs with
  | nil => cases hg
  | cons f r =>
    obtain ⟨a, -, c⟩ := W.2.2.1 f r rfl
    rcases List.mem_cons.mp hg with e | e
    · rw [e]; exact a.2.2.2.2.2
    · exact fsT.vl r f.1 c g e
/-- bounds of the state, out of the class -/
theorem XH.bd {ids : List Nat} {st : Nat} (hw : wf T b) (X : XH σ T b h k lim md cy rch n N fs fl st) (hr : rls T N fs ids) : ACb h k lim rch md ∧ 16 * fs.length + sumL (fun i => 1 + npt T (N i)) ids ≤ 120048 := by
  obtain ⟨L, B, F, S, R, C, C0, s0, ml, nb, z, lv, y, al, fas, x, -⟩ := X
  have ac := x.2.2.2.2.2.2.2.2.2
  have rl := x.2.1
  have hL : ∀ i, i ∈ ids → L i := hr.2.2.2 L (fun f i k h1 h2 h3 => rl.2.2.2.2.2.2.2 f h1 i k h2 h3) (fun i j k _ h1 h2 h3 => rl.2.2.2.2.2.2.1 i j k h1 h2 h3)
  have := x.sum hw hr.1 hL
  unfold rsm at this
  have a1 := ac.le
  have a2 := ac.2.1
  exact ⟨ac, by omega⟩
/-- the run goes on or has returned -/
theorem AS_st {ids : List Nat} {p : OC} (a : AS T b k lim md cy rch n N f r ids (some p)) : p.2.2.2.2.2.2.2 ≤ 4 ∧ p.2.2.2.2.2.2.2 ≠ 0 := by
  have s1 : ∀ x : OC, x.2.2.2.2.2.2.2 = 1 → some p = some x → p.2.2.2.2.2.2.2 ≤ 4 ∧ p.2.2.2.2.2.2.2 ≠ 0 := fun x h e => by cases e; omega
  have s2 : ∀ x : OC, x.2.2.2.2.2.2.2 = 2 → some p = some x → p.2.2.2.2.2.2.2 ≤ 4 ∧ p.2.2.2.2.2.2.2 ≠ 0 := fun x h e => by cases e; omega
  rcases a with a | a | a | a | a | a | a | a | a | a | a | a | a | a | a | a
  · obtain ⟨_, _, _, _, _, _, _, _, _, _, a⟩ := a
    exact s1 _ rfl a
  · obtain ⟨_, _, _, _, a1, a2⟩ := a
    by_cases fu : rch ≤ k * md ∧ lim < rch
    · cases a1 fu
    · exact s1 _ rfl (a2 fu)
  · obtain ⟨_, _, a1, a2⟩ := a
    by_cases fu : rch ≤ k * md ∧ lim < rch
    · cases a1 fu
    · exact s1 _ rfl (a2 fu)
  · obtain ⟨_, _, v, _, _, a1, a2, a3⟩ := a
    cases v with
    | zero =>
      by_cases fu : rch ≤ k * md ∧ lim < rch
      · cases a1 rfl fu
      · exact s1 _ rfl (a2 rfl fu)
    | succ q => exact s1 _ rfl (a3 q rfl)
  · obtain ⟨_, _, v, _, _, a1, a2, a3⟩ := a
    cases v with
    | zero =>
      by_cases fu : rch ≤ k * md ∧ lim < rch
      · cases a1 rfl fu
      · exact s1 _ rfl (a2 rfl fu)
    | succ q => exact s1 _ rfl (a3 q rfl)
  · obtain ⟨_, _, _, _, _, _, a⟩ := a
    exact s1 _ rfl a
  · obtain ⟨_, _, v, _, a1, a2, a3⟩ := a
    by_cases ia : v = 0 ∨ isN T N (.inr v) (b (T 17 f.1 + f.2.1 + 1))
    · exact s1 _ rfl (a3 ia)
    · by_cases fu : rch ≤ k * md ∧ lim < rch
      · cases a1 ia fu
      · exact s1 _ rfl (a2 ia fu)
  · obtain ⟨_, _, xv, _, a1, a2, a3⟩ := a
    by_cases fu : rch ≤ k * md ∧ lim < rch
    · cases a1 fu
    · by_cases hj : ∃ j, j ≤ 3375 ∧ xv = nI j
      · obtain ⟨j, j1, j2⟩ := hj
        exact s1 _ rfl (a3 j j1 j2 fu)
      · exact s1 _ rfl (a2 hj fu)
  · obtain ⟨_, _, v, _, _, a1, a2, a3⟩ := a
    cases v with
    | zero =>
      by_cases fu : rch ≤ k * md ∧ lim < rch
      · cases a1 rfl fu
      · exact s1 _ rfl (a2 rfl fu)
    | succ q => exact s1 _ rfl (a3 q rfl)
  · obtain ⟨_, _, v, xi, _, _, _, a1, a2, a3⟩ := a
    cases v with
    | zero =>
      by_cases fu : rch ≤ k * md ∧ lim < rch
      · cases a1 0 (Or.inl ⟨rfl, rfl⟩) fu
      · exact s1 _ rfl (a2 0 (Or.inl ⟨rfl, rfl⟩) fu)
    | succ q =>
      by_cases hj : ∃ i, i < (N q).2.1 ∧ xi = nI i
      · obtain ⟨i, j1, j2⟩ := hj
        obtain ⟨_, _, _, _, _, e⟩ := a3 q i rfl j1 j2
        exact s1 _ rfl e
      · by_cases fu : rch ≤ k * md ∧ lim < rch
        · cases a1 1 (Or.inr ⟨rfl, q, rfl, hj⟩) fu
        · exact s1 _ rfl (a2 1 (Or.inr ⟨rfl, q, rfl, hj⟩) fu)
  · obtain ⟨_, _, v, xi, _, _, _, a1, a2, a3⟩ := a
    cases v with
    | zero =>
      by_cases fu : rch ≤ k * md ∧ lim < rch
      · cases a1 0 (Or.inl ⟨rfl, rfl⟩) fu
      · exact s1 _ rfl (a2 0 (Or.inl ⟨rfl, rfl⟩) fu)
    | succ q =>
      by_cases hj : ∃ i, i < (N q).2.1 ∧ xi = nI i
      · obtain ⟨i, j1, j2⟩ := hj
        obtain ⟨_, _, lk, _, e1, e2, e3⟩ := a3 q i rfl j1 j2
        by_cases l0 : lk = 0
        · exact s1 _ rfl (e1 l0)
        · by_cases fu : rch ≤ k * md ∧ lim < rch
          · cases e3 l0 fu
          · exact s1 _ rfl (e2 l0 fu)
      · by_cases fu : rch ≤ k * md ∧ lim < rch
        · cases a1 1 (Or.inr ⟨rfl, q, rfl, hj⟩) fu
        · exact s1 _ rfl (a2 1 (Or.inr ⟨rfl, q, rfl, hj⟩) fu)
  · obtain ⟨_, _, _, _, _, a1, a2⟩ := a
    by_cases fu : rch ≤ k * md ∧ lim < rch
    · cases a1 fu
    · exact s1 _ rfl (a2 fu)
  · obtain ⟨_, _, v, _, _, _, _, a0, a1, a2, a3⟩ := a
    by_cases fu : rch ≤ k * md ∧ lim < rch
    · cases a1 fu
    · cases v with
      | zero => exact s1 _ rfl (a2 rfl fu)
      | succ q =>
        obtain ⟨_, m2, e, _⟩ := a0 q rfl
        exact s1 _ rfl (a3 q m2 rfl e fu)
  · obtain ⟨_, _, a1, a2⟩ := a
    cases r with
    | nil => exact s2 _ rfl (a1 rfl)
    | cons g r2 => exact s1 _ rfl (a2 g r2 rfl)
  · obtain ⟨_, _, _, a1, a2⟩ := a
    cases r with
    | nil => exact s2 _ rfl (a1 rfl)
    | cons g r2 => exact s1 _ rfl (a2 g r2 rfl)
  · obtain ⟨_, _, v, _, a1, a2, a3⟩ := a
    cases v with
    | zero =>
      by_cases fu : rch ≤ k * md ∧ lim < rch
      · cases a1 rfl fu
      · exact s1 _ rfl (a2 rfl fu)
    | succ q => exact s1 _ rfl (a3 q rfl)
end
