/-! ===== the reference's heap ===== -/
def vM (th : Nat → Nat) : AV → Int32
  | .inl x => x
  | .inr 0 => -1
  | .inr (k + 1) => nI (th k)
theorem vM_s (th : Nat → Nat) (q : Nat) : vM th (.inr (q + 1)) = nI (th q) := rfl
theorem vM_0 (th : Nat → Nat) : vM th (.inr 0) = -1 := rfl
theorem vM_i (th : Nat → Nat) (x : Int32) : vM th (.inl x) = x := rfl
def iM : AV → Int32
  | .inl _ => 0
  | .inr _ => 1
/-- node q is a thing -/
def inT (th nd : Nat → Nat) (nt q : Nat) : Prop := th q < nt ∧ nd (th q) = q
/-- thing t is node q, its cells begin at g -/
def thg (μ : sm_S) (T : Nat → Nat → Nat) (N : Nat → AN) (th : Nat → Nat) (t q g : Nat) : Prop := μ.2.2.2.1 25 t = nI ((N q).1 - 2) ∧ ((N q).1 ≠ 4 → μ.2.2.2.1 26 t = nI (N q).2.1) ∧ ((N q).1 ≠ 2 → (isP T (N q) 0 → μ.2.2.2.1 27 t = 1) ∧ (¬ isP T (N q) 0 → μ.2.2.2.1 27 t = 0)) ∧ ((N q).1 = 3 → μ.2.2.2.1 28 t = nI (N q).2.2.1) ∧ μ.2.2.2.1 29 t = nI g ∧ ∀ j, j < npt T (N q) → μ.2.2.2.1 31 (g + j) = vM th ((N q).2.2.2 j)
/-- the same without its cells -/
def thh (μ : sm_S) (T : Nat → Nat → Nat) (N : Nat → AN) (t q g : Nat) : Prop := μ.2.2.2.1 25 t = nI ((N q).1 - 2) ∧ ((N q).1 ≠ 4 → μ.2.2.2.1 26 t = nI (N q).2.1) ∧ ((N q).1 ≠ 2 → (isP T (N q) 0 → μ.2.2.2.1 27 t = 1) ∧ (¬ isP T (N q) 0 → μ.2.2.2.1 27 t = 0)) ∧ ((N q).1 = 3 → μ.2.2.2.1 28 t = nI (N q).2.2.1) ∧ μ.2.2.2.1 29 t = nI g
theorem thg.h {μ : sm_S} {T : Nat → Nat → Nat} {N : Nat → AN} {th : Nat → Nat} {t q g : Nat} (h : thg μ T N th t q g) : thh μ T N t q g := ⟨h.1, h.2.1, h.2.2.1, h.2.2.2.1, h.2.2.2.2.1⟩
theorem thh.g {μ : sm_S} {T : Nat → Nat → Nat} {N : Nat → AN} {th : Nat → Nat} {t q g : Nat} (h : thh μ T N t q g) (hc : ∀ j, j < npt T (N q) → μ.2.2.2.1 31 (g + j) = vM th ((N q).2.2.2 j)) : thg μ T N th t q g := ⟨h.1, h.2.1, h.2.2.1, h.2.2.2.1, h.2.2.2.2, hc⟩
def thM (μ : sm_S) (T : Nat → Nat → Nat) (n : Nat) (N : Nat → AN) (th nd bg : Nat → Nat) (nt us : Nat) : Prop := bg 0 = 0 ∧ us = bg nt ∧ ∀ t, t < nt → th (nd t) = t ∧ nd t < n ∧ bg (t + 1) = bg t + npt T (N (nd t)) ∧ thg μ T N th t (nd t) (bg t) ∧ ∀ j k, j < npt T (N (nd t)) → (N (nd t)).2.2.2 j = .inr (k + 1) → inT th nd nt k
/-- the frame of number g -/
def fM1 (μ : sm_S) (T : Nat → Nat → Nat) (th nd : Nat → Nat) (nt g : Nat) (f : AF) : Prop := μ.2.2.2.1 33 g = nI f.1 ∧ f.1 < T 0 1 ∧ μ.2.2.2.1 34 g = nI f.2.1 ∧ f.2.1 < 2 ^ 16 ∧ μ.2.2.2.1 35 g = nI f.2.2.1 ∧ f.2.2.1 ≤ T 16 f.1 ∧ ∀ i, i < T 15 f.1 + f.2.2.1 → μ.2.2.2.1 36 (12 * g + i) = vM th (f.2.2.2 i) ∧ μ.2.2.2.1 37 (12 * g + i) = iM (f.2.2.2 i) ∧ ∀ k, f.2.2.2 i = .inr (k + 1) → inT th nd nt k
def fsM (μ : sm_S) (T : Nat → Nat → Nat) (th nd : Nat → Nat) (nt : Nat) : List AF → Prop
  | [] => True
  | f :: r => fM1 μ T th nd nt r.length f ∧ fsM μ T th nd nt r
/-- nodes are what they should be -/
def npo (T : Nat → Nat → Nat) (n : Nat) (N : Nat → AN) : Prop := ∀ q, q < n → ((N q).1 = 2 ∨ (N q).1 = 3 ∨ (N q).1 = 4) ∧ ((N q).1 = 2 → (N q).2.1 < T 0 0) ∧ ((N q).1 = 3 → (N q).2.1 ≤ 3375 ∧ (N q).2.2.1 ≤ T 0 0) ∧ ∀ j, j < npt T (N q) → (isP T (N q) j ↔ ∃ v, (N q).2.2.2 j = .inr v)
def lnR (μ : sm_S) : Prop := μ.2.2.1 25 = 140000 ∧ μ.2.2.1 26 = 140000 ∧ μ.2.2.1 27 = 140000 ∧ μ.2.2.1 28 = 140000 ∧ μ.2.2.1 29 = 140000 ∧ μ.2.2.1 30 = 140000 ∧ μ.2.2.1 31 = 300000 ∧ μ.2.2.1 32 = 140000 ∧ μ.2.2.1 33 = 7600 ∧ μ.2.2.1 34 = 7600 ∧ μ.2.2.1 35 = 7600 ∧ μ.2.2.1 36 = 91200 ∧ μ.2.2.1 37 = 91200
theorem lr25 {μ : sm_S} (h : lnR μ) : μ.2.2.1 25 = 140000 := h.1
theorem lr26 {μ : sm_S} (h : lnR μ) : μ.2.2.1 26 = 140000 := h.2.1
theorem lr27 {μ : sm_S} (h : lnR μ) : μ.2.2.1 27 = 140000 := h.2.2.1
theorem lr28 {μ : sm_S} (h : lnR μ) : μ.2.2.1 28 = 140000 := h.2.2.2.1
theorem lr29 {μ : sm_S} (h : lnR μ) : μ.2.2.1 29 = 140000 := h.2.2.2.2.1
theorem lr30 {μ : sm_S} (h : lnR μ) : μ.2.2.1 30 = 140000 := h.2.2.2.2.2.1
theorem lr31 {μ : sm_S} (h : lnR μ) : μ.2.2.1 31 = 300000 := h.2.2.2.2.2.2.1
theorem lr32 {μ : sm_S} (h : lnR μ) : μ.2.2.1 32 = 140000 := h.2.2.2.2.2.2.2.1
theorem lr33 {μ : sm_S} (h : lnR μ) : μ.2.2.1 33 = 7600 := h.2.2.2.2.2.2.2.2.1
theorem lr34 {μ : sm_S} (h : lnR μ) : μ.2.2.1 34 = 7600 := h.2.2.2.2.2.2.2.2.2.1
theorem lr35 {μ : sm_S} (h : lnR μ) : μ.2.2.1 35 = 7600 := h.2.2.2.2.2.2.2.2.2.2.1
theorem lr36 {μ : sm_S} (h : lnR μ) : μ.2.2.1 36 = 91200 := h.2.2.2.2.2.2.2.2.2.2.2.1
theorem lr37 {μ : sm_S} (h : lnR μ) : μ.2.2.1 37 = 91200 := h.2.2.2.2.2.2.2.2.2.2.2.2
/-- all marks are of this stamp or an earlier one -/
def mkM (μ : sm_S) (s : Nat) : Prop := μ.1 12 = nI s ∧ ∀ t, t < 140000 → ∃ s', s' ≤ s ∧ μ.2.2.2.1 30 t = nI s'
/-- the things and frames of the reference, without the numbers -/
def RMt (μ : sm_S) (T : Nat → Nat → Nat) (b : Nat → Nat) (n : Nat) (N : Nat → AN) (fs : List AF) (th nd bg : Nat → Nat) (nt us : Nat) : Prop := imM μ T b ∧ lnR μ ∧ (μ.1 11 = nI nt ∧ nt ≤ 140000 ∧ μ.1 13 = nI us ∧ us ≤ 300000 ∧ μ.1 14 = nI fs.length ∧ fs.length ≤ 7600) ∧ thM μ T n N th nd bg nt us ∧ fsM μ T th nd nt fs
theorem thM.g {μ : sm_S} {T : Nat → Nat → Nat} {n : Nat} {N : Nat → AN} {th nd bg : Nat → Nat} {nt us q : Nat} (h : thM μ T n N th nd bg nt us) (hq : inT th nd nt q) : q < n ∧ thg μ T N th (th q) q (bg (th q)) ∧ bg (th q + 1) = bg (th q) + npt T (N q) ∧ ∀ j k, j < npt T (N q) → (N q).2.2.2 j = .inr (k + 1) → inT th nd nt k := by
  have := h.2.2 (th q) hq.1
  rw [hq.2] at this
  exact ⟨this.2.1, this.2.2.2.1, this.2.2.1, this.2.2.2.2⟩
theorem thM.m {μ : sm_S} {T : Nat → Nat → Nat} {n : Nat} {N : Nat → AN} {th nd bg : Nat → Nat} {nt us : Nat} (h : thM μ T n N th nd bg nt us) : ∀ a c, a ≤ c → c ≤ nt → bg a ≤ bg c := by
  intro a c hac hc
  induction c with
  | zero => rw [show a = 0 by omega]; exact Nat.le_refl _
  | succ c ih =>
    by_cases e : a = c + 1
    · rw [e]; exact Nat.le_refl _
    · have h1 := ih (by omega) (by omega)
      have h2 := (h.2.2 c (by omega)).2.2.1
      omega
theorem thM.e {μ : sm_S} {T : Nat → Nat → Nat} {n : Nat} {N : Nat → AN} {th nd bg : Nat → Nat} {nt us q : Nat} (h : thM μ T n N th nd bg nt us) (hq : inT th nd nt q) : bg (th q) + npt T (N q) ≤ us := by
  have h1 := (h.g hq).2.2.1
  have h2 := h.m (th q + 1) nt hq.1 (Nat.le_refl _)
  rw [h.2.1]
  omega
theorem npt_15 {T : Nat → Nat → Nat} {b : Nat → Nat} {x : AN} (hw : wf T b) (hx : x.1 = 2 → x.2.1 < T 0 0) : npt T x ≤ 15 := by
  unfold npt
  by_cases c : x.1 = 2
  · rw [if_pos c]; exact (hw.2.2.2.2.2.2.1 _ (hx c)).2.1
  · rw [if_neg c]; exact Nat.le_refl _
theorem k_cof {μ : sm_S} {T : Nat → Nat → Nat} {b : Nat → Nat} {n : Nat} {N : Nat → AN} {t q g : Nat} {K : jk} (hw : wf T b) (im : imM μ T b) (ln : lnR μ) (np : npo T n N) (hq : q < n) (ht : t < 140000) (h : thh μ T N t q g) (hK : K (nI (1 + npt T (N q))) μ) : mp_X12_cellsOf μ (nI t) K := by
  have w2 := hw.2.1
  obtain ⟨k1, k2, -, -⟩ := np q hq
  unfold mp_X12_cellsOf mp_X12_cellsOf_30
  rw [nI_clamp (by omega), h.1]
  refine ⟨by rw [lr25 ln]; exact vp_in_nI ht (by decide), fun c => ?_, fun c => ?_⟩
  · have n2 : (N q).1 ≠ 2 := fun e => c (by rw [e]; rfl)
    have : npt T (N q) = 15 := by unfold npt; rw [if_neg n2]
    rw [this] at hK
    exact hK
  · have e2 : (N q).1 = 2 := by
      have := (nI_eq (b := 0) (by omega) (by omega)).mp c
      omega
    have hc := k2 e2
    have e26 := h.2.1 (by omega)
    have r6 := (im.2.2.2.2.2.2.1.1 _ hc).2.1
    have w6 := (hw.2.2.2.2.2.2.1 _ hc).2.1
    rw [e26, nI_clamp (by omega), r6, nI_1a]
    refine ⟨by rw [lr26 ln]; exact vp_in_nI ht (by decide), by rw [im.2.1.2.2.1]; exact vp_in_nI (by omega) (by decide), ?_⟩
    have : npt T (N q) = T 6 (N q).2.1 := by unfold npt; rw [if_pos e2]
    rw [this] at hK
    exact hK
theorem k_isP {μ : sm_S} {T : Nat → Nat → Nat} {b : Nat → Nat} {n : Nat} {N : Nat → AN} {t q g j : Nat} {K : jk} (hw : wf T b) (im : imM μ T b) (ln : lnR μ) (np : npo T n N) (hq : q < n) (ht : t < 140000) (h : thh μ T N t q g) (hj : j < npt T (N q)) (h1 : (∃ v, (N q).2.2.2 j = .inr v) → K 1 μ) (h0 : (∃ x, (N q).2.2.2 j = .inl x) → K 0 μ) : mp_X12_isPart μ (nI t) (nI j) K := by
  have w2 := hw.2.1
  obtain ⟨k1, k2, -, k4⟩ := np q hq
  have k4 := k4 j hj
  have alt : ¬ isP T (N q) j → ∃ x, (N q).2.2.2 j = .inl x := fun c => by
    cases e : (N q).2.2.2 j with
    | inl x => exact ⟨x, rfl⟩
    | inr v => exact absurd (k4.mpr ⟨v, e⟩) c
  unfold mp_X12_isPart mp_X12_isPart_45
  rw [nI_clamp (by omega), h.1]
  refine ⟨by rw [lr25 ln]; exact vp_in_nI ht (by decide), fun c => ?_, fun c => ?_⟩
  · have n2 : (N q).1 ≠ 2 := fun e => c (by rw [e]; rfl)
    have sP : isP T (N q) j ↔ isP T (N q) 0 := by
      unfold isP
      rw [if_neg n2, if_neg n2]
    obtain ⟨u1, u2⟩ := h.2.2.1 n2
    refine ⟨by rw [lr27 ln]; exact vp_in_nI ht (by decide), ?_⟩
    by_cases cp : isP T (N q) 0
    · rw [u1 cp]; exact ⟨sm_z1, h1 (k4.mp (sP.mpr cp))⟩
    · rw [u2 cp]; exact ⟨sm_z0, h0 (alt (fun z => cp (sP.mp z)))⟩
  · have e2 : (N q).1 = 2 := by
      have := (nI_eq (b := 0) (by omega) (by omega)).mp c
      omega
    have hc := k2 e2
    have e26 := h.2.1 (by omega)
    have np2 : npt T (N q) = T 6 (N q).2.1 := by unfold npt; rw [if_pos e2]
    have hj' : j < T 6 (N q).2.1 := by omega
    have r7 := (im.2.2.2.2.2.2.1.1 _ hc).2.2 j hj'
    have wc := hw.2.2.2.2.2.2.1 _ hc
    have w6 := wc.2.1
    have t7 : T 7 (15 * (N q).2.1 + j) < 2 ^ 31 := by
      have := wc.2.2.1 j hj'
      unfold ty_ok at this
      omega
    have iP : isP T (N q) j ↔ T 7 (15 * (N q).2.1 + j) ≠ 0 := by unfold isP; rw [if_pos e2]
    rw [e26, l_15, pk_mul, nI_add, nI_clamp (by omega), r7]
    refine ⟨by rw [lr26 ln]; exact vp_in_nI ht (by decide), by rw [im.2.1.2.2.2.1]; exact vp_in_nI (by omega) (by decide), fun z => ?_, fun z => ?_⟩
    · have : T 7 (15 * (N q).2.1 + j) = 0 := by
        have := (nI_leI (b := 0) t7 (by omega)).mp z
        omega
      exact ⟨sm_z0, h0 (alt (fun q => iP.mp q this))⟩
    · have : T 7 (15 * (N q).2.1 + j) ≠ 0 := fun e => z (by rw [e]; decide)
      exact ⟨sm_z1, h1 (k4.mp (iP.mpr this))⟩
/-! the state while it is marked what is reached -/
def Irc (k : Nat) : Prop := k = 12 ∨ k = 25
def Arc (r _j : Nat) : Prop := r = 30 ∨ r = 32
def stk (μ : sm_S) (th : Nat → Nat) : List Nat → Prop
  | [] => True
  | w :: r => μ.2.2.2.1 32 r.length = nI (th w) ∧ stk μ th r
theorem stk_c {μ μ' : sm_S} {th : Nat → Nat} : ∀ (l : List Nat), (∀ i, i < l.length → μ'.2.2.2.1 32 i = μ.2.2.2.1 32 i) → stk μ th l → stk μ' th l := by
  intro l
  induction l with
  | nil => intro _ _; trivial
  | cons w r ih => intro h1 h2; exact ⟨by rw [h1 r.length (by show r.length < r.length + 1; omega)]; exact h2.1, ih (fun i hi => h1 i (by show i < r.length + 1; omega)) h2.2⟩
def RS (μ0 μ : sm_S) (th nd : Nat → Nat) (nt s : Nat) (Mk W : List Nat) : Prop := fr Irc Arc μ0 μ ∧ μ.1 12 = nI (s + 1) ∧ μ.1 25 = nI W.length ∧ stk μ th W ∧ (∀ t, t < 140000 → (∃ s', s' ≤ s + 1 ∧ μ.2.2.2.1 30 t = nI s') ∧ (μ.2.2.2.1 30 t = nI (s + 1) ↔ ∃ q, q ∈ Mk ∧ th q = t)) ∧ Mk.Nodup ∧ W.Nodup ∧ (∀ q, q ∈ Mk → inT th nd nt q) ∧ ∀ q, q ∈ W → q ∈ Mk
theorem inT_i {th nd : Nat → Nat} {nt q q' : Nat} (h : inT th nd nt q) (h' : inT th nd nt q') (e : th q = th q') : q = q' := by rw [← h.2, ← h'.2, e]
theorem k_mark {μ0 μ : sm_S} {th nd : Nat → Nat} {nt s v : Nat} {Mk W : List Nat} {K : sm_S → Prop} (ln : lnR μ0) (hnt : nt ≤ 140000) (hs : s + 1 < 2 ^ 31) (R : RS μ0 μ th nd nt s Mk W) (hv : ∀ q, v = q + 1 → inT th nd nt q) (hK : ∀ μ' Mk' W', RS μ0 μ' th nd nt s Mk' W' → (∀ q, q ∈ Mk' ↔ q ∈ Mk ∨ v = q + 1) → (∀ q, q ∈ W' ↔ q ∈ W ∨ (v = q + 1 ∧ q ∉ Mk)) → K μ') : mp_X12_mark μ (vM th (.inr v)) K := by
  obtain ⟨r1, r2, r3, r4, r5, r6, r7, r8, r9⟩ := R
  have R : RS μ0 μ th nd nt s Mk W := ⟨r1, r2, r3, r4, r5, r6, r7, r8, r9⟩
  unfold mp_X12_mark mp_X12_mark_48
  cases v with
  | zero => exact ⟨fun _ => hK μ Mk W R (fun q => ⟨Or.inl, fun z => z.elim (fun z => z) (fun z => absurd z (by omega))⟩) (fun q => ⟨Or.inl, fun z => z.elim (fun z => z) (fun z => absurd z.1 (by omega))⟩), fun q => absurd rfl q⟩
  | succ q =>
    have hq := hv q rfl
    have hq1 := hq.1
    have lm : ∀ r, μ.2.2.1 r = μ0.2.2.1 r := fun r => by rw [r1.2.1]
    rw [vM_s, nI_clamp (by omega), r2]
    refine ⟨fun z => absurd z (nI_m1 (by omega)), fun _ => ⟨by rw [lm, lr30 ln]; exact vp_in_nI (by omega) (by decide), fun z => ?_, fun z => ?_⟩⟩
    · obtain ⟨q', q1, q2⟩ := (r5 (th q) (by omega)).2.mp z
      have e := inT_i (r8 q' q1) hq q2
      subst e
      exact hK μ Mk W R (fun p => ⟨Or.inl, fun z => z.elim (fun z => z) (fun z => by cases z; exact q1)⟩) (fun p => ⟨Or.inl, fun z => z.elim (fun z => z) (fun z => by have := z.1; cases this; exact absurd q1 z.2)⟩)
    · have nq : q ∉ Mk := fun m => z ((r5 (th q) (by omega)).2.mpr ⟨q, m, rfl⟩)
      refine ⟨by rw [lm, lr30 ln]; exact vp_in_nI (by omega) (by decide), ?_⟩
      intro s5 e5
      have nd1 : ((q :: Mk).map th).Nodup := nd_map (List.nodup_cons.mpr ⟨nq, r6⟩) (fun x y hx hy e => inT_i (by rcases List.mem_cons.mp hx with e | e; exact e ▸ hq; exact r8 x e) (by rcases List.mem_cons.mp hy with e | e; exact e ▸ hq; exact r8 y e) e)
      have len1 := nd_len nd1 (n := nt) (fun x hx => by
        obtain ⟨y, y1, y2⟩ := List.mem_map.mp hx
        rw [← y2]
        rcases List.mem_cons.mp y1 with e | e
        · rw [e]; exact hq1
        · exact (r8 y e).1)
      rw [List.length_map] at len1
      have len1 : Mk.length + 1 ≤ nt := len1
      have len2 : W.length ≤ Mk.length := by
        have := sumL_sub (f := fun _ => 1) W Mk r7 r9
        rw [sumL_1, sumL_1] at this
        exact this
      have j25 : s5.1 25 = nI W.length := by rw [e5]; exact r3
      rw [j25, nI_clamp (by omega)]
      refine ⟨by rw [e5]; show vp_in _ (μ.2.2.1 32); rw [lm, lr32 ln]; exact vp_in_nI (by omega) (by decide), ?_⟩
      intro s7 e7 s8 e8
      have j257 : s7.1 25 + 1 = nI (W.length + 1) := by rw [e7]; show s5.1 25 + 1 = _; rw [j25, nI_1]
      rw [j257] at e8
      have row30 : s8.2.2.2.1 30 = upd (μ.2.2.2.1 30) (th q) (nI (s + 1)) := by rw [e8, e7, e5]; rfl
      have row32 : s8.2.2.2.1 32 = upd (μ.2.2.2.1 32) W.length (nI (th q)) := by rw [e8, e7, e5]; rfl
      refine hK s8 (q :: Mk) (q :: W) ⟨?_, by rw [e8, e7, e5]; exact r2, by rw [e8]; rfl, ⟨by rw [row32, pk_us], ?_⟩, fun t ht => ?_, List.nodup_cons.mpr ⟨nq, r6⟩, List.nodup_cons.mpr ⟨fun m => nq (r9 q m), r7⟩, fun p hp => ?_, fun p hp => ?_⟩ (fun p => ?_) (fun p => ?_)
      · rw [e8, e7, e5]
        exact ((r1.u (k := 30) rfl (Or.inl rfl)).u (k := 32) rfl (Or.inr rfl)).i (by unfold Irc; omega)
      · refine stk_c (μ := μ) W (fun i hi => ?_) r4
        rw [row32, pk_un (by omega)]
      · rw [row30]
        by_cases e : t = th q
        · rw [e, pk_us]
          exact ⟨⟨s + 1, Nat.le_refl _, rfl⟩, ⟨fun _ => ⟨q, List.mem_cons_self, rfl⟩, fun _ => rfl⟩⟩
        · rw [pk_un e]
          refine ⟨(r5 t ht).1, ⟨fun z => ?_, fun ⟨p, p1, p2⟩ => ?_⟩⟩
          · obtain ⟨p, p1, p2⟩ := (r5 t ht).2.mp z
            exact ⟨p, List.mem_cons_of_mem _ p1, p2⟩
          · rcases List.mem_cons.mp p1 with e' | e'
            · exact absurd (by rw [← p2, e']) e
            · exact (r5 t ht).2.mpr ⟨p, e', p2⟩
      · rcases List.mem_cons.mp hp with e | e
        · rw [e]; exact hq
        · exact r8 p e
      · rcases List.mem_cons.mp hp with e | e
        · rw [e]; exact List.mem_cons_self
        · exact List.mem_cons_of_mem _ (r9 p e)
      · constructor
        · intro z
          rcases List.mem_cons.mp z with e | e
          · exact Or.inr (by rw [e])
          · exact Or.inl e
        · intro z
          rcases z with e | e
          · exact List.mem_cons_of_mem _ e
          · cases e; exact List.mem_cons_self
      · constructor
        · intro z
          rcases List.mem_cons.mp z with e | e
          · exact Or.inr ⟨by rw [e], by rw [e]; exact nq⟩
          · exact Or.inl e
        · intro z
          rcases z with e | e
          · exact List.mem_cons_of_mem _ e
          · have := e.1; cases this; exact List.mem_cons_self
