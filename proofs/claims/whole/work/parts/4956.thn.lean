/-! ===== a new thing: the reference ===== -/
section
variable {μ μ' μ1 : sm_S} {T : Nat → Nat → Nat} {b : Nat → Nat} {h k lim md cy rch n : Nat} {N : Nat → AN} {fs : List AF} {fl st : Nat} {th nd bg : Nat → Nat} {nt us s : Nat} {ids : List Nat} {K : jk}
theorem vM_t {th' : Nat → Nat} {v : AV} (h : ∀ k, v = .inr (k + 1) → th' k = th k) : vM th' v = vM th v := by
  cases v with
  | inl x => rfl
  | inr q =>
    cases q with
    | zero => rfl
    | succ q => rw [vM_s, vM_s, h q rfl]
theorem fsM_in : ∀ (fs : List AF), fsM μ T th nd nt fs → ∀ f i k, f ∈ fs → i < T 15 f.1 + f.2.2.1 → f.2.2.2 i = .inr (k + 1) → inT th nd nt k := by
  intro fs
  induction fs with
  | nil => intro _ f i k h; exact absurd h List.not_mem_nil
  | cons g r ih =>
    intro hf f i k h hi hk
    rcases List.mem_cons.mp h with e | e
    · rw [e] at hi hk
      exact (hf.1.2.2.2.2.2.2 i hi).2.2 k hk
    · exact ih hf.2 f i k e hi hk
theorem RMt.in (x : RMt μ T b n N fs th nd bg nt us) (hr : rls T N fs ids) : ∀ q, q ∈ ids → inT th nd nt q := hr.2.2.2 _ (fun f i k hf hi hk => fsM_in fs x.2.2.2.2 f i k hf hi hk) (fun i j k _ hi hj hk => (x.2.2.2.1.g hi).2.2.2 j k hj hk)
/-- what thing() is told about a node -/
def tld (T : Nat → Nat → Nat) (x : AN) (p1 p2 p3 p4 : Int32) : Prop := p1 = nI (x.1 - 2) ∧ (x.1 ≠ 4 → p2 = nI x.2.1) ∧ (x.1 ≠ 2 → (isP T x 0 → p3 = 1) ∧ (¬ isP T x 0 → p3 = 0)) ∧ (x.1 = 3 → p4 = nI x.2.2.1)
/-- a new node's parts -/
def prt0 (T : Nat → Nat → Nat) (x : AN) : Prop := ∀ j, j < npt T x → (isP T x j → x.2.2.2 j = .inr 0) ∧ (¬ isP T x j → x.2.2.2 j = .inl 0)
theorem l_t100 {x : AN} (hw : wf T b) (im : imM μ T b) (ln : lnR μ) (np : npo T (n + 1) (va_up N n x)) (hx : va_up N n x n = x) (hp : prt0 T x) (hnt : nt < 140000) (hus : us + 16 ≤ 300000) (i13 : μ.1 13 = nI us) (hd : thh μ T (va_up N n x) nt n us) (n15 : npt T x ≤ 15)
    (hK : ∀ μ', fr Ino A31 μ μ' → (∀ p, ¬ (us ≤ p ∧ p < us + npt T x) → μ'.2.2.2.1 31 p = μ.2.2.2.1 31 p) → (∀ j, j < npt T x → μ'.2.2.2.1 31 (us + j) = vM th (x.2.2.2 j)) → K (nI nt) (sm_i μ' 13 (nI (us + npt T x)))) : ∀ (d i : Nat) (μ' : sm_S), i + d = npt T x → fr Ino A31 μ μ' → (∀ p, ¬ (us ≤ p ∧ p < us + i) → μ'.2.2.2.1 31 p = μ.2.2.2.1 31 p) → (∀ j, j < i → μ'.2.2.2.1 31 (us + j) = vM th (x.2.2.2 j)) → mp_X12_thing_100 K (d + 1) μ' (nI nt) (nI (npt T x)) (nI i) := by
  intro d
  induction d with
  | zero =>
    intro i μ' e f o v
    have ei : i = npt T x := by omega
    subst ei
    have j13 : μ'.1 13 = nI us := (f.2.2.2.1 13 (fun z => z)).trans i13
    unfold mp_X12_thing_100
    rw [j13, nI_add]
    refine ⟨fun _ => ?_, fun z => absurd ((nI_leI (by omega) (by omega)).mpr (by omega)) z⟩
    intro s5 e5
    rw [e5]
    exact hK μ' f o v
  | succ d ih =>
    intro i μ' e f o v
    have j13 : μ'.1 13 = nI us := (f.2.2.2.1 13 (fun z => z)).trans i13
    have im' : imM μ' T b := im.f f (fun k _ z => z) (fun r j _ _ => by unfold A31; omega)
    have ln' : lnR μ' := by unfold lnR; rw [f.2.1]; exact ln
    have hd' : thh μ' T (va_up N n x) nt n us := thh_c hd (fun r q1 q2 => by rw [f.row (r := r) (fun j => by unfold A31; omega)])
    have npx := (np n (by omega)).2.2.2 i (by rw [hx]; omega)
    rw [hx] at npx
    obtain ⟨pp1, pp2⟩ := hp i (by omega)
    have put : ∀ c : Int32, c = vM th (x.2.2.2 i) → mp_X12_thing_134 (mp_X12_thing_100 K (d + 1)) K μ' (nI nt) (nI (npt T x)) (nI i) (μ'.1 13 + nI i) c := fun c ec => by
      unfold mp_X12_thing_134
      rw [j13, nI_add, nI_clamp (by omega)]
      refine ⟨by rw [lr31 ln']; exact vp_in_nI (by omega) (by decide), ?_⟩
      intro s2 e2 v3 e3
      rw [e3, nI_1]
      have r31 : s2.2.2.2.1 31 = upd (μ'.2.2.2.1 31) (us + i) c := by rw [e2]; rfl
      refine ih (i + 1) s2 (by omega) (by rw [e2]; exact f.u rfl rfl) (fun p hp => ?_) (fun j hj => ?_)
      · rw [r31, pk_un (by omega)]; exact o p (by omega)
      · rw [r31]
        by_cases e' : j = i
        · rw [e', pk_us, ec]
        · rw [pk_un (by omega)]; exact v j (by omega)
    unfold mp_X12_thing_100
    refine ⟨fun z => absurd ((nI_leI (by omega) (by omega)).mp z) (by omega), fun _ => ?_⟩
    refine k_isP hw im' ln' np (by omega) hnt hd' (by rw [hx]; omega) (fun ⟨w, hw'⟩ => ⟨fun z => absurd z (by decide), fun _ => ?_⟩) (fun ⟨xx, hx'⟩ => ⟨fun _ => ?_, fun z => absurd rfl z⟩)
    · rw [hx] at hw'
      exact put _ (by rw [pp1 (npx.mpr ⟨w, hw'⟩)]; rfl)
    · rw [hx] at hx'
      have : ¬ isP T x i := fun z => by
        rw [pp1 z] at hx'; cases hx'
      exact put _ (by rw [pp2 this]; rfl)
theorem k_t25 {x : AN} {p1 p2 p3 p4 : Int32} (hw : wf T b) (y : RMg μ T b k lim md cy rch n N fs 0 st th nd bg nt us s) (np : npo T (n + 1) (va_up N n x)) (ht : tld T x p1 p2 p3 p4) (hp : prt0 T x) (hnt : nt < 140000) (hus : us + 16 ≤ 300000)
    (hK : ∀ μ' th' nd' bg', RMg μ' T b k lim md cy rch (n + 1) (va_up N n x) fs 0 st th' nd' bg' (nt + 1) (us + npt T x) s → inT th' nd' (nt + 1) n → (∀ q, inT th nd nt q → inT th' nd' (nt + 1) q) → stM μ μ' → K (nI (th' n)) μ') : mp_X12_thing_25 K μ p1 p2 p3 p4 := by
  obtain ⟨⟨im, ln, ⟨i11, hnt', i13, hus', i14, hfl⟩, hth, hfs⟩, y2, y3, y4, y5⟩ := y
  obtain ⟨t1, t2, t3, t4⟩ := ht
  have hx : va_up N n x n = x := va_up_self _ _ _
  have npx := np n (by omega)
  rw [hx] at npx
  obtain ⟨k1, k2, k3, -⟩ := npx
  have w32 := hw.2.1
  have n15 : npt T x ≤ 15 := npt_15 hw k2
  have c1 : vp_nar .byte p1.toInt8.toInt32 = nI (x.1 - 2) := by rw [t1]; exact nb8' (by omega)
  unfold mp_X12_thing_25
  intro v9 e9 s10 e10
  rw [i11] at e9
  rw [i11, nI_1] at e10
  rw [e9, nI_clamp (by omega)]
  have L10 : ∀ r, s10.2.2.1 r = μ.2.2.1 r := fun r => by rw [e10]
  refine ⟨by rw [L10, lr25 ln]; exact vp_in_nI hnt (by decide), ?_⟩
  intro s12 e12
  refine ⟨by rw [e12]; show vp_in _ (s10.2.2.1 26); rw [L10, lr26 ln]; exact vp_in_nI hnt (by decide), ?_⟩
  intro s14 e14
  refine ⟨by rw [e14, e12]; show vp_in _ (s10.2.2.1 27); rw [L10, lr27 ln]; exact vp_in_nI hnt (by decide), ?_⟩
  intro s16 e16
  refine ⟨by rw [e16, e14, e12]; show vp_in _ (s10.2.2.1 28); rw [L10, lr28 ln]; exact vp_in_nI hnt (by decide), ?_⟩
  intro s18 e18
  refine ⟨by rw [e18, e16, e14, e12]; show vp_in _ (s10.2.2.1 29); rw [L10, lr29 ln]; exact vp_in_nI hnt (by decide), ?_⟩
  intro s20 e20
  have j13 : s18.1 13 = nI us := by rw [e18, e16, e14, e12, e10]; exact i13
  rw [j13] at e20
  have r25 : s20.2.2.2.1 25 = upd (μ.2.2.2.1 25) nt (nI (x.1 - 2)) := by rw [e20, e18, e16, e14, e12, e10, c1]; rfl
  have r26 : s20.2.2.2.1 26 = upd (μ.2.2.2.1 26) nt p2 := by rw [e20, e18, e16, e14, e12, e10]; rfl
  have r27 : s20.2.2.2.1 27 = upd (μ.2.2.2.1 27) nt (vp_nar .boolean p3) := by rw [e20, e18, e16, e14, e12, e10]; rfl
  have r28 : s20.2.2.2.1 28 = upd (μ.2.2.2.1 28) nt (vp_nar .byte p4.toInt8.toInt32) := by rw [e20, e18, e16, e14, e12, e10]; rfl
  have r29 : s20.2.2.2.1 29 = upd (μ.2.2.2.1 29) nt (nI us) := by rw [e20, e18, e16, e14, e12, e10]; rfl
  have ro : ∀ r, r ≠ 25 → r ≠ 26 → r ≠ 27 → r ≠ 28 → r ≠ 29 → s20.2.2.2.1 r = μ.2.2.2.1 r := fun r h1 h2 h3 h4 h5 => by
    rw [e20, e18, e16, e14, e12, e10]
    exact (va_up_ne _ _ h5).trans ((va_up_ne _ _ h4).trans ((va_up_ne _ _ h3).trans ((va_up_ne _ _ h2).trans (va_up_ne _ _ h1))))
  have in20 : ∀ kk, kk ≠ 11 → s20.1 kk = μ.1 kk := fun kk hk => by
    rw [e20, e18, e16, e14, e12, e10]
    exact va_up_ne _ _ hk
  have i1120 : s20.1 11 = nI (nt + 1) := by rw [e20, e18, e16, e14, e12, e10]; rfl
  have sm20 : stM μ s20 := by
    rw [e20, e18, e16, e14, e12, e10]
    exact (((((stM_r.i (by omega)).r (by omega)).r (by omega)).r (by omega)).r (by omega)).r (by omega)
  have long20 : s20.2.1 = μ.2.1 := by rw [e20, e18, e16, e14, e12, e10]
  have im20 := sm20.im im
  have ln20 := sm20.ln ln
  have j1320 : s20.1 13 = nI us := (in20 13 (by decide)).trans i13
  have hd : thh s20 T (va_up N n x) nt n us := by
    unfold thh
    rw [hx, r25, r26, r27, r28, r29, pk_us, pk_us, pk_us, pk_us, pk_us]
    refine ⟨rfl, t2, fun q => ⟨fun z => by rw [(t3 q).1 z]; rfl, fun z => by rw [(t3 q).2 z]; rfl⟩, fun q => ?_, rfl⟩
    rw [t4 q, nb8' (by have := k3 q; omega)]
  clear e20 e18 e16 e14 e12 e10
  refine k_cof (N := va_up N n x) hw im20 ln20 np (q := n) (by omega) hnt hd ?_
  rw [hx]
  intro v23 e23
  rw [nI_sub1 (by omega), Nat.add_sub_cancel_left] at e23
  rw [e23]
  refine ⟨npt T x + 1, l_t100 (th := th) hw im20 ln20 np hx hp hnt hus j1320 hd n15 (fun μ7 f7 o7 v7 => ?_) (npt T x) 0 s20 (by omega) fr_r (fun _ _ => rfl) (fun j hj => absurd hj (by omega))⟩
  obtain ⟨s8, e8⟩ : ∃ s8, s8 = sm_i μ7 13 (nI (us + npt T x)) := ⟨_, rfl⟩
  rw [← e8]
  have row : ∀ r, r ≠ 31 → s8.2.2.2.1 r = s20.2.2.2.1 r := fun r h => by rw [e8]; exact f7.row (fun j => by unfold A31; omega)
  have in8 : ∀ kk, kk ≠ 13 → s8.1 kk = s20.1 kk := fun kk hk => by rw [e8]; exact (va_up_ne _ _ hk).trans (f7.2.2.2.1 kk (fun z => z))
  have sm8 : stM μ s8 := by
    rw [e8]
    exact (sm20.t (f7.sM (fun k q => q.elim) (fun r j q => by unfold A31 at q; omega))).i (by omega)
  have long : s8.2.1 = μ.2.1 := by
    rw [e8]
    show μ7.2.1 = _
    rw [f7.1, long20]
  have ndlt : ∀ q, inT th nd nt q → q ≠ n := fun q hq e => by have := (hth.g hq).1; omega
  have thq : ∀ q, inT th nd nt q → va_up th n nt q = th q := fun q hq => va_up_ne _ _ (ndlt q hq)
  have inq : ∀ q, inT th nd nt q → inT (va_up th n nt) (va_up nd nt n) (nt + 1) q := fun q hq => by
    refine ⟨by rw [thq q hq]; have := hq.1; omega, ?_⟩
    rw [thq q hq, va_up_ne _ _ (by have := hq.1; omega)]
    exact hq.2
  have inn : inT (va_up th n nt) (va_up nd nt n) (nt + 1) n := ⟨by rw [va_up_self]; omega, by rw [va_up_self, va_up_self]⟩
  have r31 : ∀ p, ¬ (us ≤ p ∧ p < us + npt T x) → s8.2.2.2.1 31 p = μ.2.2.2.1 31 p := fun p hp => by
    rw [e8]
    show μ7.2.2.2.1 31 p = _
    rw [o7 p hp, ro 31 (by decide) (by decide) (by decide) (by decide) (by decide)]
  have fin := hK s8 (va_up th n nt) (va_up nd nt n) (va_up bg (nt + 1) (us + npt T x)) ⟨⟨sm8.im im, sm8.ln ln, ⟨?_, by omega, by rw [e8]; rfl, by omega, by rw [in8 14 (by decide), in20 14 (by decide)]; exact i14, hfl⟩, ⟨?_, by rw [va_up_self], fun t ht => ?_⟩, ?_⟩, ⟨?_, fun t ht => ?_⟩, ?_, ⟨?_, ?_, ?_, ?_, ?_, ?_⟩, Or.inl ⟨rfl, ?_⟩⟩ inn inq sm8
  · rw [va_up_self] at fin; exact fin
  · rw [in8 11 (by decide)]; exact i1120
  · rw [va_up_ne _ _ (by omega)]; exact hth.1
  · by_cases e : t = nt
    · subst e
      have bgt : va_up bg (t + 1) (us + npt T x) t = us := by rw [va_up_ne _ _ (by omega)]; exact hth.2.1.symm
      rw [va_up_self, va_up_self, va_up_self, hx, bgt]
      refine ⟨rfl, by omega, rfl, ?_, fun j k hj hk => ?_⟩
      · refine thh.g (thh_c hd (fun r q1 q2 => by rw [row r (by omega)])) (fun j hj => ?_)
        rw [hx] at hj ⊢
        rw [e8]
        show μ7.2.2.2.1 31 (us + j) = _
        rw [v7 j hj]
        refine (vM_t (fun k hk => ?_)).symm
        obtain ⟨a1, a2⟩ := hp j hj
        by_cases c : isP T x j
        · rw [a1 c] at hk; cases hk
        · rw [a2 c] at hk; cases hk
      · obtain ⟨a1, a2⟩ := hp j hj
        by_cases c : isP T x j
        · rw [a1 c] at hk; cases hk
        · rw [a2 c] at hk; cases hk
    · obtain ⟨q1, q2, q3, q4, q5⟩ := hth.2.2 t (by omega)
      have hq : inT th nd nt (nd t) := ⟨by rw [q1]; omega, by rw [q1]⟩
      have eN : va_up N n x (nd t) = N (nd t) := va_up_ne _ _ (ndlt _ hq)
      have mono := hth.m (t + 1) nt (by omega) (Nat.le_refl _)
      rw [va_up_ne nd _ e, va_up_ne bg _ (show t + 1 ≠ nt + 1 by omega), va_up_ne bg _ (show t ≠ nt + 1 by omega), thq _ hq]
      refine ⟨q1, by omega, by rw [eN]; exact q3, ?_, fun j k hj hk => ?_⟩
      · obtain ⟨u1, u2, u3, u4, u5, u6⟩ := q4
        have hh : thh s8 T (va_up N n x) t (nd t) (bg t) := by
          unfold thh
          rw [eN, row 25 (by decide), row 26 (by decide), row 27 (by decide), row 28 (by decide), row 29 (by decide), r25, r26, r27, r28, r29, pk_un e, pk_un e, pk_un e, pk_un e, pk_un e]
          exact ⟨u1, u2, u3, u4, u5⟩
        refine hh.g (fun j hj => ?_)
        rw [eN] at hj ⊢
        have hus2 := hth.2.1
        rw [r31 _ (by omega), u6 j hj]
        exact (vM_t (fun k hk => thq k (q5 j k hj hk))).symm
      · rw [eN] at hj hk
        exact inq k (q5 j k hj hk)
  · refine fsM_n (μ := μ) ?_ ?_ ?_ ?_ fs hfs (fun A f B i e hi => ?_)
    · rw [row 33 (by decide), ro 33 (by decide) (by decide) (by decide) (by decide) (by decide)]
    · rw [row 34 (by decide), ro 34 (by decide) (by decide) (by decide) (by decide) (by decide)]
    · rw [row 35 (by decide), ro 35 (by decide) (by decide) (by decide) (by decide) (by decide)]
    · rw [row 37 (by decide), ro 37 (by decide) (by decide) (by decide) (by decide) (by decide)]
    · have lb : B.length < fs.length := by
        rw [e, List.length_append]
        show B.length < A.length + (B.length + 1)
        omega
      obtain ⟨A', f', B', e1, e2, e3⟩ := fsM_at fs B.length hfs lb
      have ef := split_u (e.symm.trans e1) e2.symm
      subst ef
      obtain ⟨v1, v2, v3⟩ := e3.2.2.2.2.2.2 i hi
      refine ⟨?_, fun k hk => inq k (v3 k hk)⟩
      rw [row 36 (by decide), ro 36 (by decide) (by decide) (by decide) (by decide) (by decide), v1]
      exact (vM_t (fun k hk => thq k (v3 k hk))).symm
  · rw [in8 12 (by decide), in20 12 (by decide)]; exact y2.1
  · rw [row 30 (by decide), ro 30 (by decide) (by decide) (by decide) (by decide) (by decide)]; exact y2.2 t ht
  · rw [in8 4 (by decide), in20 4 (by decide)]; exact y3
  · rw [in8 21 (by decide), in20 21 (by decide)]; exact y4.1
  · rw [in8 22 (by decide), in20 22 (by decide)]; exact y4.2.1
  · rw [in8 23 (by decide), in20 23 (by decide)]; exact y4.2.2.1
  · rw [long]; exact y4.2.2.2.1
  · rw [in8 24 (by decide), in20 24 (by decide)]; exact y4.2.2.2.2.1
  · rw [in8 17 (by decide), in20 17 (by decide)]; exact y4.2.2.2.2.2
  · rw [in8 15 (by decide), in20 15 (by decide)]
    rcases y5 with q | q
    · exact q.2
    · exact absurd rfl q.1
theorem k_thing {x : AN} {p1 p2 p3 p4 : Int32} (hw : wf T b) (y : RMg μ T b k lim md cy rch n N fs 0 st th nd bg nt us s) (np : npo T n N) (np' : npo T (n + 1) (va_up N n x)) (ht : tld T x p1 p2 p3 p4) (hp : prt0 T x) (hs : s + 1 < 2 ^ 31) (hr : rls T N fs ids) (hB : sumL (fun i => 1 + npt T (N i)) ids ≤ 130000)
    (hK : ∀ μ' th' nd' bg' nt' us' s', RMg μ' T b k lim md cy rch (n + 1) (va_up N n x) fs 0 st th' nd' bg' nt' us' s' → s' ≤ s + 1 → inT th' nd' nt' n → (∀ q, q ∈ ids → inT th' nd' nt' q) → stM μ μ' → K (nI (th' n)) μ') : mp_X12_thing μ p1 p2 p3 p4 K := by
  have hi := y.1.in hr
  have i11 := y.1.2.2.1.1
  have i13 := y.1.2.2.1.2.2.1
  have hnt := y.1.2.2.1.2.1
  have hus := y.1.2.2.1.2.2.2.1
  have cl : mp_X12_thing_21 K μ p1 p2 p3 p4 := by
    unfold mp_X12_thing_21
    refine k_clean hw y np hs hr hi (fun μ' th' nd' bg' nt' us' y' c1 c2 c3 c4 => ?_)
    exact k_t25 hw y' np' ht hp (by omega) (by omega) (fun μ2 th2 nd2 bg2 y2 d1 d2 d3 => hK μ2 th2 nd2 bg2 _ _ _ y2 (Nat.le_refl _) d1 (fun q hq => d2 q (c2 q hq)) (c4.t d3))
  unfold mp_X12_thing
  rw [i11, i13, l_16, nI_add]
  refine ⟨fun _ => cl, fun z => ⟨fun z2 => ?_, fun _ => cl⟩⟩
  have h1 : nt ≠ 140000 := fun e => z (by rw [e]; rfl)
  have h2 : us + 16 ≤ 300000 := (nI_leI (b := 300000) (by omega) (by omega)).mp z2
  exact k_t25 hw y np' ht hp (by omega) h2 (fun μ2 th2 nd2 bg2 y2 d1 d2 d3 => hK μ2 th2 nd2 bg2 _ _ _ y2 (by omega) d1 (fun q hq => d2 q (hi q hq)) d3)
end
