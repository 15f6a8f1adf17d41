/-! ===== clearing, all of it; a new thing: the reference ===== -/
section
variable {μ μ' μ1 : sm_S} {T : Nat → Nat → Nat} {b : Nat → Nat} {h k lim md cy rch n : Nat} {N : Nat → AN} {fs : List AF} {fl st : Nat} {th nd bg : Nat → Nat} {nt us s : Nat} {ids : List Nat}
theorem fr.sM {I : Nat → Prop} {A : Nat → Nat → Prop} (f : fr I A μ μ') (hI : ∀ k, I k → ¬ (k ≤ 10 ∨ (18 ≤ k ∧ k ≤ 20))) (hA : ∀ r j, A r j → ¬ (r ≤ 24 ∨ 38 ≤ r)) : stM μ μ' := ⟨f.2.1, fun r q => f.row (fun j z => hA r j z q), f.2.2.1, fun k q => f.2.2.2.1 k (fun z => hI k z q), fun j _ => by rw [f.1]⟩
theorem fsM_n {μ' : sm_S} {th' nd' : Nat → Nat} {nt' : Nat} (r33 : μ'.2.2.2.1 33 = μ.2.2.2.1 33) (r34 : μ'.2.2.2.1 34 = μ.2.2.2.1 34) (r35 : μ'.2.2.2.1 35 = μ.2.2.2.1 35) (r37 : μ'.2.2.2.1 37 = μ.2.2.2.1 37) : ∀ (fs0 : List AF), fsM μ T th nd nt fs0 → (∀ A f B i, fs0 = A ++ f :: B → i < T 15 f.1 + f.2.2.1 → μ'.2.2.2.1 36 (12 * B.length + i) = vM th' (f.2.2.2 i) ∧ ∀ k, f.2.2.2 i = .inr (k + 1) → inT th' nd' nt' k) → fsM μ' T th' nd' nt' fs0 := by
  intro fs0
  induction fs0 with
  | nil => intro _ _; trivial
  | cons f r ih =>
    intro hf hv
    refine ⟨?_, ih hf.2 (fun A f' B i e hi => hv (f :: A) f' B i (by rw [e]; rfl) hi)⟩
    obtain ⟨f1, f2, f3, f4, f5, f6, f7⟩ := hf.1
    refine ⟨by rw [r33]; exact f1, f2, by rw [r34]; exact f3, f4, by rw [r35]; exact f5, f6, fun i hi => ?_⟩
    obtain ⟨v1, v2⟩ := hv [] f r i rfl hi
    exact ⟨v1, by rw [r37]; exact (f7 i hi).2.1, v2⟩
/-- what reach and clean leave -/
theorem k_clean {K : sm_S → Prop} (hw : wf T b) (x : RMg μ T b k lim md cy rch n N fs 0 st th nd bg nt us s) (np : npo T n N) (hs : s + 1 < 2 ^ 31) (hr : rls T N fs ids) (hi : ∀ q, q ∈ ids → inT th nd nt q)
    (hK : ∀ μ' th' nd' bg' nt' us', RMg μ' T b k lim md cy rch n N fs 0 st th' nd' bg' nt' us' (s + 1) → nt' + us' ≤ sumL (fun i => 1 + npt T (N i)) ids → (∀ q, q ∈ ids → inT th' nd' nt' q) → (∀ t, t < nt' → nd' t ∈ ids) → stM μ μ' → K μ') : mp_X12_clean μ K := by
  obtain ⟨x1, x2, x3, ⟨i21, i22, i23, l2, i24, i17⟩, x5⟩ := x
  have i15 : μ.1 15 = 0 := by
    rcases x5 with q | q
    · exact q.2
    · exact absurd rfl q.1
  unfold mp_X12_clean
  refine k_reach hw x1 np x2 hs i15 hr (fun μ1 Mk R hMk => ?_)
  have x1' := x1
  obtain ⟨im0, ln0, ⟨i11, hnt, i13, hus, i14, hfl⟩, hth0, hfs0⟩ := x1'
  have sm1 : stM μ μ1 := R.1.sM (fun k q => by unfold Irc at q; omega) (fun r j q => by unfold Arc at q; omega)
  have im := sm1.im im0
  have ln := sm1.ln ln0
  have ii : ∀ kk, kk ≠ 12 → kk ≠ 25 → μ1.1 kk = μ.1 kk := fun kk h1 h2 => R.1.2.2.2.1 kk (by unfold Irc; omega)
  have y1 : RMt μ1 T b n N fs th nd bg nt us := x1.c im ln (fun r h1 h2 h3 h4 => R.f r h3 h4) (fun kk hk => ii kk (by omega) (by omega))
  obtain ⟨-, -, ⟨j11, -, j13, -, j14, -⟩, hth, hfs⟩ := y1
  have hm : mkd μ1 th s ids := ⟨R.2.1, fun t ht => ⟨(R.2.2.2.2.1 t ht).1, by
    rw [(R.2.2.2.2.1 t ht).2]
    exact ⟨fun ⟨q, q1, q2⟩ => ⟨q, (hMk q).mp q1, q2⟩, fun ⟨q, q1, q2⟩ => ⟨q, (hMk q).mpr q1, q2⟩⟩⟩⟩
  refine ⟨nt + 1, l_c9 ln j11 hnt hth hm hi (fun μ2 f2 h32 => ?_) nt 0 μ1 (by omega) fr_r (fun t' h => absurd h (by omega))⟩
  have sm2 : stM μ1 μ2 := f2.sM (fun k q => q.elim) (fun r j q => by unfold A32 at q; omega)
  have im2 := sm2.im im
  have ln2 := sm2.ln ln
  have g2 : ∀ kk, μ2.1 kk = μ1.1 kk := fun kk => f2.2.2.2.1 kk (fun z => z)
  have row2 : ∀ r, r ≠ 32 → μ2.2.2.2.1 r = μ1.2.2.2.1 r := fun r h => f2.row (fun j => by unfold A32; omega)
  have hfs2 : fsM μ2 T th nd nt fs := fsM_c fs hfs (fun r h1 h2 => row2 r (by omega))
  refine ⟨12 * fs.length + 1, l_c53 hw im2 ln2 (by rw [g2]; exact j14) hfl (by rw [g2, ii 15 (by decide) (by decide)]; exact i15) hfs2 hnt h32 (fun μ3 f3 h36 => ?_) (12 * fs.length) 0 μ2 (by omega) fr_r (fun _ _ => rfl) (fun A f B i _ _ h => absurd h (by omega))⟩
  unfold mp_X12_clean_168
  intro s4 e4
  have sm3 : stM μ2 μ3 := f3.sM (fun k q => q.elim) (fun r j q => by unfold A36 at q; omega)
  have sm4 : stM μ s4 := by rw [e4]; exact ((sm1.t sm2).t sm3).i (by omega)
  have g4 : ∀ kk, s4.1 kk = μ1.1 kk := fun kk => by
    have h3 : μ3.1 kk = μ2.1 kk := f3.2.2.2.1 kk (fun z => z)
    rw [e4]
    by_cases e : kk = 16
    · subst e
      show va_up μ3.1 16 (μ3.1 16) 16 = _
      rw [va_up_self]; exact h3.trans (g2 16)
    · exact (va_up_ne _ _ e).trans (h3.trans (g2 kk))
  have row3 : ∀ r, r ≠ 36 → μ3.2.2.2.1 r = μ2.2.2.2.1 r := fun r h => f3.row (fun j => by unfold A36; omega)
  have row4 : ∀ r, s4.2.2.2.1 r = μ3.2.2.2.1 r := fun r => by rw [e4]
  have im4 := sm4.im im0
  have ln4 := sm4.ln ln0
  have hth4 : thM s4 T n N th nd bg nt us := ⟨hth.1, hth.2.1, fun t ht => by
    obtain ⟨q1, q2, q3, q4, q5⟩ := hth.2.2 t ht
    exact ⟨q1, q2, q3, thg_c q4 (fun r h1 h2 h3 => by rw [row4, row3 r (by omega), row2 r (by omega)]), q5⟩⟩
  have hm4 : mkd s4 th s ids := ⟨by rw [g4]; exact hm.1, fun t ht => by rw [row4, row3 30 (by decide), row2 30 (by decide)]; exact hm.2 t ht⟩
  have h324 : ∀ t, t < nt → s4.2.2.2.1 32 t = nI (rkn nd ids t) := fun t ht => by rw [row4, row3 32 (by decide)]; exact h32 t ht
  refine ⟨nt + 1, l_c176 hw im4 ln4 np (by rw [g4]; exact j11) hnt hus hth4 hm4 hi h324 (fun μ5 c5 μ6 f6 o6 m6 => ?_) nt 0 s4 (by omega) ⟨fr_r, fun _ _ => rfl, fun _ _ _ _ _ _ => rfl, fun t' h => absurd h (by omega), fun t' h => (hm4.2 t' h).1⟩⟩
  obtain ⟨s7, e7⟩ : ∃ s7, s7 = sm_i (sm_i μ6 11 (nI (rkn nd ids nt))) 13 (nI (bgs T N nd ids nt)) := ⟨_, rfl⟩
  rw [← e7]
  have sm6 : stM s4 μ6 := f6.sM (fun k q => q.elim) (fun r j q => by unfold Acl at q; omega)
  have sm7 : stM μ s7 := by rw [e7]; exact ((sm4.t sm6).i (by omega)).i (by omega)
  obtain ⟨nd', bg', n1, n2⟩ := nw_ex (T := T) (N := N) (nd := nd) (ids := ids) nt
  have row7 : ∀ r, s7.2.2.2.1 r = μ6.2.2.2.1 r := fun r => by rw [e7]
  have row6 : ∀ r, ¬ (25 ≤ r ∧ r ≤ 31) → μ6.2.2.2.1 r = s4.2.2.2.1 r := fun r h => f6.row (fun j => by unfold Acl; omega)
  have inT' : ∀ q, q ∈ ids → inT (fun q => rkn nd ids (th q)) nd' (rkn nd ids nt) q := fun q hq => by
    have hq' := hi q hq
    have m : nd (th q) ∈ ids := by rw [hq'.2]; exact hq
    have := rkn_l (nd := nd) (ids := ids) hq'.1 m
    exact ⟨by show rkn nd ids (th q) < _; omega, by show nd' (rkn nd ids (th q)) = q; rw [n1 _ hq'.1 m]; exact hq'.2⟩
  have g6 : ∀ kk, kk ≠ 11 → kk ≠ 13 → s7.1 kk = μ1.1 kk := fun kk h1 h2 => by
    rw [e7]
    exact ((va_up_ne _ _ h2).trans (va_up_ne _ _ h1)).trans ((f6.2.2.2.1 kk (fun z => z)).trans (g4 kk))
  have hsum := rkn_sum (ids := ids) hth
  have rm := (rkn_m (nd := nd) (ids := ids) nt nt (Nat.le_refl _)).2
  have bm := bgs_b (ids := ids) hth nt (Nat.le_refl _)
  have hus' := hth.2.1
  refine hK s7 (fun q => rkn nd ids (th q)) nd' bg' (rkn nd ids nt) (bgs T N nd ids nt) ⟨⟨sm7.im im0, sm7.ln ln0, ⟨by rw [e7]; rfl, by omega, by rw [e7]; rfl, by omega, by rw [g6 14 (by decide) (by decide)]; exact j14, hfl⟩, ⟨?_, (n2 nt (Nat.le_refl _)).symm, fun u hu => ?_⟩, ?_⟩, ⟨?_, fun t ht => by rw [row7]; exact m6 t ht⟩, ?_, ⟨?_, ?_, ?_, ?_, ?_, ?_⟩, Or.inl ⟨rfl, ?_⟩⟩ hsum inT' (fun u hu => ?_) sm7
  · have := n2 0 (by omega)
    exact this
  · obtain ⟨t, t1, t2, t3⟩ := rkn_s nt u hu
    subst t3
    obtain ⟨q1, q2, q3, q4, q5⟩ := hth.2.2 t t1
    obtain ⟨p1, p2⟩ := c5.2.2.2.1 t t1 t2
    rw [n1 t t1 t2, n2 t (by omega)]
    refine ⟨?_, q2, ?_, thh.g (thh_c p1 (fun r h1 h2 => by rw [row7, o6 r (by omega)])) (fun j hj => by rw [row7, o6 31 (by decide)]; exact p2 j hj), fun j k hj hk => ?_⟩
    · show rkn nd ids (th (nd t)) = rkn nd ids t
      rw [q1]
    · rw [← rkn_p t2, n2 (t + 1) (by omega), bgs_p t2]
    · exact inT' k (hr.2.2.1 _ j k t2 hj hk)
  · refine fsM_n (μ := μ1) ?_ ?_ ?_ ?_ fs hfs (fun A f B i e hi' => ⟨?_, fun k hk => ?_⟩)
    · rw [row7, row6 33 (by omega), row4, row3 33 (by decide), row2 33 (by decide)]
    · rw [row7, row6 34 (by omega), row4, row3 34 (by decide), row2 34 (by decide)]
    · rw [row7, row6 35 (by omega), row4, row3 35 (by decide), row2 35 (by decide)]
    · rw [row7, row6 37 (by omega), row4, row3 37 (by decide), row2 37 (by decide)]
    · rw [row7, row6 36 (by omega), row4]
      exact h36 A f B i e hi'
    · exact inT' k (hr.2.1 f i k (by rw [e]; exact List.mem_append.mpr (Or.inr List.mem_cons_self)) hi' hk)
  · rw [g6 12 (by decide) (by decide)]; exact hm.1
  · rw [g6 4 (by decide) (by decide), ii 4 (by decide) (by decide)]; exact x3
  · rw [g6 21 (by decide) (by decide), ii 21 (by decide) (by decide)]; exact i21
  · rw [g6 22 (by decide) (by decide), ii 22 (by decide) (by decide)]; exact i22
  · rw [g6 23 (by decide) (by decide), ii 23 (by decide) (by decide)]; exact i23
  · rw [sm7.2.2.2.2 2 |> fun _ => (show s7.2.1 = μ.2.1 from by
      rw [e7]
      show μ6.2.1 = _
      rw [f6.1, e4]
      show μ3.2.1 = _
      rw [f3.1, f2.1, R.1.1])]
    exact l2
  · rw [g6 24 (by decide) (by decide), ii 24 (by decide) (by decide)]; exact i24
  · rw [g6 17 (by decide) (by decide), ii 17 (by decide) (by decide)]; exact i17
  · rw [g6 15 (by decide) (by decide), ii 15 (by decide) (by decide)]; exact i15
  · obtain ⟨t, t1, t2, t3⟩ := rkn_s nt u hu
    rw [← t3, n1 t t1 t2]; exact t2
end
