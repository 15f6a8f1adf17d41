/-! ===== flying, IN, OUT: the reference ===== -/
section
variable {μ μ' μ0 μ1 : sm_S} {T : Nat → Nat → Nat} {b : Nat → Nat} {h k lim md cy rch n sb : Nat} {N : Nat → AN} {f : AF} {r fs : List AF} {fl st : Nat} {th nd bg : Nat → Nat} {nt us s : Nat} {ids : List Nat} {K : jk}
/-- nothing flies -/
theorem RMg.f0 (y : RMg μ T b k lim md cy rch n N fs fl st th nd bg nt us s) : RMg (sm_i μ 15 0) T b k lim md cy rch n N fs 0 st th nd bg nt us s ∧ stM μ (sm_i μ 15 0) := by
  obtain ⟨y1, y2, y3, y4, y5⟩ := y
  have sm : stM μ (sm_i μ 15 0) := stM_r.i (by omega)
  exact ⟨⟨y1.c (sm.im y1.1) (sm.ln y1.2.1) (fun _ _ _ _ _ => rfl) (fun k hk => va_up_ne _ _ (by omega)), y2, y3, y4, Or.inl ⟨rfl, rfl⟩⟩, sm⟩
/-- an empty stack -/
theorem RMg.h0 {v : Int32} (hw : wf T b) (y : RMg μ T b k lim md cy rch n N (f :: r) fl st th nd bg nt us s) (hv : v = 0) : RMg (sm_r μ 35 (upd (μ.2.2.2.1 35) r.length v)) T b k lim md cy rch n N ((f.1, f.2.1, 0, f.2.2.2) :: r) fl st th nd bg nt us s ∧ stM μ (sm_r μ 35 (upd (μ.2.2.2.1 35) r.length v)) := by
  obtain ⟨t, f1, f2, f3, f4, f5, f6, f7⟩ := y.ti hw
  refine y.tf (f' := (f.1, f.2.1, 0, f.2.2.2)) hw (fr_r.u rfl (by unfold Atf; omega)) ⟨f1, f2, f3, f4, ?_, Nat.zero_le _, fun i hi => f7 i (by have hi : i < T 15 f.1 + 0 := hi; omega)⟩
  show upd (μ.2.2.2.1 35) r.length v r.length = _
  rw [pk_us, hv]
  rfl
theorem l_flyM {q : Nat} {K : sm_S → Prop} (hw : wf T b) (y : RMg μ T b k lim md cy rch n N (f :: r) (q + 1) 1 th nd bg nt us s) (np : npo T n N) (kq : (N q).1 = 2) (hh : ∀ i, i < T 19 f.1 → hdl T b f.1 f.2.1 (N q).2.1 i → 1 ≤ T 16 f.1)
    (h1 : ∀ i, i < T 19 f.1 → hdl T b f.1 f.2.1 (N q).2.1 i → (∀ i', i' < i → ¬ hdl T b f.1 f.2.1 (N q).2.1 i') → ∀ μ', RMg μ' T b k lim md cy rch n N ((f.1, pr b (T 20 f.1 + 7 * i + 5), 1, va_up f.2.2.2 (T 15 f.1) (.inr (q + 1))) :: r) 0 1 th nd bg nt us s → stM μ μ' → K μ')
    (h0 : (∀ i', i' < T 19 f.1 → ¬ hdl T b f.1 f.2.1 (N q).2.1 i') → ∀ μ', RMg μ' T b k lim md cy rch n N r (q + 1) (if r = [] then 3 else 1) th nd bg nt us s → stM μ μ' → K μ') : ∀ (d i : Nat), i + d = T 19 f.1 → (∀ i', i' < i → ¬ hdl T b f.1 f.2.1 (N q).2.1 i') → mp_X12_fly_27 K (d + 1) μ (nI f.1) (nI f.2.1) (nI (T 20 f.1 + 7 * i)) := by
  obtain ⟨t, f1, f2, f3, f4, f5, f6, f7⟩ := y.ti hw
  have im := t.1
  have w64 := hw.2.2.2.1
  have w8 := hw.2.2.2.2.1
  have wm := hw.2.2.2.2.2.2.2.2.1 f.1 f2
  have m19 := wm.2.2.2.2.2.2.2.2.2.1
  have m20 := wm.2.2.2.2.2.2.2.2.2.2.2.1
  have mcl := wm.2.2.2.2.2.2.2.2.2.2.2.2.1
  clear wm
  have mt := im.2.2.2.2.2.2.2 f.1 f2
  have r19 := mt.2.2.2.2.2.2.2.2.1
  have r20 := mt.2.2.2.2.2.2.2.2.2.1
  clear mt
  have hfl : r.length + 1 ≤ 7600 := y.1.2.2.1.2.2.2.2.2
  have i14 : μ.1 14 = nI (r.length + 1) := y.1.2.2.1.2.2.2.2.1
  have i17 : μ.1 17 = nI 1 := y.2.2.2.1.2.2.2.2.2
  have i15 : inT th nd nt q ∧ μ.1 16 = nI (th q) := by
    rcases y.2.2.2.2 with z | z
    · exact absurd z.1 (Nat.succ_ne_zero q)
    · exact ⟨z.2.2.1, z.2.2.2⟩
  obtain ⟨hq, i16⟩ := i15
  obtain ⟨a1, a2, a3, a4, a5⟩ := y.tg hq
  obtain ⟨n1, n2, n3, n4⟩ := np q a1
  have hcl := n2 kq
  have l20 : μ.2.2.1 20 = 64 := im.2.1.2.2.2.2.2.2.2.2.2.2.2.2.2.2.2.2
  have l19 : μ.2.2.1 19 = 64 := im.2.1.2.2.2.2.2.2.2.2.2.2.2.2.2.2.2.1
  intro d
  induction d with
  | zero =>
    intro i hi hb
    unfold mp_X12_fly_27
    rw [nI_clamp (by omega), r20, r19, l_7, pk_mul, nI_add, l20, l19]
    refine ⟨vp_in_nI (by omega) (by decide), vp_in_nI (by omega) (by decide), fun _ => ?_, fun z => absurd ((nI_leI (by omega) (by omega)).mpr (by omega)) z⟩
    unfold mp_X12_leave mp_X12_fly_182
    intro s6 e6
    obtain ⟨y1, sm1⟩ := y.lv
    rw [i14, nI_pred] at e6
    rw [← e6] at y1 sm1
    have j14 : s6.1 14 = nI r.length := by rw [e6]; rfl
    have j17 : s6.1 17 = nI 1 := by rw [e6]; exact i17
    have c0 : s6.1 14 = 0 ↔ r.length = 0 := by rw [j14]; exact nI_eq (b := 0) (by omega) (by omega)
    refine ⟨fun z => ?_, fun z => ?_⟩
    · intro s1 e1
      obtain ⟨a, c⟩ := y1.st4 (st' := 1) (v := s6.1 17) j17
      rw [← e1] at a c
      have nr : ¬ r = [] := fun e => z (c0.mpr (by rw [e]; rfl))
      exact h0 (fun i' hi' => hb i' (by omega)) s1 (by rw [if_neg nr]; exact a) (sm1.t c)
    · intro s1 e1
      obtain ⟨a, c⟩ := y1.st4 (st' := 3) (v := 3) rfl
      rw [← e1] at a c
      have nr : r = [] := List.length_eq_zero_iff.mp (c0.mp z)
      exact h0 (fun i' hi' => hb i' (by omega)) s1 (by rw [if_pos nr]; exact a) (sm1.t c)
  | succ d ih =>
    intro i hi hb
    have hcb := mcl i (by omega)
    have pb : ∀ p, p + 1 < T 0 4 → pr b p < 2 ^ 16 := fun p hp => by
      have := im.1.2.2.2.1 p
      have := im.1.2.2.2.1 (p + 1)
      unfold pr
      omega
    have e27 : nI (T 20 f.1 + 7 * i) + 7 = nI (T 20 f.1 + 7 * (i + 1)) := by rw [l_7, nI_add, show T 20 f.1 + 7 * i + 7 = T 20 f.1 + 7 * (i + 1) by omega]
    have go : ¬ hdl T b f.1 f.2.1 (N q).2.1 i → mp_X12_fly_156 (mp_X12_fly_27 K (d + 1)) K μ (nI f.1) (nI f.2.1) (nI (T 20 f.1 + 7 * i)) := fun nh => by
      unfold mp_X12_fly_156
      intro v2 e2
      rw [e2, e27]
      refine ih (i + 1) (by omega) (fun i' hi' => ?_)
      by_cases e : i' = i
      · rw [e]; exact nh
      · exact hb i' (by omega)
    unfold mp_X12_fly_27
    rw [nI_clamp (by omega), r20, r19, l_7, pk_mul, nI_add, l20, l19]
    refine ⟨vp_in_nI (by omega) (by decide), vp_in_nI (by omega) (by decide), fun z => absurd ((nI_leI (by omega) (by omega)).mp z) (by omega), fun _ => ?_⟩
    refine w_twoP im.1 (by omega) ?_
    have p1 := pb (T 20 f.1 + 7 * i) (by omega)
    have p2 := pb (T 20 f.1 + 7 * i + 2) (by omega)
    have p5 := pb (T 20 f.1 + 7 * i + 5) (by omega)
    refine ⟨fun z => go (fun hd => absurd ((nI_ltI (by omega) (by omega)).mp z) (by have := hd.1; omega)), fun z => ?_⟩
    have c1 : pr b (T 20 f.1 + 7 * i) ≤ f.2.1 := by
      have : ¬ f.2.1 < pr b (T 20 f.1 + 7 * i) := fun q => z ((nI_ltI (by omega) (by omega)).mpr q)
      omega
    rw [l_2, nI_add]
    refine w_twoP im.1 (by omega) ?_
    refine ⟨fun z => go (fun hd => absurd ((nI_leI (by omega) (by omega)).mp z) (by have := hd.2.1; omega)), fun z => ?_⟩
    have c2 : f.2.1 < pr b (T 20 f.1 + 7 * i + 2) := by
      have : ¬ pr b (T 20 f.1 + 7 * i + 2) ≤ f.2.1 := fun q => z ((nI_leI (by omega) (by omega)).mpr q)
      omega
    rw [i16, nI_clamp (by omega), a2.2.1 (by omega), l_4, nI_add, nI_clamp (by omega), im.1.2.2.2.2 _ (by omega)]
    refine ⟨by rw [lr26 t.2.1]; exact vp_in_nI a4 (by decide), by rw [im.1.2.2.1]; exact vp_in_nI (by omega) (by decide), ?_⟩
    refine w_isA im hw y.2.2.1 hcl hcb (fun ia => ⟨fun z => absurd z (by decide), fun _ => ?_⟩) (fun ia => ⟨fun _ => go (fun hd => ia hd.2.2), fun z => absurd rfl z⟩)
    have hd : hdl T b f.1 f.2.1 (N q).2.1 i := ⟨c1, c2, ia⟩
    have h16 := hh i (by omega) hd
    have t4 := t.2.2.2.1
    rw [i14, nI_pred, nI_clamp (by omega)]
    refine ⟨by rw [lr35 t.2.1]; exact vp_in_nI t4 (by decide), ?_⟩
    intro s20 e20
    obtain ⟨y1, sm1⟩ := y.h0 (v := 0) hw rfl
    rw [← e20] at y1 sm1
    have j16 : s20.1 16 = vM th (.inr (q + 1)) := by rw [e20]; exact i16
    rw [j16]
    refine k_putT (v := q + 1) hw y1 (by show 0 < T 16 f.1; omega) (fun q' e => by cases e; exact hq) (fun μ2 y2 sm2 => ?_)
    have t2 := (y2.ti hw).1
    rw [l_5, nI_add]
    refine w_twoP t2.1.1 (by omega) ?_
    rw [t2.2.2.1, nI_pred, nI_clamp (by omega)]
    refine ⟨by rw [lr34 t2.2.1]; exact vp_in_nI t4 (by decide), ?_⟩
    intro s25 e25 s26 e26
    obtain ⟨y3, sm3⟩ := k_pc (pc' := pr b (T 20 f.1 + 7 * i + 5)) hw y2 p5
    rw [← e25] at y3 sm3
    obtain ⟨y4, sm4⟩ := y3.f0
    rw [← e26] at y4 sm4
    exact h1 i (by omega) hd hb s26 (y4.eq rfl rfl (by show T 15 f.1 + 0 = _; omega)) (sm1.t (sm2.t (sm3.t sm4)))
theorem M_fly {q : Nat} (hw : wf T b) (Y : MH μ T b k lim md cy rch n N (f :: r) (q + 1) 1 sb) (np : npo T n N) (kq : (N q).1 = 2) (hh : ∀ i, i < T 19 f.1 → hdl T b f.1 f.2.1 (N q).2.1 i → 1 ≤ T 16 f.1)
    (h1 : ∀ i, i < T 19 f.1 → hdl T b f.1 f.2.1 (N q).2.1 i → (∀ i', i' < i → ¬ hdl T b f.1 f.2.1 (N q).2.1 i') → mOK μ K T b k lim md cy rch n N ((f.1, pr b (T 20 f.1 + 7 * i + 5), 1, va_up f.2.2.2 (T 15 f.1) (.inr (q + 1))) :: r) 0 1 sb)
    (h0 : (∀ i', i' < T 19 f.1 → ¬ hdl T b f.1 f.2.1 (N q).2.1 i') → mOK μ K T b k lim md cy rch n N r (q + 1) (if r = [] then 3 else 1) sb) : mp_X12_step μ K := by
  obtain ⟨th, nd, bg, nt, us, s, y, hsb⟩ := Y
  obtain ⟨t, f1, f2, f3, f4, f5, f6, f7⟩ := y.ti hw
  have w64 := hw.2.2.2.1
  have t3 := t.2.2.1
  have t4 := t.2.2.2.1
  have i15 : μ.1 15 = 1 := by
    rcases y.2.2.2.2 with z | z
    · exact absurd z.1 (Nat.succ_ne_zero q)
    · exact z.2.1
  have r20 := (t.1.2.2.2.2.2.2.2 f.1 f2).2.2.2.2.2.2.2.2.2.1
  unfold mp_X12_step
  rw [i15]
  refine ⟨fun z => absurd z (by decide), fun _ => ?_⟩
  unfold mp_X12_fly
  refine k_met hw t ?_
  rw [t3, nI_pred, nI_clamp (by omega), f3]
  refine ⟨by rw [lr34 t.2.1]; exact vp_in_nI t4 (by decide), ?_⟩
  intro v30 e30
  rw [nI_clamp (by omega), r20]
  refine ⟨by rw [show μ.2.2.1 20 = 64 from t.1.2.1.2.2.2.2.2.2.2.2.2.2.2.2.2.2.2.2]; exact vp_in_nI (by omega) (by decide), ?_⟩
  intro v32 e32
  rw [e30, e32]
  refine ⟨T 19 f.1 + 1, ?_⟩
  exact l_flyM hw y np kq hh (fun i hi hd hb μ' a c => h1 i hi hd hb μ' ⟨_, _, _, _, _, _, a, by omega⟩ c) (fun hb μ' a c => h0 hb μ' ⟨_, _, _, _, _, _, a, by omega⟩ c) (T 19 f.1) 0 (Nat.zero_add _) (fun i' hi' => absurd hi' (Nat.not_lt_zero _))
/-- other ports -/
theorem RMg.pt (y : RMg μ T b k lim md cy rch n N fs fl st th nd bg nt us s) (e1 : μ'.2.2.1 = μ.2.2.1) (e2 : ∀ r, r ≤ 37 → μ'.2.2.2.1 r = μ.2.2.2.1 r) (e4 : ∀ k, ¬ (18 ≤ k ∧ k ≤ 20) → μ'.1 k = μ.1 k) (e5 : μ'.2.1 2 = μ.2.1 2) : RMg μ' T b k lim md cy rch n N fs fl st th nd bg nt us s := by
  obtain ⟨y1, y2, y3, y4, y5⟩ := y
  have im : imM μ' T b := by
    have im := y1.1
    unfold imM iv_bM lnM icM imtM at im ⊢
    rw [e1, e2 3 (by omega), e2 4 (by omega), e2 5 (by omega), e2 6 (by omega), e2 7 (by omega), e2 8 (by omega), e2 9 (by omega), e2 10 (by omega), e2 11 (by omega), e2 12 (by omega), e2 13 (by omega), e2 14 (by omega), e2 15 (by omega), e2 16 (by omega), e2 17 (by omega), e2 18 (by omega), e2 19 (by omega), e2 20 (by omega), e4 1 (by omega), e4 5 (by omega), e4 6 (by omega), e4 7 (by omega), e4 8 (by omega)]
    exact im
  have ln : lnR μ' := by have q := y1.2.1; unfold lnR at q ⊢; rw [e1]; exact q
  exact ⟨y1.c im ln (fun r h1 h2 h3 h4 => e2 r h2) (fun k hk => e4 k (by omega)), ⟨by rw [e4 12 (by omega)]; exact y2.1, fun t ht => by rw [e2 30 (by omega)]; exact y2.2 t ht⟩, by rw [e4 4 (by omega)]; exact y3, by rw [e4 21 (by omega), e4 22 (by omega), e4 23 (by omega), e4 24 (by omega), e4 17 (by omega), e5]; exact y4, by rw [e4 15 (by omega), e4 16 (by omega)]; exact y5⟩
/-- the state behind IN -/
def pinM (μ : sm_S) (ip tk : Nat) : sm_S := sm_i μ 18 (nI (if tk < ip then tk + 1 else tk))
def zinM (μ : sm_S) (ip tk : Nat) : Int32 := if tk < ip then μ.2.2.2.1 38 tk else 0
theorem M_in {ip tk : Nat} (hw : wf T b) (Y : MH μ T b k lim md cy rch n N (f :: r) 0 1 sb) (hin : inC T f.1 (T 17 f.1 + f.2.1)) (h4 : T 4 (T 17 f.1 + f.2.1) = 1) (ho : b (T 17 f.1 + f.2.1) = 40) (hh : f.2.2.1 < T 16 f.1) (p19 : μ.1 19 = nI ip) (p18 : μ.1 18 = nI tk) (pb : ip ≤ 1000 ∧ tk ≤ 1000) (l38 : μ.2.2.1 38 = 1000)
    (hK : mOK (pinM μ ip tk) K T b k lim md cy rch n N ((f.1, f.2.1 + 1, f.2.2.1 + 1, va_up f.2.2.2 (T 15 f.1 + f.2.2.1) (.inl (zinM μ ip tk))) :: r) 0 1 sb) : mp_X12_step μ K := by
  obtain ⟨th, nd, bg, nt, us, s, y, hsb⟩ := Y
  obtain ⟨t, f1, f2, f3, f4, f5, f6, f7⟩ := y.ti hw
  obtain ⟨o1, o2, o3, o4, o5, o6⟩ := opB hw f2 hin h4
  have hin2 := hin.2
  have im := t.1
  have hwd : wd (b (T 17 f.1 + f.2.1)) = 1 := by rw [ho]; rfl
  refine m_pre hw y hin o6 (fun c1 c2 => by omega) (fun c1 c2 => by omega) (fun c1 => ?_)
  have fin : ∀ (x7 : Int32), ((x7 = 0 ∧ ¬ tk < ip) ∨ (x7 = 1 ∧ tk < ip)) → mp_X12_doValues_395 (fun σ1 => mp_X12_onward σ1 (nI (T 17 f.1 + f.2.1)) (fun σ2 => K 1 σ2)) μ x7 (zinM μ ip tk) := fun x7 hx => by
    unfold mp_X12_doValues_395 mp_X12_doValues_413 mp_X12_doValues_469
    refine k_putI hw y hh (fun μ1 y1 sm1 => ?_)
    have j18 : μ1.1 18 = nI tk := by rw [sm1.2.2.2.1 18 (by omega)]; exact p18
    have go : ∀ s3 : sm_S, s3 = sm_i μ1 18 (nI (if tk < ip then tk + 1 else tk)) → mp_X12_onward s3 (nI (T 17 f.1 + f.2.1)) (fun σ2 => K 1 σ2) := fun s3 e3 => by
      have y3 := y1.pt (μ' := s3) (by rw [e3]) (fun r _ => by rw [e3]) (fun kk hk => by rw [e3]; exact va_up_ne _ _ (by omega)) (by rw [e3])
      have sm3 : stM (pinM μ ip tk) s3 := by
        rw [e3]
        refine ⟨sm1.1, sm1.2.1, sm1.2.2.1, fun kk hk => ?_, sm1.2.2.2.2⟩
        show va_up μ1.1 18 _ kk = va_up μ.1 18 _ kk
        by_cases e : kk = 18
        · rw [e, va_up_self, va_up_self]
        · rw [va_up_ne _ _ e, va_up_ne _ _ e]; exact sm1.2.2.2.1 kk hk
      refine k_on hw y3 (by omega) o6 (by show f.2.1 + _ < _; omega) (fun μ4 y4 sm4 => ?_)
      exact hK μ4 ⟨_, _, _, _, _, _, y4.eq (by show f.2.1 + _ = _; omega) rfl rfl, by omega⟩ (sm3.t sm4)
    rw [j18]
    refine ⟨fun z => ?_, fun z => ?_⟩
    · intro s3 e3
      have c : ¬ tk < ip := by
        rcases hx with q | q
        · exact q.2
        · exact absurd (q.1.symm.trans z) (by decide)
      refine go s3 ?_
      rw [e3, if_neg c, Int32.add_zero]
    · intro s3 e3
      have c : tk < ip := by
        rcases hx with q | q
        · exact absurd q.1 z
        · exact q.2
      refine go s3 ?_
      rw [e3, if_pos c, nI_1]
  have vals : mp_X12_doValues_42 (fun σ1 => mp_X12_onward σ1 (nI (T 17 f.1 + f.2.1)) (fun σ2 => K 1 σ2)) μ (nI (T 17 f.1 + f.2.1)) (nI 40) := by
    unfold mp_X12_doValues_42
    intro v8 e8
    rw [nI_1, nI_clamp (by omega)]
    refine ⟨by rw [im.1.2.2.1]; exact vp_in_nI (by omega) (by decide), ?_⟩
    intro v10 e10
    refine ⟨fun q => absurd q (by decide), fun q => absurd q (by decide), fun q => absurd q (by decide), fun q => absurd q (by decide), fun q => absurd q (by decide), fun q => absurd q (by decide), fun q => absurd q (by decide), fun q => absurd q (by decide), fun _ => ?_, fun _ _ _ _ _ _ _ _ q => absurd rfl q⟩
    unfold mp_X12_doValues_374
    rw [p18, p19]
    refine ⟨fun z => ⟨fun _ => ?_, fun q => absurd rfl q⟩, fun z => ⟨fun q => absurd q (by decide), fun _ => ?_⟩⟩
    · have c : ¬ tk < ip := by have := (nI_leI (by omega) (by omega)).mp z; omega
      have := fin 0 (Or.inl ⟨rfl, c⟩)
      unfold zinM at this
      rw [if_neg c] at this
      exact this
    · have c : tk < ip := by
        have : ¬ ip ≤ tk := fun q => z ((nI_leI (by omega) (by omega)).mpr q)
        omega
      have := fin 1 (Or.inr ⟨rfl, c⟩)
      unfold zinM at this
      rw [if_pos c] at this
      rw [nI_clamp (by omega), l38]
      exact ⟨vp_in_nI (by omega) (by decide), this⟩
  unfold mp_X12_step_94 mp_X12_step_120 mp_X12_doValues
  rw [ho]
  exact ⟨fun z => absurd z (by decide), fun _ => ⟨fun _ => ⟨fun z => absurd z (by decide), fun _ => ⟨fun _ => vals, fun z => absurd (by decide) z⟩⟩, fun z => absurd z (by decide)⟩⟩
/-- the state behind OUT -/
def pouM (μ : sm_S) (ou : Nat) (v : Int32) : sm_S := if ou < 1000 then sm_j (sm_i (sm_r μ 39 (upd (μ.2.2.2.1 39) ou v)) 20 (nI (ou + 1))) 1 (μ.2.1 1 + 1) else sm_j μ 1 (μ.2.1 1 + 1)
theorem M_out {xv : Int32} {ou : Nat} (hw : wf T b) (Y : MH μ T b k lim md cy rch n N (f :: r) 0 1 sb) (hin : inC T f.1 (T 17 f.1 + f.2.1)) (h4 : T 4 (T 17 f.1 + f.2.1) = 1) (ho : b (T 17 f.1 + f.2.1) = 41) (hh : 1 ≤ f.2.2.1) (hv : f.2.2.2 (T 15 f.1 + f.2.2.1 - 1) = .inl xv) (p20 : μ.1 20 = nI ou) (pb : ou ≤ 1000) (l39 : μ.2.2.1 39 = 1000)
    (hK : mOK (pouM μ ou xv) K T b k lim md cy rch n N ((f.1, f.2.1 + 1, f.2.2.1 - 1, f.2.2.2) :: r) 0 1 sb) : mp_X12_step μ K := by
  obtain ⟨th, nd, bg, nt, us, s, y, hsb⟩ := Y
  obtain ⟨t, f1, f2, f3, f4, f5, f6, f7⟩ := y.ti hw
  obtain ⟨o1, o2, o3, o4, o5, o6⟩ := opB hw f2 hin h4
  have hin2 := hin.2
  have im := t.1
  have hwd : wd (b (T 17 f.1 + f.2.1)) = 1 := by rw [ho]; rfl
  have e10 : T 15 f.1 + f.2.2.1 - 1 - 0 = T 15 f.1 + f.2.2.1 - 1 := by omega
  refine m_pre hw y hin o6 (fun c1 c2 => by omega) (fun c1 c2 => by omega) (fun c1 => ?_)
  have fin : ∀ s1 : sm_S, s1 = pouM μ ou xv → mp_X12_drop s1 (nI 1) (fun σ1 => mp_X12_onward σ1 (nI (T 17 f.1 + f.2.1)) (fun σ2 => K 1 σ2)) := fun s1 e1 => by
    have y1 : RMg s1 T b k lim md cy rch n N (f :: r) 0 1 th nd bg nt us s := by
      rw [e1]
      unfold pouM
      by_cases c : ou < 1000
      · rw [if_pos c]
        exact y.pt rfl (fun r hr => va_up_ne _ _ (by omega)) (fun kk hk => va_up_ne _ _ (by omega)) rfl
      · rw [if_neg c]
        exact y.pt rfl (fun r hr => rfl) (fun kk hk => rfl) rfl
    refine k_drop (j := 1) hw y1 hh (fun μ2 y2 sm2 => ?_)
    refine k_on hw y2 (by omega) o6 (by show f.2.1 + _ < _; omega) (fun μ4 y4 sm4 => ?_)
    rw [e1] at sm2
    exact hK μ4 ⟨_, _, _, _, _, _, y4.eq0 (by show f.2.1 + _ = _; omega) rfl, by omega⟩ (sm2.t sm4)
  have vals : mp_X12_doValues_42 (fun σ1 => mp_X12_onward σ1 (nI (T 17 f.1 + f.2.1)) (fun σ2 => K 1 σ2)) μ (nI (T 17 f.1 + f.2.1)) (nI 41) := by
    unfold mp_X12_doValues_42
    intro v8 e8
    rw [nI_1, nI_clamp (by omega)]
    refine ⟨by rw [im.1.2.2.1]; exact vp_in_nI (by omega) (by decide), ?_⟩
    intro v10 e10'
    refine ⟨fun q => absurd q (by decide), fun q => absurd q (by decide), fun q => absurd q (by decide), fun q => absurd q (by decide), fun q => absurd q (by decide), fun q => absurd q (by decide), fun q => absurd q (by decide), fun q => absurd q (by decide), fun q => absurd q (by decide), fun _ _ _ _ _ _ _ _ _ => ?_⟩
    unfold mp_X12_doValues_454 mp_X12_doValues_469
    rw [p20]
    refine ⟨fun z => ?_, fun z => ?_⟩
    · have c : ¬ ou < 1000 := by have := (nI_leI (a := 1000) (by omega) (by omega)).mp z; omega
      intro s1 e1
      refine fin s1 ?_
      rw [e1]
      unfold pouM
      rw [if_neg c]
    · have c : ou < 1000 := by
        have : ¬ 1000 ≤ ou := fun q => z ((nI_leI (a := 1000) (by omega) (by omega)).mpr q)
        omega
      refine k_val (j := 0) hw y (by omega) ?_
      rw [e10, hv, vM_i, nI_clamp (by omega), l39]
      refine ⟨vp_in_nI c (by decide), ?_⟩
      intro s75 e75 s76 e76 s1 e1
      have j20 : s75.1 20 = nI ou := by rw [e75]; exact p20
      rw [j20, nI_1] at e76
      refine fin s1 ?_
      rw [e1, e76, e75]
      unfold pouM
      rw [if_pos c]
  unfold mp_X12_step_94 mp_X12_step_120 mp_X12_doValues
  rw [ho]
  exact ⟨fun z => absurd z (by decide), fun _ => ⟨fun _ => ⟨fun z => absurd z (by decide), fun _ => ⟨fun _ => vals, fun z => absurd (by decide) z⟩⟩, fun z => absurd z (by decide)⟩⟩
end
