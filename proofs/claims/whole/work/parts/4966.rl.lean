/-! ===== CALL SEND THROW RETURN GIVE: the reference ===== -/
section
variable {μ μ' μ0 μ1 : sm_S} {T : Nat → Nat → Nat} {b : Nat → Nat} {h k lim md cy rch n sb : Nat} {N : Nat → AN} {f : AF} {r fs : List AF} {fl st : Nat} {th nd bg : Nat → Nat} {nt us s : Nat} {ids : List Nat} {K : jk}
theorem D_call {m' : Nat} (hw : wf T b) (y : RMg μ T b k lim md cy rch n N (f :: r) 0 1 th nd bg nt us s) (hsb : s ≤ sb) (S : stp T h k lim md rch n N (f :: r) ids sb) (hin : inC T f.1 (T 17 f.1 + f.2.1)) (h4 : T 4 (T 17 f.1 + f.2.1) = 1) (hfl : (f :: r).length < 7600) (ho : b (T 17 f.1 + f.2.1) = 35) (em : b (T 17 f.1 + f.2.1 + 1) = m') (hm' : m' < T 0 1) (hh : T 12 m' ≤ f.2.2.1)
    (h0 : rch ≤ k * md → lim < rch → mNO μ K T b k lim md cy rch n N (f :: r) sb)
    (hK : ¬ (rch ≤ k * md ∧ lim < rch) → mOK μ K T b k lim (mm k lim md rch 16) (mcy k lim md rch cy 16) (mr T N (f :: r) ids k lim md rch 16) n N (cfr T f m' :: cbl T f m' :: r) 0 1 sb) : TD K μ (nI (T 17 f.1 + f.2.1)) (nI (b (T 17 f.1 + f.2.1))) (nI (b (T 17 f.1 + f.2.1 + 1))) (nI (b (T 17 f.1 + f.2.1 + 2))) := by
  rw [ho, em]
  exact td_35 (k_call hw y hsb S hfl hm' hh h0 hK)
theorem D_send {m0 : Nat} {v : Nat} (hw : wf T b) (y : RMg μ T b k lim md cy rch n N (f :: r) 0 1 th nd bg nt us s) (hsb : s ≤ sb) (S : stp T h k lim md rch n N (f :: r) ids sb) (hin : inC T f.1 (T 17 f.1 + f.2.1)) (h4 : T 4 (T 17 f.1 + f.2.1) = 1) (hfl : (f :: r).length < 7600) (ho : b (T 17 f.1 + f.2.1) = 36) (em : T 8 (16 * b (T 17 f.1 + f.2.1 + 1) + b (T 17 f.1 + f.2.1 + 2)) = m0 + 1) (hm0 : m0 < T 0 1) (hp0 : 1 ≤ T 12 m0 ∧ T 12 m0 ≤ f.2.2.1) (hv : f.2.2.2 (T 15 f.1 + f.2.2.1 - T 12 m0) = .inr v) (hj : ∀ q, v = q + 1 → (N q).1 = 2 ∧ ∃ m', T 8 (16 * (N q).2.1 + b (T 17 f.1 + f.2.1 + 2)) = m' + 1 ∧ m' < T 0 1 ∧ T 12 m' ≤ f.2.2.1)
    (h0 : rch ≤ k * md → lim < rch → mNO μ K T b k lim md cy rch n N (f :: r) sb)
    (h1 : v = 0 → ¬ (rch ≤ k * md ∧ lim < rch) → mOK μ K T b k lim (mm k lim md rch (1 + T 6 (T 10 0))) (mcy k lim md rch cy (1 + T 6 (T 10 0))) (mr T N (f :: r) ids k lim md rch (1 + T 6 (T 10 0))) (n + 1) (va_up N n (nob T (T 10 0))) (f :: r) (n + 1) 1 sb)
    (hK : ∀ q m', v = q + 1 → T 8 (16 * (N q).2.1 + b (T 17 f.1 + f.2.1 + 2)) = m' + 1 → ¬ (rch ≤ k * md ∧ lim < rch) → mOK μ K T b k lim (mm k lim md rch 16) (mcy k lim md rch cy 16) (mr T N (f :: r) ids k lim md rch 16) n N (cfr T f m' :: cbl T f m' :: r) 0 1 sb) : TD K μ (nI (T 17 f.1 + f.2.1)) (nI (b (T 17 f.1 + f.2.1))) (nI (b (T 17 f.1 + f.2.1 + 1))) (nI (b (T 17 f.1 + f.2.1 + 2))) := by
  obtain ⟨t, f1, f2, f3, f4, f5, f6, f7⟩ := y.ti hw
  obtain ⟨o1, o2, o3, o4, o5, o6⟩ := opB hw f2 hin h4
  have im := y.1.1
  have w32 := hw.2.1
  have w64 := hw.2.2.2.1
  obtain ⟨hc, hs16, -⟩ := o1.2.2.2.2.2.2 ho
  have r8 := (im.2.2.2.2.2.2.1.2.1 _ _ hc hs16).1
  rw [em, oN_s] at r8
  have r12 := (im.2.2.2.2.2.2.2 m0 hm0).2.1
  have hnt : nt ≤ 140000 := y.1.2.2.1.2.1
  have np := S.2.2.2.1
  have hvi : ∀ q, v = q + 1 → inT th nd nt q := fun q e => y.vi hw (by omega) (hv.trans (by rw [e]))
  rw [ho]
  refine td_36 ?_
  rw [l_16, pk_mul, nI_add, nI_clamp (by omega), r8, nI_clamp (by omega), r12, nI_sub1 hp0.1]
  refine ⟨by rw [show μ.2.2.1 8 = 512 from im.2.1.2.2.2.2.1]; exact vp_in_nI (by omega) (by decide), by rw [show μ.2.2.1 12 = 64 from im.2.1.2.2.2.2.2.2.2.2.1]; exact vp_in_nI (by omega) (by decide), ?_⟩
  refine k_val (j := T 12 m0 - 1) hw y (by omega) ?_
  rw [show T 15 f.1 + f.2.2.1 - 1 - (T 12 m0 - 1) = T 15 f.1 + f.2.2.1 - T 12 m0 by omega, hv]
  refine ⟨fun z => ?_, fun z => ?_⟩
  · cases v with
    | zero => exact absurd rfl z
    | succ q =>
      obtain ⟨a1, a2, a3, a4, a5⟩ := y.tg (hvi q rfl)
      obtain ⟨n1, n2, n3, n4⟩ := np q a1
      obtain ⟨k2, m', em', hm', hp'⟩ := hj q rfl
      have hcl := n2 k2
      have r8' := (im.2.2.2.2.2.2.1.2.1 _ _ hcl hs16).1
      rw [em', oN_s] at r8'
      rw [vM_s, nI_clamp (by omega), a2.2.1 (by omega), pk_mul, nI_add, nI_clamp (by omega), r8']
      refine ⟨by rw [lr26 t.2.1]; exact vp_in_nI a4 (by decide), by rw [show μ.2.2.1 8 = 512 from im.2.1.2.2.2.2.1]; exact vp_in_nI (by omega) (by decide), ?_⟩
      exact k_call hw y hsb S hfl hm' hp' h0 (hK q m' rfl em')
  · have v0 := (vM_n hnt hvi).mp z
    exact k_flt (q := 0) hw y hsb S stM_r (by decide) h0 (h1 v0)
theorem D_throw {v : Nat} (hw : wf T b) (y : RMg μ T b k lim md cy rch n N (f :: r) 0 1 th nd bg nt us s) (hsb : s ≤ sb) (S : stp T h k lim md rch n N (f :: r) ids sb) (hin : inC T f.1 (T 17 f.1 + f.2.1)) (h4 : T 4 (T 17 f.1 + f.2.1) = 1) (ho : b (T 17 f.1 + f.2.1) = 39) (hh : 1 ≤ f.2.2.1 ∧ f.2.2.1 ≤ T 16 f.1) (hv : f.2.2.2 (T 15 f.1 + f.2.2.1 - 1) = .inr v)
    (h0 : v = 0 → rch ≤ k * md → lim < rch → mNO μ K T b k lim md cy rch n N (f :: r) sb)
    (h1 : v = 0 → ¬ (rch ≤ k * md ∧ lim < rch) → mOK μ K T b k lim (mm k lim md rch (1 + T 6 (T 10 0))) (mcy k lim md rch cy (1 + T 6 (T 10 0))) (mr T N (f :: r) ids k lim md rch (1 + T 6 (T 10 0))) (n + 1) (va_up N n (nob T (T 10 0))) (f :: r) (n + 1) 1 sb)
    (hK : ∀ q, v = q + 1 → mOK μ K T b k lim md cy rch n N (f :: r) (q + 1) 1 sb) : TD K μ (nI (T 17 f.1 + f.2.1)) (nI (b (T 17 f.1 + f.2.1))) (nI (b (T 17 f.1 + f.2.1 + 1))) (nI (b (T 17 f.1 + f.2.1 + 2))) := by
  obtain ⟨t, f1, f2, f3, f4, f5, f6, f7⟩ := y.ti hw
  have hnt : nt ≤ 140000 := y.1.2.2.1.2.1
  have e10 : T 15 f.1 + f.2.2.1 - 1 - 0 = T 15 f.1 + f.2.2.1 - 1 := by omega
  have hvi : ∀ q, v = q + 1 → inT th nd nt q := fun q e => y.vi hw (by omega) (hv.trans (by rw [e]))
  rw [ho]
  refine td_39 ?_
  refine k_val (j := 0) hw y (by omega) ?_
  rw [e10, hv]
  refine ⟨fun z => ?_, fun z => ?_⟩
  · cases v with
    | zero => exact absurd rfl z
    | succ q =>
      intro s100 e100
      have sm : stM μ s100 := by rw [e100]; exact stM_r.i (by omega)
      have t' : TI s100 T b r.length f.1 f.2.2.1 := ⟨sm.im t.1, sm.ln t.2.1, by rw [e100]; exact t.2.2.1, t.2.2.2.1, by rw [e100]; exact t.2.2.2.2.1, f2, by rw [e100]; exact f5, t.2.2.2.2.2.2.2⟩
      have t4 := t.2.2.2.1
      have t8 := t.2.2.2.2.2.2.2
      unfold mp_X12_value
      refine k_und (j := 0) hw t' (by omega) ?_
      have v36 : s100.2.2.2.1 36 (12 * r.length + (T 15 f.1 + f.2.2.1 - 1)) = nI (th q) := by
        rw [e100]
        show μ.2.2.2.1 36 _ = _
        rw [(f7 _ (by omega)).1, hv, vM_s]
      rw [e10, nI_clamp (by omega), v36]
      refine ⟨by rw [lr36 t'.2.1]; exact vp_in_nI (by omega) (by decide), ?_⟩
      intro s103 e103
      obtain ⟨a, c⟩ := y.fly (hvi q rfl)
      rw [← e100, ← e103] at a c
      exact hK q rfl s103 ⟨_, _, _, _, _, _, a, by omega⟩ c
  · have v0 := (vM_n hnt hvi).mp z
    exact k_flt (q := 0) hw y hsb S stM_r (by decide) (h0 v0) (h1 v0)
/-- the top frame is left -/
theorem RMg.lv (y : RMg μ T b k lim md cy rch n N (f :: r) fl st th nd bg nt us s) : RMg (sm_i μ 14 (nI r.length)) T b k lim md cy rch n N r fl st th nd bg nt us s ∧ stM μ (sm_i μ 14 (nI r.length)) := by
  obtain ⟨⟨im, ln, ⟨i11, hnt, i13, hus, i14, hfl⟩, hth, hfs⟩, y2, y3, y4, y5⟩ := y
  have hfl : r.length + 1 ≤ 7600 := hfl
  have sm : stM μ (sm_i μ 14 (nI r.length)) := stM_r.i (by omega)
  refine ⟨⟨⟨sm.im im, sm.ln ln, ⟨i11, hnt, i13, hus, rfl, by omega⟩, ⟨hth.1, hth.2.1, fun t ht => ?_⟩, fsM_c r hfs.2 (fun _ _ _ => rfl)⟩, y2, y3, y4, y5⟩, sm⟩
  obtain ⟨u1, u2, u3, u4, u5⟩ := hth.2.2 t ht
  exact ⟨u1, u2, u3, thg_c u4 (fun _ _ _ _ => rfl), u5⟩
theorem k_g95 {K : sm_S → Prop} (hw : wf T b) (y : RMg μ T b k lim md cy rch n N (f :: r) fl st th nd bg nt us s) (hin : inC T f.1 (T 17 f.1 + f.2.1)) (h4 : T 4 (T 17 f.1 + f.2.1) = 1) (hK : ∀ μ', RMg μ' T b k lim md cy rch n N ((f.1, f.2.1 + wd (b (T 17 f.1 + f.2.1)), f.2.2.1, f.2.2.2) :: r) fl st th nd bg nt us s → stM μ μ' → K μ') : mp_X12_give_95 K μ := by
  obtain ⟨t, f1, f2, f3, f4, f5, f6, f7⟩ := y.ti hw
  obtain ⟨o1, o2, o3, o4, o5, o6⟩ := opB hw f2 hin h4
  have w64 := hw.2.2.2.1
  have hin2 := hin.2
  have t3 := t.2.2.1
  have t4 := t.2.2.2.1
  have r17 := (t.1.2.2.2.2.2.2.2 f.1 f2).2.2.2.2.2.2.1
  unfold mp_X12_give_95
  refine k_met hw t ?_
  rw [t3, nI_pred, nI_clamp (by omega), nI_clamp (by omega), r17, f3, nI_add]
  refine ⟨by rw [show μ.2.2.1 17 = 64 from t.1.2.1.2.2.2.2.2.2.2.2.2.2.2.2.2.1]; exact vp_in_nI (by omega) (by decide), by rw [lr34 t.2.1]; exact vp_in_nI t4 (by decide), ?_⟩
  exact k_on hw y (by omega) o6 (by omega) hK
theorem k_g36 {x1 x2 y0 : Int32} {v : AV} {K : sm_S → Prop} (hw : wf T b) (y : RMg μ T b k lim md cy rch n N (f :: r) fl st th nd bg nt us s) (hx : x1 = 0 ∨ (x1 = 1 ∧ x2 = vM th v ∧ y0 = iM v ∧ ∀ q, v = .inr (q + 1) → inT th nd nt q))
    (hg : ∀ g r', r = g :: r' → g.1 < T 0 1 ∧ inC T g.1 (T 17 g.1 + g.2.1) ∧ T 4 (T 17 g.1 + g.2.1) = 1 ∧ (x1 = 1 → g.2.2.1 < T 16 g.1))
    (h0 : r = [] → ∀ μ', RMg μ' T b k lim md cy rch n N [] fl 2 th nd bg nt us s → stM μ μ' → K μ')
    (hK : ∀ g r', r = g :: r' → (x1 = 0 → ∀ μ', RMg μ' T b k lim md cy rch n N ((g.1, g.2.1 + wd (b (T 17 g.1 + g.2.1)), g.2.2.1, g.2.2.2) :: r') fl st th nd bg nt us s → stM μ μ' → K μ') ∧ (x1 = 1 → ∀ μ', RMg μ' T b k lim md cy rch n N ((g.1, g.2.1 + wd (b (T 17 g.1 + g.2.1)), g.2.2.1 + 1, va_up g.2.2.2 (T 15 g.1 + g.2.2.1) v) :: r') fl st th nd bg nt us s → stM μ μ' → K μ')) : mp_X12_give_36 K μ x1 x2 y0 := by
  have hfl : r.length + 1 ≤ 7600 := y.1.2.2.1.2.2.2.2.2
  have i14 : μ.1 14 = nI (r.length + 1) := y.1.2.2.1.2.2.2.2.1
  unfold mp_X12_give_36 mp_X12_leave
  intro s6 e6
  obtain ⟨y1, sm1⟩ := y.lv
  rw [i14, nI_pred] at e6
  rw [← e6] at y1 sm1
  have j14 : s6.1 14 = nI r.length := by rw [e6]; rfl
  have c0 : s6.1 14 = 0 ↔ r.length = 0 := by rw [j14]; exact nI_eq (b := 0) (by omega) (by omega)
  cases hr : r with
  | nil =>
    rw [hr] at y1
    refine ⟨fun z => absurd (c0.mpr (by rw [hr]; rfl)) z, fun _ => ?_⟩
    intro s20 e20
    obtain ⟨a, c⟩ := y1.st4 (st' := 2) (v := 2) rfl
    rw [← e20] at a c
    exact h0 hr s20 a (sm1.t c)
  | cons g r' =>
    rw [hr] at y1
    obtain ⟨g1, g2, g3, g4⟩ := hg g r' hr
    obtain ⟨k0, k1⟩ := hK g r' hr
    refine ⟨fun _ => ⟨fun z => k_g95 hw y1 g2 g3 (fun μ' a c => k0 z μ' a (sm1.t c)), fun z => ?_⟩, fun z => absurd (c0.mp z) (by rw [hr]; exact Nat.succ_ne_zero _)⟩
    rcases hx with q | ⟨q1, q2, q3, q4⟩
    · exact absurd q z
    · refine k_pp hw y1 (g4 q1) q2 (by rw [q3]; exact nbi v) q4 (fun μ2 y2 sm2 => ?_)
      exact k_g95 hw y2 g2 g3 (fun μ3 y3 sm3 => k1 q1 μ3 y3 (sm1.t (sm2.t sm3)))
theorem D_ret (hw : wf T b) (y : RMg μ T b k lim md cy rch n N (f :: r) 0 1 th nd bg nt us s) (hsb : s ≤ sb) (ho : b (T 17 f.1 + f.2.1) = 37)
    (hg : ∀ g r', r = g :: r' → g.1 < T 0 1 ∧ inC T g.1 (T 17 g.1 + g.2.1) ∧ T 4 (T 17 g.1 + g.2.1) = 1)
    (h0 : r = [] → mOK μ K T b k lim md cy rch n N [] 0 2 sb)
    (hK : ∀ g r', r = g :: r' → mOK μ K T b k lim md cy rch n N ((g.1, g.2.1 + wd (b (T 17 g.1 + g.2.1)), g.2.2.1, g.2.2.2) :: r') 0 1 sb) : TD K μ (nI (T 17 f.1 + f.2.1)) (nI (b (T 17 f.1 + f.2.1))) (nI (b (T 17 f.1 + f.2.1 + 1))) (nI (b (T 17 f.1 + f.2.1 + 2))) := by
  rw [ho]
  refine td_37 ?_
  unfold mp_X12_doThings_365 mp_X12_give mp_X12_give_13 mp_X12_give_35
  refine ⟨fun _ => ⟨fun _ => ?_, fun z => absurd rfl z⟩, fun z => absurd rfl z⟩
  exact k_g36 (v := .inl 0) hw y (Or.inl rfl) (fun g r' e => ⟨(hg g r' e).1, (hg g r' e).2.1, (hg g r' e).2.2, fun q => absurd q (by decide)⟩) (fun e μ' a c => h0 e μ' ⟨_, _, _, _, _, _, a, by omega⟩ c) (fun g r' e => ⟨fun _ μ' a c => hK g r' e μ' ⟨_, _, _, _, _, _, a, by omega⟩ c, fun q => absurd q (by decide)⟩)
theorem D_give (hw : wf T b) (y : RMg μ T b k lim md cy rch n N (f :: r) 0 1 th nd bg nt us s) (hsb : s ≤ sb) (ho : b (T 17 f.1 + f.2.1) = 38) (hh : 1 ≤ f.2.2.1)
    (hg : ∀ g r', r = g :: r' → g.1 < T 0 1 ∧ inC T g.1 (T 17 g.1 + g.2.1) ∧ T 4 (T 17 g.1 + g.2.1) = 1 ∧ g.2.2.1 < T 16 g.1)
    (h0 : r = [] → mOK μ K T b k lim md cy rch n N [] 0 2 sb)
    (hK : ∀ g r', r = g :: r' → mOK μ K T b k lim md cy rch n N ((g.1, g.2.1 + wd (b (T 17 g.1 + g.2.1)), g.2.2.1 + 1, va_up g.2.2.2 (T 15 g.1 + g.2.2.1) (f.2.2.2 (T 15 f.1 + f.2.2.1 - 1))) :: r') 0 1 sb) : TD K μ (nI (T 17 f.1 + f.2.1)) (nI (b (T 17 f.1 + f.2.1))) (nI (b (T 17 f.1 + f.2.1 + 1))) (nI (b (T 17 f.1 + f.2.1 + 2))) := by
  obtain ⟨t, f1, f2, f3, f4, f5, f6, f7⟩ := y.ti hw
  have t4 := t.2.2.2.1
  have t8 := t.2.2.2.2.2.2.2
  have e10 : T 15 f.1 + f.2.2.1 - 1 - 0 = T 15 f.1 + f.2.2.1 - 1 := by omega
  obtain ⟨v1, v2, v3⟩ := f7 (T 15 f.1 + f.2.2.1 - 1) (by omega)
  have fin : ∀ y0 : Int32, y0 = iM (f.2.2.2 (T 15 f.1 + f.2.2.1 - 1)) → mp_X12_give_36 (fun s => K 1 s) μ 1 (vM th (f.2.2.2 (T 15 f.1 + f.2.2.1 - 1))) y0 := fun y0 ey => k_g36 (v := f.2.2.2 (T 15 f.1 + f.2.2.1 - 1)) hw y (Or.inr ⟨rfl, rfl, ey, v3⟩) (fun g r' e => ⟨(hg g r' e).1, (hg g r' e).2.1, (hg g r' e).2.2.1, fun _ => (hg g r' e).2.2.2⟩) (fun e μ' a c => h0 e μ' ⟨_, _, _, _, _, _, a, by omega⟩ c) (fun g r' e => ⟨fun q => absurd q (by decide), fun _ μ' a c => hK g r' e μ' ⟨_, _, _, _, _, _, a, by omega⟩ c⟩)
  rw [ho]
  refine td_38 ?_
  unfold mp_X12_doThings_365 mp_X12_give mp_X12_give_13 mp_X12_give_35
  refine ⟨fun z => absurd z (by decide), fun _ => ?_⟩
  refine k_val (j := 0) hw y (by omega) ?_
  rw [e10]
  refine ⟨fun z => absurd z (by decide), fun _ => ?_⟩
  refine k_und (j := 0) hw t (by omega) ?_
  rw [e10, nI_clamp (by omega), v2]
  exact ⟨by rw [lr37 t.2.1]; exact vp_in_nI (by omega) (by decide), fun z => fin 0 z.symm, fun z => fin 1 (by
    cases hv : f.2.2.2 (T 15 f.1 + f.2.2.1 - 1) with
    | inl x => rw [hv] at z; exact absurd rfl z
    | inr w => rfl)⟩
end
