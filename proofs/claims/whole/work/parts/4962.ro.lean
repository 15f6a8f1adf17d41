/-! ===== objects: the reference ===== -/
section
variable {μ μ' μ0 : sm_S} {T : Nat → Nat → Nat} {b : Nat → Nat} {h k lim md cy rch n sb : Nat} {N : Nat → AN} {f : AF} {r fs : List AF} {fl st : Nat} {th nd bg : Nat → Nat} {nt us s : Nat} {ids : List Nat} {K : jk}
/-- the top frame by other words -/
theorem RMg.eq {m pc pc' ht ht' ix ix' : Nat} {vs : Nat → AV} {val : AV} (y : RMg μ T b k lim md cy rch n N ((m, pc, ht, va_up vs ix val) :: r) fl st th nd bg nt us s) (e1 : pc = pc') (e2 : ht = ht') (e3 : ix = ix') : RMg μ T b k lim md cy rch n N ((m, pc', ht', va_up vs ix' val) :: r) fl st th nd bg nt us s := by
  subst e1 e2 e3
  exact y
theorem RMg.eq0 {m pc pc' ht ht' : Nat} {vs : Nat → AV} (y : RMg μ T b k lim md cy rch n N ((m, pc, ht, vs) :: r) fl st th nd bg nt us s) (e1 : pc = pc') (e2 : ht = ht') : RMg μ T b k lim md cy rch n N ((m, pc', ht', vs) :: r) fl st th nd bg nt us s := by
  subst e1 e2
  exact y
/-- a node that a value of the top frame leads to -/
theorem RMg.vi {i q : Nat} (hw : wf T b) (y : RMg μ T b k lim md cy rch n N (f :: r) fl st th nd bg nt us s) (hi : i < T 15 f.1 + f.2.2.1) (hv : f.2.2.2 i = .inr (q + 1)) : inT th nd nt q := ((y.ti hw).2.2.2.2.2.2.2 i hi).2.2 q hv
/-- the thing of a node -/
theorem RMg.tg {q : Nat} (y : RMg μ T b k lim md cy rch n N fs fl st th nd bg nt us s) (hq : inT th nd nt q) : q < n ∧ thg μ T N th (th q) q (bg (th q)) ∧ bg (th q) + npt T (N q) ≤ 300000 ∧ th q < 140000 ∧ ∀ j k, j < npt T (N q) → (N q).2.2.2 j = .inr (k + 1) → inT th nd nt k := by
  obtain ⟨a1, a2, a3, a4⟩ := y.1.2.2.2.1.g hq
  have e := y.1.2.2.2.1.e hq
  have hus := y.1.2.2.1.2.2.2.1
  have hnt := y.1.2.2.1.2.1
  have := hq.1
  exact ⟨a1, a2, by omega, by omega, a4⟩
theorem D_new (hw : wf T b) (y : RMg μ T b k lim md cy rch n N (f :: r) 0 1 th nd bg nt us s) (hsb : s ≤ sb) (S : stp T h k lim md rch n N (f :: r) ids sb) (hin : inC T f.1 (T 17 f.1 + f.2.1)) (h4 : T 4 (T 17 f.1 + f.2.1) = 1) (ho : b (T 17 f.1 + f.2.1) = 26) (hh : f.2.2.1 < T 16 f.1)
    (h0 : rch ≤ k * md → lim < rch → mNO μ K T b k lim md cy rch n N (f :: r) sb)
    (hK : ∀ c, c = b (T 17 f.1 + f.2.1 + 1) → ¬ (rch ≤ k * md ∧ lim < rch) → mOK μ K T b k lim (mm k lim md rch (1 + T 6 c)) (mcy k lim md rch cy (1 + T 6 c)) (mr T N (f :: r) ids k lim md rch (1 + T 6 c)) (n + 1) (va_up N n (nob T c)) ((f.1, f.2.1 + 2, f.2.2.1 + 1, va_up f.2.2.2 (T 15 f.1 + f.2.2.1) (.inr (n + 1))) :: r) 0 1 sb) : TD K μ (nI (T 17 f.1 + f.2.1)) (nI (b (T 17 f.1 + f.2.1))) (nI (b (T 17 f.1 + f.2.1 + 1))) (nI (b (T 17 f.1 + f.2.1 + 2))) := by
  obtain ⟨S1, S2, S3, S4, S5⟩ := S
  obtain ⟨t, f1, f2, f3, f4, f5, f6, f7⟩ := y.ti hw
  obtain ⟨o1, o2, o3, o4, o5, o6⟩ := opB hw f2 hin h4
  have im := y.1.1
  have w32 := hw.2.1
  have hc := o1.2.2.2.1 (Or.inl ho)
  have w6 := (hw.2.2.2.2.2.2.1 _ hc).2.1
  have r6 := (im.2.2.2.2.2.2.1.1 _ hc).2.1
  have hin2 := hin.2
  have hw2 : wd (b (T 17 f.1 + f.2.1)) = 2 := by rw [ho]; rfl
  rw [ho]
  refine td_26 ⟨by rw [show μ.2.2.1 6 = 32 from im.2.1.2.2.1]; exact vp_in_nI (by omega) (by decide), ?_⟩
  rw [nI_clamp (by omega), r6, nI_1a]
  refine k_mk hw y S4 S2 (by omega) (by omega) S1 (fun a1 a2 => ⟨fun z => absurd rfl z, fun _ => k_no y (by omega) stM_r (h0 a1 a2)⟩) (fun ns μ1 s1 y1 hs1 sm1 => ⟨fun _ => ?_, fun z => absurd z (by decide)⟩)
  refine k_obj hw y1 S4 hc (by omega) S1 S3 (fun μ2 th2 nd2 bg2 nt2 us2 s2 y2 hs2 i2 j2 sm2 => ?_)
  refine k_putT (v := n + 1) hw y2 hh (fun q e => by cases e; exact i2) (fun μ3 y3 sm3 => ?_)
  unfold mp_X12_doThings_409
  refine k_on hw y3 (by omega) o6 (by show f.2.1 + _ < _; omega) (fun μ4 y4 sm4 => ?_)
  exact hK _ rfl ns μ4 ⟨_, _, _, _, _, _, y4.eq (by show f.2.1 + _ = _; omega) rfl rfl, by omega⟩ (sm1.t (sm2.t (sm3.t sm4)))
theorem D_get {v : Nat} (hw : wf T b) (y : RMg μ T b k lim md cy rch n N (f :: r) 0 1 th nd bg nt us s) (hsb : s ≤ sb) (S : stp T h k lim md rch n N (f :: r) ids sb) (hin : inC T f.1 (T 17 f.1 + f.2.1)) (h4 : T 4 (T 17 f.1 + f.2.1) = 1) (ho : b (T 17 f.1 + f.2.1) = 27) (hh : 1 ≤ f.2.2.1 ∧ f.2.2.1 ≤ T 16 f.1) (hv : f.2.2.2 (T 15 f.1 + f.2.2.1 - 1) = .inr v) (hj : ∀ q, v = q + 1 → b (T 17 f.1 + f.2.1 + 2) < npt T (N q) ∧ (T 7 (15 * b (T 17 f.1 + f.2.1 + 1) + b (T 17 f.1 + f.2.1 + 2)) ≠ 0 ↔ ∃ w, (N q).2.2.2 (b (T 17 f.1 + f.2.1 + 2)) = .inr w))
    (h0 : v = 0 → rch ≤ k * md → lim < rch → mNO μ K T b k lim md cy rch n N (f :: r) sb)
    (h1 : v = 0 → ¬ (rch ≤ k * md ∧ lim < rch) → mOK μ K T b k lim (mm k lim md rch (1 + T 6 (T 10 0))) (mcy k lim md rch cy (1 + T 6 (T 10 0))) (mr T N (f :: r) ids k lim md rch (1 + T 6 (T 10 0))) (n + 1) (va_up N n (nob T (T 10 0))) (f :: r) (n + 1) 1 sb)
    (hK : ∀ q, v = q + 1 → mOK μ K T b k lim md cy rch n N ((f.1, f.2.1 + 3, f.2.2.1, va_up f.2.2.2 (T 15 f.1 + f.2.2.1 - 1) ((N q).2.2.2 (b (T 17 f.1 + f.2.1 + 2)))) :: r) 0 1 sb) : TD K μ (nI (T 17 f.1 + f.2.1)) (nI (b (T 17 f.1 + f.2.1))) (nI (b (T 17 f.1 + f.2.1 + 1))) (nI (b (T 17 f.1 + f.2.1 + 2))) := by
  obtain ⟨t, f1, f2, f3, f4, f5, f6, f7⟩ := y.ti hw
  obtain ⟨o1, o2, o3, o4, o5, o6⟩ := opB hw f2 hin h4
  have im := y.1.1
  have w32 := hw.2.1
  obtain ⟨hc, hcf⟩ := o1.2.2.2.2.1 (Or.inl ho)
  have w6 := (hw.2.2.2.2.2.2.1 _ hc).2.1
  have r7 := (im.2.2.2.2.2.2.1.1 _ hc).2.2 _ hcf
  have ty7 := (hw.2.2.2.2.2.2.1 _ hc).2.2.1 _ hcf
  have t255 := ty_le ty7 w32
  have hnt : nt ≤ 140000 := y.1.2.2.1.2.1
  have hin2 := hin.2
  have hw3 : wd (b (T 17 f.1 + f.2.1)) = 3 := by rw [ho]; rfl
  have e10 : T 15 f.1 + f.2.2.1 - 1 - 0 = T 15 f.1 + f.2.2.1 - 1 := by omega
  have hvi : ∀ q, v = q + 1 → inT th nd nt q := fun q e => y.vi hw (by omega) (hv.trans (by rw [e]))
  rw [ho]
  refine td_27 ?_
  refine k_val (j := 0) hw y (by omega) ?_
  rw [e10, hv]
  refine ⟨fun z => ?_, fun z => ?_⟩
  · cases v with
    | zero => exact absurd rfl z
    | succ q =>
      obtain ⟨a1, a2, a3, a4, a5⟩ := y.tg (hvi q rfl)
      obtain ⟨hj1, hj2⟩ := hj q rfl
      unfold mp_X12_getField mp_X12_getField_53
      refine k_val (j := 0) hw y (by omega) ?_
      rw [e10, hv, vM_s, nI_clamp (by omega), a2.2.2.2.2.1, nI_add, nI_clamp (by omega), a2.2.2.2.2.2 _ hj1]
      refine ⟨by rw [lr29 t.2.1]; exact vp_in_nI a4 (by decide), by rw [lr31 t.2.1]; exact vp_in_nI (by omega) (by decide), ?_⟩
      intro v5 e5
      rw [e5]
      refine k_drop (j := 1) hw y hh.1 (fun μ1 y1 sm1 => ?_)
      have im1 := y1.1.1
      have r71 := (im1.2.2.2.2.2.2.1.1 _ hc).2.2 _ hcf
      rw [l_15, pk_mul, nI_add, nI_clamp (by omega), r71]
      refine ⟨by rw [show μ1.2.2.1 7 = 480 from im1.2.1.2.2.2.1]; exact vp_in_nI (by omega) (by decide), fun z2 => ?_, fun z2 => ?_⟩
      · have c0 := (nI_leI (b := 0) (by omega) (by omega)).mp z2
        have : ¬ ∃ w, (N q).2.2.2 (b (T 17 f.1 + f.2.1 + 2)) = .inr w := fun e => (hj2.mpr e) (by omega)
        have ex : ∃ x, (N q).2.2.2 (b (T 17 f.1 + f.2.1 + 2)) = .inl x := by
          cases hp : (N q).2.2.2 (b (T 17 f.1 + f.2.1 + 2)) with
          | inl x => exact ⟨x, rfl⟩
          | inr w => exact absurd ⟨w, hp⟩ this
        obtain ⟨x, ex⟩ := ex
        have hK' := hK q rfl
        rw [ex, vM_i]
        rw [ex] at hK'
        refine k_putI hw y1 (by show f.2.2.1 - 1 < T 16 f.1; omega) (fun μ2 y2 sm2 => ?_)
        unfold mp_X12_doThings_409
        refine k_on hw y2 (by omega) o6 (by show f.2.1 + _ < _; omega) (fun μ3 y3 sm3 => ?_)
        exact hK' μ3 ⟨_, _, _, _, _, _, y3.eq (by show f.2.1 + _ = _; omega) (by show f.2.2.1 - 1 + 1 = _; omega) (by show T 15 f.1 + (f.2.2.1 - 1) = _; omega), by omega⟩ (sm1.t (sm2.t sm3))
      · have c0 : T 7 (15 * b (T 17 f.1 + f.2.1 + 1) + b (T 17 f.1 + f.2.1 + 2)) ≠ 0 := fun e => z2 (by rw [e]; decide)
        obtain ⟨w, ex⟩ := hj2.mp c0
        have hK' := hK q rfl
        rw [ex]
        rw [ex] at hK'
        refine k_putT hw y1 (by show f.2.2.1 - 1 < T 16 f.1; omega) (fun q' e => a5 _ q' hj1 (by rw [ex, e])) (fun μ2 y2 sm2 => ?_)
        unfold mp_X12_doThings_409
        refine k_on hw y2 (by omega) o6 (by show f.2.1 + _ < _; omega) (fun μ3 y3 sm3 => ?_)
        exact hK' μ3 ⟨_, _, _, _, _, _, y3.eq (by show f.2.1 + _ = _; omega) (by show f.2.2.1 - 1 + 1 = _; omega) (by show T 15 f.1 + (f.2.2.1 - 1) = _; omega), by omega⟩ (sm1.t (sm2.t sm3))
  · have v0 := (vM_n hnt hvi).mp z
    exact k_flt (q := 0) hw y hsb S stM_r (by decide) (h0 v0) (h1 v0)
/-- a part of a node is written -/
theorem RMg.wn {q j : Nat} {v : AV} (y : RMg μ T b k lim md cy rch n N fs fl st th nd bg nt us s) (hq : inT th nd nt q) (hj : j < npt T (N q)) (hi : ∀ k, v = .inr (k + 1) → inT th nd nt k) : RMg (sm_r μ 31 (upd (μ.2.2.2.1 31) (bg (th q) + j) (vM th v))) T b k lim md cy rch n (va_up N q (npu (N q) j v)) fs fl st th nd bg nt us s ∧ stM μ (sm_r μ 31 (upd (μ.2.2.2.1 31) (bg (th q) + j) (vM th v))) := by
  obtain ⟨⟨im, ln, hn, hth, hfs⟩, y2, y3, y4, y5⟩ := y
  have sm : stM μ (sm_r μ 31 (upd (μ.2.2.2.1 31) (bg (th q) + j) (vM th v))) := stM_r.r (by omega)
  refine ⟨⟨⟨sm.im im, sm.ln ln, hn, ⟨hth.1, hth.2.1, fun t ht => ?_⟩, fsM_c fs hfs (fun r h1 h2 => va_up_ne _ _ (by omega))⟩, y2, y3, y4, y5⟩, sm⟩
  obtain ⟨q1, q2, q3, ⟨g1, g2, g3, g4, g5, g6⟩, q5⟩ := hth.2.2 t ht
  have hqt := hq.1
  have hbq := hth.2.2 (th q) hqt
  rw [hq.2] at hbq
  by_cases e : nd t = q
  · have et : t = th q := by rw [← e]; exact q1.symm
    have eN : va_up N q (npu (N q) j v) (nd t) = npu (N q) j v := by rw [e, va_up_self]
    have en : N (nd t) = N q := by rw [e]
    rw [en] at q3 g1 g2 g3 g4 g6 q5
    refine ⟨q1, q2, ?_, ⟨?_, ?_, ?_, ?_, g5, ?_⟩, ?_⟩
    · rw [eN, npt_u]; exact q3
    · rw [eN]; exact g1
    · rw [eN]; exact g2
    · rw [eN]; exact g3
    · rw [eN]; exact g4
    · rw [eN, npt_u]
      intro i hi'
      show upd (μ.2.2.2.1 31) (bg (th q) + j) (vM th v) (bg t + i) = vM th (va_up (N q).2.2.2 j v i)
      rw [et]
      by_cases ei : i = j
      · rw [ei, pk_us, va_up_self]
      · rw [pk_un (by omega), va_up_ne _ _ ei, ← et]; exact g6 i hi'
    · rw [eN, npt_u]
      intro i k' hi' he
      have he : va_up (N q).2.2.2 j v i = .inr (k' + 1) := he
      by_cases ei : i = j
      · rw [ei, va_up_self] at he; exact hi k' he
      · rw [va_up_ne _ _ ei] at he; exact q5 i k' hi' he
  · have eN : va_up N q (npu (N q) j v) (nd t) = N (nd t) := va_up_ne _ _ e
    have et : t ≠ th q := fun z => e (by rw [z]; exact hq.2)
    have apart : bg t + npt T (N (nd t)) ≤ bg (th q) ∨ bg (th q) + npt T (N q) ≤ bg t := by
      rcases Nat.lt_or_gt_of_ne et with z | z
      · have := hth.m (t + 1) (th q) (by omega) (by omega); omega
      · have := hth.m (th q + 1) t (by omega) (by omega); have := hbq.2.2.1; omega
    refine ⟨q1, q2, ?_, ⟨?_, ?_, ?_, ?_, g5, ?_⟩, ?_⟩
    · rw [eN]; exact q3
    · rw [eN]; exact g1
    · rw [eN]; exact g2
    · rw [eN]; exact g3
    · rw [eN]; exact g4
    · rw [eN]
      intro i hi'
      show upd (μ.2.2.2.1 31) (bg (th q) + j) (vM th v) (bg t + i) = _
      rw [pk_un (by omega)]
      exact g6 i hi'
    · rw [eN]; exact q5
theorem D_put {v : Nat} (hw : wf T b) (y : RMg μ T b k lim md cy rch n N (f :: r) 0 1 th nd bg nt us s) (hsb : s ≤ sb) (S : stp T h k lim md rch n N (f :: r) ids sb) (hin : inC T f.1 (T 17 f.1 + f.2.1)) (h4 : T 4 (T 17 f.1 + f.2.1) = 1) (ho : b (T 17 f.1 + f.2.1) = 28) (hh : 2 ≤ f.2.2.1 ∧ f.2.2.1 ≤ T 16 f.1) (hv : f.2.2.2 (T 15 f.1 + f.2.2.1 - 2) = .inr v) (hj : ∀ q, v = q + 1 → b (T 17 f.1 + f.2.1 + 2) < npt T (N q))
    (h0 : v = 0 → rch ≤ k * md → lim < rch → mNO μ K T b k lim md cy rch n N (f :: r) sb)
    (h1 : v = 0 → ¬ (rch ≤ k * md ∧ lim < rch) → mOK μ K T b k lim (mm k lim md rch (1 + T 6 (T 10 0))) (mcy k lim md rch cy (1 + T 6 (T 10 0))) (mr T N (f :: r) ids k lim md rch (1 + T 6 (T 10 0))) (n + 1) (va_up N n (nob T (T 10 0))) (f :: r) (n + 1) 1 sb)
    (hK : ∀ q, v = q + 1 → mOK μ K T b k lim md cy rch n (va_up N q (npu (N q) (b (T 17 f.1 + f.2.1 + 2)) (f.2.2.2 (T 15 f.1 + f.2.2.1 - 1)))) ((f.1, f.2.1 + 3, f.2.2.1 - 2, f.2.2.2) :: r) 0 1 sb) : TD K μ (nI (T 17 f.1 + f.2.1)) (nI (b (T 17 f.1 + f.2.1))) (nI (b (T 17 f.1 + f.2.1 + 1))) (nI (b (T 17 f.1 + f.2.1 + 2))) := by
  obtain ⟨t, f1, f2, f3, f4, f5, f6, f7⟩ := y.ti hw
  obtain ⟨o1, o2, o3, o4, o5, o6⟩ := opB hw f2 hin h4
  have hnt : nt ≤ 140000 := y.1.2.2.1.2.1
  have hin2 := hin.2
  have hw3 : wd (b (T 17 f.1 + f.2.1)) = 3 := by rw [ho]; rfl
  have e10 : T 15 f.1 + f.2.2.1 - 1 - 0 = T 15 f.1 + f.2.2.1 - 1 := by omega
  have e11 : T 15 f.1 + f.2.2.1 - 1 - 1 = T 15 f.1 + f.2.2.1 - 2 := by omega
  have hvi : ∀ q, v = q + 1 → inT th nd nt q := fun q e => y.vi hw (by omega) (hv.trans (by rw [e]))
  rw [ho]
  refine td_28 ?_
  refine k_val (j := 1) hw y (by omega) ?_
  rw [e11, hv]
  refine ⟨fun z => ?_, fun z => ?_⟩
  · cases v with
    | zero => exact absurd rfl z
    | succ q =>
      obtain ⟨a1, a2, a3, a4, a5⟩ := y.tg (hvi q rfl)
      have hj1 := hj q rfl
      refine k_val (j := 1) hw y (by omega) ?_
      rw [e11, hv, vM_s, nI_clamp (by omega), a2.2.2.2.2.1, nI_add, nI_clamp (by omega)]
      refine ⟨by rw [lr29 t.2.1]; exact vp_in_nI a4 (by decide), ?_⟩
      refine k_val (j := 0) hw y (by omega) ?_
      rw [e10]
      refine ⟨by rw [lr31 t.2.1]; exact vp_in_nI (by omega) (by decide), ?_⟩
      intro s36 e36
      obtain ⟨y1, sm1⟩ := y.wn (q := q) (j := b (T 17 f.1 + f.2.1 + 2)) (v := f.2.2.2 (T 15 f.1 + f.2.2.1 - 1)) (hvi q rfl) hj1 (fun k' e => (f7 _ (by omega)).2.2 k' e)
      rw [← e36] at y1 sm1
      refine k_drop (j := 2) hw y1 hh.1 (fun μ2 y2 sm2 => ?_)
      unfold mp_X12_doThings_409
      refine k_on hw y2 (by omega) o6 (by show f.2.1 + _ < _; omega) (fun μ3 y3 sm3 => ?_)
      exact hK q rfl μ3 ⟨_, _, _, _, _, _, y3.eq0 (by show f.2.1 + _ = _; omega) rfl, by omega⟩ (sm1.t (sm2.t sm3))
  · have v0 := (vM_n hnt hvi).mp z
    exact k_flt (q := 0) hw y hsb S stM_r (by decide) (h0 v0) (h1 v0)
/-- whether a value is an object of a class -/
theorem k_one {v c : Nat} (hw : wf T b) (y : RMg μ T b k lim md cy rch n N fs fl st th nd bg nt us s) (np : npo T n N) (hc : c < T 0 0) (hvi : ∀ q, v = q + 1 → inT th nd nt q) (h1 : isN T N (.inr v) c → K 1 μ) (h0 : ¬ isN T N (.inr v) c → K 0 μ) : mp_X12_isOne μ (vM th (.inr v)) (nI c) K := by
  have im := y.1.1
  have ln := y.1.2.1
  have w32 := hw.2.1
  unfold mp_X12_isOne mp_X12_isOne_35 mp_X12_isOne_36
  cases v with
  | zero => exact ⟨fun _ => ⟨sm_z0, h0 (fun ⟨q, e, _⟩ => by cases e)⟩, fun z => absurd rfl z⟩
  | succ q =>
    obtain ⟨a1, a2, a3, a4, a5⟩ := y.tg (hvi q rfl)
    obtain ⟨n1, n2, n3, n4⟩ := np q a1
    rw [vM_s, nI_clamp (by omega), a2.1]
    refine ⟨fun z => absurd z (nI_m1 (by omega)), fun _ => ⟨by rw [lr25 ln]; exact vp_in_nI a4 (by decide), fun z => ?_, fun z => ?_⟩⟩
    · refine ⟨sm_z0, h0 (fun ⟨q', e, k1, _⟩ => z ?_)⟩
      cases e
      rw [k1]; rfl
    · have k2 : (N q).1 = 2 := by
        have := (nI_eq (b := 0) (by omega) (by omega)).mp z
        omega
      have hcl := n2 k2
      rw [a2.2.1 (by omega)]
      refine ⟨by rw [lr26 ln]; exact vp_in_nI a4 (by decide), ?_⟩
      exact w_isA im hw y.2.2.1 hcl hc (fun q1 => ⟨fun z => absurd z (by decide), fun _ => ⟨sm_z1, h1 ⟨q, rfl, k2, q1⟩⟩⟩) (fun q1 => ⟨fun _ => ⟨sm_z0, h0 (fun ⟨q', e, _, k3⟩ => by cases e; exact q1 k3)⟩, fun z => absurd rfl z⟩)
theorem D_is {v : Nat} (hw : wf T b) (y : RMg μ T b k lim md cy rch n N (f :: r) 0 1 th nd bg nt us s) (hsb : s ≤ sb) (np : npo T n N) (hin : inC T f.1 (T 17 f.1 + f.2.1)) (h4 : T 4 (T 17 f.1 + f.2.1) = 1) (ho : b (T 17 f.1 + f.2.1) = 29) (hh : 1 ≤ f.2.2.1 ∧ f.2.2.1 ≤ T 16 f.1) (hv : f.2.2.2 (T 15 f.1 + f.2.2.1 - 1) = .inr v)
    (hK : ∀ zz : Int32, (isN T N (.inr v) (b (T 17 f.1 + f.2.1 + 1)) ∧ zz = 1) ∨ (¬ isN T N (.inr v) (b (T 17 f.1 + f.2.1 + 1)) ∧ zz = 0) → mOK μ K T b k lim md cy rch n N ((f.1, f.2.1 + 2, f.2.2.1, va_up f.2.2.2 (T 15 f.1 + f.2.2.1 - 1) (.inl zz)) :: r) 0 1 sb) : TD K μ (nI (T 17 f.1 + f.2.1)) (nI (b (T 17 f.1 + f.2.1))) (nI (b (T 17 f.1 + f.2.1 + 1))) (nI (b (T 17 f.1 + f.2.1 + 2))) := by
  obtain ⟨t, f1, f2, f3, f4, f5, f6, f7⟩ := y.ti hw
  obtain ⟨o1, o2, o3, o4, o5, o6⟩ := opB hw f2 hin h4
  have hc := o1.2.2.2.1 (Or.inr (Or.inl ho))
  have hin2 := hin.2
  have hw3 : wd (b (T 17 f.1 + f.2.1)) = 2 := by rw [ho]; rfl
  have e10 : T 15 f.1 + f.2.2.1 - 1 - 0 = T 15 f.1 + f.2.2.1 - 1 := by omega
  have hvi : ∀ q, v = q + 1 → inT th nd nt q := fun q e => y.vi hw (by omega) (hv.trans (by rw [e]))
  have fin : ∀ zz : Int32, (isN T N (.inr v) (b (T 17 f.1 + f.2.1 + 1)) ∧ zz = 1) ∨ (¬ isN T N (.inr v) (b (T 17 f.1 + f.2.1 + 1)) ∧ zz = 0) → ∀ μ1, RMg μ1 T b k lim md cy rch n N ((f.1, f.2.1, f.2.2.1 - 1, f.2.2.2) :: r) 0 1 th nd bg nt us s → stM μ μ1 → mp_X12_doThings_242 K μ1 (nI (T 17 f.1 + f.2.1)) zz := fun zz hz μ1 y1 sm1 => by
    unfold mp_X12_doThings_242 mp_X12_doThings_409
    refine k_putI hw y1 (by show f.2.2.1 - 1 < T 16 f.1; omega) (fun μ2 y2 sm2 => ?_)
    refine k_on hw y2 (by omega) o6 (by show f.2.1 + _ < _; omega) (fun μ3 y3 sm3 => ?_)
    exact hK zz hz μ3 ⟨_, _, _, _, _, _, y3.eq (by show f.2.1 + _ = _; omega) (by show f.2.2.1 - 1 + 1 = _; omega) (by show T 15 f.1 + (f.2.2.1 - 1) = _; omega), by omega⟩ (sm1.t (sm2.t sm3))
  rw [ho]
  refine td_29 ?_
  refine k_val (j := 0) hw y (by omega) ?_
  rw [e10, hv]
  refine k_one hw y np hc hvi (fun q => ?_) (fun q => ?_)
  · exact k_drop (j := 1) hw y hh.1 (fun μ1 y1 sm1 => ⟨fun z => absurd z (by decide), fun _ => fin 1 (Or.inl ⟨q, rfl⟩) μ1 y1 sm1⟩)
  · exact k_drop (j := 1) hw y hh.1 (fun μ1 y1 sm1 => ⟨fun _ => fin 0 (Or.inr ⟨q, rfl⟩) μ1 y1 sm1, fun z => absurd rfl z⟩)
theorem D_cast {v : Nat} (hw : wf T b) (y : RMg μ T b k lim md cy rch n N (f :: r) 0 1 th nd bg nt us s) (hsb : s ≤ sb) (S : stp T h k lim md rch n N (f :: r) ids sb) (hin : inC T f.1 (T 17 f.1 + f.2.1)) (h4 : T 4 (T 17 f.1 + f.2.1) = 1) (ho : b (T 17 f.1 + f.2.1) = 30) (hh : 1 ≤ f.2.2.1 ∧ f.2.2.1 ≤ T 16 f.1) (hv : f.2.2.2 (T 15 f.1 + f.2.2.1 - 1) = .inr v)
    (h0 : ¬ (v = 0 ∨ isN T N (.inr v) (b (T 17 f.1 + f.2.1 + 1))) → rch ≤ k * md → lim < rch → mNO μ K T b k lim md cy rch n N (f :: r) sb)
    (h1 : ¬ (v = 0 ∨ isN T N (.inr v) (b (T 17 f.1 + f.2.1 + 1))) → ¬ (rch ≤ k * md ∧ lim < rch) → mOK μ K T b k lim (mm k lim md rch (1 + T 6 (T 10 3))) (mcy k lim md rch cy (1 + T 6 (T 10 3))) (mr T N (f :: r) ids k lim md rch (1 + T 6 (T 10 3))) (n + 1) (va_up N n (nob T (T 10 3))) (f :: r) (n + 1) 1 sb)
    (hK : (v = 0 ∨ isN T N (.inr v) (b (T 17 f.1 + f.2.1 + 1))) → mOK μ K T b k lim md cy rch n N ((f.1, f.2.1 + 2, f.2.2.1, f.2.2.2) :: r) 0 1 sb) : TD K μ (nI (T 17 f.1 + f.2.1)) (nI (b (T 17 f.1 + f.2.1))) (nI (b (T 17 f.1 + f.2.1 + 1))) (nI (b (T 17 f.1 + f.2.1 + 2))) := by
  obtain ⟨t, f1, f2, f3, f4, f5, f6, f7⟩ := y.ti hw
  obtain ⟨o1, o2, o3, o4, o5, o6⟩ := opB hw f2 hin h4
  have hc := o1.2.2.2.1 (Or.inr (Or.inr ho))
  have np := S.2.2.2.1
  have hnt : nt ≤ 140000 := y.1.2.2.1.2.1
  have hin2 := hin.2
  have hw3 : wd (b (T 17 f.1 + f.2.1)) = 2 := by rw [ho]; rfl
  have e10 : T 15 f.1 + f.2.2.1 - 1 - 0 = T 15 f.1 + f.2.2.1 - 1 := by omega
  have hvi : ∀ q, v = q + 1 → inT th nd nt q := fun q e => y.vi hw (by omega) (hv.trans (by rw [e]))
  have fin : (v = 0 ∨ isN T N (.inr v) (b (T 17 f.1 + f.2.1 + 1))) → mp_X12_doThings_409 K μ (nI (T 17 f.1 + f.2.1)) := fun hz => by
    unfold mp_X12_doThings_409
    refine k_on hw y (by omega) o6 (by omega) (fun μ3 y3 sm3 => ?_)
    exact hK hz μ3 ⟨_, _, _, _, _, _, y3.eq0 (by omega) rfl, by omega⟩ sm3
  rw [ho]
  refine td_30 ?_
  refine k_val (j := 0) hw y (by omega) ?_
  rw [e10, hv]
  refine ⟨fun z => fin (Or.inl ((vM_n hnt hvi).mp z)), fun z => ?_⟩
  have nz : v ≠ 0 := fun q => z ((vM_n hnt hvi).mpr q)
  refine k_val (j := 0) hw y (by omega) ?_
  rw [e10, hv]
  refine k_one hw y np hc hvi (fun q => ⟨fun _ => fin (Or.inr q), fun z => absurd z (by decide)⟩) (fun q => ⟨fun z => absurd rfl z, fun _ => ?_⟩)
  have nn : ¬ (v = 0 ∨ isN T N (.inr v) (b (T 17 f.1 + f.2.1 + 1))) := fun p => p.elim nz q
  exact k_flt (q := 3) hw y hsb S stM_r (by decide) (h0 nn) (h1 nn)
end
