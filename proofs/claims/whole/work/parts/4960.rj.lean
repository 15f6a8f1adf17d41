/-! ===== simple instructions and jumps, all of the step: the reference ===== -/
section
variable {μ μ' μ0 : sm_S} {T : Nat → Nat → Nat} {b : Nat → Nat} {h k lim md cy rch n sb : Nat} {N : Nat → AN} {f : AF} {r fs : List AF} {fl st : Nat} {th nd bg : Nat → Nat} {nt us s : Nat} {ids : List Nat} {K : jk}
theorem vM_n {v : Nat} (hnt : nt ≤ 140000) (hv : ∀ q, v = q + 1 → inT th nd nt q) : vM th (.inr v) = -1 ↔ v = 0 := by
  cases v with
  | zero => exact ⟨fun _ => rfl, fun _ => rfl⟩
  | succ q =>
    have := (hv q rfl).1
    rw [vM_s]
    exact ⟨fun z => absurd z (nI_m1 (by omega)), fun z => absurd z (Nat.succ_ne_zero q)⟩
theorem vM_e {v w : Nat} (hnt : nt ≤ 140000) (hv : ∀ q, v = q + 1 → inT th nd nt q) (hw : ∀ q, w = q + 1 → inT th nd nt q) : vM th (.inr v) = vM th (.inr w) ↔ v = w := by
  refine ⟨fun e => ?_, fun e => by rw [e]⟩
  cases v with
  | zero =>
    rw [vM_0] at e
    exact ((vM_n hnt hw).mp e.symm).symm
  | succ q =>
    cases w with
    | zero => rw [vM_0] at e; exact (vM_n hnt hv).mp e
    | succ q' =>
      rw [vM_s, vM_s] at e
      have a1 := hv q rfl
      have a2 := hw q' rfl
      have h1 := a1.1
      have h2 := a2.1
      have e2 := (nI_eq (by omega) (by omega)).mp e
      rw [inT_i a1 a2 e2]
/-- how a jump ends -/
theorem k_j182 {g : Nat} {x : Int32} {K : sm_S → Prop} (hw : wf T b) (y : RMg μ T b k lim md cy rch n N (f :: r) fl st th nd bg nt us s) (hin : inC T f.1 (T 17 f.1 + f.2.1)) (h4 : T 4 (T 17 f.1 + f.2.1) = 1) (hj : 19 ≤ b (T 17 f.1 + f.2.1) ∧ b (T 17 f.1 + f.2.1) ≤ 25) (h2 : jpl b (T 17 f.1 + f.2.1) + 1 < T 0 4) (hp : pr b (jpl b (T 17 f.1 + f.2.1)) < 2 ^ 16) (hx : x = 0 ∨ x = 1) (hgd : g ≤ f.2.2.1)
    (h1 : x = 1 → ∀ μ', RMg μ' T b k lim md cy rch n N ((f.1, pr b (jpl b (T 17 f.1 + f.2.1)), f.2.2.1 - g, f.2.2.2) :: r) fl st th nd bg nt us s → stM μ μ' → K μ')
    (h0 : x = 0 → ∀ μ', RMg μ' T b k lim md cy rch n N ((f.1, f.2.1 + wd (b (T 17 f.1 + f.2.1)), f.2.2.1 - g, f.2.2.2) :: r) fl st th nd bg nt us s → stM μ μ' → K μ') : mp_X12_jump_182 K μ (nI (T 17 f.1 + f.2.1)) x (nI g) := by
  obtain ⟨t, f1, f2, f3, f4, f5, f6, f7⟩ := y.ti hw
  obtain ⟨o1, o2, o3, o4, o5, o6⟩ := opB hw f2 hin h4
  unfold mp_X12_jump_182 mp_X12_jump_216
  refine k_drop hw y hgd (fun μ1 y1 sm1 => ?_)
  have hin2 := hin.2
  refine ⟨fun z => ?_, fun z => ?_⟩
  · exact k_on hw y1 (by omega) o6 (by show f.2.1 + _ < _; omega) (fun μ2 y2 sm2 => h0 z μ2 y2 (sm1.t sm2))
  · have t1 := (y1.ti hw).1
    have x1 : x = 1 := by
      rcases hx with q | q
      · exact absurd q z
      · exact q
    refine w_jo t1.1 hw f2 hin hj h2 ?_
    have t3 := t1.2.2.1
    have t4 := t1.2.2.2.1
    rw [t3, nI_pred, nI_clamp (by omega)]
    refine ⟨by rw [lr34 t1.2.1]; exact vp_in_nI t4 (by decide), ?_⟩
    intro s7 e7
    obtain ⟨a, c⟩ := k_pc (pc' := pr b (jpl b (T 17 f.1 + f.2.1))) hw y1 hp
    rw [← e7] at a c
    exact h1 x1 s7 a (sm1.t c)
theorem M_sm {zv : Int32} {jc : Prop} {ht' pc' : Nat} {vs' : Nat → AV} (hw : wf T b) (lk : lkd T b) (Y : MH μ T b k lim md cy rch n N (f :: r) 0 1 sb) (hin : inC T f.1 (T 17 f.1 + f.2.1)) (h4 : T 4 (T 17 f.1 + f.2.1) = 1) (ho : b (T 17 f.1 + f.2.1) ≤ 25) (hg : hgt T f.1 (b (T 17 f.1 + f.2.1)) f.2.2.1) (hs : smp b (T 17 f.1 + f.2.1) (T 15 f.1) f.2.2.1 f.2.2.2 zv jc) (he : efS b (T 17 f.1 + f.2.1) (T 15 f.1) f.2.2.1 f.2.2.2 zv ht' vs') (hpc : (jc ∧ pc' = pr b (jpl b (T 17 f.1 + f.2.1))) ∨ (¬ jc ∧ pc' = f.2.1 + wd (b (T 17 f.1 + f.2.1))))
    (hK : mOK μ K T b k lim md cy rch n N ((f.1, pc', ht', vs') :: r) 0 1 sb) : mp_X12_step μ K := by
  obtain ⟨th, nd, bg, nt, us, s, y, hsb⟩ := Y
  obtain ⟨t, f1, f2, f3, f4, f5, f6, f7⟩ := y.ti hw
  obtain ⟨o1, o2, o3, o4, o5, o6⟩ := opB hw f2 hin h4
  have hnt : nt ≤ 140000 := y.1.2.2.1.2.1
  have hin2 := hin.2
  have im := t.1
  refine m_pre hw y hin o6 (fun c1 c2 => ?_) (fun c1 c2 => by omega) (fun c1 => ?_)
  · have bg2 := lk.j f2 hin h4 ⟨c1, c2⟩
    have hj2 : jpl b (T 17 f.1 + f.2.1) + 1 < T 0 4 := by
      have e2 : jpl b (T 17 f.1 + f.2.1) + 1 < T 17 f.1 + f.2.1 + wd (b (T 17 f.1 + f.2.1)) := by
        unfold jpl wd
        (repeat' split) <;> omega
      omega
    have hpp : pr b (jpl b (T 17 f.1 + f.2.1)) < 2 ^ 16 := by have := bg2.1; omega
    have hval : ∀ j, j + 1 ≤ f.2.2.1 → ∀ v, f.2.2.2 (T 15 f.1 + f.2.2.1 - 1 - j) = .inr v → ∀ q, v = q + 1 → inT th nd nt q := fun j hj v hv q e => (f7 (T 15 f.1 + f.2.2.1 - 1 - j) (by omega)).2.2 q (by rw [hv, e])
    -- the end, once the question is answered
    have fin : ∀ (x : Int32) (g : Nat), g ≤ f.2.2.1 → ht' = f.2.2.1 - g → vs' = f.2.2.2 → ((x = 1 ∧ jc) ∨ (x = 0 ∧ ¬ jc)) → mp_X12_jump_182 (fun s => K 1 s) μ (nI (T 17 f.1 + f.2.1)) x (nI g) := fun x g hg' e1 e2 hx => by
      refine k_j182 hw y hin h4 ⟨c1, c2⟩ hj2 hpp (by rcases hx with q | q; exact Or.inr q.1; exact Or.inl q.1) hg' (fun z μ1 y1 sm1 => ?_) (fun z μ1 y1 sm1 => ?_)
      · rcases hx with q | q
        · rcases hpc with p | p
          · exact hK μ1 ⟨_, _, _, _, _, _, by rw [p.2, e1, e2]; exact y1, by omega⟩ sm1
          · exact absurd q.2 p.1
        · exact absurd (q.1.symm.trans z) (by decide)
      · rcases hx with q | q
        · exact absurd (q.1.symm.trans z) (by decide)
        · rcases hpc with p | p
          · exact absurd p.1 q.2
          · exact hK μ1 ⟨_, _, _, _, _, _, by rw [p.2, e1, e2]; exact y1, by omega⟩ sm1
    unfold mp_X12_jump mp_X12_jump_107 mp_X12_jump_125 mp_X12_jump_147 mp_X12_jump_172
    rw [nI_1, nI_clamp (by omega), im.1.2.2.2.2 _ (by omega)]
    refine ⟨by rw [im.1.2.2.1]; exact vp_in_nI (by omega) (by decide), ?_⟩
    intro v9 e9
    rw [e9]
    have e10 : T 15 f.1 + f.2.2.1 - 1 - 0 = T 15 f.1 + f.2.2.1 - 1 := by omega
    have e11 : T 15 f.1 + f.2.2.1 - 1 - 1 = T 15 f.1 + f.2.2.1 - 2 := by omega
    generalize hpe : T 17 f.1 + f.2.1 = p at *
    have hc : b p = 19 ∨ b p = 20 ∨ b p = 21 ∨ b p = 22 ∨ b p = 23 ∨ b p = 24 ∨ b p = 25 := by omega
    rcases hc with c | c | c | c | c | c | c
    · obtain ⟨d1, d2⟩ := he.2.2.2.2.2.2.2.2.2.1 (Or.inl c)
      obtain ⟨yv, s1, s2⟩ := hs.2.2.2.1 c
      have hh := hg.2.1 (by omega)
      have hq := o1.2.2.1 (Or.inl c)
      rw [c]
      refine ⟨fun _ => ?_, fun q => absurd q (by decide), fun q => absurd q (by decide), fun q => absurd q (by decide), fun q => absurd q (by decide), fun q => absurd q (by decide), fun q => absurd rfl q⟩
      refine k_val (j := 0) hw y (by omega) ?_
      rw [e10, s1, vM_i]
      exact w_cmp hq (fun z => fin 1 1 hh d1 d2 (Or.inl ⟨rfl, s2.mpr z⟩)) (fun z => fin 0 1 hh d1 d2 (Or.inr ⟨rfl, fun q => z (s2.mp q)⟩))
    · obtain ⟨d1, d2⟩ := he.2.2.2.2.2.2.2.2.2.2.1 c
      obtain ⟨xv, yv, s1, s3, s2⟩ := hs.2.2.2.2.1 c
      have hh := hg.2.2.2 (by omega)
      have hq := o1.2.2.1 (Or.inr c)
      rw [c]
      refine ⟨fun q => absurd q (by decide), fun _ => ?_, fun q => absurd q (by decide), fun q => absurd q (by decide), fun q => absurd q (by decide), fun q => absurd q (by decide), fun _ q => absurd rfl q⟩
      refine k_val (j := 1) hw y (by omega) ?_
      refine k_val (j := 0) hw y (by omega) ?_
      rw [e10, e11, s1, s3, vM_i, vM_i]
      exact w_cmp hq (fun z => fin 1 2 hh d1 d2 (Or.inl ⟨rfl, s2.mpr z⟩)) (fun z => fin 0 2 hh d1 d2 (Or.inr ⟨rfl, fun q => z (s2.mp q)⟩))
    · obtain ⟨d1, d2⟩ := he.2.2.2.2.2.2.2.2.2.2.2.1 (Or.inl c)
      obtain ⟨kv, s1, s2⟩ := hs.2.2.2.2.2.1 c
      have hh := hg.2.1 (by omega)
      rw [c]
      refine ⟨fun q => absurd q (by decide), fun q => absurd q (by decide), fun _ => ?_, fun q => absurd q (by decide), fun q => absurd q (by decide), fun q => absurd q (by decide), fun _ _ q => absurd rfl q⟩
      refine k_val (j := 0) hw y (by omega) ?_
      have i1 := hval 0 (by omega) kv (by rw [e10]; exact s1)
      rw [e10, s1]
      exact ⟨fun z => fin 0 1 hh d1 d2 (Or.inr ⟨rfl, fun q => z ((vM_n hnt i1).mpr (s2.mp q))⟩), fun z => fin 1 1 hh d1 d2 (Or.inl ⟨rfl, s2.mpr ((vM_n hnt i1).mp z)⟩)⟩
    · obtain ⟨d1, d2⟩ := he.2.2.2.2.2.2.2.2.2.2.2.1 (Or.inr c)
      obtain ⟨kv, s1, s2⟩ := hs.2.2.2.2.2.2.1 c
      have hh := hg.2.1 (by omega)
      rw [c]
      refine ⟨fun q => absurd q (by decide), fun q => absurd q (by decide), fun q => absurd q (by decide), fun _ => ?_, fun q => absurd q (by decide), fun q => absurd q (by decide), fun _ _ _ q => absurd rfl q⟩
      refine k_val (j := 0) hw y (by omega) ?_
      have i1 := hval 0 (by omega) kv (by rw [e10]; exact s1)
      rw [e10, s1]
      exact ⟨fun z => fin 0 1 hh d1 d2 (Or.inr ⟨rfl, fun q => (s2.mp q) ((vM_n hnt i1).mp z)⟩), fun z => fin 1 1 hh d1 d2 (Or.inl ⟨rfl, s2.mpr (fun q => z ((vM_n hnt i1).mpr q))⟩)⟩
    · obtain ⟨d1, d2⟩ := he.2.2.2.2.2.2.2.2.2.2.2.2.1 (Or.inl c)
      obtain ⟨kv, jv, s1, s3, s2⟩ := hs.2.2.2.2.2.2.2.1 c
      have hh := hg.2.2.2 (by omega)
      rw [c]
      refine ⟨fun q => absurd q (by decide), fun q => absurd q (by decide), fun q => absurd q (by decide), fun q => absurd q (by decide), fun _ => ?_, fun q => absurd q (by decide), fun _ _ _ _ q => absurd rfl q⟩
      refine k_val (j := 0) hw y (by omega) ?_
      refine k_val (j := 1) hw y (by omega) ?_
      have i1 := hval 0 (by omega) kv (by rw [e10]; exact s1)
      have i2 := hval 1 (by omega) jv (by rw [e11]; exact s3)
      rw [e10, e11, s1, s3]
      exact ⟨fun z => fin 0 2 hh d1 d2 (Or.inr ⟨rfl, fun q => z ((vM_e hnt i1 i2).mpr (s2.mp q))⟩), fun z => fin 1 2 hh d1 d2 (Or.inl ⟨rfl, s2.mpr ((vM_e hnt i1 i2).mp z)⟩)⟩
    · obtain ⟨d1, d2⟩ := he.2.2.2.2.2.2.2.2.2.2.2.2.1 (Or.inr c)
      obtain ⟨kv, jv, s1, s3, s2⟩ := hs.2.2.2.2.2.2.2.2.1 c
      have hh := hg.2.2.2 (by omega)
      rw [c]
      refine ⟨fun q => absurd q (by decide), fun q => absurd q (by decide), fun q => absurd q (by decide), fun q => absurd q (by decide), fun q => absurd q (by decide), fun _ => ?_, fun _ _ _ _ _ q => absurd rfl q⟩
      refine k_val (j := 0) hw y (by omega) ?_
      refine k_val (j := 1) hw y (by omega) ?_
      have i1 := hval 0 (by omega) kv (by rw [e10]; exact s1)
      have i2 := hval 1 (by omega) jv (by rw [e11]; exact s3)
      rw [e10, e11, s1, s3]
      exact ⟨fun z => fin 0 2 hh d1 d2 (Or.inr ⟨rfl, fun q => (s2.mp q) ((vM_e hnt i1 i2).mp z)⟩), fun z => fin 1 2 hh d1 d2 (Or.inl ⟨rfl, s2.mpr (fun q => z ((vM_e hnt i1 i2).mpr q))⟩)⟩
    · obtain ⟨d1, d2⟩ := he.2.2.2.2.2.2.2.2.2.2.2.2.2.1 c
      have s2 := hs.2.2.2.2.2.2.2.2.2.1 c
      rw [c]
      refine ⟨fun q => absurd q (by decide), fun q => absurd q (by decide), fun q => absurd q (by decide), fun q => absurd q (by decide), fun q => absurd q (by decide), fun q => absurd q (by decide), fun _ _ _ _ _ _ => ?_⟩
      exact fin 1 0 (Nat.zero_le _) d1 d2 (Or.inl ⟨rfl, s2⟩)
  · have c2 : b (T 17 f.1 + f.2.1) ≤ 18 := by omega
    have nj := hs.2.2.2.2.2.2.2.2.2.2 c2
    have st120 : mp_X12_step_120 K μ (nI (T 17 f.1 + f.2.1)) (nI (b (T 17 f.1 + f.2.1))) := by
      unfold mp_X12_step_120
      refine k_dv hw y hin h4 c2 hg hs he (fun μ1 y1 sm1 => ?_)
      refine k_on hw y1 (by omega) o6 (by show f.2.1 + _ < _; omega) (fun μ2 y2 sm2 => ?_)
      rcases hpc with p | p
      · exact absurd p.1 nj
      · exact hK μ2 ⟨_, _, _, _, _, _, by rw [p.2]; exact y2, by omega⟩ (sm1.t sm2)
    have st106 : (b (T 17 f.1 + f.2.1) = 10 ∨ b (T 17 f.1 + f.2.1) = 11) → mp_X12_step_106 K μ (nI (T 17 f.1 + f.2.1)) (nI (b (T 17 f.1 + f.2.1))) := fun hc => by
      obtain ⟨xv, yv, s1, s2, s3, s4⟩ := hs.2.1 (by omega)
      have hh := hg.2.2.2 (by omega)
      unfold mp_X12_step_106
      refine k_val (j := 0) hw y (by omega) ?_
      rw [show T 15 f.1 + f.2.2.1 - 1 - 0 = T 15 f.1 + f.2.2.1 - 1 by omega, s1, vM_i]
      exact ⟨fun _ => st120, fun z => absurd ⟨hc, z⟩ s4⟩
    unfold mp_X12_step_94
    have n10 : nI (b (T 17 f.1 + f.2.1)) = 10 ↔ b (T 17 f.1 + f.2.1) = 10 := nI_eq (b := 10) (by omega) (by omega)
    have n11 : nI (b (T 17 f.1 + f.2.1)) = 11 ↔ b (T 17 f.1 + f.2.1) = 11 := nI_eq (b := 11) (by omega) (by omega)
    exact ⟨fun z => st106 (Or.inl (n10.mp z)), fun _ => ⟨fun _ => st120, fun z => st106 (Or.inr (n11.mp z))⟩⟩
/-- division by zero -/
theorem M_dz (hw : wf T b) (Y : MH μ T b k lim md cy rch n N (f :: r) 0 1 sb) (S : stp T h k lim md rch n N (f :: r) ids sb) (hin : inC T f.1 (T 17 f.1 + f.2.1)) (h4 : T 4 (T 17 f.1 + f.2.1) = 1) (ho : b (T 17 f.1 + f.2.1) = 10 ∨ b (T 17 f.1 + f.2.1) = 11) (hh : 1 ≤ f.2.2.1) (hy : f.2.2.2 (T 15 f.1 + f.2.2.1 - 1) = .inl 0)
    (h0 : rch ≤ k * md → lim < rch → mNO μ K T b k lim md cy rch n N (f :: r) sb)
    (hK : ¬ (rch ≤ k * md ∧ lim < rch) → mOK μ K T b k lim (mm k lim md rch (1 + T 6 (T 10 2))) (mcy k lim md rch cy (1 + T 6 (T 10 2))) (mr T N (f :: r) ids k lim md rch (1 + T 6 (T 10 2))) (n + 1) (va_up N n (nob T (T 10 2))) (f :: r) (n + 1) 1 sb) : mp_X12_step μ K := by
  obtain ⟨th, nd, bg, nt, us, s, y, hsb⟩ := Y
  refine m_pre hw y hin (by omega) (fun c1 c2 => by omega) (fun c1 c2 => by omega) (fun c1 => ?_)
  have st106 : mp_X12_step_106 K μ (nI (T 17 f.1 + f.2.1)) (nI (b (T 17 f.1 + f.2.1))) := by
    unfold mp_X12_step_106
    refine k_val (j := 0) hw y (by omega) ?_
    rw [show T 15 f.1 + f.2.2.1 - 1 - 0 = T 15 f.1 + f.2.2.1 - 1 by omega, hy, vM_i]
    exact ⟨fun z => absurd rfl z, fun _ => k_flt (q := 2) hw y hsb S stM_r (by decide) h0 hK⟩
  unfold mp_X12_step_94
  have n10 : nI (b (T 17 f.1 + f.2.1)) = 10 ↔ b (T 17 f.1 + f.2.1) = 10 := nI_eq (b := 10) (by omega) (by omega)
  have n11 : nI (b (T 17 f.1 + f.2.1)) = 11 ↔ b (T 17 f.1 + f.2.1) = 11 := nI_eq (b := 11) (by omega) (by omega)
  exact ⟨fun z => st106, fun z => ⟨fun z2 => absurd ho (fun q => by rcases q with q | q; exact z (n10.mpr q); exact z2 (n11.mpr q)), fun _ => st106⟩⟩
end
