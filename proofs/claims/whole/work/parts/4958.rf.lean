/-! ===== how a step of the reference begins; faults ===== -/
def MH (μ : sm_S) (T : Nat → Nat → Nat) (b : Nat → Nat) (k lim md cy rch n : Nat) (N : Nat → AN) (fs : List AF) (fl st sb : Nat) : Prop := ∃ th nd bg nt us s, RMg μ T b k lim md cy rch n N fs fl st th nd bg nt us s ∧ s ≤ sb
def mOK (μ : sm_S) (K : jk) (T : Nat → Nat → Nat) (b : Nat → Nat) (k lim md cy rch n : Nat) (N : Nat → AN) (fs : List AF) (fl st sb : Nat) : Prop := ∀ μ', MH μ' T b k lim md cy rch n N fs fl st (sb + 2) → stM μ μ' → K 1 μ'
def mNO (μ : sm_S) (K : jk) (T : Nat → Nat → Nat) (b : Nat → Nat) (k lim md cy rch n : Nat) (N : Nat → AN) (fs : List AF) (sb : Nat) : Prop := ∀ μ', MH μ' T b k lim md cy rch n N fs 0 4 (sb + 2) → stM μ μ' → K 0 μ'
/-- what a step of the reference may rely on -/
def stp (T : Nat → Nat → Nat) (h k lim md rch n : Nat) (N : Nat → AN) (fs : List AF) (ids : List Nat) (sb : Nat) : Prop := rls T N fs ids ∧ ACb h k lim rch md ∧ sumL (fun i => 1 + npt T (N i)) ids ≤ 130000 ∧ npo T n N ∧ sb + 3 < 2 ^ 31
section
variable {μ μ' μ0 : sm_S} {T : Nat → Nat → Nat} {b : Nat → Nat} {h k lim md cy rch n sb : Nat} {N : Nat → AN} {f : AF} {r fs : List AF} {fl st : Nat} {th nd bg : Nat → Nat} {nt us s : Nat} {ids : List Nat} {K : jk}
theorem mOK.z (hh : mOK μ K T b k lim md cy rch n N fs fl st sb) : mOK μ (fun r s => sm_z r ∧ K r s) T b k lim md cy rch n N fs fl st sb := fun μ' a c => ⟨sm_z1, hh μ' a c⟩
theorem mNO.z (hh : mNO μ K T b k lim md cy rch n N fs sb) : mNO μ (fun r s => sm_z r ∧ K r s) T b k lim md cy rch n N fs sb := fun μ' a c => ⟨sm_z0, hh μ' a c⟩
theorem npo_up {x : AN} (np : npo T n N) (h1 : x.1 = 2 ∨ x.1 = 3 ∨ x.1 = 4) (h2 : x.1 = 2 → x.2.1 < T 0 0) (h3 : x.1 = 3 → x.2.1 ≤ 3375 ∧ x.2.2.1 ≤ T 0 0) (h4 : ∀ j, j < npt T x → (isP T x j ↔ ∃ v, x.2.2.2 j = .inr v)) : npo T (n + 1) (va_up N n x) := fun q hq => by
  by_cases e : q = n
  · rw [e, va_up_self]; exact ⟨h1, h2, h3, h4⟩
  · rw [va_up_ne _ _ e]; exact np q (by omega)
theorem prt_np {x : AN} (hp : prt0 T x) : ∀ j, j < npt T x → (isP T x j ↔ ∃ v, x.2.2.2 j = .inr v) := fun j hj => by
  obtain ⟨a, c⟩ := hp j hj
  refine ⟨fun z => ⟨0, a z⟩, fun ⟨v, hv⟩ => Classical.byContradiction (fun z => ?_)⟩
  rw [c z] at hv
  cases hv
theorem prt_ob (T : Nat → Nat → Nat) (c : Nat) : prt0 T (nob T c) := fun j _ => by
  have e : isP T (nob T c) j ↔ T 7 (15 * c + j) ≠ 0 := by unfold isP; rw [if_pos (show (nob T c).1 = 2 from rfl)]; exact Iff.rfl
  refine ⟨fun z => ?_, fun z => ?_⟩
  · show (if T 7 (15 * c + j) = 0 then _ else _) = _
    rw [if_neg (e.mp z)]
  · show (if T 7 (15 * c + j) = 0 then _ else _) = _
    rw [if_pos (Classical.byContradiction (fun q => z (e.mpr q)))]
theorem prt_rw (T : Nat → Nat → Nat) (it l : Nat) : prt0 T (nrw it l) := fun j _ => by
  have e : isP T (nrw it l) j ↔ it ≠ 0 ∨ dpt l ≠ 0 := by unfold isP; rw [if_neg (show ¬ (nrw it l).1 = 2 from by show ¬ (3 : Nat) = 2; decide), if_pos (show (nrw it l).1 = 3 from rfl)]; exact Iff.rfl
  refine ⟨fun z => ?_, fun z => ?_⟩
  · show (if it = 0 ∧ dpt l = 0 then _ else _) = _
    rw [if_neg (fun q => (e.mp z).elim (fun w => w q.1) (fun w => w q.2))]
  · show (if it = 0 ∧ dpt l = 0 then _ else _) = _
    rw [if_pos ⟨Classical.byContradiction (fun q => z (e.mpr (Or.inl q))), Classical.byContradiction (fun q => z (e.mpr (Or.inr q)))⟩]
theorem prt_ch (T : Nat → Nat → Nat) (l it : Nat) : prt0 T (nch l it) := fun j _ => by
  have e : isP T (nch l it) j ↔ it ≠ 0 ∨ l ≠ 0 := by unfold isP; rw [if_neg (show ¬ (nch l it).1 = 2 from by show ¬ (4 : Nat) = 2; decide), if_neg (show ¬ (nch l it).1 = 3 from by show ¬ (4 : Nat) = 3; decide)]; exact Iff.rfl
  refine ⟨fun z => ?_, fun z => ?_⟩
  · show (if it = 0 ∧ l = 0 then _ else _) = _
    rw [if_neg (fun q => (e.mp z).elim (fun w => w q.1) (fun w => w q.2))]
  · show (if it = 0 ∧ l = 0 then _ else _) = _
    rw [if_pos ⟨Classical.byContradiction (fun q => z (e.mpr (Or.inl q))), Classical.byContradiction (fun q => z (e.mpr (Or.inr q)))⟩]
theorem npo_ob {c : Nat} (np : npo T n N) (hc : c < T 0 0) : npo T (n + 1) (va_up N n (nob T c)) := npo_up np (Or.inl rfl) (fun _ => hc) (fun q => absurd q (by show ¬ (2 : Nat) = 3; decide)) (prt_np (prt_ob T c))
theorem npo_rw {it l : Nat} (np : npo T n N) (h1 : l ≤ 3375) (h2 : it ≤ T 0 0) : npo T (n + 1) (va_up N n (nrw it l)) := npo_up np (Or.inr (Or.inl rfl)) (fun q => absurd q (by show ¬ (3 : Nat) = 2; decide)) (fun _ => ⟨h1, h2⟩) (prt_np (prt_rw T it l))
theorem npo_ch {it l : Nat} (np : npo T n N) : npo T (n + 1) (va_up N n (nch l it)) := npo_up np (Or.inr (Or.inr rfl)) (fun q => absurd q (by show ¬ (4 : Nat) = 2; decide)) (fun q => absurd q (by show ¬ (4 : Nat) = 3; decide)) (prt_np (prt_ch T l it))
theorem k_obj {c : Nat} (hw : wf T b) (y : RMg μ T b k lim md cy rch n N fs 0 st th nd bg nt us s) (np : npo T n N) (hc : c < T 0 0) (hs : s + 1 < 2 ^ 31) (hr : rls T N fs ids) (hB : sumL (fun i => 1 + npt T (N i)) ids ≤ 130000)
    (hK : ∀ μ' th' nd' bg' nt' us' s', RMg μ' T b k lim md cy rch (n + 1) (va_up N n (nob T c)) fs 0 st th' nd' bg' nt' us' s' → s' ≤ s + 1 → inT th' nd' nt' n → (∀ q, q ∈ ids → inT th' nd' nt' q) → stM μ μ' → K (nI (th' n)) μ') : mp_X12_object μ (nI c) K := by
  unfold mp_X12_object
  exact k_thing hw y np (npo_ob np hc) ⟨rfl, fun _ => rfl, fun q => absurd rfl q, fun q => absurd q (by show ¬ (2 : Nat) = 3; decide)⟩ (prt_ob T c) hs hr hB hK
theorem RMg.st4 (y : RMg μ T b k lim md cy rch n N fs fl st th nd bg nt us s) {st' : Nat} {v : Int32} (hv : v = nI st') : RMg (sm_i μ 17 v) T b k lim md cy rch n N fs fl st' th nd bg nt us s ∧ stM μ (sm_i μ 17 v) := by
  obtain ⟨y1, y2, y3, ⟨i21, i22, i23, l2, i24, i17⟩, y5⟩ := y
  have sm : stM μ (sm_i μ 17 v) := stM_r.i (by omega)
  exact ⟨⟨y1.c (sm.im y1.1) (sm.ln y1.2.1) (fun _ _ _ _ _ => rfl) (fun k hk => va_up_ne _ _ (by omega)), y2, y3, ⟨i21, i22, i23, l2, i24, hv⟩, y5⟩, sm⟩
theorem k_no (y : RMg μ T b k lim md cy rch n N fs 0 st th nd bg nt us s) (hs : s ≤ sb + 2) (sm : stM μ0 μ) (hh : mNO μ0 K T b k lim md cy rch n N fs sb) : mp_X12_noRoom μ (fun r s => sm_z r ∧ K r s) := by
  unfold mp_X12_noRoom
  intro s1 e1
  obtain ⟨a, c⟩ := y.st4 (st' := 4) (v := 4) rfl
  rw [← e1] at a c
  exact ⟨sm_z0, hh s1 ⟨th, nd, bg, nt, us, s, a, hs⟩ (sm.t c)⟩
theorem RMg.fly (y : RMg μ T b k lim md cy rch n N fs 0 st th nd bg nt us s) {q : Nat} (hq : inT th nd nt q) : RMg (sm_i (sm_i μ 15 1) 16 (nI (th q))) T b k lim md cy rch n N fs (q + 1) st th nd bg nt us s ∧ stM μ (sm_i (sm_i μ 15 1) 16 (nI (th q))) := by
  obtain ⟨y1, y2, y3, y4, y5⟩ := y
  have sm : stM μ (sm_i (sm_i μ 15 1) 16 (nI (th q))) := (stM_r.i (by omega)).i (by omega)
  exact ⟨⟨y1.c (sm.im y1.1) (sm.ln y1.2.1) (fun _ _ _ _ _ => rfl) (fun k hk => (va_up_ne _ _ (by omega)).trans (va_up_ne _ _ (by omega))), y2, y3, y4, Or.inr ⟨by omega, rfl, hq, rfl⟩⟩, sm⟩
/-- a fault -/
theorem k_flt {q : Nat} (hw : wf T b) (y : RMg μ T b k lim md cy rch n N fs 0 1 th nd bg nt us s) (hs : s ≤ sb) (S : stp T h k lim md rch n N fs ids sb) (sm : stM μ0 μ) (hq : q < 5)
    (h0 : rch ≤ k * md → lim < rch → mNO μ0 K T b k lim md cy rch n N fs sb)
    (hK : ¬ (rch ≤ k * md ∧ lim < rch) → mOK μ0 K T b k lim (mm k lim md rch (1 + T 6 (T 10 q))) (mcy k lim md rch cy (1 + T 6 (T 10 q))) (mr T N fs ids k lim md rch (1 + T 6 (T 10 q))) (n + 1) (va_up N n (nob T (T 10 q))) fs (n + 1) 1 sb) : mp_X12_fault μ (nI q) (fun r s => sm_z r ∧ K r s) := by
  obtain ⟨S1, S2, S3, S4, S5⟩ := S
  have im := y.1.1
  have w32 := hw.2.1
  have hc := hw.2.2.2.2.2.2.2.1 q hq
  have w6 := (hw.2.2.2.2.2.2.1 _ hc).2.1
  have r10 := im.2.2.2.2.2.2.1.2.2 q hq
  have r6 := (im.2.2.2.2.2.2.1.1 _ hc).2.1
  unfold mp_X12_fault
  rw [nI_clamp (by omega), r10]
  refine ⟨by rw [show μ.2.2.1 10 = 5 from im.2.1.2.2.2.2.2.2.1]; exact vp_in_nI hq (by decide), ?_⟩
  intro v2 e2
  rw [e2, nI_clamp (by omega), r6, nI_1a]
  refine ⟨by rw [show μ.2.2.1 6 = 32 from im.2.1.2.2.1]; exact vp_in_nI (by omega) (by decide), ?_⟩
  refine k_mk hw y S4 S2 (by omega) (by omega) S1 (fun a1 a2 => ⟨fun z => absurd rfl z, fun _ => ?_⟩) (fun ns μ1 s1 y1 hs1 sm1 => ⟨fun _ => ?_, fun z => absurd z (by decide)⟩)
  · unfold mp_X12_noRoom
    intro s3 e3
    obtain ⟨a, c⟩ := y.st4 (st' := 4) (v := 4) rfl
    rw [← e3] at a c
    exact ⟨sm_z0, sm_z0, h0 a1 a2 s3 ⟨th, nd, bg, nt, us, s, a, by omega⟩ (sm.t c)⟩
  · refine k_obj hw y1 S4 hc (by omega) S1 S3 (fun μ2 th2 nd2 bg2 nt2 us2 s2 y2 hs2 i2 j2 sm2 => ?_)
    intro s9 e9 s10 e10
    obtain ⟨a, c⟩ := y2.fly i2
    rw [← e9, ← e10] at a c
    exact ⟨sm_z1, hK ns s10 ⟨_, _, _, _, _, _, a, by omega⟩ (((sm.t sm1).t sm2).t c)⟩
/-- an instruction of the reference -/
theorem m_pre (hw : wf T b) (y : RMg μ T b k lim md cy rch n N (f :: r) 0 1 th nd bg nt us s) (hin : inC T f.1 (T 17 f.1 + f.2.1)) (ho : b (T 17 f.1 + f.2.1) < 42)
    (h1 : 19 ≤ b (T 17 f.1 + f.2.1) → b (T 17 f.1 + f.2.1) ≤ 25 → mp_X12_jump μ (nI (T 17 f.1 + f.2.1)) (nI (b (T 17 f.1 + f.2.1))) (fun s => K 1 s))
    (h2 : 26 ≤ b (T 17 f.1 + f.2.1) → b (T 17 f.1 + f.2.1) ≤ 39 → mp_X12_doThings μ (nI (T 17 f.1 + f.2.1)) (nI (b (T 17 f.1 + f.2.1))) (fun r s => sm_z r ∧ K r s))
    (h3 : b (T 17 f.1 + f.2.1) ≤ 18 ∨ 40 ≤ b (T 17 f.1 + f.2.1) → mp_X12_step_94 K μ (nI (T 17 f.1 + f.2.1)) (nI (b (T 17 f.1 + f.2.1)))) : mp_X12_step μ K := by
  obtain ⟨t, f1, f2, f3, f4, f5, f6, f7⟩ := y.ti hw
  have t3 := t.2.2.1
  have t4 := t.2.2.2.1
  have im := t.1
  have w4 := hw.2.2.2.1
  have w8 := hw.2.2.2.2.1
  have yy := hw.2.2.2.2.2.2.2.2.1 f.1 f2
  have y11 := yy.2.2.2.2.2.2.2.2.2.2.1
  have y12 := yy.2.2.2.2.2.2.2.2.2.2.2.1
  clear yy
  have i15 : μ.1 15 = 0 := by
    rcases y.2.2.2.2 with q | q
    · exact q.2
    · exact absurd rfl q.1
  have r17 := (im.2.2.2.2.2.2.2 f.1 f2).2.2.2.2.2.2.1
  unfold mp_X12_step
  rw [i15]
  refine ⟨fun _ => ?_, fun z => absurd rfl z⟩
  refine k_met hw t ?_
  have hin2 := hin.2
  rw [t3, nI_pred, nI_clamp (by omega), nI_clamp (by omega), r17, f3, nI_add]
  refine ⟨by rw [show μ.2.2.1 17 = 64 from im.2.1.2.2.2.2.2.2.2.2.2.2.2.2.2.1]; exact vp_in_nI (by omega) (by decide), by rw [lr34 t.2.1]; exact vp_in_nI t4 (by decide), ?_⟩
  intro v21 e21
  rw [e21, nI_clamp (by omega)]
  refine ⟨by rw [im.1.2.2.1]; exact vp_in_nI (by omega) (by decide), ?_⟩
  intro v23 e23
  rw [im.1.2.2.2.2 _ (by omega)] at e23
  rw [e23]
  generalize hpe : T 17 f.1 + f.2.1 = p at *
  have nlt : ∀ a : Nat, a < 2 ^ 31 → ((nI (b p) < nI a) ↔ b p < a) := fun a ha => nI_ltI (by omega) ha
  have ngt : ∀ a : Nat, a < 2 ^ 31 → ((nI a < nI (b p)) ↔ a < b p) := fun a ha => nI_ltI ha (by omega)
  have nle : ∀ a : Nat, a < 2 ^ 31 → ((nI (b p) ≤ nI a) ↔ b p ≤ a) := fun a ha => nI_leI (by omega) ha
  have rest : b p < 19 ∨ 25 < b p → ((nI (b p) < 26 → (mp_X12_step_75 K μ (nI p) (nI (b p)))) ∧ (¬ nI (b p) < 26 → ((nI (b p) ≤ 36 → (mp_X12_step_87 K μ (nI p) (nI (b p)))) ∧ (¬ nI (b p) ≤ 36 → (mp_X12_step_75 K μ (nI p) (nI (b p))))))) := fun hc => by
    refine ⟨fun z => ?_, fun z => ⟨fun z2 => ?_, fun z2 => ?_⟩⟩
    · have c := (nlt 26 (by decide)).mp z
      unfold mp_X12_step_75
      exact ⟨fun _ => h3 (by omega), fun q => absurd ((nlt 37 (by decide)).mpr (by omega)) q⟩
    · have c : ¬ b p < 26 := fun q => z ((nlt 26 (by decide)).mpr q)
      have c2 := (nle 36 (by decide)).mp z2
      unfold mp_X12_step_87
      exact h2 (by omega) (by omega)
    · have c2 : ¬ b p ≤ 36 := fun q => z2 ((nle 36 (by decide)).mpr q)
      unfold mp_X12_step_75 mp_X12_step_87
      refine ⟨fun q => absurd ((nlt 37 (by decide)).mp q) (by omega), fun _ => ⟨fun q => h3 (Or.inr ?_), fun q => h2 (by omega) ?_⟩⟩
      · have := (ngt 39 (by decide)).mp q
        omega
      · have : ¬ 39 < b p := fun z => q ((ngt 39 (by decide)).mpr z)
        omega
  unfold mp_X12_isJump mp_X12_isJump_16 mp_X12_isJump_17
  refine ⟨fun z => ⟨sm_z0, fun _ => rest (Or.inl ((nlt 19 (by decide)).mp z)), fun q => absurd rfl q⟩, fun z => ⟨fun z2 => ⟨sm_z0, fun _ => rest (Or.inr ((ngt 25 (by decide)).mp z2)), fun q => absurd rfl q⟩, fun z2 => ⟨sm_z1, fun q => absurd q (by decide), fun _ => ?_⟩⟩⟩
  have c1 : ¬ b p < 19 := fun q => z ((nlt 19 (by decide)).mpr q)
  have c2 : ¬ 25 < b p := fun q => z2 ((ngt 25 (by decide)).mpr q)
  exact h1 (by omega) (by omega)
end
