/-! ===== TO: the reference ===== -/
section
variable {μ μ' μ0 : sm_S} {T : Nat → Nat → Nat} {b : Nat → Nat} {h k lim md cy rch n sb : Nat} {N : Nat → AN} {f : AF} {r fs : List AF} {fl st : Nat} {th nd bg : Nat → Nat} {nt us s : Nat} {ids : List Nat} {K : jk}
theorem D_to {v : Nat} {xi : Int32} (hw : wf T b) (y : RMg μ T b k lim md cy rch n N (f :: r) 0 1 th nd bg nt us s) (hsb : s ≤ sb) (S : stp T h k lim md rch n N (f :: r) ids sb) (hin : inC T f.1 (T 17 f.1 + f.2.1)) (h4 : T 4 (T 17 f.1 + f.2.1) = 1) (ho : b (T 17 f.1 + f.2.1) = 34) (hh : 3 ≤ f.2.2.1 ∧ f.2.2.1 ≤ T 16 f.1) (hv : f.2.2.2 (T 15 f.1 + f.2.2.1 - 3) = .inr v) (hxi : f.2.2.2 (T 15 f.1 + f.2.2.1 - 2) = .inl xi) (hj : ∀ q, v = q + 1 → (N q).1 = 3)
    (h0 : ∀ e, (v = 0 ∧ e = 0) ∨ (e = 1 ∧ ∃ q, v = q + 1 ∧ ¬ ∃ i, i < (N q).2.1 ∧ xi = nI i) → rch ≤ k * md → lim < rch → mNO μ K T b k lim md cy rch n N (f :: r) sb)
    (h1 : ∀ e, (v = 0 ∧ e = 0) ∨ (e = 1 ∧ ∃ q, v = q + 1 ∧ ¬ ∃ i, i < (N q).2.1 ∧ xi = nI i) → ¬ (rch ≤ k * md ∧ lim < rch) → mOK μ K T b k lim (mm k lim md rch (1 + T 6 (T 10 e))) (mcy k lim md rch cy (1 + T 6 (T 10 e))) (mr T N (f :: r) ids k lim md rch (1 + T 6 (T 10 e))) (n + 1) (va_up N n (nob T (T 10 e))) (f :: r) (n + 1) 1 sb)
    (hK : ∀ q i, v = q + 1 → i < (N q).2.1 → xi = nI i → ∃ q' j lk, pth T N (dpt (N q).2.1) q i q' j lk ∧ (lk = 0 → mOK μ K T b k lim md cy rch n (va_up N q' (npu (N q') j (f.2.2.2 (T 15 f.1 + f.2.2.1 - 1)))) ((f.1, f.2.1 + 1, f.2.2.1 - 3, f.2.2.2) :: r) 0 1 sb) ∧ (lk ≠ 0 → ¬ (rch ≤ k * md ∧ lim < rch) → mOK μ K T b k lim (mm k lim md rch 16) (mcy k lim md rch cy 16) (mr T N (f :: r) ids k lim md rch 16) (n + 1) (va_up (va_up N n (nch (lk - 1) (N q).2.2.1)) q' (npu (N q') j (.inr (n + 1)))) (f :: r) 0 1 sb) ∧ (lk ≠ 0 → rch ≤ k * md → lim < rch → mNO μ K T b k lim md cy rch n N (f :: r) sb)) : TD K μ (nI (T 17 f.1 + f.2.1)) (nI (b (T 17 f.1 + f.2.1))) (nI (b (T 17 f.1 + f.2.1 + 1))) (nI (b (T 17 f.1 + f.2.1 + 2))) := by
  have S0 := S
  obtain ⟨S1, S2, S3, S4, S5⟩ := S0
  obtain ⟨t, f1, f2, f3, f4, f5, f6, f7⟩ := y.ti hw
  obtain ⟨o1, o2, o3, o4, o5, o6⟩ := opB hw f2 hin h4
  have w32 := hw.2.1
  have hnt : nt ≤ 140000 := y.1.2.2.1.2.1
  have hin2 := hin.2
  have hw2 : wd (b (T 17 f.1 + f.2.1)) = 1 := by rw [ho]; rfl
  have e10 : T 15 f.1 + f.2.2.1 - 1 - 0 = T 15 f.1 + f.2.2.1 - 1 := by omega
  have e11 : T 15 f.1 + f.2.2.1 - 1 - 1 = T 15 f.1 + f.2.2.1 - 2 := by omega
  have e12 : T 15 f.1 + f.2.2.1 - 1 - 2 = T 15 f.1 + f.2.2.1 - 3 := by omega
  have hvi : ∀ q, v = q + 1 → inT th nd nt q := fun q e => y.vi hw (by omega) (hv.trans (by rw [e]))
  rw [ho]
  refine td_34 ?_
  unfold mp_X12_doRow
  refine ⟨fun _ => ⟨fun _ => ⟨fun _ => ?_, fun z => absurd z (by decide)⟩, fun z => absurd z (by decide)⟩, fun z => absurd z (by decide)⟩
  unfold mp_X12_doRow_113
  refine k_val (j := 2) hw y (by omega) ?_
  rw [e12, hv]
  refine ⟨fun z => ⟨fun _ => ⟨fun _ => ?_, fun q => absurd q (by decide)⟩, fun q => absurd q (by decide)⟩, fun z => ?_⟩
  · cases v with
    | zero => exact absurd rfl z
    | succ q =>
      have hq := hvi q rfl
      have hk := hj q rfl
      obtain ⟨a1, a2, a3, a4, a5⟩ := y.tg hq
      obtain ⟨n1, n2, n3, n4⟩ := S4 q a1
      have hn3 := n3 hk
      unfold mp_X12_doRow_171
      refine k_val (j := 1) hw y (by omega) ?_
      rw [e11, hxi, vM_i, vM_s]
      have bad : (¬ ∃ i, i < (N q).2.1 ∧ xi = nI i) → mp_X12_doRow_193 (fun r s => sm_z r ∧ K r s) μ := fun hb => by
        unfold mp_X12_doRow_193
        exact k_flt (q := 1) hw y hsb S stM_r (by decide) (fun a c => (h0 1 (Or.inr ⟨rfl, q, rfl, hb⟩) a c).z) (fun a => (h1 1 (Or.inr ⟨rfl, q, rfl, hb⟩) a).z)
      refine ⟨fun z => bad (fun ⟨i, j1, j2⟩ => by rw [j2] at z; exact nI_neg (by omega) z), fun z1 => ⟨by rw [lr26 t.2.1]; exact vp_in_nI a4 (by decide), ?_⟩⟩
      rw [nI_clamp (by omega), a2.2.1 (by omega)]
      refine ⟨fun z2 => ?_, fun z => bad (fun ⟨i, j1, j2⟩ => z (by rw [j2]; exact nI_lt j1 (by omega)))⟩
      clear bad h1 h0
      obtain ⟨i, i1, i2⟩ := nI_of z1
      rw [i2] at z2
      have hi : i < (N q).2.1 := (nI_ltI i1 (by omega)).mp z2
      obtain ⟨q', j, lk, hp, hK1, hK2, hK0⟩ := hK q i rfl hi i2
      have pe := pth_end _ _ _ _ _ _ hp
      rw [i2]
      refine k_item y S4 hq hk hp (by omega) (fun l0 hq' => ?_) (fun l0 hq' => ?_)
      · obtain ⟨c1, c2, c3, c4, c5⟩ := y.tg hq'
        have nm1 : ¬ nI (bg (th q') + j) = -1 := nI_m1 (by omega)
        have go : ∀ y0 : Int32, mp_X12_doRow_224 (fun r s => sm_z r ∧ K r s) μ (nI (T 17 f.1 + f.2.1)) (nI 34) (nI i) (nI (bg (th q') + j)) y0 := fun y0 => by
          unfold mp_X12_doRow_224
          refine ⟨fun _ => ⟨fun _ => ?_, fun q => absurd q nm1⟩, fun q => absurd q (by decide)⟩
          refine k_val (j := 0) hw y (by omega) ?_
          rw [e10, nI_clamp (by omega)]
          refine ⟨by rw [lr31 t.2.1]; exact vp_in_nI (by omega) (by decide), ?_⟩
          intro s19 e19
          obtain ⟨y1, sm1⟩ := y.wn (q := q') (j := j) (v := f.2.2.2 (T 15 f.1 + f.2.2.1 - 1)) hq' (by omega) (fun k' e => (f7 _ (by omega)).2.2 k' e)
          rw [← e19] at y1 sm1
          refine k_drop (j := 3) hw y1 hh.1 (fun μ2 y2 sm2 => ?_)
          refine k_on hw y2 (by omega) o6 (by show f.2.1 + _ < _; omega) (fun μ3 y3 sm3 => ?_)
          exact ⟨sm_z1, hK1 l0 μ3 ⟨_, _, _, _, _, _, y3.eq0 (by show f.2.1 + _ = _; omega) rfl, by omega⟩ (sm1.t (sm2.t sm3))⟩
        exact ⟨by rw [lr28 t.2.1]; exact vp_in_nI a4 (by decide), fun _ => go 0, fun _ => go 1⟩
      · obtain ⟨y1, sm1⟩ := y.ic (c := bg (th q') + j) (lk := lk)
        have q'n := (y.tg hq').1
        have a28 : (icS μ (bg (th q') + j) lk).2.2.2.1 28 (th q) = nI (N q).2.2.1 := a2.2.2.2.1 hk
        have l28 : (icS μ (bg (th q') + j) lk).2.2.1 28 = 140000 := lr28 t.2.1
        have i27 : (icS μ (bg (th q') + j) lk).1 27 = (if lk = 1 then 1 else 0) := rfl
        have ip : isP T (nch (lk - 1) (N q).2.2.1) 0 ↔ ((N q).2.2.1 ≠ 0 ∨ lk - 1 ≠ 0) := by
          unfold isP nch
          rw [if_neg (by show ¬ (4 : Nat) = 2; decide), if_neg (by show ¬ (4 : Nat) = 3; decide)]
        generalize hic : icS μ (bg (th q') + j) lk = μi at *
        have go : ∀ y0 : Int32, ((y0 = 0 ∧ (N q).2.2.1 = 0) ∨ (y0 = 1 ∧ (N q).2.2.1 ≠ 0)) → mp_X12_doRow_224 (fun r s => sm_z r ∧ K r s) μi (nI (T 17 f.1 + f.2.1)) (nI 34) (nI i) (-1) y0 := fun y0 hy => by
          unfold mp_X12_doRow_224
          refine ⟨fun _ => ⟨fun q => absurd rfl q, fun _ => ?_⟩, fun q => absurd q (by decide)⟩
          rw [l_16]
          refine k_mk27 hw y1 S4 S2 (by omega) (by omega) S1 (fun u1 u2 => ⟨fun z => absurd rfl z, fun _ => k_no y1 (by omega) sm1 (hK0 l0 u1 u2).z⟩) (fun ns μ2 s2 y2 hs2 sm2 j27 => ⟨fun _ => ?_, fun z => absurd z (by decide)⟩)
          have g328 : ∀ p3 : Int32, ((isP T (nch (lk - 1) (N q).2.2.1) 0 → p3 = 1) ∧ (¬ isP T (nch (lk - 1) (N q).2.2.1) 0 → p3 = 0)) → mp_X12_doRow_328 (fun r s => sm_z r ∧ K r s) μ2 (nI i) 2 0 p3 := fun p3 hp3 => by
            unfold mp_X12_doRow_328
            refine k_thing hw y2 S4 (npo_ch S4) ⟨rfl, fun q => absurd rfl q, fun _ => hp3, fun q => absurd q (by show ¬ (4 : Nat) = 3; decide)⟩ (prt_ch T _ _) (by omega) S1 S3 (fun μ3 th3 nd3 bg3 nt3 us3 s3 y3 hs3 i3 j3 sm3 => ?_)
            have hN : ∀ u, u < n → va_up N n (nch (lk - 1) (N q).2.2.1) u = N u := fun u hu => va_up_ne _ _ (by omega)
            have qid : q ∈ ids := S1.2.1 f _ q List.mem_cons_self (by omega) hv
            have hq3 := j3 q qid
            obtain ⟨hp3', -⟩ := pth_up (N' := va_up N n (nch (lk - 1) (N q).2.2.1)) (L := fun u => u ∈ ids) (fun u hu => hN u ((y.tg (y.1.in S1 u hu)).1)) (fun a c d h1 h2 h3 => S1.2.2.1 a c d h1 h2 h3) _ _ _ _ _ _ qid hp
            have np3 := npo_ch (it := (N q).2.2.1) (l := lk - 1) S4
            refine k_val (j := 2) hw y3 (by omega) ?_
            rw [e12, hv, vM_s]
            have ekq := hN q a1
            refine k_item y3 np3 hq3 (by rw [ekq]; exact hk) (by rw [ekq]; exact hp3') (by omega) (fun z => absurd z l0) (fun _ hq'3 => ?_)
            obtain ⟨y4, sm4⟩ := y3.ic (c := bg3 (th3 q') + j) (lk := lk)
            have b3 := y3.tg hq'3
            have enq : va_up N n (nch (lk - 1) (N q).2.2.1) q' = N q' := hN q' q'n
            rw [enq] at b3
            have i26 : (icS μ3 (bg3 (th3 q') + j) lk).1 26 = nI (bg3 (th3 q') + j) := rfl
            have l31 := lr31 y4.1.2.1
            rw [i26, nI_clamp (by omega), l31]
            refine ⟨vp_in_nI (by omega) (by decide), ?_⟩
            intro s8 e8
            obtain ⟨y5, sm5⟩ := y4.wn (q := q') (j := j) (v := .inr (n + 1)) hq'3 (by rw [enq]; omega) (fun k' e => by cases e; exact i3)
            rw [vM_s, ← e8, enq] at y5
            rw [vM_s, ← e8] at sm5
            exact ⟨sm_z1, hK2 l0 ns s8 ⟨_, _, _, _, _, _, y5, by omega⟩ (sm1.t (sm2.t (sm3.t (sm4.t sm5))))⟩
          rw [j27, i27]
          refine ⟨fun z => g328 1 ⟨fun _ => rfl, fun q => absurd (ip.mpr (Or.inr ?_)) q⟩, fun z => g328 y0 ⟨fun q => ?_, fun q => ?_⟩⟩
          · have : lk ≠ 1 := fun e => absurd z (by rw [if_pos e]; decide)
            omega
          · have e1 : lk = 1 := by
              by_cases e : lk = 1
              · exact e
              · exact absurd (by rw [if_neg e]) z
            rcases hy with c | c
            · have := ip.mp q
              omega
            · exact c.1
          · rcases hy with c | c
            · exact c.1
            · exact absurd (ip.mpr (Or.inl c.2)) q
        rw [a28, l28]
        refine ⟨vp_in_nI a4 (by decide), fun z => go 0 (Or.inl ⟨rfl, ?_⟩), fun z => go 1 (Or.inr ⟨rfl, fun e => z (by rw [e]; decide)⟩)⟩
        have := (nI_leI (b := 0) (by omega) (by omega)).mp z
        omega
  · have v0 := (vM_n hnt hvi).mp z
    exact k_flt (q := 0) hw y hsb S stM_r (by decide) (fun a c => (h0 0 (Or.inl ⟨v0, rfl⟩) a c).z) (fun a => (h1 0 (Or.inl ⟨v0, rfl⟩) a).z)
end
