/-! ===== the invariant, and every call ===== -/
/-- what is left of the room: calls, tape, rows -/
def pot (k : Nat) (σ : sm_S) : Nat := 640 * (512 - k) + 32 * (σ.1 35).toNatClampNeg + (32000 - 2 * σ.2.2.1 36) + (960516 - 2 * σ.2.2.1 17)
def ivr (T : Nat → Nat → Nat) (b : Nat → Nat) (H Y : Nat → Nat → Nat) (k : Nat) (σ μ : sm_S) : Prop := ∃ (h q lim : Nat) (a : OC) (sb : Nat), XH σ T b h q lim a.1 a.2.1 a.2.2.1 a.2.2.2.1 a.2.2.2.2.1 a.2.2.2.2.2.1 a.2.2.2.2.2.2.1 a.2.2.2.2.2.2.2 ∧ MH μ T b q lim a.1 a.2.1 a.2.2.1 a.2.2.2.1 a.2.2.2.2.1 a.2.2.2.2.2.1 a.2.2.2.2.2.2.1 a.2.2.2.2.2.2.2 sb ∧ WA T b H Y a ∧ a.2.2.2.2.2.2.2 ≤ 4 ∧ a.2.2.2.2.2.2.2 ≠ 0 ∧ σ.2.1 1 = μ.2.1 0 ∧ sb ≤ 50000 * k
def ivm (k : Nat) (σ μ : sm_S) : Prop := σ.1 36 = 1 ∧ μ.1 4 = 1 ∧ ∃ T b H Y, vbs σ μ T b ∧ wf T b ∧ lkd T b ∧ vOK T b H Y ∧ (∀ m, m < T 0 1 → fin σ μ T b m) ∧ ((σ.1 22 = 0 ∧ μ.1 17 = 0) ∨ ivr T b H Y k σ μ)
def ivI (k : Nat) (σ μ : sm_S) : Prop := (σ.1 36 = 0 ∧ μ.1 4 = 0 ∧ σ.1 22 = 0 ∧ μ.1 17 = 0) ∨ ivm k σ μ
def ivB (k : Nat) (σ μ : sm_S) : Prop := iv_tape σ μ ∧ pts σ μ (20000 * k) ∧ iml σ μ ∧ lnR μ ∧ σ.2.2.1 17 ≤ 480258
def whI (k : Nat) (σ μ : sm_S) (C S : Nat) : Prop := 5 * (512 - k) ≤ C ∧ pot k σ ≤ S ∧ ivB k σ μ ∧ ivI k σ μ
section
variable {σ σ' μ μ' : sm_S} {k C S C' S' : Nat}
theorem pot_e (e1 : σ'.1 35 = σ.1 35) (e2 : σ'.2.2.1 36 = σ.2.2.1 36) (e3 : σ'.2.2.1 17 = σ.2.2.1 17) : pot k σ' = pot k σ := by unfold pot; rw [e1, e2, e3]
theorem pot_n : pot (k + 1) σ ≤ pot k σ := by unfold pot; omega
theorem pts.m {B B' : Nat} (p : pts σ μ B) (h : B ≤ B') : pts σ μ B' := by
  obtain ⟨i, g, tk, a1, a2, a3⟩ := p
  exact ⟨i, g, tk, a1, by omega, a3⟩
theorem ivI.q (I : ivI k σ μ) (e : keX σ σ') (f : keM μ μ') : ivI (k + 1) σ' μ' := by
  have e36 := e.2.2.2.2 36 (by decide) (by decide) (by decide)
  have e22 := e.2.2.2.2 22 (by decide) (by decide) (by decide)
  have f4 := f.2.2.2 4 (by decide) (by decide) (by decide) (by decide)
  have f17 := f.2.2.2 17 (by decide) (by decide) (by decide) (by decide)
  rcases I with ⟨a1, a2, a3, a4⟩ | ⟨a1, a2, T, b, H, Y, v1, v2, v3, v4, v5, v6⟩
  · exact Or.inl ⟨e36.trans a1, f4.trans a2, e22.trans a3, f17.trans a4⟩
  · refine Or.inr ⟨e36.trans a1, f4.trans a2, T, b, H, Y, v1.cb e.ba f.ba, v2, v3, v4, fun m hm => (v5 m hm).cb e.ba f.ba, ?_⟩
    rcases v6 with ⟨c1, c2⟩ | ⟨h, q, lim, a, sb, c1, c2, c3, c4, c5, c6, c7⟩
    · exact Or.inl ⟨e22.trans c1, f17.trans c2⟩
    · exact Or.inr ⟨h, q, lim, a, sb, c1.q e, c2.q f, c3, c4, c5, by rw [e.2.2.2.1, f.2.2.1]; exact c6, by omega⟩
theorem whI.q (I : whI k σ μ C S) (e : keX σ σ') (f : keM μ μ') (t : iv_tape σ' μ') (p : pts σ' μ' (20000 * (k + 1))) (hC : 5 * (512 - (k + 1)) ≤ C') (hS : pot (k + 1) σ' ≤ S') : whI (k + 1) σ' μ' C' S' :=
  ⟨hC, hS, ⟨t, p, I.2.2.1.2.2.1.cb e.ba f.ba, I.2.2.1.2.2.2.1.cb f.ba, by rw [e.1 17 (by decide)]; exact I.2.2.1.2.2.2.2⟩, I.2.2.2.q e f⟩
theorem whI.n (I : whI k σ μ C S) : whI (k + 1) σ μ C S :=
  I.q keX_r keM_r I.2.2.1.1 (I.2.2.1.2.1.m (by omega)) (by have := I.1; omega) (Nat.le_trans pot_n I.2.1)
theorem ivI.st (I : ivI k σ μ) : (σ.1 22 = 0 ∧ μ.1 17 = 0) ∨ ∃ T b H Y, vbs σ μ T b ∧ wf T b ∧ lkd T b ∧ vOK T b H Y ∧ (∀ m, m < T 0 1 → fin σ μ T b m) ∧ ivr T b H Y k σ μ := by
  rcases I with ⟨a1, a2, a3, a4⟩ | ⟨a1, a2, T, b, H, Y, v1, v2, v3, v4, v5, v6⟩
  · exact Or.inl ⟨a3, a4⟩
  · rcases v6 with c | c
    · exact Or.inl c
    · exact Or.inr ⟨T, b, H, Y, v1, v2, v3, v4, v5, c⟩
theorem ivI.is (I : ivI k σ μ) : iv_state σ μ := by
  rcases I.st with ⟨a1, a2⟩ | ⟨T, b, H, Y, v1, v2, v3, v4, v5, h, q, lim, a, sb, c1, c2, c3, c4, c5, c6, c7⟩
  · exact ⟨0, by decide, a1, a2⟩
  · obtain ⟨L, B, F, S, R, C, C0, s0, ml, nb, z, lv, y, al, fas, x, x2, x3, x4, x5⟩ := c1
    obtain ⟨th, nd, bg, nt, us, s, ym, hs⟩ := c2
    exact ⟨_, c4, x4, ym.2.2.2.1.2.2.2.2.2⟩
theorem ivI.nm (I : ivI k σ μ) : iv_nums σ μ := by
  refine ⟨fun n22 => ?_, ?_, fun n36 => ?_⟩
  · rcases I.st with ⟨a1, a2⟩ | ⟨T, b, H, Y, v1, v2, v3, v4, v5, h, q, lim, a, sb, c1, c2, c3, c4, c5, c6, c7⟩
    · exact absurd a1 n22
    · obtain ⟨L, B, F, S, R, C, C0, s0, ml, nb, z, lv, y, al, fas, x, x2, x3, x4, x5⟩ := c1
      obtain ⟨th, nd, bg, nt, us, s, ym, hs⟩ := c2
      have i14 := ym.1.2.2.1.2.2.2.2.1
      refine ⟨c6, x5.trans i14.symm, ?_, by rw [x3]; decide⟩
      rcases x.2.2.2.2.1 with c | ⟨d1, d2, d3, d4⟩
      · rcases ym.2.2.2.2 with d | d
        · exact ⟨fun _ => d.2, fun _ => c.2⟩
        · exact absurd c.1 d.1
      · obtain ⟨n1, n2, n3, n4⟩ := x.nc d2
        have l2 := x.1.2.2.2.2.2.2.2.1
        have l1 := x.1.2.2.2.2.2.2.1
        rcases ym.2.2.2.2 with d | d
        · exact absurd d.1 d1
        · refine ⟨fun w => ?_, fun w => ?_⟩
          · rw [d3] at w
            exact absurd w (nI_ne0 (by omega) (by omega))
          · rw [d.2.1] at w
            exact absurd w (by decide)
  · rcases I with ⟨a1, a2, -⟩ | ⟨a1, a2, -⟩
    · exact ⟨fun _ => a2, fun _ => a1⟩
    · exact ⟨fun w => absurd (a1.symm.trans w) (by decide), fun w => absurd (a2.symm.trans w) (by decide)⟩
  · rcases I with ⟨a1, -⟩ | ⟨a1, a2, T, b, H, Y, v1, -⟩
    · exact absurd a1 n36
    · have e0 := v1.1.2.2.2.1
      have e5 := v1.2.1.1.2.2.1
      have e16 := v1.1.2.2.2.2.1
      have e6 := v1.2.1.1.2.2.2.1
      exact ⟨e0.trans e5.symm, e16.trans e6.symm⟩
theorem s_feed (hk : k + 1 ≤ 512) (I : whI k σ μ C S) (a0 a1 a2 a3 a4 : Int32) : ∃ mc ms : Nat, mc ≤ C ∧ ms ≤ S ∧ mp_X10_feed mc ms σ a0 a1 a2 a3 a4 (fun r σ' => mp_X12_feed μ a0 a1 a2 a3 a4 (fun r' μ' => r = r' ∧ whI (k + 1) σ' μ' (C - (mc)) (S - (ms)))) := by
  have i1 := I.1
  have i2 := I.2.1
  have hT := I.2.2.1.1
  have hp := I.2.2.1.2.1
  obtain ⟨t, ht, hs, hm, hl1, hl2, -⟩ := id hT
  have ct : (σ.1 35).toNatClampNeg = t := by rw [hs]; exact nI_clamp (by omega)
  unfold pot at i2
  rw [ct] at i2
  have key : ∀ (ms n : Nat) (f g : Nat → Int32), ((n = σ.2.2.1 36 ∧ ms = 0) ∨ (σ.2.2.1 36 < t + 20 ∧ n = max (t + 20) (2 * σ.2.2.1 36) ∧ ms = n)) → t + 20 ≤ 8000 → iv_tape (sm_i (sm_x σ 36 n f) 35 (nI (t + 20))) (sm_i (sm_r μ 2 g) 0 (nI (t + 20))) → whI (k + 1) (sm_i (sm_x σ 36 n f) 35 (nI (t + 20))) (sm_i (sm_r μ 2 g) 0 (nI (t + 20))) (C - 1) (S - ms) := fun ms n f g hn h8 ht' => by
    refine I.q ⟨fun r q => va_up_ne _ _ (by omega), fun r q1 q2 q3 => va_up_ne _ _ (by omega), rfl, rfl, fun k q1 q2 q3 => va_up_ne _ _ q3⟩ ⟨fun r q => rfl, fun r q q2 => va_up_ne _ _ (by omega), rfl, fun k q1 q2 q3 q4 => va_up_ne _ _ q1⟩ ht' ?_ (by omega) ?_
    · exact hp.q (by omega) rfl rfl rfl rfl (fun _ => rfl) (fun _ => rfl) rfl rfl rfl rfl rfl rfl (fun _ => rfl) (fun _ => rfl) rfl
    · have e35 : ((sm_i (sm_x σ 36 n f) 35 (nI (t + 20))).1 35).toNatClampNeg = t + 20 := by
        rw [show (sm_i (sm_x σ 36 n f) 35 (nI (t + 20))).1 35 = nI (t + 20) by show va_up σ.1 35 (nI (t + 20)) 35 = _; rw [va_up_self]]
        exact nI_clamp (by omega)
      have e36 : (sm_i (sm_x σ 36 n f) 35 (nI (t + 20))).2.2.1 36 = n := by show va_up σ.2.2.1 36 n 36 = n; rw [va_up_self]
      have e17 : (sm_i (sm_x σ 36 n f) 35 (nI (t + 20))).2.2.1 17 = σ.2.2.1 17 := rfl
      unfold pot
      rw [e35, e36, e17]
      rcases hn with ⟨n1, n2⟩ | ⟨n1, n2, n3⟩
      · omega
      · omega
  have same : ∀ t' : Nat, t' ≤ 8000 → σ.1 35 = nI t' → t' = t := fun t' h8 e => (nI_eq (by omega) (by omega)).mp (e.symm.trans hs)
  by_cases g : σ.2.2.1 36 < t + 20 ∧ t + 20 ≤ 8000
  · refine ⟨1, max (t + 20) (2 * σ.2.2.1 36), by omega, by omega, j_feed2 hT (by decide) (fun t' e1 _ e3 => ?_) a0 a1 a2 a3 a4 (fun t' h8 e1 e2 => ?_) (fun t' n f g' e1 e2 e3 e4 e5 => ⟨rfl, ?_⟩)⟩
    · rw [same t' (by omega) e1]; exact Nat.le_refl _
    · exact absurd (same t' h8 e1) (fun e => e2 (by omega))
    · have := same t' (by omega) e1
      subst this
      refine key _ n f g' ?_ e2 e5
      rcases e3 with ⟨n1, n2⟩ | ⟨n1, n2⟩
      · exact absurd g.1 (by omega)
      · exact Or.inr ⟨n1, n2, n2.symm⟩
  · refine ⟨1, 0, by omega, by omega, j_feed2 hT (by decide) (fun t' e1 e2 e3 => ?_) a0 a1 a2 a3 a4 (fun t' h8 e1 e2 => ⟨rfl, ?_⟩) (fun t' n f g' e1 e2 e3 e4 e5 => ⟨rfl, ?_⟩)⟩
    · exact absurd (same t' (by omega) e1) (fun e => g ⟨by omega, by omega⟩)
    · exact I.q keX_r keM_r hT (hp.m (by omega)) (by omega) (Nat.le_trans pot_n I.2.1)
    · have := same t' (by omega) e1
      subst this
      refine key 0 n f g' ?_ e2 e5
      rcases e3 with ⟨n1, n2⟩ | ⟨n1, n2⟩
      · exact Or.inl ⟨n1, rfl⟩
      · exact absurd ⟨n1, e2⟩ g
theorem s_endc (hk : k + 1 ≤ 512) (I : whI k σ μ C S) (a0 : Int32) : ∃ mc1 ms1 mc2 ms2 : Nat, mc1 + mc2 ≤ C ∧ ms1 + ms2 ≤ S ∧ mp_X10_end mc1 ms1 mc2 ms2 σ a0 (fun r σ' => mp_X12_end μ a0 (fun r' μ' => r = r' ∧ whI (k + 1) σ' μ' (C - (mc1 + mc2)) (S - (ms1 + ms2)))) := by
  have i1 := I.1
  have i2 := I.2.1
  have hT := I.2.2.1.1
  have hp := I.2.2.1.2.1
  have hl := I.2.2.1.2.2.1
  have h17 := I.2.2.1.2.2.2.2
  obtain ⟨t, ht, hs, hm, hl1, hl2, -⟩ := id hT
  have ct : (σ.1 35).toNatClampNeg = t := by rw [hs]; exact nI_clamp (by omega)
  have c0 : (0 : Int32).toNatClampNeg = 0 := by decide
  unfold pot at i2
  rw [ct] at i2
  by_cases ha : a0 < 0 ∨ ¬ a0 ≤ nI t
  · refine ⟨0, 0, 0, 0, by omega, by omega, j_end0 hs hm ha ⟨rfl, ?_⟩⟩
    have e35 : (sm_i σ 35 0).1 35 = 0 := by show va_up σ.1 35 0 35 = _; rw [va_up_self]
    have e0 : (sm_i μ 0 0).1 0 = 0 := by show va_up μ.1 0 0 0 = _; rw [va_up_self]
    refine I.q ⟨fun r q => rfl, fun r q1 q2 q3 => rfl, rfl, rfl, fun k q1 q2 q3 => va_up_ne _ _ q3⟩ ⟨fun r q => rfl, fun r q q2 => rfl, rfl, fun k q1 q2 q3 q4 => va_up_ne _ _ q1⟩ (tape_0 hT e35 e0 rfl (fun _ => rfl) rfl) ?_ (by omega) ?_
    · exact hp.q (by omega) rfl rfl rfl rfl (fun _ => rfl) (fun _ => rfl) rfl rfl rfl rfl rfl rfl (fun _ => rfl) (fun _ => rfl) rfl
    · unfold pot
      rw [e35, c0]
      show 640 * (512 - (k + 1)) + 32 * 0 + (32000 - 2 * σ.2.2.1 36) + (960516 - 2 * σ.2.2.1 17) ≤ _
      omega
  · have nn : ¬ a0 < 0 := fun c => ha (Or.inl c)
    have le : a0 ≤ nI t := Classical.byContradiction (fun c => ha (Or.inr c))
    obtain ⟨n, n1, n2⟩ := nI_of nn
    subst n2
    have hn : n ≤ t := (nI_leI n1 (by omega)).mp le
    refine ⟨2, 4 * n, 3, 28 * n, by omega, by omega, j_end1 hT hs hn ht hl (by decide) (fun q => by omega) (by decide) (fun q => by omega) (fun r σ' r' μ' R => ?_)⟩
    obtain ⟨r1, r2, r3, r4, r5, r6, r7, r8, r9, r10, r11⟩ := R
    have l36 : σ'.2.2.1 36 = σ.2.2.1 36 := r2.2.1 36 (by unfold RE; omega)
    have l17 : σ'.2.2.1 17 = σ.2.2.1 17 := r2.2.1 17 (by unfold RE; omega)
    have lm : μ'.2.2.1 = μ.2.2.1 := r3.2.1
    refine ⟨r1, by omega, ?_, ⟨tape_0 hT r4 r5 l36 (fun j => r2.2.2.2.2 36 j (by unfold AE; omega)) (by rw [lm]), ?_, r8, ?_, by rw [l17]; exact h17⟩, ?_⟩
    · unfold pot
      rw [r4, c0, l36, l17]
      omega
    · exact hp.q (by omega) (r2.2.2.2.1 18 (by unfold IE; omega)) (r2.2.2.2.1 19 (by unfold IE; omega)) (r2.2.1 30 (by unfold RE; omega)) (r2.2.1 31 (by unfold RE; omega)) (fun j => r2.2.2.2.2 30 j (by unfold AE; omega)) (fun j => r2.2.2.2.2 31 j (by unfold AE; omega)) r2.1 (r3.2.2.2.1 18 (by unfold IG; omega)) (r3.2.2.2.1 19 (by unfold IG; omega)) (r3.2.2.2.1 20 (by unfold IG; omega)) (by rw [lm]) (by rw [lm]) (fun j => r3.2.2.2.2 38 j (by unfold AG; omega)) (fun j => r3.2.2.2.2 39 j (by unfold AG; omega)) r3.1
    · have := I.2.2.1.2.2.2.1
      unfold lnR at this ⊢
      rw [lm]; exact this
    · rcases r11 with ⟨c1, c2⟩ | ⟨c1, c2, T, b, v1, v2, v3, v4⟩
      · exact Or.inl ⟨c1, c2, r6, r7⟩
      · obtain ⟨H, Y, v5⟩ := vok_ex v4
        exact Or.inr ⟨c1, c2, T, b, H, Y, v1, v2, v3, v5, v4, Or.inl ⟨r6, r7⟩⟩
theorem s_input (hk : k + 1 ≤ 512) (I : whI k σ μ C S) (a0 : Int32) : mp_X10_input σ a0 (fun r σ' => mp_X12_input μ a0 (fun r' μ' => r = r' ∧ whI (k + 1) σ' μ' C S)) := by
  have i1 := I.1
  have hT := I.2.2.1.1
  have hp := I.2.2.1.2.1
  refine j_input (hp.iv (by omega)) a0 ⟨rfl, I.n⟩ (fun i f g q => ⟨rfl, ?_⟩)
  refine I.q ⟨fun r q => rfl, fun r q1 q2 q3 => va_up_ne _ _ q1, rfl, rfl, fun k q1 q2 q3 => va_up_ne _ _ q1⟩ ⟨fun r q => rfl, fun r q q2 => va_up_ne _ _ q2, rfl, fun k q1 q2 q3 q4 => va_up_ne _ _ q2⟩ (tape_k hT rfl rfl rfl (fun _ => rfl) rfl (fun _ => rfl)) (pts_iv hp q (by omega) (by omega) rfl rfl) (by omega) ?_
  have pe : pot (k + 1) (sm_i (sm_r σ 30 f) 18 (nI i)) = pot (k + 1) σ := pot_e rfl rfl rfl
  rw [pe]
  exact Nat.le_trans pot_n I.2.1
theorem s_clear (hk : k + 1 ≤ 512) (I : whI k σ μ C S) : mp_X10_clear σ (fun σ' => mp_X12_clear μ (fun μ' => whI (k + 1) σ' μ' C S)) := by
  have i1 := I.1
  have hT := I.2.2.1.1
  have hp := I.2.2.1.2.1
  refine j_clear (hp.iv (by omega)) (fun q => ?_)
  refine I.q ⟨fun r q => rfl, fun r q1 q2 q3 => rfl, rfl, rfl, fun k q1 q2 q3 => va_up_ne _ _ q1⟩ ⟨fun r q => rfl, fun r q q2 => rfl, rfl, fun k q1 q2 q3 q4 => va_up_ne _ _ q2⟩ (tape_k hT rfl rfl rfl (fun j => rfl) rfl (fun j => rfl)) (pts_iv hp q (by omega) (by omega) rfl rfl) (by omega) ?_
  have pe : pot (k + 1) (sm_i σ 18 0) = pot (k + 1) σ := pot_e rfl rfl rfl
  rw [pe]
  exact Nat.le_trans pot_n I.2.1
theorem s_start (hk : k + 1 ≤ 512) (I : whI k σ μ C S) (a0' a1' : Int32) : ∃ mc ms : Nat, mc ≤ C ∧ ms ≤ S ∧ mp_X10_start mc ms σ a0' a1' (fun r σ' => mp_X12_start μ a0' a1' (fun r' μ' => r = r' ∧ whI (k + 1) σ' μ' (C - (mc)) (S - (ms)))) := by
  have i1 := I.1
  have i2 := I.2.1
  have hT := I.2.2.1.1
  have hp := I.2.2.1.2.1
  have hl := I.2.2.1.2.2.1
  have hr := I.2.2.1.2.2.2.1
  have h17 := I.2.2.1.2.2.2.2
  rcases I.2.2.2 with ⟨e1, e2, -⟩ | ⟨e1, e2, T, b, H, Y, v1, v2, v3, v4, v5, v6⟩
  · exact ⟨0, 0, by omega, by omega, z_start a0' a1' e1 e2 ⟨rfl, I.n⟩⟩
  · obtain ⟨i, g, tk, p1, p2, p3, p4, p5, p6, p7, p8, p9, p10, -⟩ := id hp
    obtain ⟨h, hh, go⟩ := j_start2 (mc := 1) (inF := μ.2.2.2.1 38) a0' a1' v2 v1.1 v1.2.1.1 hr (by rw [e1]; decide) e2 h17 (by decide) p4 p6 p7 p10 p5 p8 p9 (fun _ _ => rfl)
    have key : ∀ (ms : Nat) (σ' μ' : sm_S) (q : Nat), XA σ' T b h q (h * q / (q + 1)) (a0 T) i (μ.2.2.2.1 38) 0 0 (μ.2.2.2.1 38) 0 → MA μ' T b q (h * q / (q + 1)) (a0 T) i (μ.2.2.2.1 38) 0 0 (μ.2.2.2.1 38) 0 1 → rsS σ σ' → rsM μ μ' → pot (k + 1) σ' ≤ S - ms → σ'.2.2.1 17 ≤ 480258 → whI (k + 1) σ' μ' (C - 1) (S - ms) := fun ms σ' μ' q X M rs rm hS hL => by
      refine ⟨by omega, hS, ⟨tape_k hT (rs.2.2 35 (by omega)) (rm.2.2 0 (by omega)) (rs.1 36 (by decide)) (fun j => by rw [rs.2.1]) (by rw [rm.1]) (fun j => by rw [rm.2.1 2 (by omega)]), pts_of p1 (Nat.zero_le _) (Nat.zero_le _) X.2.1 M.2.1, hl.cb rs.ba rm.ba, hr.cb rm.ba, hL⟩, Or.inr ⟨(rs.2.2 36 (by omega)).trans e1, (rm.2.2 4 (by omega)).trans e2, T, b, H, Y, v1.cb rs.ba rm.ba, v2, v3, v4, fun m hm => (v5 m hm).cb rs.ba rm.ba, Or.inr ⟨h, q, _, a0 T, 1, X.1, M.1, WA_0 v2 v4, by show (1 : Nat) ≤ 4; decide, by show (1 : Nat) ≠ 0; decide, X.2.2.trans M.2.2.symm, by omega⟩⟩⟩
    have pe : ∀ σ' : sm_S, rsS σ σ' → pot (k + 1) σ' + 640 + (960516 - 2 * σ.2.2.1 17) ≤ pot k σ + (960516 - 2 * σ'.2.2.1 17) := fun σ' rs => by
      unfold pot
      rw [rs.2.2 35 (by omega), rs.1 36 (by decide)]
      omega
    have pk : 960516 - 2 * σ.2.2.1 17 ≤ pot k σ := by unfold pot; omega
    by_cases gg : σ.2.2.1 17 < 4 * h + 129
    · refine ⟨1, max (4 * h + 129) (2 * σ.2.2.1 17), by omega, by omega, go _ _ (fun _ => Nat.le_refl _) (fun σ' μ' q X M rs rm gr le => ⟨rfl, ?_⟩)⟩
      have pe' := pe σ' rs
      have gr' : σ'.2.2.1 17 = max (4 * h + 129) (2 * σ.2.2.1 17) := by
        rcases gr with c | c
        · omega
        · exact c.2
      exact key _ σ' μ' q X M rs rm (by omega) (by omega)
    · refine ⟨1, 0, by omega, by omega, go _ _ (fun z => absurd z gg) (fun σ' μ' q X M rs rm gr le => ⟨rfl, ?_⟩)⟩
      have pe' := pe σ' rs
      have gr' : σ'.2.2.1 17 = σ.2.2.1 17 := by
        rcases gr with c | c
        · exact c
        · exact absurd c.1 gg
      exact key 0 σ' μ' q X M rs rm (by omega) (by omega)
theorem s_run (hk : k + 1 ≤ 512) (I : whI k σ μ C S) (p : Int32) : mp_X10_run σ p (fun r σ' => mp_X12_run μ p (fun r' μ' => r = r' ∧ whI (k + 1) σ' μ' C S)) := by
  have i1 := I.1
  have i2 := I.2.1
  have hT := I.2.2.1.1
  have hp := I.2.2.1.2.1
  have hl := I.2.2.1.2.2.1
  have hr := I.2.2.1.2.2.2.1
  have h17 := I.2.2.1.2.2.2.2
  rcases I.2.2.2 with ⟨e1, e2, e3, e4⟩ | ⟨e1, e2, T, b, H, Y, v1, v2, v3, v4, v5, v6⟩
  · exact z_run p e3 e4 ⟨rfl, I.n⟩
  · rcases v6 with ⟨e3, e4⟩ | ⟨h, q, lim, a, sb, c1, c2, c3, c4, c5, c6, c7⟩
    · exact z_run p e3 e4 ⟨rfl, I.n⟩
    · obtain ⟨i, tk, g, inF, ouF, b1, b2, b3, P, Q⟩ := pts_ex hp
      refine j_run1 (a := a) (sb := sb) p v2 v3 v4 b1 (by omega) (by omega) ⟨c1, P, rfl⟩ ⟨c2, Q, c6.symm⟩ c3 c4 c5 b2 ⟨rfl, I.n⟩ (fun r σ' μ' a' tk' g' ouF' s' sb' X' M' W' s4 s0 t1 t2 t3 rx rm => ⟨rfl, ?_⟩)
      refine ⟨by omega, ?_, ⟨tape_k hT (rx.2.2 35 (by unfold Ixs; omega)) (rm.2.2 0 (by omega)) (by rw [rx.1]) (fun j => by rw [rx.2.1 36 (by decide)]) (by rw [rm.1]) (fun j => by rw [rm.2.1 2 (by omega)]), pts_of b1 t1 (by omega) X'.2.1 M'.2.1, hl.cb rx.ba rm.ba, hr.cb rm.ba, by rw [rx.1]; exact h17⟩, Or.inr ⟨(rx.2.2 36 (by unfold Ixs; omega)).trans e1, (rm.2.2 4 (by omega)).trans e2, T, b, H, Y, v1.cb rx.ba rm.ba, v2, v3, v4, fun m hm => (v5 m hm).cb rx.ba rm.ba, Or.inr ⟨h, q, lim, a', sb', X'.1, M'.1, W', s4, s0, X'.2.2.trans M'.2.2.symm, by omega⟩⟩⟩
      have pe : pot (k + 1) σ' = pot (k + 1) σ := pot_e (rx.2.2 35 (by unfold Ixs; omega)) (by rw [rx.1]) (by rw [rx.1])
      rw [pe]
      exact Nat.le_trans pot_n i2
theorem s_frame (I : whI k σ μ C S) (p q : Int32) : mp_X10_frame σ p q (fun r σ' => mp_X12_frame μ p q (fun r' μ' => r = r' ∧ whI (k + 1) σ' μ' C S)) := by
  rcases I.2.2.2.st with ⟨e1, e2⟩ | ⟨T, b, H, Y, v1, v2, v3, v4, v5, h, q', lim, a, sb, c1, c2, c3, c4, c5, c6, c7⟩
  · exact z_frame p q e1 e2 ⟨rfl, I.n⟩
  · exact j_frame p q v2 c1 c2 c5 c4 (fun r => ⟨rfl, I.n⟩)
theorem s_value (hk : k + 1 ≤ 512) (I : whI k σ μ C S) (p q : Int32) (t : Int64) (e : Int32) : mp_X10_value σ p q t e (fun r σ' => mp_X12_value_ μ p q t e (fun r' μ' => r = r' ∧ whI (k + 1) σ' μ' C S)) := by
  have i1 := I.1
  rcases I.2.2.2.st with ⟨e1, e2⟩ | ⟨T, b, H, Y, v1, v2, v3, v4, v5, h, q', lim, a, sb, c1, c2, c3, c4, c5, c6, c7⟩
  · exact z_value p q t e e1 e2 ⟨rfl, I.n⟩
  · refine j_value p q t e v2 c3 c1 c2 c5 c4 (fun r μ' M' rv => ⟨rfl, ?_⟩)
    have z := rv.1
    refine I.q keX_r rv.ke (tape_k I.2.2.1.1 rfl (rv.2 0 (by decide) (by decide)) rfl (fun _ => rfl) (by rw [z]) (fun j => by rw [z])) (I.2.2.1.2.1.q (by omega) rfl rfl rfl rfl (fun _ => rfl) (fun _ => rfl) rfl (rv.2 18 (by decide) (by decide)) (rv.2 19 (by decide) (by decide)) (rv.2 20 (by decide) (by decide)) (by rw [z]) (by rw [z]) (fun j => by rw [z]) (fun j => by rw [z]) (by rw [z])) (by omega) (Nat.le_trans pot_n I.2.1)
theorem s_same (I : whI k σ μ C S) (p q : Int32) : mp_X10_same σ p q (fun r σ' => mp_X12_same μ p q (fun r' μ' => r = r' ∧ whI (k + 1) σ' μ' C S)) := by
  rcases I.2.2.2.st with ⟨e1, e2⟩ | ⟨T, b, H, Y, v1, v2, v3, v4, v5, h, q', lim, a, sb, c1, c2, c3, c4, c5, c6, c7⟩
  · exact z_same p q e1 e2 ⟨rfl, I.n⟩
  · exact j_same p q v2 c1 c2 c5 c4 (fun r => ⟨rfl, I.n⟩)
theorem s_told (I : whI k σ μ C S) (p : Int32) : mp_X10_told σ p (fun r σ' => mp_X12_told μ p (fun r' μ' => r = r' ∧ whI (k + 1) σ' μ' C S)) := by
  rcases I.2.2.2.st with ⟨e1, e2⟩ | ⟨T, b, H, Y, v1, v2, v3, v4, v5, h, q', lim, a, sb, c1, c2, c3, c4, c5, c6, c7⟩
  · exact z_told p e1 e2 ⟨rfl, I.n⟩
  · exact j_told p c1 c2 c5 c4 (fun r => ⟨rfl, I.n⟩)
theorem s_stands (I : whI k σ μ C S) (p1 p2 p3 p4 : Int32) : mp_X10_stands σ p1 p2 p3 p4 (fun r σ' => mp_X12_stands μ p1 p2 p3 p4 (fun r' μ' => r = r' ∧ whI (k + 1) σ' μ' C S)) := by
  rcases I.2.2.2 with ⟨e1, e2, -⟩ | ⟨e1, e2, T, b, H, Y, v1, v2, v3, v4, v5, v6⟩
  · exact z_stands p1 p2 p3 p4 e1 e2 ⟨rfl, I.n⟩
  · exact j_stands p1 p2 p3 p4 v2 v1 v5 (by rw [e1]; decide) (fun r => ⟨rfl, I.n⟩)
end
theorem whole_sim {L : Nat} (hL : L ≤ 3072) : lw_Sim L whI := by
  intro k σ μ C S h6 I
  have hk : k + 1 ≤ 512 := by omega
  have ip : iv_ports σ μ := I.2.2.1.2.1.iv (by omega)
  have is := I.2.2.2.is
  have nm := I.2.2.2.nm
  exact ⟨s_feed hk I, s_endc hk I, s_input hk I, s_clear hk I, s_start hk I, s_run hk I, j_state is ⟨rfl, I.n⟩, fun a0 => j_count is ip nm a0 (fun r => ⟨rfl, I.n⟩), fun a0 => j_out is ip a0 (fun r => ⟨rfl, I.n⟩), s_frame I, s_value hk I, s_same I, s_told I, j_steady nm ⟨rfl, I.n⟩, s_stands I, I.n⟩
theorem whI_0 : whI 0 sm_0X sm_0M 59923 7291540 := by
  refine ⟨by decide, ?_, ⟨?_, ?_, ?_, ?_, by show (0 : Nat) ≤ 480258; decide⟩, Or.inl ⟨rfl, rfl, rfl, rfl⟩⟩
  · show 640 * (512 - 0) + 32 * (0 : Int32).toNatClampNeg + (32000 - 2 * 0) + (960516 - 2 * 0) ≤ 7291540
    decide
  · exact ⟨0, by decide, rfl, rfl, Nat.zero_le _, Nat.zero_le _, rfl, fun j q => absurd q (Nat.not_lt_zero j), fun j q => absurd (show j < 0 from q) (Nat.not_lt_zero j)⟩
  · exact ⟨0, 0, 0, by decide, by decide, by decide, rfl, rfl, rfl, rfl, rfl, rfl, fun j q => absurd q (Nat.not_lt_zero j), rfl, rfl, rfl, rfl, rfl, fun j q => absurd q (by omega)⟩
  · exact ⟨⟨rfl, rfl, rfl, rfl, rfl, rfl, rfl, rfl, rfl, rfl, rfl, rfl, rfl, rfl, rfl, rfl⟩, ⟨rfl, rfl, rfl, rfl, rfl, rfl, rfl, rfl, rfl, rfl, rfl, rfl, rfl, rfl, rfl, rfl, rfl⟩, rfl, Nat.zero_le _, rfl, rfl, Nat.zero_le _, rfl, rfl, rfl, rfl, rfl, rfl⟩
  · exact ⟨rfl, rfl, rfl, rfl, rfl, rfl, rfl, rfl, rfl, rfl, rfl, rfl, rfl⟩
