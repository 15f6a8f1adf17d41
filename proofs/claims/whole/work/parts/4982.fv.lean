/-! ===== frame, told, both sides; the parts of a path ===== -/
def xp (p : Int64) : Nat := p.toBitVec.toNat
theorem xp_lt (p : Int64) : xp p < 2 ^ 64 := p.toBitVec.isLt
theorem xp_and (p : Int64) : xp (p &&& 4095) = xp p % 4096 := by
  show (p.toBitVec &&& 4095#64).toNat = _
  rw [BitVec.toNat_and]
  show p.toBitVec.toNat &&& (2 ^ 12 - 1) = _
  rw [Nat.and_two_pow_sub_one_eq_mod]
  rfl
theorem xp_32 (p : Int64) : (p &&& 4095).toInt32 = nI (xp p % 4096) := by
  apply Int32.toBitVec_inj.mp
  apply BitVec.eq_of_toNat_eq
  show ((p &&& 4095).toBitVec.signExtend 32).toNat = (BitVec.ofNat 32 (xp p % 4096)).toNat
  rw [BitVec.signExtend_eq_setWidth_of_le _ (by decide), BitVec.toNat_setWidth, BitVec.toNat_ofNat]
  have := xp_and p
  unfold xp at this ⊢
  rw [this]
theorem xp_0 (p : Int64) : p = 0 ↔ xp p = 0 := by
  refine ⟨fun e => by rw [e]; rfl, fun e => ?_⟩
  apply Int64.toBitVec_inj.mp
  apply BitVec.eq_of_toNat_eq
  exact e
theorem xp_sh (p : Int64) : xp (p.toUInt64 >>> ((12 : Int32).toInt64.toUInt64 &&& Int64.toUInt64 63)).toInt64 = xp p / 4096 := by
  show (p.toUInt64 >>> ((12 : Int32).toInt64.toUInt64 &&& Int64.toUInt64 63)).toNat = _
  rw [UInt64.toNat_shiftRight]
  have e : ((12 : Int32).toInt64.toUInt64 &&& Int64.toUInt64 63).toNat % 64 = 12 := by decide
  rw [e, Nat.shiftRight_eq_div_pow]
  rfl
section
variable {σ μ : sm_S} {T : Nat → Nat → Nat} {b : Nat → Nat} {h k lim md cy rch n sb : Nat} {L : Nat → Prop} {N : Nat → AN} {fs : List AF} {fl st : Nat} {th nd bg : Nat → Nat} {nt us s : Nat}
theorem fsM_drop : ∀ (f : Nat) (gs : List AF), fsM μ T th nd nt gs → fsM μ T th nd nt (gs.drop f) := by
  intro f
  induction f with
  | zero => intro gs hr; exact hr
  | succ f ih =>
    intro gs hr
    cases gs with
    | nil => exact trivial
    | cons g r => exact ih r hr.2
theorem RMg.fa {f : Nat} {g : AF} {r : List AF} (y : RMg μ T b k lim md cy rch n N fs fl st th nd bg nt us s) (e : fs.drop f = g :: r) : fM1 μ T th nd nt (fs.length - 1 - f) g ∧ f < fs.length ∧ fs.length ≤ 7600 := by
  have hd := fsM_drop f fs y.1.2.2.2.2
  rw [e] at hd
  have hl : (fs.drop f).length = r.length + 1 := by rw [e]; rfl
  rw [List.length_drop] at hl
  have h76 := y.1.2.2.1.2.2.2.2.2
  rw [show fs.length - 1 - f = r.length by omega]
  exact ⟨hd.1, by omega, h76⟩
theorem m_frame {K : jk} {f : Nat} {g : AF} {r : List AF} {p : Int32} (hw : wf T b) (y : RMg μ T b k lim md cy rch n N fs fl st th nd bg nt us s) (s0 : st ≠ 0) (s4 : st ≤ 4) (e : fs.drop f = g :: r) (h0 : p = 0 → K (nI g.1) μ) (h1 : p = 1 → K (nI g.2.1) μ) (h2 : p = 2 → K (nI g.2.2.1) μ) (h3 : p = 3 → K (nI (T 15 g.1)) μ) (h4 : ¬ p = 0 → ¬ p = 1 → ¬ p = 2 → ¬ p = 3 → K (-1) μ) : mp_X12_frame μ (nI f) p K := by
  obtain ⟨⟨f1, f2, f3, f4, f5, f6, f7⟩, lf, l76⟩ := y.fa e
  have ln := y.1.2.1
  have im := y.1.1
  have w64 := hw.2.2.2.1
  have i14 : μ.1 14 = nI fs.length := y.1.2.2.1.2.2.2.2.1
  have i17 : μ.1 17 = nI st := y.2.2.2.1.2.2.2.2.2
  have n17 : ¬ μ.1 17 = 0 := by rw [i17]; exact nI_ne0 (by omega) (by omega)
  have r15 := (im.2.2.2.2.2.2.2 g.1 f2).2.2.2.2.1
  unfold mp_X12_frame mp_X12_frame_94
  refine ⟨fun q => absurd q n17, fun _ => ⟨fun q => absurd q (nI_neg (by omega)), fun _ => ⟨fun _ => ?_, fun q => absurd (by rw [i14]; exact nI_lt lf (by omega)) q⟩⟩⟩
  intro v4 e4
  rw [i14, nI_sub1 (by omega), nI_sub (by omega)] at e4
  rw [e4, nI_clamp (by omega), f1, f3, f5]
  refine ⟨fun q0 => ⟨fun q1 => ⟨fun q2 => ⟨fun q3 => h4 q0 q1 q2 q3, fun q3 => ?_⟩, fun q2 => ⟨by rw [lr35 ln]; exact vp_in_nI (by omega) (by decide), h2 q2⟩⟩, fun q1 => ⟨by rw [lr34 ln]; exact vp_in_nI (by omega) (by decide), h1 q1⟩⟩, fun q0 => ⟨by rw [lr33 ln]; exact vp_in_nI (by omega) (by decide), h0 q0⟩⟩
  rw [nI_clamp (by omega), r15]
  exact ⟨by rw [lr33 ln]; exact vp_in_nI (by omega) (by decide), by rw [show μ.2.2.1 15 = 64 from im.2.1.2.2.2.2.2.2.2.2.2.2.2.1]; exact vp_in_nI (by omega) (by decide), h3 q3⟩
theorem j_frame {KK : Int32 → sm_S → Int32 → sm_S → Prop} (p q : Int32) (hw : wf T b) (X : XH σ T b h k lim md cy rch n N fs fl st) (M : MH μ T b k lim md cy rch n N fs fl st sb) (s0 : st ≠ 0) (s4 : st ≤ 4) (hK : ∀ r, KK r σ r μ) : mp_X10_frame σ p q (fun r σ' => mp_X12_frame μ p q (fun r' μ' => KK r σ' r' μ')) := by
  obtain ⟨L, B, F, S, R, C, C0, s0', ml, nb, z, lv, y, al, fas, x, x2, x3, x4, x5⟩ := X
  obtain ⟨th, nd, bg, nt, us, s, ym, hs⟩ := M
  have n22 : ¬ σ.1 22 = 0 := by rw [x4]; exact nI_ne0 (by omega) (by omega)
  have i14 : μ.1 14 = nI fs.length := ym.1.2.2.1.2.2.2.2.1
  have l76 := ym.1.2.2.1.2.2.2.2.2
  have i17 : μ.1 17 = nI st := ym.2.2.2.1.2.2.2.2.2
  have n17 : ¬ μ.1 17 = 0 := by rw [i17]; exact nI_ne0 (by omega) (by omega)
  unfold mp_X10_frame
  refine ⟨fun _ => ?_, fun q => absurd q n22⟩
  refine k_frA x (fun pn => ?_) (fun f f1 f2 => ?_)
  · unfold mp_X10_frame_22 mp_X10_frame_40
    refine ⟨fun q => absurd rfl q, fun _ => ?_⟩
    unfold mp_X12_frame mp_X12_frame_19
    exact ⟨fun q => absurd q n17, fun _ => ⟨fun _ => hK (-1), fun q => absurd pn q⟩⟩
  · rcases x.fa (f := f) with ⟨e1, e2⟩ | ⟨g, r, a, ca, e1, e2, e3, e4, e5, e6⟩
    · have le : fs.length ≤ f := List.drop_eq_nil_iff.mp e1
      rw [e2]
      unfold mp_X10_frame_22 mp_X10_frame_40
      refine ⟨fun q => absurd rfl q, fun _ => ?_⟩
      unfold mp_X12_frame mp_X12_frame_19
      refine ⟨fun q => absurd q n17, fun _ => ⟨fun q => absurd q (by rw [f2]; exact nI_neg f1), fun _ => ⟨fun q => ?_, fun _ => hK (-1)⟩⟩⟩
      rw [f2, i14] at q
      exact absurd ((nI_ltI f1 (by omega)).mp q) (by omega)
    · rw [e2]
      unfold mp_X10_frame_22 mp_X10_frame_40
      refine ⟨fun _ => ?_, fun q => absurd q (nI_ne0 (by omega) (by have := x.1.2.2.2.2.2.2.2.1; have := x.1.2.2.2.2.2.2.1; omega))⟩
      rw [f2]
      refine k_ofF hw x e3 e4 e5 (fun z => ?_) (fun z => ?_) (fun z => ?_) (fun z => ?_) (fun z0 z1 z2 z3 => ?_)
      · exact m_frame hw ym s0 s4 e1 (fun _ => hK _) (fun w => absurd (z.symm.trans w) (by decide)) (fun w => absurd (z.symm.trans w) (by decide)) (fun w => absurd (z.symm.trans w) (by decide)) (fun w => absurd z w)
      · exact m_frame hw ym s0 s4 e1 (fun w => absurd (z.symm.trans w) (by decide)) (fun _ => hK _) (fun w => absurd (z.symm.trans w) (by decide)) (fun w => absurd (z.symm.trans w) (by decide)) (fun _ w => absurd z w)
      · exact m_frame hw ym s0 s4 e1 (fun w => absurd (z.symm.trans w) (by decide)) (fun w => absurd (z.symm.trans w) (by decide)) (fun _ => hK _) (fun w => absurd (z.symm.trans w) (by decide)) (fun _ _ w => absurd z w)
      · exact m_frame hw ym s0 s4 e1 (fun w => absurd (z.symm.trans w) (by decide)) (fun w => absurd (z.symm.trans w) (by decide)) (fun w => absurd (z.symm.trans w) (by decide)) (fun _ => hK _) (fun _ _ _ w => absurd z w)
      · exact m_frame hw ym s0 s4 e1 (fun w => absurd w z0) (fun w => absurd w z1) (fun w => absurd w z2) (fun w => absurd w z3) (fun _ _ _ _ => hK _)
theorem j_told {KK : Int32 → sm_S → Int32 → sm_S → Prop} (p : Int32) (X : XH σ T b h k lim md cy rch n N fs fl st) (M : MH μ T b k lim md cy rch n N fs fl st sb) (s0 : st ≠ 0) (s4 : st ≤ 4) (hK : ∀ r, KK r σ r μ) : mp_X10_told σ p (fun r σ' => mp_X12_told μ p (fun r' μ' => KK r σ' r' μ')) := by
  obtain ⟨L, B, F, S, R, C, C0, s0', ml, nb, z, lv, y, al, fas, x, x2, x3, x4, x5⟩ := X
  obtain ⟨th, nd, bg, nt, us, s, ym, hs⟩ := M
  obtain ⟨i21, i22, i23, l2, i24, i17⟩ := ym.2.2.2.1
  obtain ⟨j6, j7, j8, j9, -⟩ := x.2.2.1
  have j2 := x.1.2.2.1
  have j3 := x.1.2.2.2.1
  have j4 := x.1.2.2.2.2.1
  have g := x.1.2.2.2.2.2.2.2.2.2.1
  have ac := x.2.2.2.2.2.2.2.2.2
  have al := ac.le
  have hh := ac.2.1
  have k64 := ac.2.2.2.1
  have dn := x.dn
  have lm := (lay_in ml F g.2.1).1
  have gS := g.2.2.2.2.1
  have gB := g.1
  have gF := g.2.2.2.1
  have gR := (lan_in nb R g.2.2.1).1
  have n22 : ¬ σ.1 22 = 0 := by rw [x4]; exact nI_ne0 (by omega) (by omega)
  have n17 : ¬ μ.1 17 = 0 := by rw [i17]; exact nI_ne0 (by omega) (by omega)
  have dm : ∀ (K : jk), (rch ≤ k * md → K 1 μ) → (¬ rch ≤ k * md → K 0 μ) → mp_X12_isDone μ K := fun K a1 a0 => by
    unfold mp_X12_isDone mp_X12_isDone_24
    rw [i21, i23, l2, nI_l (by omega), nI_l (by omega), lN_m]
    refine ⟨fun q => ⟨sm_z0, a0 (fun w => ?_)⟩, fun q => ⟨sm_z1, a1 ?_⟩⟩
    · have := (lc_lt (by omega) (by omega)).mp q
      omega
    · have : ¬ k * md < rch := fun w => q ((lc_lt (by omega) (by omega)).mpr w)
      omega
  have dx : ∀ (K : jk), (rch ≤ k * md → F - B = rch → K 1 σ) → (¬ rch ≤ k * md → K 0 σ) → mp_X1_isDone σ K := fun K a1 a0 => by
    unfold mp_X1_isDone mp_X1_isDone_31 mp_X1_isDone_32 mp_X1_moved
    rw [j2, j3, j4, j6, j8, pk_mul, nI_sub lm]
    refine ⟨fun q => ⟨sm_z0, a0 (fun w => q (by rw [dn.2 w]))⟩, fun q => ⟨fun q2 => ⟨sm_z0, a0 (fun w => ?_)⟩, fun q2 => ⟨sm_z1, ?_⟩⟩⟩
    · have sf := dn.2 w
      have := (nI_ltI (by omega) (by omega)).mp q2
      have := (dn.1 sf).1
      omega
    · have sf : S = F := (nI_eq (by omega) (by omega)).mp q
      have fb := (dn.1 sf).1
      have : ¬ k * md < F - B := fun w => q2 (nI_lt w (by omega))
      exact a1 (by omega) fb
  unfold mp_X10_told mp_X10_told_71 mp_X10_told_93
  refine ⟨fun _ => ⟨fun q => ?_, fun q => ?_, fun q => ?_, fun q => ?_, fun q => ?_, fun q0 q1 q2 q3 q4 => ?_⟩, fun q => absurd q n22⟩
  · unfold mp_X12_told
    rw [j9, i24]
    exact ⟨fun _ => ⟨fun _ => hK _, fun w => absurd (q.symm.trans w) (by decide), fun w => absurd (q.symm.trans w) (by decide), fun w => absurd (q.symm.trans w) (by decide), fun w => absurd (q.symm.trans w) (by decide), fun w => absurd q w⟩, fun w => absurd w n17⟩
  · have ref : ∀ r : Int32, ((rch ≤ k * md ∧ r = 1) ∨ (¬ rch ≤ k * md ∧ r = 0)) → mp_X12_told μ p (fun r' μ' => KK r σ r' μ') := fun r hr => by
      unfold mp_X12_told mp_X12_told_61
      refine ⟨fun _ => ⟨fun w => absurd (q.symm.trans w) (by decide), fun _ => ?_, fun w => absurd (q.symm.trans w) (by decide), fun w => absurd (q.symm.trans w) (by decide), fun w => absurd (q.symm.trans w) (by decide), fun _ w => absurd q w⟩, fun w => absurd w n17⟩
      refine dm _ (fun c => ⟨fun w => absurd w (by decide), fun _ => ?_⟩) (fun c => ⟨fun _ => ?_, fun w => absurd rfl w⟩)
      · rcases hr with u | u
        · rw [u.2]; exact hK _
        · exact absurd c u.1
      · rcases hr with u | u
        · exact absurd u.1 c
        · rw [u.2]; exact hK _
    exact dx _ (fun c _ => ⟨fun w => absurd w (by decide), fun _ => ref 1 (Or.inl ⟨c, rfl⟩)⟩) (fun c => ⟨fun _ => ref 0 (Or.inr ⟨c, rfl⟩), fun w => absurd rfl w⟩)
  · have ref : ∀ r : Int32, ((rch ≤ k * md ∧ r = nI rch) ∨ (¬ rch ≤ k * md ∧ r = -1)) → mp_X12_told μ p (fun r' μ' => KK r σ r' μ') := fun r hr => by
      unfold mp_X12_told mp_X12_told_77
      refine ⟨fun _ => ⟨fun w => absurd (q.symm.trans w) (by decide), fun w => absurd (q.symm.trans w) (by decide), fun _ => ?_, fun w => absurd (q.symm.trans w) (by decide), fun w => absurd (q.symm.trans w) (by decide), fun _ _ w => absurd q w⟩, fun w => absurd w n17⟩
      refine dm _ (fun c => ⟨fun w => absurd w (by decide), fun _ => ?_⟩) (fun c => ⟨fun _ => ?_, fun w => absurd rfl w⟩)
      · rcases hr with u | u
        · rw [u.2, i23]; exact hK _
        · exact absurd c u.1
      · rcases hr with u | u
        · exact absurd u.1 c
        · rw [u.2]; exact hK _
    refine dx _ (fun c fb => ⟨fun w => absurd w (by decide), fun _ => ?_⟩) (fun c => ⟨fun _ => ref (-1) (Or.inr ⟨c, rfl⟩), fun w => absurd rfl w⟩)
    unfold mp_X1_moved
    rw [j2, j3, nI_sub lm, fb]
    exact ref _ (Or.inl ⟨c, rfl⟩)
  · unfold mp_X12_told
    rw [j8, l2, lN_32 (by omega)]
    exact ⟨fun _ => ⟨fun w => absurd (q.symm.trans w) (by decide), fun w => absurd (q.symm.trans w) (by decide), fun w => absurd (q.symm.trans w) (by decide), fun _ => hK _, fun w => absurd (q.symm.trans w) (by decide), fun _ _ _ w => absurd q w⟩, fun w => absurd w n17⟩
  · unfold mp_X12_told
    rw [j7, i22]
    exact ⟨fun _ => ⟨fun w => absurd (q.symm.trans w) (by decide), fun w => absurd (q.symm.trans w) (by decide), fun w => absurd (q.symm.trans w) (by decide), fun w => absurd (q.symm.trans w) (by decide), fun _ => hK _, fun _ _ _ _ w => absurd q w⟩, fun w => absurd w n17⟩
  · unfold mp_X12_told
    exact ⟨fun _ => ⟨fun w => absurd w q0, fun w => absurd w q1, fun w => absurd w q2, fun w => absurd w q3, fun w => absurd w q4, fun _ _ _ _ _ => hK _⟩, fun w => absurd w n17⟩
end
