/-! ===== what is carried over a call ===== -/
/-- the image's part of the class is the same -/
def baX (σ σ' : sm_S) : Prop := (∀ r, r ≠ 17 → r ≤ 35 → σ'.2.2.1 r = σ.2.2.1 r) ∧ (∀ r, r ≠ 30 → r ≠ 31 → r ≤ 35 → σ'.2.2.2.1 r = σ.2.2.2.1 r) ∧ ∀ k, k = 0 ∨ (14 ≤ k ∧ k ≤ 17) ∨ k = 36 → σ'.1 k = σ.1 k
/-- the image's part of the reference is the same -/
def baM (μ μ' : sm_S) : Prop := (∀ r, 3 ≤ r → μ'.2.2.1 r = μ.2.2.1 r) ∧ (∀ r, 3 ≤ r → r ≤ 24 → μ'.2.2.2.1 r = μ.2.2.2.1 r) ∧ ∀ k, k = 1 ∨ (4 ≤ k ∧ k ≤ 8) → μ'.1 k = μ.1 k
/-- nothing but ports and tape has changed -/
def keX (σ σ' : sm_S) : Prop := (∀ r, r ≤ 35 → σ'.2.2.1 r = σ.2.2.1 r) ∧ (∀ r, r ≠ 30 → r ≠ 31 → r ≤ 35 → σ'.2.2.2.1 r = σ.2.2.2.1 r) ∧ σ'.2.2.2.2 = σ.2.2.2.2 ∧ σ'.2.1 = σ.2.1 ∧ ∀ k, k ≠ 18 → k ≠ 19 → k ≠ 35 → σ'.1 k = σ.1 k
def keM (μ μ' : sm_S) : Prop := (∀ r, 3 ≤ r → μ'.2.2.1 r = μ.2.2.1 r) ∧ (∀ r, 3 ≤ r → r ≠ 38 → μ'.2.2.2.1 r = μ.2.2.2.1 r) ∧ μ'.2.1 = μ.2.1 ∧ ∀ k, k ≠ 0 → k ≠ 19 → k ≠ 26 → k ≠ 27 → μ'.1 k = μ.1 k
section
variable {σ σ' μ μ' : sm_S} {T : Nat → Nat → Nat} {b : Nat → Nat} {h k lim md cy rch n sb : Nat} {N : Nat → AN} {fs : List AF} {fl st : Nat}
theorem keX.ba (h : keX σ σ') : baX σ σ' := ⟨fun r _ q => h.1 r q, h.2.1, fun k q => h.2.2.2.2 k (by omega) (by omega) (by omega)⟩
theorem keM.ba (h : keM μ μ') : baM μ μ' := ⟨h.1, fun r q q2 => h.2.1 r q (by omega), fun k q => h.2.2.2 k (by omega) (by omega) (by omega) (by omega)⟩
theorem keX_r : keX σ σ := ⟨fun _ _ => rfl, fun _ _ _ _ => rfl, rfl, rfl, fun _ _ _ _ => rfl⟩
theorem keM_r : keM μ μ := ⟨fun _ _ => rfl, fun _ _ _ => rfl, rfl, fun _ _ _ _ _ => rfl⟩
theorem rsX.ba (h : rsX σ σ') : baX σ σ' := ⟨fun r _ _ => congrFun h.1 r, fun r _ q _ => h.2.1 r q, fun k q => h.2.2 k (by unfold Ixs; omega)⟩
theorem rsM.ba (h : rsM μ μ') : baM μ μ' := ⟨fun r _ => congrFun h.1 r, fun r _ q => h.2.1 r (Or.inl q), fun k q => h.2.2 k (by omega)⟩
theorem rsS.ba (h : rsS σ σ') : baX σ σ' := ⟨fun r q _ => h.1 r q, fun r _ _ _ => congrFun h.2.1 r, fun k q => h.2.2 k (by omega)⟩
theorem rsV.ke (h : rsV μ μ') : keM μ μ' := ⟨fun r _ => by rw [h.1], fun r _ _ => by rw [h.1], by rw [h.1], fun k _ _ q1 q2 => h.2 k q1 q2⟩
theorem imX.cb (im : imX σ T b) (h : baX σ σ') : imX σ' T b := by
  obtain ⟨l, rw_, i⟩ := h
  unfold imX iv_bX lnX icX imtX at im ⊢
  rw [l 18 (by decide) (by decide), l 11 (by decide) (by decide), l 12 (by decide) (by decide), l 13 (by decide) (by decide), l 14 (by decide) (by decide), l 15 (by decide) (by decide), l 16 (by decide) (by decide), l 20 (by decide) (by decide), l 21 (by decide) (by decide), l 22 (by decide) (by decide), l 23 (by decide) (by decide), l 24 (by decide) (by decide), l 25 (by decide) (by decide), l 26 (by decide) (by decide), l 27 (by decide) (by decide), l 28 (by decide) (by decide), l 29 (by decide) (by decide), l 19 (by decide) (by decide), rw_ 18 (by decide) (by decide) (by decide), rw_ 11 (by decide) (by decide) (by decide), rw_ 12 (by decide) (by decide) (by decide), rw_ 13 (by decide) (by decide) (by decide), rw_ 14 (by decide) (by decide) (by decide), rw_ 15 (by decide) (by decide) (by decide), rw_ 16 (by decide) (by decide) (by decide), rw_ 20 (by decide) (by decide) (by decide), rw_ 21 (by decide) (by decide) (by decide), rw_ 22 (by decide) (by decide) (by decide), rw_ 23 (by decide) (by decide) (by decide), rw_ 24 (by decide) (by decide) (by decide), rw_ 25 (by decide) (by decide) (by decide), rw_ 26 (by decide) (by decide) (by decide), rw_ 27 (by decide) (by decide) (by decide), rw_ 28 (by decide) (by decide) (by decide), rw_ 29 (by decide) (by decide) (by decide), rw_ 19 (by decide) (by decide) (by decide), i 0 (by omega), i 14 (by omega), i 15 (by omega), i 16 (by omega), i 17 (by omega)]
  exact im
theorem imM.cb (im : imM μ T b) (h : baM μ μ') : imM μ' T b := by
  obtain ⟨l, rw_, i⟩ := h
  unfold imM iv_bM lnM icM imtM at im ⊢
  rw [l 3 (by decide), l 4 (by decide), l 5 (by decide), l 6 (by decide), l 7 (by decide), l 8 (by decide), l 9 (by decide), l 10 (by decide), l 11 (by decide), l 12 (by decide), l 13 (by decide), l 14 (by decide), l 15 (by decide), l 16 (by decide), l 17 (by decide), l 18 (by decide), l 19 (by decide), l 20 (by decide), rw_ 3 (by decide) (by decide), rw_ 4 (by decide) (by decide), rw_ 5 (by decide) (by decide), rw_ 6 (by decide) (by decide), rw_ 7 (by decide) (by decide), rw_ 8 (by decide) (by decide), rw_ 9 (by decide) (by decide), rw_ 10 (by decide) (by decide), rw_ 11 (by decide) (by decide), rw_ 12 (by decide) (by decide), rw_ 13 (by decide) (by decide), rw_ 14 (by decide) (by decide), rw_ 15 (by decide) (by decide), rw_ 16 (by decide) (by decide), rw_ 17 (by decide) (by decide), rw_ 18 (by decide) (by decide), rw_ 19 (by decide) (by decide), rw_ 20 (by decide) (by decide), i 1 (by omega), i 5 (by omega), i 6 (by omega), i 7 (by omega), i 8 (by omega)]
  exact im
theorem vbs.cb (v : vbs σ μ T b) (h : baX σ σ') (h2 : baM μ μ') : vbs σ' μ' T b := by
  obtain ⟨v1, ⟨v2, v3, v4⟩, v5, v6, v7⟩ := v
  refine ⟨v1.cb h, ⟨v2.cb h2, by rw [h2.2.2 4 (by omega)]; exact v3, by rw [h2.1 24 (by decide)]; exact v4⟩, ?_, ?_, by rw [h.1 35 (by decide) (by decide)]; exact v7⟩
  · unfold lwX at v5 ⊢
    rw [h.1 32 (by decide) (by decide), h.1 33 (by decide) (by decide), h.1 34 (by decide) (by decide)]
    exact v5
  · rw [h2.1 21 (by decide), h2.1 22 (by decide), h2.1 23 (by decide)]
    exact v6
theorem fin.cb {m : Nat} (v : fin σ μ T b m) (h : baX σ σ') (h2 : baM μ μ') : fin σ' μ' T b m := by
  obtain ⟨hh, ty, mk, v1, v2⟩ := v
  refine ⟨hh, ty, mk, ?_, v2⟩
  unfold vtb at v1 ⊢
  rw [h.2.1 32 (by decide) (by decide) (by decide), h.2.1 33 (by decide) (by decide) (by decide), h.2.1 34 (by decide) (by decide) (by decide), h2.2.1 21 (by decide) (by decide), h2.2.1 22 (by decide) (by decide), h2.2.1 23 (by decide) (by decide)]
  exact v1
theorem iml.cb (v : iml σ μ) (h : baX σ σ') (h2 : baM μ μ') : iml σ' μ' := by
  have l := h.1
  have l2 := h2.1
  unfold iml lnX lnM at v ⊢
  rw [l 11 (by decide) (by decide), l 12 (by decide) (by decide), l 13 (by decide) (by decide), l 14 (by decide) (by decide), l 15 (by decide) (by decide), l 16 (by decide) (by decide), l 20 (by decide) (by decide), l 21 (by decide) (by decide), l 22 (by decide) (by decide), l 23 (by decide) (by decide), l 24 (by decide) (by decide), l 25 (by decide) (by decide), l 26 (by decide) (by decide), l 27 (by decide) (by decide), l 28 (by decide) (by decide), l 29 (by decide) (by decide), l 19 (by decide) (by decide), l 18 (by decide) (by decide), l 33 (by decide) (by decide), l 34 (by decide) (by decide), l 32 (by decide) (by decide), l 35 (by decide) (by decide), l2 4 (by decide), l2 5 (by decide), l2 6 (by decide), l2 7 (by decide), l2 8 (by decide), l2 9 (by decide), l2 10 (by decide), l2 11 (by decide), l2 12 (by decide), l2 13 (by decide), l2 14 (by decide), l2 15 (by decide), l2 16 (by decide), l2 17 (by decide), l2 18 (by decide), l2 19 (by decide), l2 20 (by decide), l2 3 (by decide), l2 21 (by decide), l2 22 (by decide), l2 23 (by decide), l2 24 (by decide)]
  exact v
theorem lnR.cb (v : lnR μ) (h : baM μ μ') : lnR μ' := by
  have l := h.1
  unfold lnR at v ⊢
  rw [l 25 (by decide), l 26 (by decide), l 27 (by decide), l 28 (by decide), l 29 (by decide), l 30 (by decide), l 31 (by decide), l 32 (by decide), l 33 (by decide), l 34 (by decide), l 35 (by decide), l 36 (by decide), l 37 (by decide)]
  exact v
theorem XH.q (X : XH σ T b h k lim md cy rch n N fs fl st) (e : keX σ σ') : XH σ' T b h k lim md cy rch n N fs fl st := by
  obtain ⟨L, B, F, S, R, C, C0, s0, ml, nb, z, lv, y, al, fas, ⟨⟨g1, g2, g3, g4, g5, g6, g7, g8, g9, g10⟩, x2, ⟨j6, j7, j8, j9, j10⟩, x4, x5, x6⟩, a2, a3, a4, a5⟩ := X
  have i := e.2.2.2.2
  have l17 := e.1 17 (by decide)
  refine ⟨L, B, F, S, R, C, C0, s0, ml, nb, z, lv, y, al, fas, ⟨⟨g1.cb e.ba, ?_, ?_, ?_, ?_, ?_, ?_, ?_, ?_, g10⟩, x2, ⟨?_, ?_, ?_, ?_, ?_⟩, x4, ?_, x6⟩, a2, ?_, ?_, ?_⟩
  · rw [i 1 (by decide) (by decide) (by decide)]; exact g2
  · rw [i 2 (by decide) (by decide) (by decide)]; exact g3
  · rw [i 3 (by decide) (by decide) (by decide)]; exact g4
  · rw [i 4 (by decide) (by decide) (by decide)]; exact g5
  · rw [i 5 (by decide) (by decide) (by decide)]; exact g6
  · rw [l17]; exact g7
  · rw [l17]; exact g8
  · rw [e.2.2.1]; exact g9
  · rw [i 6 (by decide) (by decide) (by decide)]; exact j6
  · rw [i 7 (by decide) (by decide) (by decide)]; exact j7
  · rw [i 8 (by decide) (by decide) (by decide)]; exact j8
  · rw [i 9 (by decide) (by decide) (by decide)]; exact j9
  · rw [i 10 (by decide) (by decide) (by decide)]; exact j10
  · rw [i 11 (by decide) (by decide) (by decide)]; exact x5
  · rw [i 12 (by decide) (by decide) (by decide)]; exact a3
  · rw [i 22 (by decide) (by decide) (by decide)]; exact a4
  · rw [i 23 (by decide) (by decide) (by decide)]; exact a5
theorem MH.q (M : MH μ T b k lim md cy rch n N fs fl st sb) (e : keM μ μ') : MH μ' T b k lim md cy rch n N fs fl st sb := by
  obtain ⟨th, nd, bg, nt, us, s, ⟨t1, t2, t3, t4, t5⟩, hs⟩ := M
  have i : ∀ k, k ≠ 0 → k ≠ 19 → k ≠ 26 → k ≠ 27 → μ'.1 k = μ.1 k := e.2.2.2
  refine ⟨th, nd, bg, nt, us, s, ⟨RMt.c t1 (t1.1.cb e.ba) (t1.2.1.cb e.ba) (fun r q1 q2 _ _ => e.2.1 r (by omega) (by omega)) (fun k q => i k (by omega) (by omega) (by omega) (by omega)), ?_, ?_, ?_, ?_⟩, hs⟩
  · unfold mkM at t2 ⊢
    rw [i 12 (by decide) (by decide) (by decide) (by decide), e.2.1 30 (by decide) (by decide)]
    exact t2
  · rw [i 4 (by decide) (by decide) (by decide) (by decide)]; exact t3
  · rw [i 21 (by decide) (by decide) (by decide) (by decide), i 22 (by decide) (by decide) (by decide) (by decide), i 23 (by decide) (by decide) (by decide) (by decide), i 24 (by decide) (by decide) (by decide) (by decide), i 17 (by decide) (by decide) (by decide) (by decide), e.2.2.1]
    exact t4
  · rw [i 15 (by decide) (by decide) (by decide) (by decide), i 16 (by decide) (by decide) (by decide) (by decide)]
    exact t5
/-- tape and ports -/
theorem tape_k (t : iv_tape σ μ) (e1 : σ'.1 35 = σ.1 35) (e2 : μ'.1 0 = μ.1 0) (e3 : σ'.2.2.1 36 = σ.2.2.1 36) (e4 : ∀ j, σ'.2.2.2.1 36 j = σ.2.2.2.1 36 j) (e5 : μ'.2.2.1 2 = μ.2.2.1 2) (e6 : ∀ j, μ'.2.2.2.1 2 j = μ.2.2.2.1 2 j) : iv_tape σ' μ' := by
  obtain ⟨t, a1, a2, a3, a4, a5, a6, a7, a8⟩ := t
  exact ⟨t, a1, by rw [e1]; exact a2, by rw [e2]; exact a3, by rw [e3]; exact a4, by rw [e3]; exact a5, by rw [e5]; exact a6, fun j q => by rw [e4, e6]; exact a7 j q, fun j q => by rw [e4]; rw [e3] at q; exact a8 j q⟩
theorem tape_0 (t : iv_tape σ μ) (e1 : σ'.1 35 = 0) (e2 : μ'.1 0 = 0) (e3 : σ'.2.2.1 36 = σ.2.2.1 36) (e4 : ∀ j, σ'.2.2.2.1 36 j = σ.2.2.2.1 36 j) (e5 : μ'.2.2.1 2 = μ.2.2.1 2) : iv_tape σ' μ' := by
  obtain ⟨t, a1, a2, a3, a4, a5, a6, a7, a8⟩ := t
  exact ⟨0, by decide, e1, e2, Nat.zero_le _, by rw [e3]; exact a5, by rw [e5]; exact a6, fun j q => absurd q (Nat.not_lt_zero _), fun j q => by rw [e4]; rw [e3] at q; exact a8 j q⟩
theorem pts.q {B B' : Nat} (p : pts σ μ B) (hB : B ≤ B') (e1 : σ'.1 18 = σ.1 18) (e2 : σ'.1 19 = σ.1 19) (e3 : σ'.2.2.1 30 = σ.2.2.1 30) (e4 : σ'.2.2.1 31 = σ.2.2.1 31) (e5 : ∀ j, σ'.2.2.2.1 30 j = σ.2.2.2.1 30 j) (e6 : ∀ j, σ'.2.2.2.1 31 j = σ.2.2.2.1 31 j) (e7 : σ'.2.1 = σ.2.1) (f1 : μ'.1 18 = μ.1 18) (f2 : μ'.1 19 = μ.1 19) (f3 : μ'.1 20 = μ.1 20) (f4 : μ'.2.2.1 38 = μ.2.2.1 38) (f5 : μ'.2.2.1 39 = μ.2.2.1 39) (f6 : ∀ j, μ'.2.2.2.1 38 j = μ.2.2.2.1 38 j) (f7 : ∀ j, μ'.2.2.2.1 39 j = μ.2.2.2.1 39 j) (f8 : μ'.2.1 = μ.2.1) : pts σ' μ' B' := by
  obtain ⟨i, g, tk, a1, a2, a3, a4, a5, a6, a7, a8, a9, a10, a11, a12, a13, a14, a15, a16⟩ := p
  exact ⟨i, g, tk, a1, by omega, a3, by rw [e1]; exact a4, by rw [f2]; exact a5, by rw [e3]; exact a6, by rw [e4]; exact a7, by rw [f4]; exact a8, by rw [f5]; exact a9, fun j q => by rw [e5, f6]; exact a10 j q, by rw [e2]; exact a11, by rw [f1]; exact a12, by rw [e7]; exact a13, by rw [f8]; exact a14, by rw [f3]; exact a15, fun j q => by rw [e6, f7]; exact a16 j q⟩
theorem pts.iv {B : Nat} (p : pts σ μ B) (hB : B < 2 ^ 62) : iv_ports σ μ := by
  obtain ⟨i, g, tk, a1, a2, a3, a4, a5, a6, a7, a8, a9, a10, a11, a12, a13, a14, a15, a16⟩ := p
  exact ⟨i, g, a1, by omega, a4, a5, a6, a7, a8, a9, a10, a11.trans a12.symm, a13, a14, a15, a16⟩
theorem pts_iv {B B' : Nat} (p : pts σ μ B) (q : iv_ports σ' μ') (hB : B ≤ B') (hB2 : B < 2 ^ 62) (e2 : σ'.1 19 = σ.1 19) (e7 : σ'.2.1 = σ.2.1) : pts σ' μ' B' := by
  obtain ⟨i, g, tk, a1, a2, a3, a4, a5, a6, a7, a8, a9, a10, a11, a12, a13, a14, a15, a16⟩ := p
  obtain ⟨i', g', c1, c2, c3, c4, c5, c6, c7, c8, c9, c10, c11, c12, c13, c14⟩ := q
  have hg : g' = g := by
    rw [e7, a13] at c11
    exact ((pk_lEQ (by omega) (by omega)).mp c11).symm
  subst hg
  exact ⟨i', g', tk, c1, by omega, a3, c3, c4, c5, c6, c7, c8, c9, e2.trans a11, c10.symm.trans (e2.trans a11), c11, c12, c13, c14⟩
/-- the types of an image, as functions -/
theorem vok_ex (hf : ∀ m, m < T 0 1 → fin σ μ T b m) : ∃ H Y, vOK T b H Y := by
  have ex : ∀ m, ∃ q : (Nat → Nat) × (Nat → Nat), m < T 0 1 → (∀ p, inC T m p → q.1 p ≠ 0 → q.1 p ≤ T 16 m + 1 ∧ T 4 p = 1 ∧ (∀ i, i < T 15 m + (q.1 p - 1) → vt T (q.2 (12 * p + i)) ∧ (T 15 m ≤ i → q.2 (12 * p + i) ≠ 99)) ∧ stb T b m p q.1 q.2) ∧ arr T m (T 17 m) 0 (w0T T m) q.1 q.2 := fun m => by
    by_cases c : m < T 0 1
    · obtain ⟨hh, ty, mk, f1, f2, f3, f4, f5⟩ := hf m c
      exact ⟨(hh, ty), fun _ => ⟨fun p hp h0 => ⟨(f2 p hp).1, ((f2 p hp).2.2.2 h0).1, ((f2 p hp).2.2.2 h0).2, f4 p hp h0⟩, f5⟩⟩
    · exact ⟨(fun _ => 0, fun _ => 0), fun z => absurd z c⟩
  obtain ⟨f, hf'⟩ := Classical.axiomOfChoice ex
  exact ⟨fun m => (f m).1, fun m => (f m).2, fun m hm => hf' m hm⟩
end
