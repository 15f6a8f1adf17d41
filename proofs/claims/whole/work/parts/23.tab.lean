/-! ===== the image as tables of numbers ===== -/
/-- the tables, read off the class's rows -/
def tb (σ : sm_S) (r j : Nat) : Nat :=
  if r = 0 then (if j = 0 then (σ.1 0).toNatClampNeg else if j = 1 then (σ.1 16).toNatClampNeg else if j = 2 then (σ.1 17).toNatClampNeg else if j = 3 then (σ.1 15).toNatClampNeg else (σ.1 14).toNatClampNeg)
  else if r = 5 then (σ.2.2.2.1 11 j + 1).toNatClampNeg
  else if r = 8 then (σ.2.2.2.1 14 j + 1).toNatClampNeg
  else if r = 9 then (σ.2.2.2.1 15 j + 1).toNatClampNeg
  else if r = 11 then (if σ.2.2.2.1 20 j = 255 then 0 else (σ.2.2.2.1 20 j).toNatClampNeg + 1)
  else if r = 4 then (σ.2.2.2.1 19 j).toNatClampNeg
  else if r ≤ 7 then (σ.2.2.2.1 (r + 6) j).toNatClampNeg
  else if r = 10 then (σ.2.2.2.1 16 j).toNatClampNeg
  else (σ.2.2.2.1 (r + 9) j).toNatClampNeg
theorem oN_a {x : Nat} : oN x + 1 = nI x := by unfold oN; exact Int32.sub_add_cancel _ _
theorem tb_o {x : Int32} {v : Nat} (h : x = oN v) (hv : v < 2 ^ 31) : (x + 1).toNatClampNeg = v := by rw [h, oN_a, nI_clamp hv]
theorem tb_n {x : Int32} {v : Nat} (h : x = nI v) (hv : v < 2 ^ 31) : x.toNatClampNeg = v := by rw [h, nI_clamp hv]
/-- classes as the class's rows have them -/
def icX (σ : sm_S) (T : Nat → Nat → Nat) : Prop := (∀ c, c < T 0 0 → σ.2.2.2.1 11 c = oN (T 5 c) ∧ σ.2.2.2.1 12 c = nI (T 6 c) ∧ ∀ i, i < T 6 c → σ.2.2.2.1 13 (15 * c + i) = nI (T 7 (15 * c + i))) ∧ (∀ c s, c < T 0 0 → s < 16 → σ.2.2.2.1 14 (16 * c + s) = oN (T 8 (16 * c + s)) ∧ σ.2.2.2.1 15 (16 * c + s) = oN (T 9 (16 * c + s))) ∧ ∀ i, i < 5 → σ.2.2.2.1 16 i = nI (T 10 i)
def icM (μ : sm_S) (T : Nat → Nat → Nat) : Prop := (∀ c, c < T 0 0 → μ.2.2.2.1 5 c = oN (T 5 c) ∧ μ.2.2.2.1 6 c = nI (T 6 c) ∧ ∀ i, i < T 6 c → μ.2.2.2.1 7 (15 * c + i) = nI (T 7 (15 * c + i))) ∧ (∀ c s, c < T 0 0 → s < 16 → μ.2.2.2.1 8 (16 * c + s) = oN (T 8 (16 * c + s)) ∧ μ.2.2.2.1 9 (16 * c + s) = oN (T 9 (16 * c + s))) ∧ ∀ i, i < 5 → μ.2.2.2.1 10 i = nI (T 10 i)
/-- methods -/
def imtX (σ : sm_S) (T : Nat → Nat → Nat) (m : Nat) : Prop := σ.2.2.2.1 20 m = (if T 11 m = 0 then 255 else nI (T 11 m - 1)) ∧ σ.2.2.2.1 21 m = nI (T 12 m) ∧ (∀ i, i < T 12 m → σ.2.2.2.1 22 (8 * m + i) = nI (T 13 (8 * m + i))) ∧ σ.2.2.2.1 23 m = nI (T 14 m) ∧ σ.2.2.2.1 24 m = nI (T 15 m) ∧ σ.2.2.2.1 25 m = nI (T 16 m) ∧ σ.2.2.2.1 26 m = nI (T 17 m) ∧ σ.2.2.2.1 27 m = nI (T 18 m) ∧ σ.2.2.2.1 28 m = nI (T 19 m) ∧ σ.2.2.2.1 29 m = nI (T 20 m) ∧ ∀ p, T 17 m ≤ p → p < T 17 m + T 18 m → σ.2.2.2.1 19 p = nI (T 4 p)
def imtM (μ : sm_S) (T : Nat → Nat → Nat) (m : Nat) : Prop := μ.2.2.2.1 11 m = oN (T 11 m) ∧ μ.2.2.2.1 12 m = nI (T 12 m) ∧ (∀ i, i < T 12 m → μ.2.2.2.1 13 (8 * m + i) = nI (T 13 (8 * m + i))) ∧ μ.2.2.2.1 14 m = (if T 14 m = 255 then -1 else nI (T 14 m)) ∧ μ.2.2.2.1 15 m = nI (T 15 m) ∧ μ.2.2.2.1 16 m = nI (T 16 m) ∧ μ.2.2.2.1 17 m = nI (T 17 m) ∧ μ.2.2.2.1 18 m = nI (T 18 m) ∧ μ.2.2.2.1 19 m = nI (T 19 m) ∧ μ.2.2.2.1 20 m = nI (T 20 m) ∧ ∀ p, T 17 m ≤ p → p < T 17 m + T 18 m → μ.2.2.2.1 4 p = nI (T 4 p)
def imX (σ : sm_S) (T : Nat → Nat → Nat) (b : Nat → Nat) : Prop := iv_bX σ (T 0 4) b ∧ lnX σ ∧ (T 0 4 ≤ σ.2.2.1 19 ∧ σ.2.2.1 19 < 2 ^ 31) ∧ σ.1 0 = nI (T 0 0) ∧ σ.1 16 = nI (T 0 1) ∧ σ.1 17 = nI (T 0 2) ∧ σ.1 15 = nI (T 0 3) ∧ icX σ T ∧ ∀ m, m < T 0 1 → imtX σ T m
def imM (μ : sm_S) (T : Nat → Nat → Nat) (b : Nat → Nat) : Prop := iv_bM μ (T 0 4) b ∧ lnM μ ∧ μ.1 5 = nI (T 0 0) ∧ μ.1 6 = nI (T 0 1) ∧ μ.1 8 = nI (T 0 2) ∧ μ.1 7 = nI (T 0 3) ∧ icM μ T ∧ ∀ m, m < T 0 1 → imtM μ T m
/-- what an instruction at p must be, in the tables -/
def opT (T : Nat → Nat → Nat) (b : Nat → Nat) (lo p : Nat) : Prop := b p < 42 ∧ ((b p = 2 ∨ b p = 3) → b (p + 1) < lo) ∧ ((b p = 19 ∨ b p = 20) → b (p + 1) ≤ 5) ∧ ((b p = 26 ∨ b p = 29 ∨ b p = 30) → b (p + 1) < T 0 0) ∧ ((b p = 27 ∨ b p = 28) → b (p + 1) < T 0 0 ∧ b (p + 2) < T 6 (b (p + 1))) ∧ (b p = 31 → b (p + 1) ≤ T 0 0) ∧ (b p = 36 → b (p + 1) < T 0 0 ∧ b (p + 2) < 16 ∧ T 8 (16 * b (p + 1) + b (p + 2)) ≠ 0)
/-- a class of the tables -/
def wfc (T : Nat → Nat → Nat) (c : Nat) : Prop := T 5 c ≤ c ∧ T 6 c ≤ 15 ∧ (∀ i, i < T 6 c → ty_ok (T 0 0) False (T 7 (15 * c + i))) ∧ (∀ s, s < 16 → T 8 (16 * c + s) ≤ 256 ∧ T 9 (16 * c + s) ≤ 8000 ∧ (T 9 (16 * c + s) ≠ 0 → T 8 (16 * c + s) ≠ 0)) ∧ (T 5 c = 0 → ∀ s, s < 16 → T 9 (16 * c + s) = 0 → T 8 (16 * c + s) = 0) ∧ (T 5 c ≠ 0 → T 6 (T 5 c - 1) ≤ T 6 c ∧ (∀ i, i < T 6 (T 5 c - 1) → T 7 (15 * c + i) = T 7 (15 * (T 5 c - 1) + i)) ∧ ∀ s, s < 16 → T 9 (16 * c + s) = 0 → T 8 (16 * c + s) = T 8 (16 * (T 5 c - 1) + s))
/-- a method of the tables -/
def wfm (T : Nat → Nat → Nat) (b : Nat → Nat) (m : Nat) : Prop := T 11 m ≤ T 0 0 ∧ T 12 m ≤ 8 ∧ (T 11 m ≠ 0 → 1 ≤ T 12 m ∧ T 13 (8 * m) = T 11 m) ∧ (∀ i, i < T 12 m → ty_ok (T 0 0) False (T 13 (8 * m + i))) ∧ ty_ok (T 0 0) True (T 14 m) ∧ T 12 m ≤ T 15 m ∧ T 15 m + T 16 m ≤ 12 ∧ 1 ≤ T 18 m ∧ T 18 m ≤ 1000 ∧ T 19 m ≤ 8 ∧ T 20 m = T 17 m + T 18 m + 1 ∧ T 20 m + 7 * T 19 m < T 0 4 ∧ (∀ i, i < T 19 m → b (T 20 m + 7 * i + 4) < T 0 0) ∧ T 4 (T 17 m) = 1 ∧ ∀ p, T 17 m ≤ p → p < T 17 m + T 18 m → T 4 p = 0 ∨ (T 4 p = 1 ∧ opT T b (T 15 m) p ∧ p + wd (b p) ≤ T 17 m + T 18 m ∧ (p + wd (b p) < T 17 m + T 18 m → T 4 (p + wd (b p)) = 1))
def wf (T : Nat → Nat → Nat) (b : Nat → Nat) : Prop := 1 ≤ T 0 0 ∧ T 0 0 ≤ 32 ∧ 1 ≤ T 0 1 ∧ T 0 1 ≤ 64 ∧ T 0 4 ≤ 8000 ∧ T 0 3 ≤ T 0 4 ∧ (∀ c, c < T 0 0 → wfc T c) ∧ (∀ i, i < 5 → T 10 i < T 0 0) ∧ (∀ m, m < T 0 1 → wfm T b m) ∧ (∀ i j, i < j → j < 16 * T 0 0 → T 9 i ≠ 0 → T 9 j ≠ 0 → T 9 i < T 9 j) ∧ (∀ j m, j < 16 * T 0 0 → m < T 0 1 → T 9 j ≤ T 17 m) ∧ (∀ m m', m < m' → m' < T 0 1 → T 20 m + 7 * T 19 m ≤ T 17 m') ∧ T 0 2 < T 0 1 ∧ T 11 (T 0 2) = 0 ∧ T 12 (T 0 2) = 0 ∧ T 14 (T 0 2) = 255
theorem tb5 {σ : sm_S} {j v : Nat} (h : σ.2.2.2.1 11 j = oN v) (hv : v < 2 ^ 31) : tb σ 5 j = v := tb_o h hv
theorem tb6 {σ : sm_S} {j v : Nat} (h : σ.2.2.2.1 12 j = nI v) (hv : v < 2 ^ 31) : tb σ 6 j = v := tb_n h hv
theorem tb7 {σ : sm_S} {j v : Nat} (h : σ.2.2.2.1 13 j = nI v) (hv : v < 2 ^ 31) : tb σ 7 j = v := tb_n h hv
theorem tb8 {σ : sm_S} {j v : Nat} (h : σ.2.2.2.1 14 j = oN v) (hv : v < 2 ^ 31) : tb σ 8 j = v := tb_o h hv
theorem tb9 {σ : sm_S} {j v : Nat} (h : σ.2.2.2.1 15 j = oN v) (hv : v < 2 ^ 31) : tb σ 9 j = v := tb_o h hv
theorem tb10 {σ : sm_S} {j v : Nat} (h : σ.2.2.2.1 16 j = nI v) (hv : v < 2 ^ 31) : tb σ 10 j = v := tb_n h hv
theorem tb4 {σ : sm_S} {j v : Nat} (h : σ.2.2.2.1 19 j = nI v) (hv : v < 2 ^ 31) : tb σ 4 j = v := tb_n h hv
theorem tb11 {σ : sm_S} {j o : Nat} (h : σ.2.2.2.1 20 j = (if o = 0 then 255 else nI (o - 1))) (ho : o ≤ 32) : tb σ 11 j = o := by
  show (if σ.2.2.2.1 20 j = 255 then 0 else (σ.2.2.2.1 20 j).toNatClampNeg + 1) = o
  by_cases e : o = 0
  · rw [if_pos e] at h
    rw [if_pos h, e]
  · rw [if_neg e] at h
    rw [h, if_neg, nI_clamp (by omega)]
    · omega
    · intro q
      have := (nI_eq (a := o - 1) (b := 255) (by omega) (by omega)).mp q
      omega
theorem tb12 {σ : sm_S} {j v : Nat} (h : σ.2.2.2.1 21 j = nI v) (hv : v < 2 ^ 31) : tb σ 12 j = v := tb_n h hv
theorem tb13 {σ : sm_S} {j v : Nat} (h : σ.2.2.2.1 22 j = nI v) (hv : v < 2 ^ 31) : tb σ 13 j = v := tb_n h hv
theorem tb14 {σ : sm_S} {j v : Nat} (h : σ.2.2.2.1 23 j = nI v) (hv : v < 2 ^ 31) : tb σ 14 j = v := tb_n h hv
theorem tb15 {σ : sm_S} {j v : Nat} (h : σ.2.2.2.1 24 j = nI v) (hv : v < 2 ^ 31) : tb σ 15 j = v := tb_n h hv
theorem tb16 {σ : sm_S} {j v : Nat} (h : σ.2.2.2.1 25 j = nI v) (hv : v < 2 ^ 31) : tb σ 16 j = v := tb_n h hv
theorem tb17 {σ : sm_S} {j v : Nat} (h : σ.2.2.2.1 26 j = nI v) (hv : v < 2 ^ 31) : tb σ 17 j = v := tb_n h hv
theorem tb18 {σ : sm_S} {j v : Nat} (h : σ.2.2.2.1 27 j = nI v) (hv : v < 2 ^ 31) : tb σ 18 j = v := tb_n h hv
theorem tb19 {σ : sm_S} {j v : Nat} (h : σ.2.2.2.1 28 j = nI v) (hv : v < 2 ^ 31) : tb σ 19 j = v := tb_n h hv
theorem tb20 {σ : sm_S} {j v : Nat} (h : σ.2.2.2.1 29 j = nI v) (hv : v < 2 ^ 31) : tb σ 20 j = v := tb_n h hv
theorem ty_le {C t : Nat} {o : Prop} (h : ty_ok C o t) (hC : C ≤ 32) : t ≤ 255 := by unfold ty_ok at h; omega
/-- what the tables say of a class -/
def tcl (σ μ : sm_S) (C c p0 p : Nat) : Prop := σ.2.2.2.1 11 c = oN (tb σ 5 c) ∧ μ.2.2.2.1 5 c = oN (tb σ 5 c) ∧ tb σ 5 c ≤ c ∧ σ.2.2.2.1 12 c = nI (tb σ 6 c) ∧ μ.2.2.2.1 6 c = nI (tb σ 6 c) ∧ tb σ 6 c ≤ 15 ∧ (∀ i, i < tb σ 6 c → ty_ok C False (tb σ 7 (15 * c + i)) ∧ σ.2.2.2.1 13 (15 * c + i) = nI (tb σ 7 (15 * c + i)) ∧ μ.2.2.2.1 7 (15 * c + i) = nI (tb σ 7 (15 * c + i))) ∧ (∀ s, s < 16 → σ.2.2.2.1 14 (16 * c + s) = oN (tb σ 8 (16 * c + s)) ∧ μ.2.2.2.1 8 (16 * c + s) = oN (tb σ 8 (16 * c + s)) ∧ tb σ 8 (16 * c + s) ≤ 256 ∧ σ.2.2.2.1 15 (16 * c + s) = oN (tb σ 9 (16 * c + s)) ∧ μ.2.2.2.1 9 (16 * c + s) = oN (tb σ 9 (16 * c + s)) ∧ (tb σ 9 (16 * c + s) ≠ 0 → tb σ 8 (16 * c + s) ≠ 0 ∧ p0 < tb σ 9 (16 * c + s) ∧ tb σ 9 (16 * c + s) ≤ p)) ∧ (∀ s t, s < t → t < 16 → tb σ 9 (16 * c + s) ≠ 0 → tb σ 9 (16 * c + t) ≠ 0 → tb σ 9 (16 * c + s) < tb σ 9 (16 * c + t)) ∧ (tb σ 5 c = 0 → ∀ s, s < 16 → tb σ 9 (16 * c + s) = 0 → tb σ 8 (16 * c + s) = 0)
theorem tcl_of {σ μ : sm_S} {C c p0 p : Nat} (h : clq σ μ C c p0 p) (hC : C ≤ 32) (hc : c < C) (hp : p ≤ 8000) : tcl σ μ C c p0 p ∧ (tb σ 5 c ≠ 0 → ∃ nf' : Nat, nf' ≤ tb σ 6 c ∧ μ.2.2.2.1 6 (tb σ 5 c - 1) = nI nf' ∧ (∀ i, i < nf' → μ.2.2.2.1 7 (15 * c + i) = μ.2.2.2.1 7 (15 * (tb σ 5 c - 1) + i)) ∧ ∀ s, s < 16 → tb σ 9 (16 * c + s) = 0 → μ.2.2.2.1 8 (16 * c + s) = μ.2.2.2.1 8 (16 * (tb σ 5 c - 1) + s)) := by
  obtain ⟨u, nf, v, q, h1, h2, h3, h4, h5, h6, h7, h8, h9, h10, h11, h12, h13⟩ := h
  have e5 : tb σ 5 c = u := tb5 h3 (by omega)
  have e6 : tb σ 6 c = nf := tb6 h5 (by omega)
  have hq : ∀ s, s < 16 → q s ≤ 8000 := fun s hs => by
    by_cases e : q s = 0
    · omega
    · have := h10 s hs e; omega
  have e8 : ∀ s, s < 16 → tb σ 8 (16 * c + s) = v s := fun s hs => tb8 (h8 s hs).1 (by have := h9 s hs; omega)
  have e9 : ∀ s, s < 16 → tb σ 9 (16 * c + s) = q s := fun s hs => tb9 (h8 s hs).2.2.1 (by have := hq s hs; omega)
  refine ⟨⟨by rw [e5]; exact h3, by rw [e5]; exact h4, by rw [e5]; exact h1, by rw [e6]; exact h5, by rw [e6]; exact h6, by rw [e6]; exact h2, fun i hi => ?_, fun s hs => ?_, fun s t hst ht => ?_, ?_⟩, ?_⟩
  · rw [e6] at hi
    obtain ⟨t, t1, t2, t3⟩ := h7 i hi
    have e7 : tb σ 7 (15 * c + i) = t := tb7 t2 (by have := ty_le t1 hC; omega)
    rw [e7]
    exact ⟨t1, t2, t3⟩
  · rw [e8 s hs, e9 s hs]
    obtain ⟨a1, a2, a3, a4⟩ := h8 s hs
    exact ⟨a1, a2, h9 s hs, a3, a4, h10 s hs⟩
  · rw [e9 s (by omega), e9 t ht]
    exact h11 s t hst ht
  · intro hu s hs
    rw [e5] at hu
    rw [e9 s hs, e8 s hs]
    exact h12 hu s hs
  · intro hu
    rw [e5] at hu ⊢
    rw [e6]
    obtain ⟨nf', a1, a2, a3, a4⟩ := h13 hu
    exact ⟨nf', a1, a2, a3, fun s hs => by rw [e9 s hs]; exact a4 s hs⟩
theorem pl_le {pl : Nat → Nat} {m : Nat} (h : ∀ i, i < m → pl i < pl (i + 1)) {i j : Nat} (hij : i ≤ j) (hj : j ≤ m) : pl i ≤ pl j := by
  have := pl_mono h (j - i) i (by omega)
  rw [show i + (j - i) = j by omega] at this
  exact this
theorem tmt_of {σ μ : sm_S} {b : Nat → Nat} {C n m p p' : Nat} (h : mtq σ μ b C n m p p') (hC : C ≤ 32) (hn : n ≤ 8000) (hp' : p' < n) (h00 : tb σ 0 0 = C) (h04 : tb σ 0 4 = n) (hcl : ∀ c, c < C → μ.2.2.2.1 6 c = nI (tb σ 6 c) ∧ tb σ 6 c ≤ 15 ∧ ∀ s, s < 16 → μ.2.2.2.1 8 (16 * c + s) = oN (tb σ 8 (16 * c + s)) ∧ tb σ 8 (16 * c + s) ≤ 256) : imtX σ (tb σ) m ∧ imtM μ (tb σ) m ∧ wfm (tb σ) b m ∧ p < tb σ 17 m ∧ tb σ 20 m + 7 * tb σ 19 m = p' := by
  obtain ⟨o, np, g, lo, st, ca, cl, h, h1, h2, h3, h4, h5, h6, h7, q1, q2, q3, q4, q5, q6, q7, q8, q9, q10, q11, q12, q13, q14, q15, q16, q17, q18, q19, q20, q21, q22, q23, q24, q25, q26⟩ := h
  have e11 : tb σ 11 m = o := tb11 h2 (by omega)
  have e12 : tb σ 12 m = np := tb12 h6 (by omega)
  have e14 : tb σ 14 m = g := tb14 q2 (by have := ty_le q1 hC; omega)
  have e15 : tb σ 15 m = lo := tb15 q7 (by omega)
  have e16 : tb σ 16 m = st := tb16 q9 (by omega)
  have e17 : tb σ 17 m = ca := tb17 q14 (by omega)
  have e18 : tb σ 18 m = cl := tb18 q16 (by omega)
  have e19 : tb σ 19 m = h := tb19 q19 (by omega)
  have e20 : tb σ 20 m = ca + cl + 1 := tb20 q21 (by omega)
  have e13 : ∀ i, i < np → ty_ok C False (tb σ 13 (8 * m + i)) ∧ σ.2.2.2.1 22 (8 * m + i) = nI (tb σ 13 (8 * m + i)) ∧ μ.2.2.2.1 13 (8 * m + i) = nI (tb σ 13 (8 * m + i)) := fun i hi => by
    obtain ⟨t, t1, t2, t3⟩ := h7 i hi
    have e : tb σ 13 (8 * m + i) = t := tb13 t2 (by have := ty_le t1 hC; omega)
    rw [e]; exact ⟨t1, t2, t3⟩
  have e4 : ∀ j, ca ≤ j → j < ca + cl → (σ.2.2.2.1 19 j = nI (tb σ 4 j) ∧ μ.2.2.2.1 4 j = nI (tb σ 4 j)) ∧ (μ.2.2.2.1 4 j = 1 → tb σ 4 j = 1) ∧ (tb σ 4 j = 0 ∨ (tb σ 4 j = 1 ∧ opT (tb σ) b lo j ∧ j + wd (b j) ≤ ca + cl ∧ (j + wd (b j) < ca + cl → μ.2.2.2.1 4 (j + wd (b j)) = 1))) := fun j j1 j2 => by
    rcases q25.2 j j1 j2 with ⟨z1, z2⟩ | ⟨z1, z2, z3, z4, z5, z6⟩
    · have e : tb σ 4 j = 0 := tb4 (v := 0) z1 (by omega)
      rw [e]
      exact ⟨⟨z1, z2⟩, fun q => absurd (q.symm.trans z2) (by decide), Or.inl rfl⟩
    · have e : tb σ 4 j = 1 := tb4 (v := 1) z1 (by omega)
      rw [e]
      refine ⟨⟨z1, z2⟩, fun _ => rfl, Or.inr ⟨rfl, ?_, z4, z6⟩⟩
      obtain ⟨w1, w2, w3, w4, w5, w6, w7⟩ := z3
      refine ⟨w1, w2, w3, by rw [h00]; exact w4, fun q => ?_, by rw [h00]; exact w6, fun q => ?_⟩
      · obtain ⟨v1, nf, v2, v3, v4⟩ := w5 q
        obtain ⟨y1, y2, -⟩ := hcl _ v1
        rw [h00]
        rw [v3] at y1
        have := (nI_eq (by omega) (by omega)).mp y1
        exact ⟨v1, by omega⟩
      · obtain ⟨v1, v2, vv, v3, v4, v5⟩ := w7 q
        obtain ⟨-, -, y3⟩ := hcl _ v1
        obtain ⟨y4, y5⟩ := y3 _ v2
        rw [h00]
        rw [v5] at y4
        have := oN_inj (by omega) (by omega) y4
        exact ⟨v1, v2, by omega⟩
  refine ⟨?_, ?_, ?_, by omega, by omega⟩
  · unfold imtX
    rw [e11, e12, e14, e15, e16, e17, e18, e19, e20]
    exact ⟨h2, h6, fun i hi => (e13 i hi).2.1, q2, q7, q9, q14, q16, q19, q21, fun j j1 j2 => (e4 j j1 j2).1.1⟩
  · unfold imtM
    rw [e11, e12, e14, e15, e16, e17, e18, e19, e20]
    exact ⟨h3, q4, fun i hi => (e13 i hi).2.2, q3, q8, q10, q15, q17, q20, q22, fun j j1 j2 => (e4 j j1 j2).1.2⟩
  · unfold wfm
    rw [e11, e12, e14, e15, e16, e17, e18, e19, e20, h00, h04]
    refine ⟨h1, h4, fun q => ⟨(h5 q).1, ?_⟩, fun i hi => (e13 i hi).1, q1, q5, q6, q11, q12, q18, rfl, by omega, fun i hi => (q26 i hi).2, ?_, fun j j1 j2 => ?_⟩
    · have w := (e13 0 (h5 q).1)
      have w2 := (h5 q).2
      have w3 := w.2.2
      rw [Nat.add_zero, w2] at w3
      have := ty_le w.1 hC
      rw [Nat.add_zero] at this
      exact ((nI_eq (by omega) (by omega)).mp w3).symm
    · exact (e4 ca (by omega) (by omega)).2.1 (q25.1 (by omega))
    · rcases (e4 j j1 j2).2.2 with z | ⟨z1, z2, z3, z4⟩
      · exact Or.inl z
      · exact Or.inr ⟨z1, z2, z3, fun q => (e4 _ (by have := (wd_le (b j)).1; omega) q).2.1 (z4 q)⟩
theorem im_ex {σ μ : sm_S} {n : Nat} {b : Nat → Nat} (h : imq σ μ n b) (h19 : n ≤ σ.2.2.1 19) (h19b : σ.2.2.1 19 < 2 ^ 31) : imX σ (tb σ) b ∧ imM μ (tb σ) b ∧ wf (tb σ) b ∧ tb σ 0 4 = n := by
  obtain ⟨C, M, f, k, pc, p1, p2, hr, hC, hcl, hth, c16, c6, hM1, hM2, hpc, hmt, hp2, hf, c17, c8, f21, f23, k1, k2, hk, hw⟩ := h
  have hn : n ≤ 8000 := hr.1.1
  have hC2 : C ≤ 32 := hr.2.2.2.2.2.2
  have h00 : tb σ 0 0 = C := tb_n hr.2.2.2.2.1 (by omega)
  have h01 : tb σ 0 1 = M := tb_n c16 (by omega)
  have h02 : tb σ 0 2 = f := tb_n c17 (by omega)
  have h03 : tb σ 0 3 = k := tb_n k1 (by omega)
  have h04 : tb σ 0 4 = n := tb_n hr.1.2.1 (by omega)
  obtain ⟨pl, a1, a2⟩ := hcl
  obtain ⟨qm, b0, b1, b2⟩ := hmt
  have am : ∀ i, i < C → pl i < pl (i + 1) := fun i hi => (a2 i hi).1
  have bm : ∀ i, i < M → qm i < qm (i + 1) := fun i hi => (b2 i hi).1
  have p12 : p1 ≤ p2 := by have := pl_le bm (Nat.zero_le M) (Nat.le_refl M); omega
  have cl0 := fun c (hc : c < C) => tcl_of (a2 c hc).2 hC2 hc (by have := pl_le am (show c + 1 ≤ C by omega) (Nat.le_refl C); omega)
  have mt0 := fun m (hm : m < M) => tmt_of (b2 m hm).2 hC2 hn (by have := pl_le bm (show m + 1 ≤ M by omega) (Nat.le_refl M); omega) h00 h04 (fun c hc => ⟨(cl0 c hc).1.2.2.2.2.1, (cl0 c hc).1.2.2.2.2.2.1, fun s hs => ⟨((cl0 c hc).1.2.2.2.2.2.2.2.1 s hs).2.1, ((cl0 c hc).1.2.2.2.2.2.2.2.1 s hs).2.2.1⟩⟩)
  have th0 : ∀ i, i < 5 → tb σ 10 i < C ∧ σ.2.2.2.1 16 i = nI (tb σ 10 i) ∧ μ.2.2.2.1 10 i = nI (tb σ 10 i) := fun i hi => by
    obtain ⟨t, t1, t2, t3⟩ := hth i hi
    have e : tb σ 10 i = t := tb10 t2 (by omega)
    rw [e]; exact ⟨t1, t2, t3⟩
  refine ⟨⟨by rw [h04]; exact hr.1, hr.2.2.1, by rw [h04]; exact ⟨h19, h19b⟩, by rw [h00]; exact hr.2.2.2.2.1, by rw [h01]; exact c16, by rw [h02]; exact c17, by rw [h03]; exact k1, ⟨fun c hc => ?_, fun c s hc hs => ?_, fun i hi => (th0 i hi).2.1⟩, fun m hm => (mt0 m (by omega)).1⟩, ⟨by rw [h04]; exact hr.2.1, hr.2.2.2.1, by rw [h00]; exact hr.2.2.2.2.2.1, by rw [h01]; exact c6, by rw [h02]; exact c8, by rw [h03]; exact k2, ⟨fun c hc => ?_, fun c s hc hs => ?_, fun i hi => (th0 i hi).2.2⟩, fun m hm => (mt0 m (by omega)).2.1⟩, ?_, h04⟩
  · rw [h00] at hc
    obtain ⟨z1, z2, z3, z4, z5, z6, z7, -⟩ := (cl0 c hc).1
    exact ⟨z1, z4, fun i hi => (z7 i hi).2.1⟩
  · rw [h00] at hc
    have z := (cl0 c hc).1.2.2.2.2.2.2.2.1 s hs
    exact ⟨z.1, z.2.2.2.1⟩
  · rw [h00] at hc
    obtain ⟨z1, z2, z3, z4, z5, z6, z7, -⟩ := (cl0 c hc).1
    exact ⟨z2, z5, fun i hi => (z7 i hi).2.2⟩
  · rw [h00] at hc
    have z := (cl0 c hc).1.2.2.2.2.2.2.2.1 s hs
    exact ⟨z.2.1, z.2.2.2.2.1⟩
  · have q9 : ∀ c s, c < C → s < 16 → tb σ 9 (16 * c + s) ≠ 0 → pl c < tb σ 9 (16 * c + s) ∧ tb σ 9 (16 * c + s) ≤ pl (c + 1) := fun c s hc hs q => ((cl0 c hc).1.2.2.2.2.2.2.2.1 s hs).2.2.2.2.2 q |>.2
    have q9p : ∀ j, j < 16 * C → tb σ 9 j ≤ pc := fun j hj => by
      by_cases e : tb σ 9 j = 0
      · omega
      · have e1 : j = 16 * (j / 16) + j % 16 := by omega
        rw [e1] at e ⊢
        have w := q9 (j / 16) (j % 16) (by omega) (by omega) e
        have w2 := pl_le am (show j / 16 + 1 ≤ C by omega) (Nat.le_refl C)
        omega
    refine ⟨by omega, by omega, by omega, by omega, by omega, by omega, fun c hc => ?_, fun i hi => by rw [h00]; exact (th0 i hi).1, fun m hm => (mt0 m (by omega)).2.2.1, fun i j hij hj hi0 hj0 => ?_, fun j m hj hm => ?_, fun m m' hmm hm' => ?_, by omega, ?_, ?_, ?_⟩
    · rw [h00] at hc
      obtain ⟨⟨z1, z2, z3, z4, z5, z6, z7, z8, z9, z10⟩, z11⟩ := cl0 c hc
      refine ⟨z3, z6, fun i hi => by rw [h00]; exact (z7 i hi).1, fun s hs => ⟨(z8 s hs).2.2.1, ?_, fun q => ((z8 s hs).2.2.2.2.2 q).1⟩, z10, fun hu => ?_⟩
      · have := q9p (16 * c + s) (by omega); omega
      · obtain ⟨nf', y1, y2, y3, y4⟩ := z11 hu
        obtain ⟨⟨u1, u2, u3, u4, u5, u6, u7, u8, -⟩, -⟩ := cl0 (tb σ 5 c - 1) (by omega)
        have e6 : tb σ 6 (tb σ 5 c - 1) = nf' := by
          rw [u5] at y2
          exact (nI_eq (by omega) (by omega)).mp y2
        rw [e6]
        refine ⟨y1, fun i hi => ?_, fun s hs q => ?_⟩
        · have w := y3 i hi
          have w1 := z7 i (by omega)
          have w2 := u7 i (by omega)
          rw [w1.2.2, w2.2.2] at w
          have := ty_le w1.1 hC2
          have := ty_le w2.1 hC2
          exact (nI_eq (by omega) (by omega)).mp w
        · have w := y4 s hs q
          have w1 := z8 s hs
          have w2 := u8 s hs
          rw [w1.2.1, w2.2.1] at w
          exact oN_inj (by omega) (by omega) w
    · rw [h00] at hj
      have ei : i = 16 * (i / 16) + i % 16 := by omega
      have ej : j = 16 * (j / 16) + j % 16 := by omega
      by_cases e : i / 16 = j / 16
      · rw [ei, e] at hi0 ⊢
        rw [ej] at hj0
        have w := (cl0 (j / 16) (by omega)).1.2.2.2.2.2.2.2.2.1 (i % 16) (j % 16) (by omega) (by omega) hi0 hj0
        rw [← ej] at w
        exact w
      · rw [ei] at hi0
        rw [ej] at hj0
        have w1 := q9 (i / 16) (i % 16) (by omega) (by omega) hi0
        have w2 := q9 (j / 16) (j % 16) (by omega) (by omega) hj0
        have w3 := pl_le am (show i / 16 + 1 ≤ j / 16 by omega) (by omega)
        rw [← ei] at w1
        rw [← ej] at w2
        omega
    · have w1 := q9p j (by omega)
      have w2 := (mt0 m (by omega)).2.2.2.1
      have w3 := pl_le bm (Nat.zero_le m) (by omega)
      omega
    · have w1 := (mt0 m (by omega)).2.2.2.2
      have w2 := (mt0 m' (by omega)).2.2.2.1
      have w3 := pl_le bm (show m + 1 ≤ m' by omega) (by omega)
      omega
    · have w := (mt0 f hf).2.2.1.2.2.1
      rw [h02]
      have e : tb σ 12 f = 0 := tb12 (v := 0) f21 (by omega)
      exact Classical.byContradiction (fun q => by have := (w q).1; omega)
    · rw [h02]; exact tb12 (v := 0) f21 (by omega)
    · rw [h02]; exact tb14 (v := 255) f23 (by omega)
