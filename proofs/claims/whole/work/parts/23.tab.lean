/-! ===== the image as tables of numbers ===== -/
/-- the tables, read off the class's rows -/
def tb (σ : sm_S) (r j : Nat) : Nat :=
  if r = 0 then (if j = 0 then (σ.1 0).toNatClampNeg else if j = 1 then (σ.1 16).toNatClampNeg else if j = 2 then (σ.1 17).toNatClampNeg else if j = 3 then (σ.1 15).toNatClampNeg else (σ.1 14).toNatClampNeg)
  else if r = 5 then (σ.2.2.2.1 11 j + 1).toNatClampNeg
  else if r = 8 then (σ.2.2.2.1 14 j + 1).toNatClampNeg
  else if r = 9 then (σ.2.2.2.1 15 j + 1).toNatClampNeg
  else if r = 11 then (if σ.2.2.2.1 20 j = 255 then 0 else (σ.2.2.2.1 20 j).toNatClampNeg + 1)
  else if r = 4 then (σ.2.2.2.1 19 j).toNatClampNeg
  else if r ≤ 7 then (σ.2.2.2.1 (r + 6) j).toNatClampNeg
  else if r = 10 then (σ.2.2.2.1 16 j).toNatClampNeg
  else (σ.2.2.2.1 (r + 9) j).toNatClampNeg
theorem oN_a {x : Nat} : oN x + 1 = nI x := by unfold oN; exact Int32.sub_add_cancel _ _
theorem tb_o {x : Int32} {v : Nat} (h : x = oN v) (hv : v < 2 ^ 31) : (x + 1).toNatClampNeg = v := by rw [h, oN_a, nI_clamp hv]
theorem tb_n {x : Int32} {v : Nat} (h : x = nI v) (hv : v < 2 ^ 31) : x.toNatClampNeg = v := by rw [h, nI_clamp hv]
/-- classes as the class's rows have them -/
def icX (σ : sm_S) (T : Nat → Nat → Nat) : Prop := (∀ c, c < T 0 0 → σ.2.2.2.1 11 c = oN (T 5 c) ∧ σ.2.2.2.1 12 c = nI (T 6 c) ∧ ∀ i, i < T 6 c → σ.2.2.2.1 13 (15 * c + i) = nI (T 7 (15 * c + i))) ∧ (∀ c s, c < T 0 0 → s < 16 → σ.2.2.2.1 14 (16 * c + s) = oN (T 8 (16 * c + s)) ∧ σ.2.2.2.1 15 (16 * c + s) = oN (T 9 (16 * c + s))) ∧ ∀ i, i < 5 → σ.2.2.2.1 16 i = nI (T 10 i)
def icM (μ : sm_S) (T : Nat → Nat → Nat) : Prop := (∀ c, c < T 0 0 → μ.2.2.2.1 5 c = oN (T 5 c) ∧ μ.2.2.2.1 6 c = nI (T 6 c) ∧ ∀ i, i < T 6 c → μ.2.2.2.1 7 (15 * c + i) = nI (T 7 (15 * c + i))) ∧ (∀ c s, c < T 0 0 → s < 16 → μ.2.2.2.1 8 (16 * c + s) = oN (T 8 (16 * c + s)) ∧ μ.2.2.2.1 9 (16 * c + s) = oN (T 9 (16 * c + s))) ∧ ∀ i, i < 5 → μ.2.2.2.1 10 i = nI (T 10 i)
/-- methods -/
def imtX (σ : sm_S) (T : Nat → Nat → Nat) (m : Nat) : Prop := σ.2.2.2.1 20 m = (if T 11 m = 0 then 255 else nI (T 11 m - 1)) ∧ σ.2.2.2.1 21 m = nI (T 12 m) ∧ (∀ i, i < T 12 m → σ.2.2.2.1 22 (8 * m + i) = nI (T 13 (8 * m + i))) ∧ σ.2.2.2.1 23 m = nI (T 14 m) ∧ σ.2.2.2.1 24 m = nI (T 15 m) ∧ σ.2.2.2.1 25 m = nI (T 16 m) ∧ σ.2.2.2.1 26 m = nI (T 17 m) ∧ σ.2.2.2.1 27 m = nI (T 18 m) ∧ σ.2.2.2.1 28 m = nI (T 19 m) ∧ σ.2.2.2.1 29 m = nI (T 20 m) ∧ ∀ p, T 17 m ≤ p → p < T 17 m + T 18 m → σ.2.2.2.1 19 p = nI (T 4 p)
def imtM (μ : sm_S) (T : Nat → Nat → Nat) (m : Nat) : Prop := μ.2.2.2.1 11 m = oN (T 11 m) ∧ μ.2.2.2.1 12 m = nI (T 12 m) ∧ (∀ i, i < T 12 m → μ.2.2.2.1 13 (8 * m + i) = nI (T 13 (8 * m + i))) ∧ μ.2.2.2.1 14 m = (if T 14 m = 255 then -1 else nI (T 14 m)) ∧ μ.2.2.2.1 15 m = nI (T 15 m) ∧ μ.2.2.2.1 16 m = nI (T 16 m) ∧ μ.2.2.2.1 17 m = nI (T 17 m) ∧ μ.2.2.2.1 18 m = nI (T 18 m) ∧ μ.2.2.2.1 19 m = nI (T 19 m) ∧ μ.2.2.2.1 20 m = nI (T 20 m) ∧ ∀ p, T 17 m ≤ p → p < T 17 m + T 18 m → μ.2.2.2.1 4 p = nI (T 4 p)
def imX (σ : sm_S) (T : Nat → Nat → Nat) (b : Nat → Nat) : Prop := iv_bX σ (T 0 4) b ∧ lnX σ ∧ (T 0 4 ≤ σ.2.2.1 19 ∧ σ.2.2.1 19 < 2 ^ 31) ∧ σ.1 0 = nI (T 0 0) ∧ σ.1 16 = nI (T 0 1) ∧ σ.1 17 = nI (T 0 2) ∧ σ.1 15 = nI (T 0 3) ∧ icX σ T ∧ ∀ m, m < T 0 1 → imtX σ T m
def imM (μ : sm_S) (T : Nat → Nat → Nat) (b : Nat → Nat) : Prop := iv_bM μ (T 0 4) b ∧ lnM μ ∧ μ.1 5 = nI (T 0 0) ∧ μ.1 6 = nI (T 0 1) ∧ μ.1 8 = nI (T 0 2) ∧ μ.1 7 = nI (T 0 3) ∧ icM μ T ∧ ∀ m, m < T 0 1 → imtM μ T m
/-- what an instruction at p must be, in the tables -/
def opT (T : Nat → Nat → Nat) (b : Nat → Nat) (lo p : Nat) : Prop := b p < 42 ∧ ((b p = 2 ∨ b p = 3) → b (p + 1) < lo) ∧ ((b p = 19 ∨ b p = 20) → b (p + 1) ≤ 5) ∧ ((b p = 26 ∨ b p = 29 ∨ b p = 30) → b (p + 1) < T 0 0) ∧ ((b p = 27 ∨ b p = 28) → b (p + 1) < T 0 0 ∧ b (p + 2) < T 6 (b (p + 1))) ∧ (b p = 31 → b (p + 1) ≤ T 0 0) ∧ (b p = 36 → b (p + 1) < T 0 0 ∧ b (p + 2) < 16 ∧ T 8 (16 * b (p + 1) + b (p + 2)) ≠ 0)
/-- a class of the tables -/
def wfc (T : Nat → Nat → Nat) (c : Nat) : Prop := T 5 c ≤ c ∧ T 6 c ≤ 15 ∧ (∀ i, i < T 6 c → ty_ok (T 0 0) False (T 7 (15 * c + i))) ∧ (∀ s, s < 16 → T 8 (16 * c + s) ≤ 256 ∧ T 9 (16 * c + s) ≤ 8000 ∧ (T 9 (16 * c + s) ≠ 0 → T 8 (16 * c + s) ≠ 0)) ∧ (T 5 c = 0 → ∀ s, s < 16 → T 9 (16 * c + s) = 0 → T 8 (16 * c + s) = 0) ∧ (T 5 c ≠ 0 → T 6 (T 5 c - 1) ≤ T 6 c ∧ (∀ i, i < T 6 (T 5 c - 1) → T 7 (15 * c + i) = T 7 (15 * (T 5 c - 1) + i)) ∧ ∀ s, s < 16 → T 9 (16 * c + s) = 0 → T 8 (16 * c + s) = T 8 (16 * (T 5 c - 1) + s))
/-- a method of the tables -/
def wfm (T : Nat → Nat → Nat) (b : Nat → Nat) (m : Nat) : Prop := T 11 m ≤ T 0 0 ∧ T 12 m ≤ 8 ∧ (T 11 m ≠ 0 → 1 ≤ T 12 m ∧ T 13 (8 * m) = T 11 m) ∧ (∀ i, i < T 12 m → ty_ok (T 0 0) False (T 13 (8 * m + i))) ∧ ty_ok (T 0 0) True (T 14 m) ∧ T 12 m ≤ T 15 m ∧ T 15 m + T 16 m ≤ 12 ∧ 1 ≤ T 18 m ∧ T 18 m ≤ 1000 ∧ T 19 m ≤ 8 ∧ T 20 m = T 17 m + T 18 m + 1 ∧ T 20 m + 7 * T 19 m < T 0 4 ∧ (∀ i, i < T 19 m → b (T 20 m + 7 * i + 4) < T 0 0) ∧ T 4 (T 17 m) = 1 ∧ ∀ p, T 17 m ≤ p → p < T 17 m + T 18 m → T 4 p = 0 ∨ (T 4 p = 1 ∧ opT T b (T 15 m) p ∧ p + wd (b p) ≤ T 17 m + T 18 m ∧ (p + wd (b p) < T 17 m + T 18 m → T 4 (p + wd (b p)) = 1))
def wf (T : Nat → Nat → Nat) (b : Nat → Nat) : Prop := 1 ≤ T 0 0 ∧ T 0 0 ≤ 32 ∧ 1 ≤ T 0 1 ∧ T 0 1 ≤ 64 ∧ T 0 4 ≤ 8000 ∧ T 0 3 ≤ T 0 4 ∧ (∀ c, c < T 0 0 → wfc T c) ∧ (∀ i, i < 5 → T 10 i < T 0 0) ∧ (∀ m, m < T 0 1 → wfm T b m) ∧ (∀ i j, i < j → j < 16 * T 0 0 → T 9 i ≠ 0 → T 9 j ≠ 0 → T 9 i < T 9 j) ∧ (∀ j m, j < 16 * T 0 0 → m < T 0 1 → T 9 j ≤ T 17 m) ∧ (∀ m m', m < m' → m' < T 0 1 → T 20 m + 7 * T 19 m ≤ T 17 m') ∧ T 0 2 < T 0 1 ∧ T 11 (T 0 2) = 0 ∧ T 12 (T 0 2) = 0 ∧ T 14 (T 0 2) = 255
theorem tb5 {σ : sm_S} {j v : Nat} (h : σ.2.2.2.1 11 j = oN v) (hv : v < 2 ^ 31) : tb σ 5 j = v := tb_o h hv
theorem tb6 {σ : sm_S} {j v : Nat} (h : σ.2.2.2.1 12 j = nI v) (hv : v < 2 ^ 31) : tb σ 6 j = v := tb_n h hv
theorem tb7 {σ : sm_S} {j v : Nat} (h : σ.2.2.2.1 13 j = nI v) (hv : v < 2 ^ 31) : tb σ 7 j = v := tb_n h hv
theorem tb8 {σ : sm_S} {j v : Nat} (h : σ.2.2.2.1 14 j = oN v) (hv : v < 2 ^ 31) : tb σ 8 j = v := tb_o h hv
theorem tb9 {σ : sm_S} {j v : Nat} (h : σ.2.2.2.1 15 j = oN v) (hv : v < 2 ^ 31) : tb σ 9 j = v := tb_o h hv
theorem tb10 {σ : sm_S} {j v : Nat} (h : σ.2.2.2.1 16 j = nI v) (hv : v < 2 ^ 31) : tb σ 10 j = v := tb_n h hv
theorem tb4 {σ : sm_S} {j v : Nat} (h : σ.2.2.2.1 19 j = nI v) (hv : v < 2 ^ 31) : tb σ 4 j = v := tb_n h hv
theorem tb11 {σ : sm_S} {j o : Nat} (h : σ.2.2.2.1 20 j = (if o = 0 then 255 else nI (o - 1))) (ho : o ≤ 32) : tb σ 11 j = o := by
  show (if σ.2.2.2.1 20 j = 255 then 0 else (σ.2.2.2.1 20 j).toNatClampNeg + 1) = o
  by_cases e : o = 0
  · rw [if_pos e] at h
    rw [if_pos h, e]
  · rw [if_neg e] at h
    rw [h, if_neg, nI_clamp (by omega)]
    · omega
    · intro q
      have := (nI_eq (a := o - 1) (b := 255) (by omega) (by omega)).mp q
      omega
theorem tb12 {σ : sm_S} {j v : Nat} (h : σ.2.2.2.1 21 j = nI v) (hv : v < 2 ^ 31) : tb σ 12 j = v := tb_n h hv
theorem tb13 {σ : sm_S} {j v : Nat} (h : σ.2.2.2.1 22 j = nI v) (hv : v < 2 ^ 31) : tb σ 13 j = v := tb_n h hv
theorem tb14 {σ : sm_S} {j v : Nat} (h : σ.2.2.2.1 23 j = nI v) (hv : v < 2 ^ 31) : tb σ 14 j = v := tb_n h hv
theorem tb15 {σ : sm_S} {j v : Nat} (h : σ.2.2.2.1 24 j = nI v) (hv : v < 2 ^ 31) : tb σ 15 j = v := tb_n h hv
theorem tb16 {σ : sm_S} {j v : Nat} (h : σ.2.2.2.1 25 j = nI v) (hv : v < 2 ^ 31) : tb σ 16 j = v := tb_n h hv
theorem tb17 {σ : sm_S} {j v : Nat} (h : σ.2.2.2.1 26 j = nI v) (hv : v < 2 ^ 31) : tb σ 17 j = v := tb_n h hv
theorem tb18 {σ : sm_S} {j v : Nat} (h : σ.2.2.2.1 27 j = nI v) (hv : v < 2 ^ 31) : tb σ 18 j = v := tb_n h hv
theorem tb19 {σ : sm_S} {j v : Nat} (h : σ.2.2.2.1 28 j = nI v) (hv : v < 2 ^ 31) : tb σ 19 j = v := tb_n h hv
theorem tb20 {σ : sm_S} {j v : Nat} (h : σ.2.2.2.1 29 j = nI v) (hv : v < 2 ^ 31) : tb σ 20 j = v := tb_n h hv
theorem ty_le {C t : Nat} {o : Prop} (h : ty_ok C o t) (hC : C ≤ 32) : t ≤ 255 := by unfold ty_ok at h; omega
/-- what the tables say of a class -/
def tcl (σ μ : sm_S) (C c p0 p : Nat) : Prop := σ.2.2.2.1 11 c = oN (tb σ 5 c) ∧ μ.2.2.2.1 5 c = oN (tb σ 5 c) ∧ tb σ 5 c ≤ c ∧ σ.2.2.2.1 12 c = nI (tb σ 6 c) ∧ μ.2.2.2.1 6 c = nI (tb σ 6 c) ∧ tb σ 6 c ≤ 15 ∧ (∀ i, i < tb σ 6 c → ty_ok C False (tb σ 7 (15 * c + i)) ∧ σ.2.2.2.1 13 (15 * c + i) = nI (tb σ 7 (15 * c + i)) ∧ μ.2.2.2.1 7 (15 * c + i) = nI (tb σ 7 (15 * c + i))) ∧ (∀ s, s < 16 → σ.2.2.2.1 14 (16 * c + s) = oN (tb σ 8 (16 * c + s)) ∧ μ.2.2.2.1 8 (16 * c + s) = oN (tb σ 8 (16 * c + s)) ∧ tb σ 8 (16 * c + s) ≤ 256 ∧ σ.2.2.2.1 15 (16 * c + s) = oN (tb σ 9 (16 * c + s)) ∧ μ.2.2.2.1 9 (16 * c + s) = oN (tb σ 9 (16 * c + s)) ∧ (tb σ 9 (16 * c + s) ≠ 0 → tb σ 8 (16 * c + s) ≠ 0 ∧ p0 < tb σ 9 (16 * c + s) ∧ tb σ 9 (16 * c + s) ≤ p)) ∧ (∀ s t, s < t → t < 16 → tb σ 9 (16 * c + s) ≠ 0 → tb σ 9 (16 * c + t) ≠ 0 → tb σ 9 (16 * c + s) < tb σ 9 (16 * c + t)) ∧ (tb σ 5 c = 0 → ∀ s, s < 16 → tb σ 9 (16 * c + s) = 0 → tb σ 8 (16 * c + s) = 0)
theorem tcl_of {σ μ : sm_S} {C c p0 p : Nat} (h : clq σ μ C c p0 p) (hC : C ≤ 32) (hc : c < C) (hp : p ≤ 8000) : tcl σ μ C c p0 p ∧ (tb σ 5 c ≠ 0 → ∃ nf' : Nat, nf' ≤ tb σ 6 c ∧ μ.2.2.2.1 6 (tb σ 5 c - 1) = nI nf' ∧ (∀ i, i < nf' → μ.2.2.2.1 7 (15 * c + i) = μ.2.2.2.1 7 (15 * (tb σ 5 c - 1) + i)) ∧ ∀ s, s < 16 → tb σ 9 (16 * c + s) = 0 → μ.2.2.2.1 8 (16 * c + s) = μ.2.2.2.1 8 (16 * (tb σ 5 c - 1) + s)) := by
  obtain ⟨u, nf, v, q, h1, h2, h3, h4, h5, h6, h7, h8, h9, h10, h11, h12, h13⟩ := h
  have e5 : tb σ 5 c = u := tb5 h3 (by omega)
  have e6 : tb σ 6 c = nf := tb6 h5 (by omega)
  have hq : ∀ s, s < 16 → q s ≤ 8000 := fun s hs => by
    by_cases e : q s = 0
    · omega
    · have := h10 s hs e; omega
  have e8 : ∀ s, s < 16 → tb σ 8 (16 * c + s) = v s := fun s hs => tb8 (h8 s hs).1 (by have := h9 s hs; omega)
  have e9 : ∀ s, s < 16 → tb σ 9 (16 * c + s) = q s := fun s hs => tb9 (h8 s hs).2.2.1 (by have := hq s hs; omega)
  refine ⟨⟨by rw [e5]; exact h3, by rw [e5]; exact h4, by rw [e5]; exact h1, by rw [e6]; exact h5, by rw [e6]; exact h6, by rw [e6]; exact h2, fun i hi => ?_, fun s hs => ?_, fun s t hst ht => ?_, ?_⟩, ?_⟩
  · rw [e6] at hi
    obtain ⟨t, t1, t2, t3⟩ := h7 i hi
    have e7 : tb σ 7 (15 * c + i) = t := tb7 t2 (by have := ty_le t1 hC; omega)
    rw [e7]
    exact ⟨t1, t2, t3⟩
  · rw [e8 s hs, e9 s hs]
    obtain ⟨a1, a2, a3, a4⟩ := h8 s hs
    exact ⟨a1, a2, h9 s hs, a3, a4, h10 s hs⟩
  · rw [e9 s (by omega), e9 t ht]
    exact h11 s t hst ht
  · intro hu s hs
    rw [e5] at hu
    rw [e9 s hs, e8 s hs]
    exact h12 hu s hs
  · intro hu
    rw [e5] at hu ⊢
    rw [e6]
    obtain ⟨nf', a1, a2, a3, a4⟩ := h13 hu
    exact ⟨nf', a1, a2, a3, fun s hs => by rw [e9 s hs]; exact a4 s hs⟩
theorem pl_le {pl : Nat → Nat} {m : Nat} (h : ∀ i, i < m → pl i < pl (i + 1)) {i j : Nat} (hij : i ≤ j) (hj : j ≤ m) : pl i ≤ pl j := by
  have := pl_mono h (j - i) i (by omega)
  rw [show i + (j - i) = j by omega] at this
  exact this
