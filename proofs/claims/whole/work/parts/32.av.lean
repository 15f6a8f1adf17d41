/-! ===== what an instruction does to the types ===== -/
/-- the method that an instruction at p calls, and what it takes -/
def cmt (T : Nat → Nat → Nat) (b : Nat → Nat) (p : Nat) : Nat := if b p = 35 then b (p + 1) else T 8 (16 * b (p + 1) + b (p + 2)) - 1
def cty (T : Nat → Nat → Nat) (b : Nat → Nat) (p k : Nat) : Nat := if b p = 36 ∧ k = 0 then b (p + 1) + 1 else T 13 (8 * cmt T b p + k)
/-- c: it fits; t' and w': the height and the types behind it -/
def avS (T : Nat → Nat → Nat) (b : Nat → Nat) (m p t : Nat) (w : Nat → Nat) (c : Prop) (t' : Nat) (w' : Nat → Nat) : Prop :=
  ((b p = 0 ∨ b p = 40) → (c ↔ t < T 16 m) ∧ t' = t + 1 ∧ w' = va_up w (T 15 m + t) 0) ∧
  (b p = 1 → (c ↔ t < T 16 m) ∧ t' = t + 1 ∧ w' = va_up w (T 15 m + t) 97) ∧
  (b p = 2 → (c ↔ w (b (p + 1)) ≠ 99 ∧ t < T 16 m) ∧ t' = t + 1 ∧ w' = va_up w (T 15 m + t) (w (b (p + 1)))) ∧
  (b p = 3 → (c ↔ 1 ≤ t) ∧ t' = t - 1 ∧ w' = va_up w (b (p + 1)) (w (T 15 m + t - 1))) ∧
  (b p = 4 → (c ↔ 1 ≤ t) ∧ t' = t - 1 ∧ w' = w) ∧
  (b p = 5 → (c ↔ 1 ≤ t ∧ t < T 16 m) ∧ t' = t + 1 ∧ w' = va_up w (T 15 m + t) (w (T 15 m + t - 1))) ∧
  (b p = 6 → (c ↔ 2 ≤ t) ∧ t' = t ∧ w' = va_up (va_up w (T 15 m + t - 2) (w (T 15 m + t - 1))) (T 15 m + t - 1) (w (T 15 m + t - 2))) ∧
  ((7 ≤ b p ∧ b p ≤ 17) → (c ↔ 2 ≤ t ∧ w (T 15 m + t - 1) = 0 ∧ w (T 15 m + t - 2) = 0) ∧ t' = t - 1 ∧ w' = w) ∧
  (b p = 18 → (c ↔ 1 ≤ t ∧ w (T 15 m + t - 1) = 0) ∧ t' = t ∧ w' = w) ∧
  ((b p = 19 ∨ b p = 41) → (c ↔ 1 ≤ t ∧ w (T 15 m + t - 1) = 0) ∧ t' = t - 1 ∧ w' = w) ∧
  (b p = 20 → (c ↔ 2 ≤ t ∧ w (T 15 m + t - 1) = 0 ∧ w (T 15 m + t - 2) = 0) ∧ t' = t - 2 ∧ w' = w) ∧
  ((b p = 21 ∨ b p = 22) → (c ↔ 1 ≤ t ∧ w (T 15 m + t - 1) ≠ 0) ∧ t' = t - 1 ∧ w' = w) ∧
  ((b p = 23 ∨ b p = 24) → (c ↔ 2 ≤ t ∧ w (T 15 m + t - 1) ≠ 0 ∧ w (T 15 m + t - 2) ≠ 0) ∧ t' = t - 2 ∧ w' = w) ∧
  (b p = 25 → (c ↔ True) ∧ t' = t ∧ w' = w) ∧
  (b p = 26 → (c ↔ t < T 16 m) ∧ t' = t + 1 ∧ w' = va_up w (T 15 m + t) (b (p + 1) + 1)) ∧
  (b p = 27 → (c ↔ 1 ≤ t ∧ goesT T (w (T 15 m + t - 1)) (b (p + 1) + 1)) ∧ t' = t ∧ w' = va_up w (T 15 m + t - 1) (T 7 (15 * b (p + 1) + b (p + 2)))) ∧
  (b p = 28 → (c ↔ 2 ≤ t ∧ goesT T (w (T 15 m + t - 1)) (T 7 (15 * b (p + 1) + b (p + 2))) ∧ goesT T (w (T 15 m + t - 2)) (b (p + 1) + 1)) ∧ t' = t - 2 ∧ w' = w) ∧
  (b p = 29 → (c ↔ 1 ≤ t ∧ w (T 15 m + t - 1) ≠ 0) ∧ t' = t ∧ w' = va_up w (T 15 m + t - 1) 0) ∧
  (b p = 30 → (c ↔ 1 ≤ t ∧ w (T 15 m + t - 1) ≠ 0) ∧ t' = t ∧ w' = va_up w (T 15 m + t - 1) (b (p + 1) + 1)) ∧
  (b p = 31 → (c ↔ 1 ≤ t ∧ w (T 15 m + t - 1) = 0) ∧ t' = t ∧ w' = va_up w (T 15 m + t - 1) (64 + b (p + 1))) ∧
  (b p = 32 → (c ↔ 1 ≤ t ∧ 64 ≤ w (T 15 m + t - 1) ∧ w (T 15 m + t - 1) ≤ 97) ∧ t' = t ∧ w' = va_up w (T 15 m + t - 1) 0) ∧
  (b p = 33 → (c ↔ 2 ≤ t ∧ w (T 15 m + t - 1) = 0 ∧ 64 ≤ w (T 15 m + t - 2) ∧ w (T 15 m + t - 2) ≤ 97) ∧ t' = t - 1 ∧ w' = va_up w (T 15 m + t - 2) (if w (T 15 m + t - 2) = 97 then 97 else w (T 15 m + t - 2) - 64)) ∧
  (b p = 34 → (c ↔ 3 ≤ t ∧ w (T 15 m + t - 2) = 0 ∧ (64 ≤ w (T 15 m + t - 3) ∧ w (T 15 m + t - 3) ≤ 97) ∧ (w (T 15 m + t - 3) = 97 ∨ goesT T (w (T 15 m + t - 1)) (w (T 15 m + t - 3) - 64))) ∧ t' = t - 3 ∧ w' = w) ∧
  ((b p = 35 ∨ b p = 36) → (c ↔ (T 12 (cmt T b p) ≤ t ∧ ∀ k, k < T 12 (cmt T b p) → goesT T (w (T 15 m + t - T 12 (cmt T b p) + k)) (cty T b p k)) ∧ (T 14 (cmt T b p) ≠ 255 → t - T 12 (cmt T b p) < T 16 m)) ∧ t' = t - T 12 (cmt T b p) + (if T 14 (cmt T b p) = 255 then 0 else 1) ∧ w' = if T 14 (cmt T b p) = 255 then w else va_up w (T 15 m + (t - T 12 (cmt T b p))) (T 14 (cmt T b p))) ∧
  (b p = 37 → (c ↔ T 14 m = 255) ∧ t' = t ∧ w' = w) ∧
  (b p = 38 → (c ↔ T 14 m ≠ 255 ∧ 1 ≤ t ∧ goesT T (w (T 15 m + t - 1)) (T 14 m)) ∧ t' = t - 1 ∧ w' = w) ∧
  (b p = 39 → (c ↔ 1 ≤ t ∧ ((1 ≤ w (T 15 m + t - 1) ∧ w (T 15 m + t - 1) ≤ 32) ∨ w (T 15 m + t - 1) = 97)) ∧ t' = t - 1 ∧ w' = w)
theorem rX.c {σ σ' : sm_S} {T : Nat → Nat → Nat} {m t t' : Nat} {c c' : Prop} {w w' : Nat → Nat} {r : Int32} (h : rX σ T m c t w r σ') (hc : c ↔ c') (ht : c → t = t') (hw : c → ∀ i, i < T 15 m + t → w i = w' i) : rX σ T m c' t' w' r σ' := ⟨h.1, h.2.c hc ht hw⟩
theorem rX.t {σ σ1 σ' : sm_S} {T : Nat → Nat → Nat} {m t : Nat} {c : Prop} {w : Nat → Nat} {r : Int32} (f : fr IvX AvX σ σ1) (h : rX σ1 T m c t w r σ') : rX σ T m c t w r σ' := ⟨f.t h.1, h.2⟩
theorem wz_m2 {T : Nat → Nat → Nat} {m t : Nat} : T 15 m + (t - 1) - 1 = T 15 m + t - 2 ∨ t = 0 := by omega
