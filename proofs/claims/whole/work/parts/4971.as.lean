/-! ===== what an instruction does to the abstract machine ===== -/
/-- made, cycles, reached, nodes, frames, what flies, state -/
abbrev OC : Type := Nat × Nat × Nat × Nat × (Nat → AN) × List AF × Nat × Nat
def FO (T : Nat → Nat → Nat) (k lim md cy rch n : Nat) (N : Nat → AN) (f : AF) (r : List AF) (ids : List Nat) (e : Nat) : Option OC := some (mm k lim md rch (1 + T 6 (T 10 e)), mcy k lim md rch cy (1 + T 6 (T 10 e)), mr T N (f :: r) ids k lim md rch (1 + T 6 (T 10 e)), n + 1, va_up N n (nob T (T 10 e)), f :: r, n + 1, 1)
def KO (md cy rch n : Nat) (N : Nat → AN) (fs : List AF) (fl : Nat) : Option OC := some (md, cy, rch, n, N, fs, fl, 1)
def MO (T : Nat → Nat → Nat) (k lim md cy rch : Nat) (N : Nat → AN) (f : AF) (r : List AF) (ids : List Nat) (sz n' : Nat) (N' : Nat → AN) (fs : List AF) : Option OC := some (mm k lim md rch sz, mcy k lim md rch cy sz, mr T N (f :: r) ids k lim md rch sz, n', N', fs, 0, 1)
/-- the state that comes out is well -/
def WO (T : Nat → Nat → Nat) (b : Nat → Nat) (H Y : Nat → Nat → Nat) : Option OC → Prop
  | none => True
  | some a => WT T b H Y a.2.2.2.1 a.2.2.2.2.1 a.2.2.2.2.2.1 a.2.2.2.2.2.2.1 a.2.2.2.2.2.2.2
/-- the class goes on so -/
def sR (σ : sm_S) (K : jk) (T : Nat → Nat → Nat) (b : Nat → Nat) (h k lim md cy rch n : Nat) (N : Nat → AN) (fs : List AF) : Option OC → Prop
  | none => sNO σ K T b h k lim md cy rch n N fs
  | some a => sOK σ K T b h k lim a.1 a.2.1 a.2.2.1 a.2.2.2.1 a.2.2.2.2.1 a.2.2.2.2.2.1 a.2.2.2.2.2.2.1 a.2.2.2.2.2.2.2
/-- the reference goes on so -/
def mR (μ : sm_S) (K : jk) (T : Nat → Nat → Nat) (b : Nat → Nat) (k lim md cy rch n : Nat) (N : Nat → AN) (fs : List AF) (sb : Nat) : Option OC → Prop
  | none => mNO μ K T b k lim md cy rch n N fs sb
  | some a => mOK μ K T b k lim a.1 a.2.1 a.2.2.1 a.2.2.2.1 a.2.2.2.2.1 a.2.2.2.2.2.1 a.2.2.2.2.2.2.1 a.2.2.2.2.2.2.2 sb
def ASsm (T : Nat → Nat → Nat) (b : Nat → Nat) (k lim md cy rch n : Nat) (N : Nat → AN) (f : AF) (r : List AF) (ids : List Nat) (o : Option OC) : Prop := b (T 17 f.1 + f.2.1) ≤ 25 ∧ ∃ (zv : Int32) (jc : Prop) (ht' pc' : Nat) (vs' : Nat → AV), hgt T f.1 (b (T 17 f.1 + f.2.1)) f.2.2.1 ∧ smp b (T 17 f.1 + f.2.1) (T 15 f.1) f.2.2.1 f.2.2.2 zv jc ∧ efS b (T 17 f.1 + f.2.1) (T 15 f.1) f.2.2.1 f.2.2.2 zv ht' vs' ∧ ((jc ∧ pc' = pr b (jpl b (T 17 f.1 + f.2.1))) ∨ (¬ jc ∧ pc' = f.2.1 + wd (b (T 17 f.1 + f.2.1)))) ∧ o = KO md cy rch n N ((f.1, pc', ht', vs') :: r) 0
def ASdz (T : Nat → Nat → Nat) (b : Nat → Nat) (k lim md cy rch n : Nat) (N : Nat → AN) (f : AF) (r : List AF) (ids : List Nat) (o : Option OC) : Prop := (b (T 17 f.1 + f.2.1) = 10 ∨ b (T 17 f.1 + f.2.1) = 11) ∧ (2 ≤ f.2.2.1 ∧ f.2.2.1 ≤ T 16 f.1) ∧ (∃ xv, f.2.2.2 (T 15 f.1 + f.2.2.1 - 2) = .inl xv) ∧ f.2.2.2 (T 15 f.1 + f.2.2.1 - 1) = .inl 0 ∧ ((rch ≤ k * md ∧ lim < rch) → o = none) ∧ (¬ (rch ≤ k * md ∧ lim < rch) → o = FO T k lim md cy rch n N f r ids 2)
def ASnw (T : Nat → Nat → Nat) (b : Nat → Nat) (k lim md cy rch n : Nat) (N : Nat → AN) (f : AF) (r : List AF) (ids : List Nat) (o : Option OC) : Prop := b (T 17 f.1 + f.2.1) = 26 ∧ f.2.2.1 < T 16 f.1 ∧ ((rch ≤ k * md ∧ lim < rch) → o = none) ∧ (¬ (rch ≤ k * md ∧ lim < rch) → o = MO T k lim md cy rch N f r ids (1 + T 6 (b (T 17 f.1 + f.2.1 + 1))) (n + 1) (va_up N n (nob T (b (T 17 f.1 + f.2.1 + 1)))) ((f.1, f.2.1 + 2, f.2.2.1 + 1, va_up f.2.2.2 (T 15 f.1 + f.2.2.1) (.inr (n + 1))) :: r))
def ASge (T : Nat → Nat → Nat) (b : Nat → Nat) (k lim md cy rch n : Nat) (N : Nat → AN) (f : AF) (r : List AF) (ids : List Nat) (o : Option OC) : Prop := b (T 17 f.1 + f.2.1) = 27 ∧ (1 ≤ f.2.2.1 ∧ f.2.2.1 ≤ T 16 f.1) ∧ ∃ v, f.2.2.2 (T 15 f.1 + f.2.2.1 - 1) = .inr v ∧ (∀ q, v = q + 1 → b (T 17 f.1 + f.2.1 + 2) < npt T (N q) ∧ (T 7 (15 * b (T 17 f.1 + f.2.1 + 1) + b (T 17 f.1 + f.2.1 + 2)) ≠ 0 ↔ ∃ w, (N q).2.2.2 (b (T 17 f.1 + f.2.1 + 2)) = .inr w)) ∧ (v = 0 → (rch ≤ k * md ∧ lim < rch) → o = none) ∧ (v = 0 → ¬ (rch ≤ k * md ∧ lim < rch) → o = FO T k lim md cy rch n N f r ids 0) ∧ (∀ q, v = q + 1 → o = KO md cy rch n N ((f.1, f.2.1 + 3, f.2.2.1, va_up f.2.2.2 (T 15 f.1 + f.2.2.1 - 1) ((N q).2.2.2 (b (T 17 f.1 + f.2.1 + 2)))) :: r) 0)
def ASpu (T : Nat → Nat → Nat) (b : Nat → Nat) (k lim md cy rch n : Nat) (N : Nat → AN) (f : AF) (r : List AF) (ids : List Nat) (o : Option OC) : Prop := b (T 17 f.1 + f.2.1) = 28 ∧ (2 ≤ f.2.2.1 ∧ f.2.2.1 ≤ T 16 f.1) ∧ ∃ v, f.2.2.2 (T 15 f.1 + f.2.2.1 - 2) = .inr v ∧ (∀ q, v = q + 1 → b (T 17 f.1 + f.2.1 + 2) < npt T (N q)) ∧ (v = 0 → (rch ≤ k * md ∧ lim < rch) → o = none) ∧ (v = 0 → ¬ (rch ≤ k * md ∧ lim < rch) → o = FO T k lim md cy rch n N f r ids 0) ∧ (∀ q, v = q + 1 → o = KO md cy rch n (va_up N q (npu (N q) (b (T 17 f.1 + f.2.1 + 2)) (f.2.2.2 (T 15 f.1 + f.2.2.1 - 1)))) ((f.1, f.2.1 + 3, f.2.2.1 - 2, f.2.2.2) :: r) 0)
def ASis (T : Nat → Nat → Nat) (b : Nat → Nat) (k lim md cy rch n : Nat) (N : Nat → AN) (f : AF) (r : List AF) (ids : List Nat) (o : Option OC) : Prop := b (T 17 f.1 + f.2.1) = 29 ∧ (1 ≤ f.2.2.1 ∧ f.2.2.1 ≤ T 16 f.1) ∧ ∃ v zz, f.2.2.2 (T 15 f.1 + f.2.2.1 - 1) = .inr v ∧ ((isN T N (.inr v) (b (T 17 f.1 + f.2.1 + 1)) ∧ zz = (1 : Int32)) ∨ (¬ isN T N (.inr v) (b (T 17 f.1 + f.2.1 + 1)) ∧ zz = 0)) ∧ o = KO md cy rch n N ((f.1, f.2.1 + 2, f.2.2.1, va_up f.2.2.2 (T 15 f.1 + f.2.2.1 - 1) (.inl zz)) :: r) 0
def ASca (T : Nat → Nat → Nat) (b : Nat → Nat) (k lim md cy rch n : Nat) (N : Nat → AN) (f : AF) (r : List AF) (ids : List Nat) (o : Option OC) : Prop := b (T 17 f.1 + f.2.1) = 30 ∧ (1 ≤ f.2.2.1 ∧ f.2.2.1 ≤ T 16 f.1) ∧ ∃ v, f.2.2.2 (T 15 f.1 + f.2.2.1 - 1) = .inr v ∧ (¬ (v = 0 ∨ isN T N (.inr v) (b (T 17 f.1 + f.2.1 + 1))) → (rch ≤ k * md ∧ lim < rch) → o = none) ∧ (¬ (v = 0 ∨ isN T N (.inr v) (b (T 17 f.1 + f.2.1 + 1))) → ¬ (rch ≤ k * md ∧ lim < rch) → o = FO T k lim md cy rch n N f r ids 3) ∧ ((v = 0 ∨ isN T N (.inr v) (b (T 17 f.1 + f.2.1 + 1))) → o = KO md cy rch n N ((f.1, f.2.1 + 2, f.2.2.1, f.2.2.2) :: r) 0)
def ASrw (T : Nat → Nat → Nat) (b : Nat → Nat) (k lim md cy rch n : Nat) (N : Nat → AN) (f : AF) (r : List AF) (ids : List Nat) (o : Option OC) : Prop := b (T 17 f.1 + f.2.1) = 31 ∧ (1 ≤ f.2.2.1 ∧ f.2.2.1 ≤ T 16 f.1) ∧ ∃ xv, f.2.2.2 (T 15 f.1 + f.2.2.1 - 1) = .inl xv ∧ ((rch ≤ k * md ∧ lim < rch) → o = none) ∧ (¬ (∃ j, j ≤ 3375 ∧ xv = nI j) → ¬ (rch ≤ k * md ∧ lim < rch) → o = FO T k lim md cy rch n N f r ids 4) ∧ (∀ j, j ≤ 3375 → xv = nI j → ¬ (rch ≤ k * md ∧ lim < rch) → o = MO T k lim md cy rch N f r ids 16 (n + 1) (va_up N n (nrw (b (T 17 f.1 + f.2.1 + 1)) j)) ((f.1, f.2.1 + 2, f.2.2.1, va_up f.2.2.2 (T 15 f.1 + f.2.2.1 - 1) (.inr (n + 1))) :: r))
def ASle (T : Nat → Nat → Nat) (b : Nat → Nat) (k lim md cy rch n : Nat) (N : Nat → AN) (f : AF) (r : List AF) (ids : List Nat) (o : Option OC) : Prop := b (T 17 f.1 + f.2.1) = 32 ∧ (1 ≤ f.2.2.1 ∧ f.2.2.1 ≤ T 16 f.1) ∧ ∃ v, f.2.2.2 (T 15 f.1 + f.2.2.1 - 1) = .inr v ∧ (∀ q, v = q + 1 → (N q).1 = 3) ∧ (v = 0 → (rch ≤ k * md ∧ lim < rch) → o = none) ∧ (v = 0 → ¬ (rch ≤ k * md ∧ lim < rch) → o = FO T k lim md cy rch n N f r ids 0) ∧ (∀ q, v = q + 1 → o = KO md cy rch n N ((f.1, f.2.1 + 1, f.2.2.1, va_up f.2.2.2 (T 15 f.1 + f.2.2.1 - 1) (.inl (nI (N q).2.1))) :: r) 0)
def ASat (T : Nat → Nat → Nat) (b : Nat → Nat) (k lim md cy rch n : Nat) (N : Nat → AN) (f : AF) (r : List AF) (ids : List Nat) (o : Option OC) : Prop := b (T 17 f.1 + f.2.1) = 33 ∧ (2 ≤ f.2.2.1 ∧ f.2.2.1 ≤ T 16 f.1) ∧ ∃ v xi, f.2.2.2 (T 15 f.1 + f.2.2.1 - 2) = .inr v ∧ f.2.2.2 (T 15 f.1 + f.2.2.1 - 1) = .inl xi ∧ (∀ q, v = q + 1 → (N q).1 = 3) ∧ (∀ e, (v = 0 ∧ e = 0) ∨ (e = 1 ∧ ∃ q, v = q + 1 ∧ ¬ ∃ i, i < (N q).2.1 ∧ xi = nI i) → (rch ≤ k * md ∧ lim < rch) → o = none) ∧ (∀ e, (v = 0 ∧ e = 0) ∨ (e = 1 ∧ ∃ q, v = q + 1 ∧ ¬ ∃ i, i < (N q).2.1 ∧ xi = nI i) → ¬ (rch ≤ k * md ∧ lim < rch) → o = FO T k lim md cy rch n N f r ids e) ∧ (∀ q i, v = q + 1 → i < (N q).2.1 → xi = nI i → ∃ q' j lk, pth T N (dpt (N q).2.1) q i q' j lk ∧ ((N q).2.2.1 ≠ 0 ↔ ∃ w, rval N q q' j lk = .inr w) ∧ o = KO md cy rch n N ((f.1, f.2.1 + 1, f.2.2.1 - 1, va_up f.2.2.2 (T 15 f.1 + f.2.2.1 - 2) (rval N q q' j lk)) :: r) 0)
def ASto (T : Nat → Nat → Nat) (b : Nat → Nat) (k lim md cy rch n : Nat) (N : Nat → AN) (f : AF) (r : List AF) (ids : List Nat) (o : Option OC) : Prop := b (T 17 f.1 + f.2.1) = 34 ∧ (3 ≤ f.2.2.1 ∧ f.2.2.1 ≤ T 16 f.1) ∧ ∃ v xi, f.2.2.2 (T 15 f.1 + f.2.2.1 - 3) = .inr v ∧ f.2.2.2 (T 15 f.1 + f.2.2.1 - 2) = .inl xi ∧ (∀ q, v = q + 1 → (N q).1 = 3) ∧ (∀ e, (v = 0 ∧ e = 0) ∨ (e = 1 ∧ ∃ q, v = q + 1 ∧ ¬ ∃ i, i < (N q).2.1 ∧ xi = nI i) → (rch ≤ k * md ∧ lim < rch) → o = none) ∧ (∀ e, (v = 0 ∧ e = 0) ∨ (e = 1 ∧ ∃ q, v = q + 1 ∧ ¬ ∃ i, i < (N q).2.1 ∧ xi = nI i) → ¬ (rch ≤ k * md ∧ lim < rch) → o = FO T k lim md cy rch n N f r ids e) ∧ (∀ q i, v = q + 1 → i < (N q).2.1 → xi = nI i → ∃ q' j lk, pth T N (dpt (N q).2.1) q i q' j lk ∧ (lk = 0 → o = KO md cy rch n (va_up N q' (npu (N q') j (f.2.2.2 (T 15 f.1 + f.2.2.1 - 1)))) ((f.1, f.2.1 + 1, f.2.2.1 - 3, f.2.2.2) :: r) 0) ∧ (lk ≠ 0 → ¬ (rch ≤ k * md ∧ lim < rch) → o = MO T k lim md cy rch N f r ids 16 (n + 1) (va_up (va_up N n (nch (lk - 1) (N q).2.2.1)) q' (npu (N q') j (.inr (n + 1)))) (f :: r)) ∧ (lk ≠ 0 → (rch ≤ k * md ∧ lim < rch) → o = none))
def AScl (T : Nat → Nat → Nat) (b : Nat → Nat) (k lim md cy rch n : Nat) (N : Nat → AN) (f : AF) (r : List AF) (ids : List Nat) (o : Option OC) : Prop := b (T 17 f.1 + f.2.1) = 35 ∧ ∃ m', b (T 17 f.1 + f.2.1 + 1) = m' ∧ m' < T 0 1 ∧ T 12 m' ≤ f.2.2.1 ∧ ((rch ≤ k * md ∧ lim < rch) → o = none) ∧ (¬ (rch ≤ k * md ∧ lim < rch) → o = MO T k lim md cy rch N f r ids 16 n N (cfr T f m' :: cbl T f m' :: r))
def ASse (T : Nat → Nat → Nat) (b : Nat → Nat) (k lim md cy rch n : Nat) (N : Nat → AN) (f : AF) (r : List AF) (ids : List Nat) (o : Option OC) : Prop := b (T 17 f.1 + f.2.1) = 36 ∧ ∃ m0 v, T 8 (16 * b (T 17 f.1 + f.2.1 + 1) + b (T 17 f.1 + f.2.1 + 2)) = m0 + 1 ∧ m0 < T 0 1 ∧ (1 ≤ T 12 m0 ∧ T 12 m0 ≤ f.2.2.1) ∧ f.2.2.2 (T 15 f.1 + f.2.2.1 - T 12 m0) = .inr v ∧ (∀ q, v = q + 1 → (N q).1 = 2 ∧ ∃ m', T 8 (16 * (N q).2.1 + b (T 17 f.1 + f.2.1 + 2)) = m' + 1 ∧ m' < T 0 1 ∧ T 12 m' ≤ f.2.2.1) ∧ ((rch ≤ k * md ∧ lim < rch) → o = none) ∧ (v = 0 → ¬ (rch ≤ k * md ∧ lim < rch) → o = FO T k lim md cy rch n N f r ids 0) ∧ (∀ q m', v = q + 1 → T 8 (16 * (N q).2.1 + b (T 17 f.1 + f.2.1 + 2)) = m' + 1 → ¬ (rch ≤ k * md ∧ lim < rch) → o = MO T k lim md cy rch N f r ids 16 n N (cfr T f m' :: cbl T f m' :: r))
def ASre (T : Nat → Nat → Nat) (b : Nat → Nat) (k lim md cy rch n : Nat) (N : Nat → AN) (f : AF) (r : List AF) (ids : List Nat) (o : Option OC) : Prop := b (T 17 f.1 + f.2.1) = 37 ∧ (∀ g r', r = g :: r' → g.1 < T 0 1 ∧ inC T g.1 (T 17 g.1 + g.2.1) ∧ T 4 (T 17 g.1 + g.2.1) = 1) ∧ (r = [] → o = some (md, cy, rch, n, N, [], 0, 2)) ∧ (∀ g r', r = g :: r' → o = KO md cy rch n N ((g.1, g.2.1 + wd (b (T 17 g.1 + g.2.1)), g.2.2.1, g.2.2.2) :: r') 0)
def ASgi (T : Nat → Nat → Nat) (b : Nat → Nat) (k lim md cy rch n : Nat) (N : Nat → AN) (f : AF) (r : List AF) (ids : List Nat) (o : Option OC) : Prop := b (T 17 f.1 + f.2.1) = 38 ∧ (1 ≤ f.2.2.1 ∧ f.2.2.1 ≤ T 16 f.1) ∧ (∀ g r', r = g :: r' → g.1 < T 0 1 ∧ inC T g.1 (T 17 g.1 + g.2.1) ∧ T 4 (T 17 g.1 + g.2.1) = 1 ∧ g.2.2.1 < T 16 g.1) ∧ (r = [] → o = some (md, cy, rch, n, N, [], 0, 2)) ∧ (∀ g r', r = g :: r' → o = KO md cy rch n N ((g.1, g.2.1 + wd (b (T 17 g.1 + g.2.1)), g.2.2.1 + 1, va_up g.2.2.2 (T 15 g.1 + g.2.2.1) (f.2.2.2 (T 15 f.1 + f.2.2.1 - 1))) :: r') 0)
def ASth (T : Nat → Nat → Nat) (b : Nat → Nat) (k lim md cy rch n : Nat) (N : Nat → AN) (f : AF) (r : List AF) (ids : List Nat) (o : Option OC) : Prop := b (T 17 f.1 + f.2.1) = 39 ∧ (1 ≤ f.2.2.1 ∧ f.2.2.1 ≤ T 16 f.1) ∧ ∃ v, f.2.2.2 (T 15 f.1 + f.2.2.1 - 1) = .inr v ∧ (v = 0 → (rch ≤ k * md ∧ lim < rch) → o = none) ∧ (v = 0 → ¬ (rch ≤ k * md ∧ lim < rch) → o = FO T k lim md cy rch n N f r ids 0) ∧ (∀ q, v = q + 1 → o = KO md cy rch n N (f :: r) (q + 1))
def AS (T : Nat → Nat → Nat) (b : Nat → Nat) (k lim md cy rch n : Nat) (N : Nat → AN) (f : AF) (r : List AF) (ids : List Nat) (o : Option OC) : Prop := ASsm T b k lim md cy rch n N f r ids o ∨ ASdz T b k lim md cy rch n N f r ids o ∨ ASnw T b k lim md cy rch n N f r ids o ∨ ASge T b k lim md cy rch n N f r ids o ∨ ASpu T b k lim md cy rch n N f r ids o ∨ ASis T b k lim md cy rch n N f r ids o ∨ ASca T b k lim md cy rch n N f r ids o ∨ ASrw T b k lim md cy rch n N f r ids o ∨ ASle T b k lim md cy rch n N f r ids o ∨ ASat T b k lim md cy rch n N f r ids o ∨ ASto T b k lim md cy rch n N f r ids o ∨ AScl T b k lim md cy rch n N f r ids o ∨ ASse T b k lim md cy rch n N f r ids o ∨ ASre T b k lim md cy rch n N f r ids o ∨ ASgi T b k lim md cy rch n N f r ids o ∨ ASth T b k lim md cy rch n N f r ids o
section
variable {σ μ : sm_S} {T : Nat → Nat → Nat} {b : Nat → Nat} {h k lim md cy rch n sb : Nat} {N : Nat → AN} {f : AF} {r : List AF} {ids : List Nat} {K : jk} {o : Option OC}
theorem is_u {P : Prop} {a c : Int32} (h1 : (P ∧ a = 1) ∨ (¬ P ∧ a = 0)) (h2 : (P ∧ c = 1) ∨ (¬ P ∧ c = 0)) : a = c := by
  rcases h1 with z | z <;> rcases h2 with y | y
  · rw [z.2, y.2]
  · exact absurd z.1 y.1
  · exact absurd y.1 z.1
  · rw [z.2, y.2]
theorem x_sm (hw : wf T b) (lk : lkd T b) (X : XH σ T b h k lim md cy rch n N (f :: r) 0 1) (hm : f.1 < T 0 1) (hin : inC T f.1 (T 17 f.1 + f.2.1)) (h4 : T 4 (T 17 f.1 + f.2.1) = 1) (hr : rls T N (f :: r) ids) (s : sR σ K T b h k lim md cy rch n N (f :: r) o) (a : ASsm T b k lim md cy rch n N f r ids o) : mp_X7_step σ K := by
  obtain ⟨ho, zv, jc, ht', pc', vs', a1, a2, a3, a4, a5⟩ := a
  exact X_sm hw lk X hin h4 ho a1 a2 a3 a4 (by have q := s; rw [a5] at q; exact q)
theorem x_dz (hw : wf T b) (lk : lkd T b) (X : XH σ T b h k lim md cy rch n N (f :: r) 0 1) (hm : f.1 < T 0 1) (hin : inC T f.1 (T 17 f.1 + f.2.1)) (h4 : T 4 (T 17 f.1 + f.2.1) = 1) (hr : rls T N (f :: r) ids) (s : sR σ K T b h k lim md cy rch n N (f :: r) o) (a : ASdz T b k lim md cy rch n N f r ids o) : mp_X7_step σ K := by
  obtain ⟨ho, a1, ⟨xv, a2⟩, a3, a4, a5⟩ := a
  exact X_dz hw X hm hin h4 ho a1 a2 a3 hr (fun u v => (by have q := s; rw [a4 ⟨u, v⟩] at q; exact q)) (fun u => (by have q := s; rw [a5 u] at q; exact q))
theorem x_nw (hw : wf T b) (lk : lkd T b) (X : XH σ T b h k lim md cy rch n N (f :: r) 0 1) (hm : f.1 < T 0 1) (hin : inC T f.1 (T 17 f.1 + f.2.1)) (h4 : T 4 (T 17 f.1 + f.2.1) = 1) (hr : rls T N (f :: r) ids) (s : sR σ K T b h k lim md cy rch n N (f :: r) o) (a : ASnw T b k lim md cy rch n N f r ids o) : mp_X7_step σ K := by
  obtain ⟨ho, a1, a2, a3⟩ := a
  exact X_new hw X hm hin h4 ho a1 hr (fun u v => (by have q := s; rw [a2 ⟨u, v⟩] at q; exact q)) (fun c e u => by have q := s; rw [a3 u] at q; rw [e]; exact q)
theorem x_ge (hw : wf T b) (lk : lkd T b) (X : XH σ T b h k lim md cy rch n N (f :: r) 0 1) (hm : f.1 < T 0 1) (hin : inC T f.1 (T 17 f.1 + f.2.1)) (h4 : T 4 (T 17 f.1 + f.2.1) = 1) (hr : rls T N (f :: r) ids) (s : sR σ K T b h k lim md cy rch n N (f :: r) o) (a : ASge T b k lim md cy rch n N f r ids o) : mp_X7_step σ K := by
  obtain ⟨ho, a1, v, a2, a3, a4, a5, a6⟩ := a
  exact X_get hw X hm hin h4 ho a1 a2 (fun q e => (a3 q e).1) hr (fun e u v => (by have q := s; rw [a4 e ⟨u, v⟩] at q; exact q)) (fun e u => (by have q := s; rw [a5 e u] at q; exact q)) (fun q e => (by have q := s; rw [a6 _ e] at q; exact q))
theorem x_pu (hw : wf T b) (lk : lkd T b) (X : XH σ T b h k lim md cy rch n N (f :: r) 0 1) (hm : f.1 < T 0 1) (hin : inC T f.1 (T 17 f.1 + f.2.1)) (h4 : T 4 (T 17 f.1 + f.2.1) = 1) (hr : rls T N (f :: r) ids) (s : sR σ K T b h k lim md cy rch n N (f :: r) o) (a : ASpu T b k lim md cy rch n N f r ids o) : mp_X7_step σ K := by
  obtain ⟨ho, a1, v, a2, a3, a4, a5, a6⟩ := a
  exact X_put hw X hm hin h4 ho a1 a2 a3 hr (fun e u v => (by have q := s; rw [a4 e ⟨u, v⟩] at q; exact q)) (fun e u => (by have q := s; rw [a5 e u] at q; exact q)) (fun q e => (by have q := s; rw [a6 _ e] at q; exact q))
theorem x_is (hw : wf T b) (lk : lkd T b) (X : XH σ T b h k lim md cy rch n N (f :: r) 0 1) (hm : f.1 < T 0 1) (hin : inC T f.1 (T 17 f.1 + f.2.1)) (h4 : T 4 (T 17 f.1 + f.2.1) = 1) (hr : rls T N (f :: r) ids) (s : sR σ K T b h k lim md cy rch n N (f :: r) o) (a : ASis T b k lim md cy rch n N f r ids o) : mp_X7_step σ K := by
  obtain ⟨ho, a1, v, zz, a2, a3, a4⟩ := a
  exact X_is hw X hm hin h4 ho a1 a2 (fun zz2 e => by have q := s; rw [a4] at q; have ez : zz2 = zz := is_u e a3; rw [ez]; exact q)
theorem x_ca (hw : wf T b) (lk : lkd T b) (X : XH σ T b h k lim md cy rch n N (f :: r) 0 1) (hm : f.1 < T 0 1) (hin : inC T f.1 (T 17 f.1 + f.2.1)) (h4 : T 4 (T 17 f.1 + f.2.1) = 1) (hr : rls T N (f :: r) ids) (s : sR σ K T b h k lim md cy rch n N (f :: r) o) (a : ASca T b k lim md cy rch n N f r ids o) : mp_X7_step σ K := by
  obtain ⟨ho, a1, v, a2, a4, a5, a6⟩ := a
  exact X_cast hw X hm hin h4 ho a1 a2 hr (fun e u v => (by have q := s; rw [a4 e ⟨u, v⟩] at q; exact q)) (fun e u => (by have q := s; rw [a5 e u] at q; exact q)) (fun e => (by have q := s; rw [a6 e] at q; exact q))
theorem x_rw (hw : wf T b) (lk : lkd T b) (X : XH σ T b h k lim md cy rch n N (f :: r) 0 1) (hm : f.1 < T 0 1) (hin : inC T f.1 (T 17 f.1 + f.2.1)) (h4 : T 4 (T 17 f.1 + f.2.1) = 1) (hr : rls T N (f :: r) ids) (s : sR σ K T b h k lim md cy rch n N (f :: r) o) (a : ASrw T b k lim md cy rch n N f r ids o) : mp_X7_step σ K := by
  obtain ⟨ho, a1, xv, a2, a4, a5, a6⟩ := a
  exact X_row hw X hm hin h4 ho a1 a2 hr (fun u v => (by have q := s; rw [a4 ⟨u, v⟩] at q; exact q)) (fun e u => (by have q := s; rw [a5 e u] at q; exact q)) (fun j e1 e2 u => (by have q := s; rw [a6 j e1 e2 u] at q; exact q))
theorem x_le (hw : wf T b) (lk : lkd T b) (X : XH σ T b h k lim md cy rch n N (f :: r) 0 1) (hm : f.1 < T 0 1) (hin : inC T f.1 (T 17 f.1 + f.2.1)) (h4 : T 4 (T 17 f.1 + f.2.1) = 1) (hr : rls T N (f :: r) ids) (s : sR σ K T b h k lim md cy rch n N (f :: r) o) (a : ASle T b k lim md cy rch n N f r ids o) : mp_X7_step σ K := by
  obtain ⟨ho, a1, v, a2, a3, a4, a5, a6⟩ := a
  exact X_len hw X hm hin h4 ho a1 a2 a3 hr (fun e u v => (by have q := s; rw [a4 e ⟨u, v⟩] at q; exact q)) (fun e u => (by have q := s; rw [a5 e u] at q; exact q)) (fun q e => (by have q := s; rw [a6 _ e] at q; exact q))
theorem x_at (hw : wf T b) (lk : lkd T b) (X : XH σ T b h k lim md cy rch n N (f :: r) 0 1) (hm : f.1 < T 0 1) (hin : inC T f.1 (T 17 f.1 + f.2.1)) (h4 : T 4 (T 17 f.1 + f.2.1) = 1) (hr : rls T N (f :: r) ids) (s : sR σ K T b h k lim md cy rch n N (f :: r) o) (a : ASat T b k lim md cy rch n N f r ids o) : mp_X7_step σ K := by
  obtain ⟨ho, a1, v, xi, a2, a3, a7, a4, a5, a6⟩ := a
  exact X_at hw X hm hin h4 ho a1 a2 a3 a7 hr (fun e d u v => (by have q := s; rw [a4 e d ⟨u, v⟩] at q; exact q)) (fun e d u => (by have q := s; rw [a5 e d u] at q; exact q)) (fun q i e1 e2 e3 => by obtain ⟨q', j, lk2, p1, p2, p3⟩ := a6 q i e1 e2 e3; exact ⟨q', j, lk2, p1, (by have q := s; rw [p3] at q; exact q)⟩)
theorem x_to (hw : wf T b) (lk : lkd T b) (X : XH σ T b h k lim md cy rch n N (f :: r) 0 1) (hm : f.1 < T 0 1) (hin : inC T f.1 (T 17 f.1 + f.2.1)) (h4 : T 4 (T 17 f.1 + f.2.1) = 1) (hr : rls T N (f :: r) ids) (s : sR σ K T b h k lim md cy rch n N (f :: r) o) (a : ASto T b k lim md cy rch n N f r ids o) : mp_X7_step σ K := by
  obtain ⟨ho, a1, v, xi, a2, a3, a7, a4, a5, a6⟩ := a
  exact X_to hw X hm hin h4 ho a1 a2 a3 a7 hr (fun e d u v => (by have q := s; rw [a4 e d ⟨u, v⟩] at q; exact q)) (fun e d u => (by have q := s; rw [a5 e d u] at q; exact q)) (fun q i e1 e2 e3 => by obtain ⟨q', j, lk2, p1, p2, p3, p4⟩ := a6 q i e1 e2 e3; exact ⟨q', j, lk2, p1, fun e => (by have q := s; rw [p2 e] at q; exact q), fun e u => (by have q := s; rw [p3 e u] at q; exact q), fun e u v => (by have q := s; rw [p4 e ⟨u, v⟩] at q; exact q)⟩)
theorem x_cl (hw : wf T b) (lk : lkd T b) (X : XH σ T b h k lim md cy rch n N (f :: r) 0 1) (hm : f.1 < T 0 1) (hin : inC T f.1 (T 17 f.1 + f.2.1)) (h4 : T 4 (T 17 f.1 + f.2.1) = 1) (hr : rls T N (f :: r) ids) (s : sR σ K T b h k lim md cy rch n N (f :: r) o) (a : AScl T b k lim md cy rch n N f r ids o) : mp_X7_step σ K := by
  obtain ⟨ho, m', a1, a2, a3, a4, a5⟩ := a
  exact X_call hw X hm hin h4 ho a1 a2 a3 hr (fun u v => (by have q := s; rw [a4 ⟨u, v⟩] at q; exact q)) (fun u => (by have q := s; rw [a5 u] at q; exact q))
theorem x_se (hw : wf T b) (lk : lkd T b) (X : XH σ T b h k lim md cy rch n N (f :: r) 0 1) (hm : f.1 < T 0 1) (hin : inC T f.1 (T 17 f.1 + f.2.1)) (h4 : T 4 (T 17 f.1 + f.2.1) = 1) (hr : rls T N (f :: r) ids) (s : sR σ K T b h k lim md cy rch n N (f :: r) o) (a : ASse T b k lim md cy rch n N f r ids o) : mp_X7_step σ K := by
  obtain ⟨ho, m0, v, a1, a2, a3, a7, a8, a4, a5, a6⟩ := a
  exact X_send hw X hm hin h4 ho a1 a2 a3 a7 a8 hr (fun u v => (by have q := s; rw [a4 ⟨u, v⟩] at q; exact q)) (fun e u => (by have q := s; rw [a5 e u] at q; exact q)) (fun q m2 e1 e2 u => (by have q := s; rw [a6 _ _ e1 e2 u] at q; exact q))
theorem x_re (hw : wf T b) (lk : lkd T b) (X : XH σ T b h k lim md cy rch n N (f :: r) 0 1) (hm : f.1 < T 0 1) (hin : inC T f.1 (T 17 f.1 + f.2.1)) (h4 : T 4 (T 17 f.1 + f.2.1) = 1) (hr : rls T N (f :: r) ids) (s : sR σ K T b h k lim md cy rch n N (f :: r) o) (a : ASre T b k lim md cy rch n N f r ids o) : mp_X7_step σ K := by
  obtain ⟨ho, a1, a2, a3⟩ := a
  exact X_ret hw X hm hin h4 ho a1 (fun e => (by have q := s; rw [a2 e] at q; exact q)) (fun g r2 e => (by have q := s; rw [a3 _ _ e] at q; exact q))
theorem x_gi (hw : wf T b) (lk : lkd T b) (X : XH σ T b h k lim md cy rch n N (f :: r) 0 1) (hm : f.1 < T 0 1) (hin : inC T f.1 (T 17 f.1 + f.2.1)) (h4 : T 4 (T 17 f.1 + f.2.1) = 1) (hr : rls T N (f :: r) ids) (s : sR σ K T b h k lim md cy rch n N (f :: r) o) (a : ASgi T b k lim md cy rch n N f r ids o) : mp_X7_step σ K := by
  obtain ⟨ho, a0, a1, a2, a3⟩ := a
  exact X_give hw X hm hin h4 ho a0 a1 (fun e => (by have q := s; rw [a2 e] at q; exact q)) (fun g r2 e => (by have q := s; rw [a3 _ _ e] at q; exact q))
theorem x_th (hw : wf T b) (lk : lkd T b) (X : XH σ T b h k lim md cy rch n N (f :: r) 0 1) (hm : f.1 < T 0 1) (hin : inC T f.1 (T 17 f.1 + f.2.1)) (h4 : T 4 (T 17 f.1 + f.2.1) = 1) (hr : rls T N (f :: r) ids) (s : sR σ K T b h k lim md cy rch n N (f :: r) o) (a : ASth T b k lim md cy rch n N f r ids o) : mp_X7_step σ K := by
  obtain ⟨ho, a1, v, a2, a4, a5, a6⟩ := a
  exact X_throw hw X hm hin h4 ho a1 a2 hr (fun e u v => (by have q := s; rw [a4 e ⟨u, v⟩] at q; exact q)) (fun e u => (by have q := s; rw [a5 e u] at q; exact q)) (fun q e => (by have q := s; rw [a6 _ e] at q; exact q))
theorem x_all (hw : wf T b) (lk : lkd T b) (X : XH σ T b h k lim md cy rch n N (f :: r) 0 1) (hm : f.1 < T 0 1) (hin : inC T f.1 (T 17 f.1 + f.2.1)) (h4 : T 4 (T 17 f.1 + f.2.1) = 1) (hr : rls T N (f :: r) ids) (s : sR σ K T b h k lim md cy rch n N (f :: r) o) (a : AS T b k lim md cy rch n N f r ids o) : mp_X7_step σ K := by
  rcases a with a | a | a | a | a | a | a | a | a | a | a | a | a | a | a | a
  · exact x_sm hw lk X hm hin h4 hr s a
  · exact x_dz hw lk X hm hin h4 hr s a
  · exact x_nw hw lk X hm hin h4 hr s a
  · exact x_ge hw lk X hm hin h4 hr s a
  · exact x_pu hw lk X hm hin h4 hr s a
  · exact x_is hw lk X hm hin h4 hr s a
  · exact x_ca hw lk X hm hin h4 hr s a
  · exact x_rw hw lk X hm hin h4 hr s a
  · exact x_le hw lk X hm hin h4 hr s a
  · exact x_at hw lk X hm hin h4 hr s a
  · exact x_to hw lk X hm hin h4 hr s a
  · exact x_cl hw lk X hm hin h4 hr s a
  · exact x_se hw lk X hm hin h4 hr s a
  · exact x_re hw lk X hm hin h4 hr s a
  · exact x_gi hw lk X hm hin h4 hr s a
  · exact x_th hw lk X hm hin h4 hr s a
theorem m_sm (hw : wf T b) (lk : lkd T b) (Y : MH μ T b k lim md cy rch n N (f :: r) 0 1 sb) (S : stp T h k lim md rch n N (f :: r) ids sb) (hfl : (f :: r).length < 7600) (hin : inC T f.1 (T 17 f.1 + f.2.1)) (h4 : T 4 (T 17 f.1 + f.2.1) = 1) (s : mR μ K T b k lim md cy rch n N (f :: r) sb o) (a : ASsm T b k lim md cy rch n N f r ids o) : mp_X12_step μ K := by
  obtain ⟨ho, zv, jc, ht', pc', vs', a1, a2, a3, a4, a5⟩ := a
  exact M_sm hw lk Y hin h4 ho a1 a2 a3 a4 (by have q := s; rw [a5] at q; exact q)
theorem m_dz (hw : wf T b) (lk : lkd T b) (Y : MH μ T b k lim md cy rch n N (f :: r) 0 1 sb) (S : stp T h k lim md rch n N (f :: r) ids sb) (hfl : (f :: r).length < 7600) (hin : inC T f.1 (T 17 f.1 + f.2.1)) (h4 : T 4 (T 17 f.1 + f.2.1) = 1) (s : mR μ K T b k lim md cy rch n N (f :: r) sb o) (a : ASdz T b k lim md cy rch n N f r ids o) : mp_X12_step μ K := by
  obtain ⟨ho, a1, ⟨xv, a2⟩, a3, a4, a5⟩ := a
  exact M_dz hw Y S hin h4 ho (by omega) a3 (fun u v => (by have q := s; rw [a4 ⟨u, v⟩] at q; exact q)) (fun u => (by have q := s; rw [a5 u] at q; exact q))
theorem m_nw (hw : wf T b) (lk : lkd T b) (Y : MH μ T b k lim md cy rch n N (f :: r) 0 1 sb) (S : stp T h k lim md rch n N (f :: r) ids sb) (hfl : (f :: r).length < 7600) (hin : inC T f.1 (T 17 f.1 + f.2.1)) (h4 : T 4 (T 17 f.1 + f.2.1) = 1) (s : mR μ K T b k lim md cy rch n N (f :: r) sb o) (a : ASnw T b k lim md cy rch n N f r ids o) : mp_X12_step μ K := by
  obtain ⟨ho, a1, a2, a3⟩ := a
  obtain ⟨th, nd, bg, nt, us, s2, y, hsb⟩ := Y
  exact m_dt hw y hin h4 (by omega) (D_new hw y hsb S hin h4 ho a1 (fun u v => (by have q := s; rw [a2 ⟨u, v⟩] at q; exact q.z)) (fun c e u => by have q := s; rw [a3 u] at q; rw [e]; exact q.z))
theorem m_ge (hw : wf T b) (lk : lkd T b) (Y : MH μ T b k lim md cy rch n N (f :: r) 0 1 sb) (S : stp T h k lim md rch n N (f :: r) ids sb) (hfl : (f :: r).length < 7600) (hin : inC T f.1 (T 17 f.1 + f.2.1)) (h4 : T 4 (T 17 f.1 + f.2.1) = 1) (s : mR μ K T b k lim md cy rch n N (f :: r) sb o) (a : ASge T b k lim md cy rch n N f r ids o) : mp_X12_step μ K := by
  obtain ⟨ho, a1, v, a2, a3, a4, a5, a6⟩ := a
  obtain ⟨th, nd, bg, nt, us, s2, y, hsb⟩ := Y
  exact m_dt hw y hin h4 (by omega) (D_get hw y hsb S hin h4 ho a1 a2 a3 (fun e u v => (by have q := s; rw [a4 e ⟨u, v⟩] at q; exact q.z)) (fun e u => (by have q := s; rw [a5 e u] at q; exact q.z)) (fun q e => (by have q := s; rw [a6 _ e] at q; exact q.z)))
theorem m_pu (hw : wf T b) (lk : lkd T b) (Y : MH μ T b k lim md cy rch n N (f :: r) 0 1 sb) (S : stp T h k lim md rch n N (f :: r) ids sb) (hfl : (f :: r).length < 7600) (hin : inC T f.1 (T 17 f.1 + f.2.1)) (h4 : T 4 (T 17 f.1 + f.2.1) = 1) (s : mR μ K T b k lim md cy rch n N (f :: r) sb o) (a : ASpu T b k lim md cy rch n N f r ids o) : mp_X12_step μ K := by
  obtain ⟨ho, a1, v, a2, a3, a4, a5, a6⟩ := a
  obtain ⟨th, nd, bg, nt, us, s2, y, hsb⟩ := Y
  exact m_dt hw y hin h4 (by omega) (D_put hw y hsb S hin h4 ho a1 a2 a3 (fun e u v => (by have q := s; rw [a4 e ⟨u, v⟩] at q; exact q.z)) (fun e u => (by have q := s; rw [a5 e u] at q; exact q.z)) (fun q e => (by have q := s; rw [a6 _ e] at q; exact q.z)))
theorem m_is (hw : wf T b) (lk : lkd T b) (Y : MH μ T b k lim md cy rch n N (f :: r) 0 1 sb) (S : stp T h k lim md rch n N (f :: r) ids sb) (hfl : (f :: r).length < 7600) (hin : inC T f.1 (T 17 f.1 + f.2.1)) (h4 : T 4 (T 17 f.1 + f.2.1) = 1) (s : mR μ K T b k lim md cy rch n N (f :: r) sb o) (a : ASis T b k lim md cy rch n N f r ids o) : mp_X12_step μ K := by
  obtain ⟨ho, a1, v, zz, a2, a3, a4⟩ := a
  obtain ⟨th, nd, bg, nt, us, s2, y, hsb⟩ := Y
  exact m_dt hw y hin h4 (by omega) (D_is hw y hsb S.2.2.2.1 hin h4 ho a1 a2 (fun zz2 e => by have q := s; rw [a4] at q; have ez : zz2 = zz := is_u e a3; rw [ez]; exact q.z))
theorem m_ca (hw : wf T b) (lk : lkd T b) (Y : MH μ T b k lim md cy rch n N (f :: r) 0 1 sb) (S : stp T h k lim md rch n N (f :: r) ids sb) (hfl : (f :: r).length < 7600) (hin : inC T f.1 (T 17 f.1 + f.2.1)) (h4 : T 4 (T 17 f.1 + f.2.1) = 1) (s : mR μ K T b k lim md cy rch n N (f :: r) sb o) (a : ASca T b k lim md cy rch n N f r ids o) : mp_X12_step μ K := by
  obtain ⟨ho, a1, v, a2, a4, a5, a6⟩ := a
  obtain ⟨th, nd, bg, nt, us, s2, y, hsb⟩ := Y
  exact m_dt hw y hin h4 (by omega) (D_cast hw y hsb S hin h4 ho a1 a2 (fun e u v => (by have q := s; rw [a4 e ⟨u, v⟩] at q; exact q.z)) (fun e u => (by have q := s; rw [a5 e u] at q; exact q.z)) (fun e => (by have q := s; rw [a6 e] at q; exact q.z)))
theorem m_rw (hw : wf T b) (lk : lkd T b) (Y : MH μ T b k lim md cy rch n N (f :: r) 0 1 sb) (S : stp T h k lim md rch n N (f :: r) ids sb) (hfl : (f :: r).length < 7600) (hin : inC T f.1 (T 17 f.1 + f.2.1)) (h4 : T 4 (T 17 f.1 + f.2.1) = 1) (s : mR μ K T b k lim md cy rch n N (f :: r) sb o) (a : ASrw T b k lim md cy rch n N f r ids o) : mp_X12_step μ K := by
  obtain ⟨ho, a1, xv, a2, a4, a5, a6⟩ := a
  obtain ⟨th, nd, bg, nt, us, s2, y, hsb⟩ := Y
  exact m_dt hw y hin h4 (by omega) (D_row hw y hsb S hin h4 ho a1 a2 (fun u v => (by have q := s; rw [a4 ⟨u, v⟩] at q; exact q.z)) (fun e u => (by have q := s; rw [a5 e u] at q; exact q.z)) (fun j e1 e2 u => (by have q := s; rw [a6 j e1 e2 u] at q; exact q.z)))
theorem m_le (hw : wf T b) (lk : lkd T b) (Y : MH μ T b k lim md cy rch n N (f :: r) 0 1 sb) (S : stp T h k lim md rch n N (f :: r) ids sb) (hfl : (f :: r).length < 7600) (hin : inC T f.1 (T 17 f.1 + f.2.1)) (h4 : T 4 (T 17 f.1 + f.2.1) = 1) (s : mR μ K T b k lim md cy rch n N (f :: r) sb o) (a : ASle T b k lim md cy rch n N f r ids o) : mp_X12_step μ K := by
  obtain ⟨ho, a1, v, a2, a3, a4, a5, a6⟩ := a
  obtain ⟨th, nd, bg, nt, us, s2, y, hsb⟩ := Y
  exact m_dt hw y hin h4 (by omega) (D_len hw y hsb S hin h4 ho a1 a2 a3 (fun e u v => (by have q := s; rw [a4 e ⟨u, v⟩] at q; exact q.z)) (fun e u => (by have q := s; rw [a5 e u] at q; exact q.z)) (fun q e => (by have q := s; rw [a6 _ e] at q; exact q.z)))
theorem m_at (hw : wf T b) (lk : lkd T b) (Y : MH μ T b k lim md cy rch n N (f :: r) 0 1 sb) (S : stp T h k lim md rch n N (f :: r) ids sb) (hfl : (f :: r).length < 7600) (hin : inC T f.1 (T 17 f.1 + f.2.1)) (h4 : T 4 (T 17 f.1 + f.2.1) = 1) (s : mR μ K T b k lim md cy rch n N (f :: r) sb o) (a : ASat T b k lim md cy rch n N f r ids o) : mp_X12_step μ K := by
  obtain ⟨ho, a1, v, xi, a2, a3, a7, a4, a5, a6⟩ := a
  obtain ⟨th, nd, bg, nt, us, s2, y, hsb⟩ := Y
  exact m_dt hw y hin h4 (by omega) (D_at hw y hsb S hin h4 ho a1 a2 a3 a7 (fun e d u v => (by have q := s; rw [a4 e d ⟨u, v⟩] at q; exact q.z)) (fun e d u => (by have q := s; rw [a5 e d u] at q; exact q.z)) (fun q i e1 e2 e3 => by obtain ⟨q', j, lk2, p1, p2, p3⟩ := a6 q i e1 e2 e3; exact ⟨q', j, lk2, p1, p2, (by have q := s; rw [p3] at q; exact q.z)⟩))
theorem m_to (hw : wf T b) (lk : lkd T b) (Y : MH μ T b k lim md cy rch n N (f :: r) 0 1 sb) (S : stp T h k lim md rch n N (f :: r) ids sb) (hfl : (f :: r).length < 7600) (hin : inC T f.1 (T 17 f.1 + f.2.1)) (h4 : T 4 (T 17 f.1 + f.2.1) = 1) (s : mR μ K T b k lim md cy rch n N (f :: r) sb o) (a : ASto T b k lim md cy rch n N f r ids o) : mp_X12_step μ K := by
  obtain ⟨ho, a1, v, xi, a2, a3, a7, a4, a5, a6⟩ := a
  obtain ⟨th, nd, bg, nt, us, s2, y, hsb⟩ := Y
  exact m_dt hw y hin h4 (by omega) (D_to hw y hsb S hin h4 ho a1 a2 a3 a7 (fun e d u v => (by have q := s; rw [a4 e d ⟨u, v⟩] at q; exact q.z)) (fun e d u => (by have q := s; rw [a5 e d u] at q; exact q.z)) (fun q i e1 e2 e3 => by obtain ⟨q', j, lk2, p1, p2, p3, p4⟩ := a6 q i e1 e2 e3; exact ⟨q', j, lk2, p1, fun e => (by have q := s; rw [p2 e] at q; exact q.z), fun e u => (by have q := s; rw [p3 e u] at q; exact q.z), fun e u v => (by have q := s; rw [p4 e ⟨u, v⟩] at q; exact q.z)⟩))
theorem m_cl (hw : wf T b) (lk : lkd T b) (Y : MH μ T b k lim md cy rch n N (f :: r) 0 1 sb) (S : stp T h k lim md rch n N (f :: r) ids sb) (hfl : (f :: r).length < 7600) (hin : inC T f.1 (T 17 f.1 + f.2.1)) (h4 : T 4 (T 17 f.1 + f.2.1) = 1) (s : mR μ K T b k lim md cy rch n N (f :: r) sb o) (a : AScl T b k lim md cy rch n N f r ids o) : mp_X12_step μ K := by
  obtain ⟨ho, m', a1, a2, a3, a4, a5⟩ := a
  obtain ⟨th, nd, bg, nt, us, s2, y, hsb⟩ := Y
  exact m_dt hw y hin h4 (by omega) (D_call hw y hsb S hin h4 hfl ho a1 a2 a3 (fun u v => (by have q := s; rw [a4 ⟨u, v⟩] at q; exact q.z)) (fun u => (by have q := s; rw [a5 u] at q; exact q.z)))
theorem m_se (hw : wf T b) (lk : lkd T b) (Y : MH μ T b k lim md cy rch n N (f :: r) 0 1 sb) (S : stp T h k lim md rch n N (f :: r) ids sb) (hfl : (f :: r).length < 7600) (hin : inC T f.1 (T 17 f.1 + f.2.1)) (h4 : T 4 (T 17 f.1 + f.2.1) = 1) (s : mR μ K T b k lim md cy rch n N (f :: r) sb o) (a : ASse T b k lim md cy rch n N f r ids o) : mp_X12_step μ K := by
  obtain ⟨ho, m0, v, a1, a2, a3, a7, a8, a4, a5, a6⟩ := a
  obtain ⟨th, nd, bg, nt, us, s2, y, hsb⟩ := Y
  exact m_dt hw y hin h4 (by omega) (D_send hw y hsb S hin h4 hfl ho a1 a2 a3 a7 a8 (fun u v => (by have q := s; rw [a4 ⟨u, v⟩] at q; exact q.z)) (fun e u => (by have q := s; rw [a5 e u] at q; exact q.z)) (fun q m2 e1 e2 u => (by have q := s; rw [a6 _ _ e1 e2 u] at q; exact q.z)))
theorem m_re (hw : wf T b) (lk : lkd T b) (Y : MH μ T b k lim md cy rch n N (f :: r) 0 1 sb) (S : stp T h k lim md rch n N (f :: r) ids sb) (hfl : (f :: r).length < 7600) (hin : inC T f.1 (T 17 f.1 + f.2.1)) (h4 : T 4 (T 17 f.1 + f.2.1) = 1) (s : mR μ K T b k lim md cy rch n N (f :: r) sb o) (a : ASre T b k lim md cy rch n N f r ids o) : mp_X12_step μ K := by
  obtain ⟨ho, a1, a2, a3⟩ := a
  obtain ⟨th, nd, bg, nt, us, s2, y, hsb⟩ := Y
  exact m_dt hw y hin h4 (by omega) (D_ret hw y hsb ho a1 (fun e => (by have q := s; rw [a2 e] at q; exact q.z)) (fun g r2 e => (by have q := s; rw [a3 _ _ e] at q; exact q.z)))
theorem m_gi (hw : wf T b) (lk : lkd T b) (Y : MH μ T b k lim md cy rch n N (f :: r) 0 1 sb) (S : stp T h k lim md rch n N (f :: r) ids sb) (hfl : (f :: r).length < 7600) (hin : inC T f.1 (T 17 f.1 + f.2.1)) (h4 : T 4 (T 17 f.1 + f.2.1) = 1) (s : mR μ K T b k lim md cy rch n N (f :: r) sb o) (a : ASgi T b k lim md cy rch n N f r ids o) : mp_X12_step μ K := by
  obtain ⟨ho, a0, a1, a2, a3⟩ := a
  obtain ⟨th, nd, bg, nt, us, s2, y, hsb⟩ := Y
  exact m_dt hw y hin h4 (by omega) (D_give hw y hsb ho a0.1 a1 (fun e => (by have q := s; rw [a2 e] at q; exact q.z)) (fun g r2 e => (by have q := s; rw [a3 _ _ e] at q; exact q.z)))
theorem m_th (hw : wf T b) (lk : lkd T b) (Y : MH μ T b k lim md cy rch n N (f :: r) 0 1 sb) (S : stp T h k lim md rch n N (f :: r) ids sb) (hfl : (f :: r).length < 7600) (hin : inC T f.1 (T 17 f.1 + f.2.1)) (h4 : T 4 (T 17 f.1 + f.2.1) = 1) (s : mR μ K T b k lim md cy rch n N (f :: r) sb o) (a : ASth T b k lim md cy rch n N f r ids o) : mp_X12_step μ K := by
  obtain ⟨ho, a1, v, a2, a4, a5, a6⟩ := a
  obtain ⟨th, nd, bg, nt, us, s2, y, hsb⟩ := Y
  exact m_dt hw y hin h4 (by omega) (D_throw hw y hsb S hin h4 ho a1 a2 (fun e u v => (by have q := s; rw [a4 e ⟨u, v⟩] at q; exact q.z)) (fun e u => (by have q := s; rw [a5 e u] at q; exact q.z)) (fun q e => (by have q := s; rw [a6 _ e] at q; exact q.z)))
theorem m_all (hw : wf T b) (lk : lkd T b) (Y : MH μ T b k lim md cy rch n N (f :: r) 0 1 sb) (S : stp T h k lim md rch n N (f :: r) ids sb) (hfl : (f :: r).length < 7600) (hin : inC T f.1 (T 17 f.1 + f.2.1)) (h4 : T 4 (T 17 f.1 + f.2.1) = 1) (s : mR μ K T b k lim md cy rch n N (f :: r) sb o) (a : AS T b k lim md cy rch n N f r ids o) : mp_X12_step μ K := by
  rcases a with a | a | a | a | a | a | a | a | a | a | a | a | a | a | a | a
  · exact m_sm hw lk Y S hfl hin h4 s a
  · exact m_dz hw lk Y S hfl hin h4 s a
  · exact m_nw hw lk Y S hfl hin h4 s a
  · exact m_ge hw lk Y S hfl hin h4 s a
  · exact m_pu hw lk Y S hfl hin h4 s a
  · exact m_is hw lk Y S hfl hin h4 s a
  · exact m_ca hw lk Y S hfl hin h4 s a
  · exact m_rw hw lk Y S hfl hin h4 s a
  · exact m_le hw lk Y S hfl hin h4 s a
  · exact m_at hw lk Y S hfl hin h4 s a
  · exact m_to hw lk Y S hfl hin h4 s a
  · exact m_cl hw lk Y S hfl hin h4 s a
  · exact m_se hw lk Y S hfl hin h4 s a
  · exact m_re hw lk Y S hfl hin h4 s a
  · exact m_gi hw lk Y S hfl hin h4 s a
  · exact m_th hw lk Y S hfl hin h4 s a
end
