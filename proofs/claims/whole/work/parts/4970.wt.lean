/-! ===== the abstract machine keeps its types ===== -/
/-- the verifier's tables, of all methods -/
def vOK (T : Nat → Nat → Nat) (b : Nat → Nat) (H Y : Nat → Nat → Nat) : Prop := ∀ m, m < T 0 1 → (∀ p, inC T m p → H m p ≠ 0 → H m p ≤ T 16 m + 1 ∧ T 4 p = 1 ∧ (∀ i, i < T 15 m + (H m p - 1) → vt T (Y m (12 * p + i)) ∧ (T 15 m ≤ i → Y m (12 * p + i) ≠ 99)) ∧ stb T b m p (H m) (Y m)) ∧ arr T m (T 17 m) 0 (w0T T m) (H m) (Y m)
/-- nodes are well -/
def nok (T : Nat → Nat → Nat) (n : Nat) (N : Nat → AN) : Prop := ∀ i, i < n → nwl T N (N i) ∧ ∀ j k, j < npt T (N i) → (N i).2.2.2 j = .inr (k + 1) → k < n
/-- values lead to nodes -/
def vlt (n m : Nat) (vs : Nat → AV) : Prop := ∀ i k, i < m → vs i = .inr (k + 1) → k < n
/-- what stands in a frame has the types of its place -/
def ftp (T : Nat → Nat → Nat) (H Y : Nat → Nat → Nat) (n : Nat) (N : Nat → AN) (f : AF) : Prop := f.1 < T 0 1 ∧ inC T f.1 (T 17 f.1 + f.2.1) ∧ H f.1 (T 17 f.1 + f.2.1) ≠ 0 ∧ f.2.2.1 + 1 ≤ H f.1 (T 17 f.1 + f.2.1) ∧ cfw T N (T 15 f.1 + f.2.2.1) f.2.2.2 (fun i => Y f.1 (12 * (T 17 f.1 + f.2.1) + i)) ∧ vlt n (T 15 f.1 + f.2.2.1) f.2.2.2
/-- a frame that waits for a method like m' -/
def sus (T : Nat → Nat → Nat) (b : Nat → Nat) (H Y : Nat → Nat → Nat) (n : Nat) (N : Nat → AN) (f : AF) (m' : Nat) : Prop := ftp T H Y n N f ∧ (b (T 17 f.1 + f.2.1) = 35 ∨ b (T 17 f.1 + f.2.1) = 36) ∧ f.2.2.1 + T 12 (cmt T b (T 17 f.1 + f.2.1)) + 1 = H f.1 (T 17 f.1 + f.2.1) ∧ T 14 m' = T 14 (cmt T b (T 17 f.1 + f.2.1))
/-- the frames below one of method m' -/
def fsT (T : Nat → Nat → Nat) (b : Nat → Nat) (H Y : Nat → Nat → Nat) (n : Nat) (N : Nat → AN) : List AF → Nat → Prop
  | [], _ => True
  | g :: r, m' => sus T b H Y n N g m' ∧ fsT T b H Y n N r g.1
/-- the state is well -/
def WT (T : Nat → Nat → Nat) (b : Nat → Nat) (H Y : Nat → Nat → Nat) (n : Nat) (N : Nat → AN) (fs : List AF) (fl st : Nat) : Prop := nok T n N ∧ (∀ q, fl = q + 1 → q < n ∧ (N q).1 = 2) ∧ (∀ f r, fs = f :: r → ftp T H Y n N f ∧ (fl = 0 → f.2.2.1 + 1 = H f.1 (T 17 f.1 + f.2.1)) ∧ fsT T b H Y n N r f.1) ∧ (st = 1 → fs ≠ [])
section
variable {T : Nat → Nat → Nat} {b : Nat → Nat} {H Y : Nat → Nat → Nat} {n n' : Nat} {N N' : Nat → AN} {f g : AF} {r fs : List AF} {fl st : Nat}
theorem nle_r : nle n N N := fun _ _ => ⟨rfl, rfl, rfl⟩
theorem nle_add {x : AN} : nle n N (va_up N n x) := fun i hi => by rw [va_up_ne _ _ (by omega)]; exact ⟨rfl, rfl, rfl⟩
theorem nle_wr {q j : Nat} {v : AV} : nle n N (va_up N q (npu (N q) j v)) := fun i hi => by
  by_cases e : i = q
  · rw [e, va_up_self]; exact ⟨rfl, rfl, rfl⟩
  · rw [va_up_ne _ _ e]; exact ⟨rfl, rfl, rfl⟩
theorem nle.t {N2 : Nat → AN} (h : nle n N N') (h2 : nle n N' N2) : nle n N N2 := fun i hi => ⟨(h2 i hi).1.trans (h i hi).1, (h2 i hi).2.1.trans (h i hi).2.1, (h2 i hi).2.2.trans (h i hi).2.2⟩
theorem nle.s (h : nle n N N') (hn : n' ≤ n) : nle n' N N' := fun i hi => h i (by omega)
theorem nok.c (nk : nok T n N) : ∀ i, i < n → (N i).1 = 2 → (N i).2.1 < T 0 0 := fun i hi h2 => by
  rcases (nk i hi).1 with z | z | z
  · exact z.2.1
  · omega
  · omega
theorem nok.add {x : AN} (nk : nok T n N) (hx : nwl T N x) (hp : ∀ j k, j < npt T x → x.2.2.2 j = .inr (k + 1) → k < n) : nok T (n + 1) (va_up N n x) := fun i hi => by
  by_cases e : i = n
  · rw [e, va_up_self]
    exact ⟨hx.n hp nle_add, fun j k h1 h2 => by have := hp j k h1 h2; omega⟩
  · rw [va_up_ne _ _ e]
    obtain ⟨a, c⟩ := nk i (by omega)
    exact ⟨a.n c nle_add, fun j k h1 h2 => by have := c j k h1 h2; omega⟩
theorem nok.wr {q j : Nat} {v : AV} (nk : nok T n N) (hx : nwl T N (npu (N q) j v)) (hq : q < n) (hv : ∀ k, v = .inr (k + 1) → k < n) : nok T n (va_up N q (npu (N q) j v)) := fun i hi => by
  by_cases e : i = q
  · rw [e, va_up_self]
    have hp : ∀ j' k, j' < npt T (npu (N q) j v) → (npu (N q) j v).2.2.2 j' = .inr (k + 1) → k < n := fun j' k h1 h2 => by
      rw [npt_u] at h1
      have h2 : va_up (N q).2.2.2 j v j' = .inr (k + 1) := h2
      by_cases e2 : j' = j
      · rw [e2, va_up_self] at h2; exact hv k h2
      · rw [va_up_ne _ _ e2] at h2; exact (nk q hq).2 j' k h1 h2
    exact ⟨hx.n hp nle_wr, hp⟩
  · rw [va_up_ne _ _ e]
    obtain ⟨a, c⟩ := nk i hi
    exact ⟨a.n c nle_wr, c⟩
theorem ftp.mo (h : ftp T H Y n N f) (hn : n ≤ n') (hle : nle n N N') : ftp T H Y n' N' f := by
  obtain ⟨h1, h2, h3, h4, h5, h6⟩ := h
  exact ⟨h1, h2, h3, h4, fun i hi => (h5 i hi).n (fun k e => h6 i k hi e) hle, fun i k hi e => by have := h6 i k hi e; omega⟩
theorem fsT.mo (hn : n ≤ n') (hle : nle n N N') : ∀ (r : List AF) (m : Nat), fsT T b H Y n N r m → fsT T b H Y n' N' r m := by
  intro r
  induction r with
  | nil => intro m _; trivial
  | cons g r ih => intro m h; exact ⟨⟨h.1.1.mo hn hle, h.1.2⟩, ih g.1 h.2⟩
/-- the nodes' parts are what their kinds say -/
theorem cf_ri {v : AV} {t : Nat} (h : cf T N v t) (h9 : t ≠ 99) : t ≠ 0 ↔ ∃ w, v = .inr w := by
  rcases h with h | h | ⟨h1, h2, h | ⟨i, h3, h4⟩⟩
  · exact absurd h.1 h9
  · obtain ⟨x, e⟩ := h.2
    exact ⟨fun q => absurd h.1 q, fun ⟨w, q⟩ => by rw [e] at q; cases q⟩
  · exact ⟨fun _ => ⟨0, h⟩, fun _ => h1⟩
  · exact ⟨fun _ => ⟨i + 1, h3⟩, fun _ => h1⟩
theorem ptl_ri {v : AV} {lv it : Nat} (h : ptl T N lv it v) (h9 : it ≠ 99) : (it ≠ 0 ∨ lv ≠ 0) ↔ ∃ w, v = .inr w := by
  unfold ptl at h
  by_cases e : lv = 0
  · rw [if_pos e] at h
    have := cf_ri h h9
    exact ⟨fun q => this.mp (by omega), fun q => Or.inl (this.mpr q)⟩
  · rw [if_neg e] at h
    refine ⟨fun _ => ?_, fun _ => Or.inr e⟩
    rcases h with h | ⟨i, h, -⟩
    · exact ⟨0, h⟩
    · exact ⟨i + 1, h⟩
theorem ty_n9 {C t : Nat} (hC : C ≤ 32) (h : ty_ok C False t) : t ≠ 99 := by
  intro e
  have := vt_n (T := fun _ _ => C) hC h
  exact this.2 e
theorem nok.np (hw : wf T b) (nk : nok T n N) : npo T n N := fun q hq => by
  have w2 := hw.2.1
  rcases (nk q hq).1 with ⟨z1, z2, z3⟩ | ⟨z1, z2, z3, z4⟩ | ⟨z1, z2, z3, z4⟩
  · refine ⟨Or.inl z1, fun _ => z2, fun e => by omega, fun j hj => ?_⟩
    unfold npt at hj
    rw [if_pos z1] at hj
    unfold isP
    rw [if_pos z1]
    exact cf_ri (z3 j hj) (ty_n9 w2 ((hw.2.2.2.2.2.2.1 _ z2).2.2.1 j hj))
  · refine ⟨Or.inr (Or.inl z1), fun e => by omega, fun _ => ⟨z2, z3⟩, fun j hj => ?_⟩
    unfold npt at hj
    rw [if_neg (by omega)] at hj
    unfold isP
    rw [if_neg (by omega), if_pos z1]
    exact ptl_ri (z4 j hj) (by omega)
  · refine ⟨Or.inr (Or.inr z1), fun e => by omega, fun e => by omega, fun j hj => ?_⟩
    unfold npt at hj
    rw [if_neg (by omega)] at hj
    unfold isP
    rw [if_neg (by omega), if_neg (by omega)]
    exact ptl_ri (z4 j hj) (by omega)
theorem nwl_ob {c : Nat} (hc : c < T 0 0) : nwl T N (nob T c) := Or.inl ⟨rfl, hc, fun j hj => by
  show cf T N (if T 7 (15 * c + j) = 0 then .inl 0 else .inr 0) (T 7 (15 * c + j))
  by_cases e : T 7 (15 * c + j) = 0
  · rw [if_pos e, e]; exact cf_i 0
  · rw [if_neg e]; exact cf_n e⟩
theorem ptl_0 {lv it : Nat} : ptl T N lv it (if it = 0 ∧ lv = 0 then .inl 0 else .inr 0) := by
  unfold ptl
  by_cases e : lv = 0
  · rw [if_pos e]
    by_cases e2 : it = 0
    · rw [if_pos ⟨e2, e⟩, e2]; exact cf_i 0
    · rw [if_neg (fun q => e2 q.1)]; exact cf_n e2
  · rw [if_neg e, if_neg (fun q => e q.2)]; exact Or.inl rfl
theorem nwl_rw {it l : Nat} (h1 : l ≤ 3375) (h2 : it ≤ T 0 0) : nwl T N (nrw it l) := Or.inr (Or.inl ⟨rfl, h1, h2, fun _ _ => ptl_0⟩)
theorem nwl_ch {lv it : Nat} (h1 : lv ≤ 1) (h2 : it ≤ T 0 0) : nwl T N (nch lv it) := Or.inr (Or.inr ⟨rfl, h1, h2, fun _ _ => ptl_0⟩)
theorem nob_p {c j k m : Nat} : (nob T c).2.2.2 j = .inr (k + 1) → k < m := fun e => by
  have e : (if T 7 (15 * c + j) = 0 then (.inl 0 : AV) else .inr 0) = .inr (k + 1) := e
  by_cases q : T 7 (15 * c + j) = 0
  · rw [if_pos q] at e; cases e
  · rw [if_neg q] at e; cases e
theorem nrw_p {it l j k m : Nat} : (nrw it l).2.2.2 j = .inr (k + 1) → k < m := fun e => by
  have e : (if it = 0 ∧ dpt l = 0 then (.inl 0 : AV) else .inr 0) = .inr (k + 1) := e
  by_cases q : it = 0 ∧ dpt l = 0
  · rw [if_pos q] at e; cases e
  · rw [if_neg q] at e; cases e
theorem nch_p {it l j k m : Nat} : (nch l it).2.2.2 j = .inr (k + 1) → k < m := fun e => by
  have e : (if it = 0 ∧ l = 0 then (.inl 0 : AV) else .inr 0) = .inr (k + 1) := e
  by_cases q : it = 0 ∧ l = 0
  · rw [if_pos q] at e; cases e
  · rw [if_neg q] at e; cases e
/-- a frame whose types came on -/
theorem arr_top {m q t : Nat} {vs : Nat → AV} {w' : Nat → Nat} {pc : Nat} (hw : wf T b) (nk : nok T n N) (hm : m < T 0 1) (a : arr T m q t w' (H m) (Y m)) (hq : T 17 m + pc = q) (hv : cfw T N (T 15 m + t) vs w') (hb : vlt n (T 15 m + t) vs) : ftp T H Y n N (m, pc, t, vs) ∧ t + 1 = H m (T 17 m + pc) := by
  obtain ⟨a1, a2, a3⟩ := a
  subst hq
  refine ⟨⟨hm, a1, by show H m (T 17 m + pc) ≠ 0; omega, by show t + 1 ≤ H m (T 17 m + pc); omega, fun i hi => ?_, hb⟩, a2.symm⟩
  obtain ⟨v1, v2⟩ := a3 i hi
  exact (hv i hi).le hw v1 (fun k e h2 => nk.c k (hb i k hi e) h2) v2
/-- the facts of the top frame -/
theorem WT.top (vk : vOK T b H Y) (W : WT T b H Y n N (f :: r) 0 1) : f.1 < T 0 1 ∧ inC T f.1 (T 17 f.1 + f.2.1) ∧ T 4 (T 17 f.1 + f.2.1) = 1 ∧ f.2.2.1 ≤ T 16 f.1 ∧ vlt n (T 15 f.1 + f.2.2.1) f.2.2.2 ∧ fsT T b H Y n N r f.1 ∧ ∃ w, cfw T N (T 15 f.1 + f.2.2.1) f.2.2.2 w ∧ okw T (T 15 f.1) f.2.2.1 w ∧ ∃ (c : Prop) (t' : Nat) (w' : Nat → Nat), avS T b f.1 (T 17 f.1 + f.2.1) f.2.2.1 w c t' w' ∧ c ∧ (¬ (b (T 17 f.1 + f.2.1) = 25 ∨ b (T 17 f.1 + f.2.1) = 37 ∨ b (T 17 f.1 + f.2.1) = 38 ∨ b (T 17 f.1 + f.2.1) = 39) → arr T f.1 (T 17 f.1 + f.2.1 + wd (b (T 17 f.1 + f.2.1))) t' w' (H f.1) (Y f.1)) ∧ ((19 ≤ b (T 17 f.1 + f.2.1) ∧ b (T 17 f.1 + f.2.1) ≤ 25) → arr T f.1 (T 17 f.1 + pr b (jpl b (T 17 f.1 + f.2.1))) t' w' (H f.1) (Y f.1)) := by
  obtain ⟨⟨h1, h2, h3, h4, h5, h6⟩, h7, h8⟩ := W.2.2.1 f r rfl
  have e := h7 rfl
  obtain ⟨v1, v2, v3, v4⟩ := (vk f.1 h1).1 _ h2 h3
  obtain ⟨w, w1, c, t', w', w2, w3, w4, w5⟩ := v4.2
  have eh : H f.1 (T 17 f.1 + f.2.1) - 1 = f.2.2.1 := by omega
  rw [eh] at w1 w2 v3
  exact ⟨h1, h2, v2, by omega, h6, h8, w, fun i hi => by rw [w1 i hi]; exact h5 i hi, fun i hi => by rw [w1 i hi]; exact v3 i hi, c, t', w', w2, w3, w4, w5⟩
/-- the state behind an instruction that goes on in its frame -/
theorem WT.go {m pc t : Nat} {vs : Nat → AV} (W : WT T b H Y n N (f :: r) 0 1) (nk : nok T n' N') (hn : n ≤ n') (hle : nle n N N') (hm : m = f.1) (h1 : ftp T H Y n' N' (m, pc, t, vs) ∧ t + 1 = H m (T 17 m + pc)) : WT T b H Y n' N' ((m, pc, t, vs) :: r) 0 1 := by
  have h8 := (W.2.2.1 f r rfl).2.2
  refine ⟨nk, fun q e => by omega, fun f' r' e => ?_, fun _ => List.cons_ne_nil _ _⟩
  cases e
  exact ⟨h1.1, fun _ => h1.2, by show fsT T b H Y n' N' r m; rw [hm]; exact fsT.mo hn hle r f.1 h8⟩
/-- something flies -/
theorem WT.flw {q : Nat} (W : WT T b H Y n N (f :: r) 0 1) (nk : nok T n' N') (hn : n ≤ n') (hle : nle n N N') (hq : q < n') (h2 : (N' q).1 = 2) : WT T b H Y n' N' (f :: r) (q + 1) 1 := by
  obtain ⟨a, -, c⟩ := W.2.2.1 f r rfl
  refine ⟨nk, fun q' e => by cases e; exact ⟨hq, h2⟩, fun f' r' e => ?_, fun _ => List.cons_ne_nil _ _⟩
  cases e
  exact ⟨a.mo hn hle, fun e => absurd e (Nat.succ_ne_zero q), fsT.mo hn hle r f.1 c⟩
/-- a fault: a new object flies -/
theorem WT.ft {c : Nat} (W : WT T b H Y n N (f :: r) 0 1) (hc : c < T 0 0) : WT T b H Y (n + 1) (va_up N n (nob T c)) (f :: r) (n + 1) 1 :=
  W.flw (W.1.add (nwl_ob hc) (fun j k _ e => nob_p e)) (by omega) nle_add (by omega) (by rw [va_up_self]; rfl)
end
