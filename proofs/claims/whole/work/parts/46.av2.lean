/-! ===== an instruction keeps types good; what the linker gives ===== -/
/-- good types: so many, none unusable on the stack -/
def okw (T : Nat → Nat → Nat) (lo n : Nat) (w : Nat → Nat) : Prop := ∀ i, i < lo + n → vt T (w i) ∧ (lo ≤ i → w i ≠ 99)
theorem okw.up {T : Nat → Nat → Nat} {lo n n' k v : Nat} {w : Nat → Nat} (h : okw T lo n w) (hv : vt T v) (h9 : lo ≤ k → v ≠ 99) (hn : n' ≤ n ∨ (n' = n + 1 ∧ k = lo + n)) : okw T lo n' (va_up w k v) := by
  intro i hi
  by_cases e : i = k
  · subst e; rw [va_up_self]; exact ⟨hv, h9⟩
  · rw [va_up_ne _ _ e]; exact h i (by omega)
theorem okw.le {T : Nat → Nat → Nat} {lo n n' : Nat} {w : Nat → Nat} (h : okw T lo n w) (hn : n' ≤ n) : okw T lo n' w := fun i hi => h i (by omega)
theorem okw.e {T : Nat → Nat → Nat} {lo n : Nat} {w w' : Nat → Nat} (h : okw T lo n w) (he : ∀ i, i < lo + n → w' i = w i) : okw T lo n w' := fun i hi => by rw [he i hi]; exact h i hi
theorem vt_n {T : Nat → Nat → Nat} {x : Nat} (hC : T 0 0 ≤ 32) (h : ty_ok (T 0 0) False x) : vt T x ∧ x ≠ 99 := by
  refine ⟨vt_ty h, ?_⟩
  unfold ty_ok at h
  omega
theorem av_v {T : Nat → Nat → Nat} {b : Nat → Nat} {m p t : Nat} {w : Nat → Nat} {c : Prop} {t' : Nat} {w' : Nat → Nat} (hw : wf T b) (hm : m < T 0 1) (ho : opT T b (T 15 m) p) (hok : (b p = 35 ∨ b p = 36) → okc T b p) (ht : t ≤ T 16 m) (h : okw T (T 15 m) t w) (hav : avS T b m p t w c t' w') (hc : c) : t' ≤ T 16 m ∧ okw T (T 15 m) t' w' := by
  have w2 := hw.2.1
  have y5 := (hw.2.2.2.2.2.2.2.2.1 m hm).2.2.2.2.1
  obtain ⟨o1, o2, -, o4, o5, o6, o7⟩ := ho
  have v0 : vt T 0 := Or.inl (by omega)
  have v97 : vt T 97 := Or.inr (Or.inr (Or.inl rfl))
  obtain ⟨a1, a2, a3, a4, a5, a6, a7, a8, a9, a10, a11, a12, a13, a14, a15, a16, a17, a18, a19, a20, a21, a22, a23, a24, a25, a26, a27⟩ := hav
  by_cases g1 : b p = 0 ∨ b p = 40
  · obtain ⟨e1, e2, e3⟩ := a1 g1
    have z := e1.mp hc
    rw [e2, e3]
    exact ⟨by omega, h.up v0 (fun _ => by omega) (Or.inr ⟨rfl, rfl⟩)⟩
  by_cases g2 : b p = 1
  · obtain ⟨e1, e2, e3⟩ := a2 g2
    have z := e1.mp hc
    rw [e2, e3]
    exact ⟨by omega, h.up v97 (fun _ => by omega) (Or.inr ⟨rfl, rfl⟩)⟩
  by_cases g3 : b p = 2
  · obtain ⟨e1, e2, e3⟩ := a3 g3
    have z := e1.mp hc
    have := o2 (Or.inl g3)
    rw [e2, e3]
    exact ⟨by omega, h.up (h _ (by omega)).1 (fun _ => z.1) (Or.inr ⟨rfl, rfl⟩)⟩
  by_cases g4 : b p = 3
  · obtain ⟨e1, e2, e3⟩ := a4 g4
    have z := e1.mp hc
    have := o2 (Or.inr g4)
    rw [e2, e3]
    exact ⟨by omega, h.up (h _ (by omega)).1 (fun _ => by omega) (Or.inl (by omega))⟩
  by_cases g5 : b p = 4
  · obtain ⟨e1, e2, e3⟩ := a5 g5
    rw [e2, e3]
    exact ⟨by omega, h.le (by omega)⟩
  by_cases g6 : b p = 5
  · obtain ⟨e1, e2, e3⟩ := a6 g6
    have z := e1.mp hc
    have y := h (T 15 m + t - 1) (by omega)
    rw [e2, e3]
    exact ⟨by omega, h.up y.1 (fun _ => y.2 (by omega)) (Or.inr ⟨rfl, rfl⟩)⟩
  by_cases g7 : b p = 6
  · obtain ⟨e1, e2, e3⟩ := a7 g7
    have z := e1.mp hc
    have y := h (T 15 m + t - 1) (by omega)
    have y2 := h (T 15 m + t - 2) (by omega)
    rw [e2, e3]
    exact ⟨ht, (h.up y.1 (fun _ => y.2 (by omega)) (Or.inl (Nat.le_refl _))).up y2.1 (fun _ => y2.2 (by omega)) (Or.inl (Nat.le_refl _))⟩
  by_cases g8 : 7 ≤ b p ∧ b p ≤ 17
  · obtain ⟨e1, e2, e3⟩ := a8 g8
    rw [e2, e3]
    exact ⟨by omega, h.le (by omega)⟩
  by_cases g9 : b p = 18
  · obtain ⟨e1, e2, e3⟩ := a9 g9
    rw [e2, e3]
    exact ⟨by omega, h.le (by omega)⟩
  by_cases g10 : b p = 19 ∨ b p = 41
  · obtain ⟨e1, e2, e3⟩ := a10 g10
    rw [e2, e3]
    exact ⟨by omega, h.le (by omega)⟩
  by_cases g11 : b p = 20
  · obtain ⟨e1, e2, e3⟩ := a11 g11
    rw [e2, e3]
    exact ⟨by omega, h.le (by omega)⟩
  by_cases g12 : b p = 21 ∨ b p = 22
  · obtain ⟨e1, e2, e3⟩ := a12 g12
    rw [e2, e3]
    exact ⟨by omega, h.le (by omega)⟩
  by_cases g13 : b p = 23 ∨ b p = 24
  · obtain ⟨e1, e2, e3⟩ := a13 g13
    rw [e2, e3]
    exact ⟨by omega, h.le (by omega)⟩
  by_cases g14 : b p = 25
  · obtain ⟨e1, e2, e3⟩ := a14 g14
    rw [e2, e3]
    exact ⟨by omega, h.le (by omega)⟩
  by_cases g15 : b p = 26
  · obtain ⟨e1, e2, e3⟩ := a15 g15
    have z := e1.mp hc
    have := o4 (by omega)
    rw [e2, e3]
    exact ⟨by omega, h.up (Or.inl (by omega)) (fun _ => by omega) (Or.inr ⟨rfl, rfl⟩)⟩
  by_cases g16 : b p = 27
  · obtain ⟨e1, e2, e3⟩ := a16 g16
    obtain ⟨z1, z2⟩ := o5 (by omega)
    have y := vt_n w2 ((hw.2.2.2.2.2.2.1 _ z1).2.2.1 _ z2)
    rw [e2, e3]
    exact ⟨by omega, h.up y.1 (fun _ => y.2) (Or.inl (by omega))⟩
  by_cases g17 : b p = 28
  · obtain ⟨e1, e2, e3⟩ := a17 g17
    rw [e2, e3]
    exact ⟨by omega, h.le (by omega)⟩
  by_cases g18 : b p = 29
  · obtain ⟨e1, e2, e3⟩ := a18 g18
    rw [e2, e3]
    exact ⟨by omega, h.up v0 (fun _ => by omega) (Or.inl (by omega))⟩
  by_cases g19 : b p = 30
  · obtain ⟨e1, e2, e3⟩ := a19 g19
    have := o4 (by omega)
    rw [e2, e3]
    exact ⟨by omega, h.up (Or.inl (by omega)) (fun _ => by omega) (Or.inl (by omega))⟩
  by_cases g20 : b p = 31
  · obtain ⟨e1, e2, e3⟩ := a20 g20
    have := o6 (by omega)
    rw [e2, e3]
    exact ⟨by omega, h.up (Or.inr (Or.inl (by omega))) (fun _ => by omega) (Or.inl (by omega))⟩
  by_cases g21 : b p = 32
  · obtain ⟨e1, e2, e3⟩ := a21 g21
    rw [e2, e3]
    exact ⟨by omega, h.up v0 (fun _ => by omega) (Or.inl (by omega))⟩
  by_cases g22 : b p = 33
  · obtain ⟨e1, e2, e3⟩ := a22 g22
    have z := e1.mp hc
    have y := h (T 15 m + t - 2) (by omega)
    have v : vt T (if w (T 15 m + t - 2) = 97 then 97 else w (T 15 m + t - 2) - 64) ∧ (if w (T 15 m + t - 2) = 97 then 97 else w (T 15 m + t - 2) - 64) ≠ 99 := by
      by_cases e : w (T 15 m + t - 2) = 97
      · rw [if_pos e]; exact ⟨v97, by omega⟩
      · rw [if_neg e]
        have := y.1
        unfold vt at this ⊢
        omega
    rw [e2, e3]
    exact ⟨by omega, h.up v.1 (fun _ => v.2) (Or.inl (by omega))⟩
  by_cases g23 : b p = 34
  · obtain ⟨e1, e2, e3⟩ := a23 g23
    rw [e2, e3]
    exact ⟨by omega, h.le (by omega)⟩
  by_cases g24 : b p = 35 ∨ b p = 36
  · obtain ⟨e1, e2, e3⟩ := a24 g24
    obtain ⟨⟨z1, z2⟩, z3⟩ := e1.mp hc
    have q5 := (hw.2.2.2.2.2.2.2.2.1 _ (hok g24).1).2.2.2.2.1
    rw [e2, e3]
    by_cases e : T 14 (cmt T b p) = 255
    · rw [if_pos e, if_pos e]
      exact ⟨by omega, h.le (by omega)⟩
    · rw [if_neg e, if_neg e]
      have z := z3 e
      have y : ty_ok (T 0 0) False (T 14 (cmt T b p)) := by unfold ty_ok at q5 ⊢; omega
      have y := vt_n w2 y
      exact ⟨by omega, (h.le (n' := t - T 12 (cmt T b p)) (by omega)).up y.1 (fun _ => y.2) (Or.inr ⟨rfl, rfl⟩)⟩
  by_cases g25 : b p = 37
  · obtain ⟨e1, e2, e3⟩ := a25 g25
    rw [e2, e3]
    exact ⟨by omega, h.le (by omega)⟩
  by_cases g26 : b p = 38
  · obtain ⟨e1, e2, e3⟩ := a26 g26
    rw [e2, e3]
    exact ⟨by omega, h.le (by omega)⟩
  · obtain ⟨e1, e2, e3⟩ := a27 (by omega)
    rw [e2, e3]
    exact ⟨by omega, h.le (by omega)⟩
theorem av_ex {T : Nat → Nat → Nat} {b : Nat → Nat} (m p t : Nat) (w : Nat → Nat) (ho : b p < 42) : ∃ (c : Prop) (t' : Nat) (w' : Nat → Nat), avS T b m p t w c t' w' := by
  by_cases g0 : b p = 0 ∨ b p = 40
  · exact ⟨t < T 16 m, t + 1, va_up w (T 15 m + t) 0, fun _ => ⟨Iff.rfl, rfl, rfl⟩, fun z => absurd z (by omega), fun z => absurd z (by omega), fun z => absurd z (by omega), fun z => absurd z (by omega), fun z => absurd z (by omega), fun z => absurd z (by omega), fun z => absurd z (by omega), fun z => absurd z (by omega), fun z => absurd z (by omega), fun z => absurd z (by omega), fun z => absurd z (by omega), fun z => absurd z (by omega), fun z => absurd z (by omega), fun z => absurd z (by omega), fun z => absurd z (by omega), fun z => absurd z (by omega), fun z => absurd z (by omega), fun z => absurd z (by omega), fun z => absurd z (by omega), fun z => absurd z (by omega), fun z => absurd z (by omega), fun z => absurd z (by omega), fun z => absurd z (by omega), fun z => absurd z (by omega), fun z => absurd z (by omega), fun z => absurd z (by omega)⟩
  by_cases g1 : b p = 1
  · exact ⟨t < T 16 m, t + 1, va_up w (T 15 m + t) 97, fun z => absurd z (by omega), fun _ => ⟨Iff.rfl, rfl, rfl⟩, fun z => absurd z (by omega), fun z => absurd z (by omega), fun z => absurd z (by omega), fun z => absurd z (by omega), fun z => absurd z (by omega), fun z => absurd z (by omega), fun z => absurd z (by omega), fun z => absurd z (by omega), fun z => absurd z (by omega), fun z => absurd z (by omega), fun z => absurd z (by omega), fun z => absurd z (by omega), fun z => absurd z (by omega), fun z => absurd z (by omega), fun z => absurd z (by omega), fun z => absurd z (by omega), fun z => absurd z (by omega), fun z => absurd z (by omega), fun z => absurd z (by omega), fun z => absurd z (by omega), fun z => absurd z (by omega), fun z => absurd z (by omega), fun z => absurd z (by omega), fun z => absurd z (by omega), fun z => absurd z (by omega)⟩
  by_cases g2 : b p = 2
  · exact ⟨w (b (p + 1)) ≠ 99 ∧ t < T 16 m, t + 1, va_up w (T 15 m + t) (w (b (p + 1))), fun z => absurd z (by omega), fun z => absurd z (by omega), fun _ => ⟨Iff.rfl, rfl, rfl⟩, fun z => absurd z (by omega), fun z => absurd z (by omega), fun z => absurd z (by omega), fun z => absurd z (by omega), fun z => absurd z (by omega), fun z => absurd z (by omega), fun z => absurd z (by omega), fun z => absurd z (by omega), fun z => absurd z (by omega), fun z => absurd z (by omega), fun z => absurd z (by omega), fun z => absurd z (by omega), fun z => absurd z (by omega), fun z => absurd z (by omega), fun z => absurd z (by omega), fun z => absurd z (by omega), fun z => absurd z (by omega), fun z => absurd z (by omega), fun z => absurd z (by omega), fun z => absurd z (by omega), fun z => absurd z (by omega), fun z => absurd z (by omega), fun z => absurd z (by omega), fun z => absurd z (by omega)⟩
  by_cases g3 : b p = 3
  · exact ⟨1 ≤ t, t - 1, va_up w (b (p + 1)) (w (T 15 m + t - 1)), fun z => absurd z (by omega), fun z => absurd z (by omega), fun z => absurd z (by omega), fun _ => ⟨Iff.rfl, rfl, rfl⟩, fun z => absurd z (by omega), fun z => absurd z (by omega), fun z => absurd z (by omega), fun z => absurd z (by omega), fun z => absurd z (by omega), fun z => absurd z (by omega), fun z => absurd z (by omega), fun z => absurd z (by omega), fun z => absurd z (by omega), fun z => absurd z (by omega), fun z => absurd z (by omega), fun z => absurd z (by omega), fun z => absurd z (by omega), fun z => absurd z (by omega), fun z => absurd z (by omega), fun z => absurd z (by omega), fun z => absurd z (by omega), fun z => absurd z (by omega), fun z => absurd z (by omega), fun z => absurd z (by omega), fun z => absurd z (by omega), fun z => absurd z (by omega), fun z => absurd z (by omega)⟩
  by_cases g4 : b p = 4
  · exact ⟨1 ≤ t, t - 1, w, fun z => absurd z (by omega), fun z => absurd z (by omega), fun z => absurd z (by omega), fun z => absurd z (by omega), fun _ => ⟨Iff.rfl, rfl, rfl⟩, fun z => absurd z (by omega), fun z => absurd z (by omega), fun z => absurd z (by omega), fun z => absurd z (by omega), fun z => absurd z (by omega), fun z => absurd z (by omega), fun z => absurd z (by omega), fun z => absurd z (by omega), fun z => absurd z (by omega), fun z => absurd z (by omega), fun z => absurd z (by omega), fun z => absurd z (by omega), fun z => absurd z (by omega), fun z => absurd z (by omega), fun z => absurd z (by omega), fun z => absurd z (by omega), fun z => absurd z (by omega), fun z => absurd z (by omega), fun z => absurd z (by omega), fun z => absurd z (by omega), fun z => absurd z (by omega), fun z => absurd z (by omega)⟩
  by_cases g5 : b p = 5
  · exact ⟨1 ≤ t ∧ t < T 16 m, t + 1, va_up w (T 15 m + t) (w (T 15 m + t - 1)), fun z => absurd z (by omega), fun z => absurd z (by omega), fun z => absurd z (by omega), fun z => absurd z (by omega), fun z => absurd z (by omega), fun _ => ⟨Iff.rfl, rfl, rfl⟩, fun z => absurd z (by omega), fun z => absurd z (by omega), fun z => absurd z (by omega), fun z => absurd z (by omega), fun z => absurd z (by omega), fun z => absurd z (by omega), fun z => absurd z (by omega), fun z => absurd z (by omega), fun z => absurd z (by omega), fun z => absurd z (by omega), fun z => absurd z (by omega), fun z => absurd z (by omega), fun z => absurd z (by omega), fun z => absurd z (by omega), fun z => absurd z (by omega), fun z => absurd z (by omega), fun z => absurd z (by omega), fun z => absurd z (by omega), fun z => absurd z (by omega), fun z => absurd z (by omega), fun z => absurd z (by omega)⟩
  by_cases g6 : b p = 6
  · exact ⟨2 ≤ t, t, va_up (va_up w (T 15 m + t - 2) (w (T 15 m + t - 1))) (T 15 m + t - 1) (w (T 15 m + t - 2)), fun z => absurd z (by omega), fun z => absurd z (by omega), fun z => absurd z (by omega), fun z => absurd z (by omega), fun z => absurd z (by omega), fun z => absurd z (by omega), fun _ => ⟨Iff.rfl, rfl, rfl⟩, fun z => absurd z (by omega), fun z => absurd z (by omega), fun z => absurd z (by omega), fun z => absurd z (by omega), fun z => absurd z (by omega), fun z => absurd z (by omega), fun z => absurd z (by omega), fun z => absurd z (by omega), fun z => absurd z (by omega), fun z => absurd z (by omega), fun z => absurd z (by omega), fun z => absurd z (by omega), fun z => absurd z (by omega), fun z => absurd z (by omega), fun z => absurd z (by omega), fun z => absurd z (by omega), fun z => absurd z (by omega), fun z => absurd z (by omega), fun z => absurd z (by omega), fun z => absurd z (by omega)⟩
  by_cases g7 : 7 ≤ b p ∧ b p ≤ 17
  · exact ⟨2 ≤ t ∧ w (T 15 m + t - 1) = 0 ∧ w (T 15 m + t - 2) = 0, t - 1, w, fun z => absurd z (by omega), fun z => absurd z (by omega), fun z => absurd z (by omega), fun z => absurd z (by omega), fun z => absurd z (by omega), fun z => absurd z (by omega), fun z => absurd z (by omega), fun _ => ⟨Iff.rfl, rfl, rfl⟩, fun z => absurd z (by omega), fun z => absurd z (by omega), fun z => absurd z (by omega), fun z => absurd z (by omega), fun z => absurd z (by omega), fun z => absurd z (by omega), fun z => absurd z (by omega), fun z => absurd z (by omega), fun z => absurd z (by omega), fun z => absurd z (by omega), fun z => absurd z (by omega), fun z => absurd z (by omega), fun z => absurd z (by omega), fun z => absurd z (by omega), fun z => absurd z (by omega), fun z => absurd z (by omega), fun z => absurd z (by omega), fun z => absurd z (by omega), fun z => absurd z (by omega)⟩
  by_cases g8 : b p = 18
  · exact ⟨1 ≤ t ∧ w (T 15 m + t - 1) = 0, t, w, fun z => absurd z (by omega), fun z => absurd z (by omega), fun z => absurd z (by omega), fun z => absurd z (by omega), fun z => absurd z (by omega), fun z => absurd z (by omega), fun z => absurd z (by omega), fun z => absurd z (by omega), fun _ => ⟨Iff.rfl, rfl, rfl⟩, fun z => absurd z (by omega), fun z => absurd z (by omega), fun z => absurd z (by omega), fun z => absurd z (by omega), fun z => absurd z (by omega), fun z => absurd z (by omega), fun z => absurd z (by omega), fun z => absurd z (by omega), fun z => absurd z (by omega), fun z => absurd z (by omega), fun z => absurd z (by omega), fun z => absurd z (by omega), fun z => absurd z (by omega), fun z => absurd z (by omega), fun z => absurd z (by omega), fun z => absurd z (by omega), fun z => absurd z (by omega), fun z => absurd z (by omega)⟩
  by_cases g9 : b p = 19 ∨ b p = 41
  · exact ⟨1 ≤ t ∧ w (T 15 m + t - 1) = 0, t - 1, w, fun z => absurd z (by omega), fun z => absurd z (by omega), fun z => absurd z (by omega), fun z => absurd z (by omega), fun z => absurd z (by omega), fun z => absurd z (by omega), fun z => absurd z (by omega), fun z => absurd z (by omega), fun z => absurd z (by omega), fun _ => ⟨Iff.rfl, rfl, rfl⟩, fun z => absurd z (by omega), fun z => absurd z (by omega), fun z => absurd z (by omega), fun z => absurd z (by omega), fun z => absurd z (by omega), fun z => absurd z (by omega), fun z => absurd z (by omega), fun z => absurd z (by omega), fun z => absurd z (by omega), fun z => absurd z (by omega), fun z => absurd z (by omega), fun z => absurd z (by omega), fun z => absurd z (by omega), fun z => absurd z (by omega), fun z => absurd z (by omega), fun z => absurd z (by omega), fun z => absurd z (by omega)⟩
  by_cases g10 : b p = 20
  · exact ⟨2 ≤ t ∧ w (T 15 m + t - 1) = 0 ∧ w (T 15 m + t - 2) = 0, t - 2, w, fun z => absurd z (by omega), fun z => absurd z (by omega), fun z => absurd z (by omega), fun z => absurd z (by omega), fun z => absurd z (by omega), fun z => absurd z (by omega), fun z => absurd z (by omega), fun z => absurd z (by omega), fun z => absurd z (by omega), fun z => absurd z (by omega), fun _ => ⟨Iff.rfl, rfl, rfl⟩, fun z => absurd z (by omega), fun z => absurd z (by omega), fun z => absurd z (by omega), fun z => absurd z (by omega), fun z => absurd z (by omega), fun z => absurd z (by omega), fun z => absurd z (by omega), fun z => absurd z (by omega), fun z => absurd z (by omega), fun z => absurd z (by omega), fun z => absurd z (by omega), fun z => absurd z (by omega), fun z => absurd z (by omega), fun z => absurd z (by omega), fun z => absurd z (by omega), fun z => absurd z (by omega)⟩
  by_cases g11 : b p = 21 ∨ b p = 22
  · exact ⟨1 ≤ t ∧ w (T 15 m + t - 1) ≠ 0, t - 1, w, fun z => absurd z (by omega), fun z => absurd z (by omega), fun z => absurd z (by omega), fun z => absurd z (by omega), fun z => absurd z (by omega), fun z => absurd z (by omega), fun z => absurd z (by omega), fun z => absurd z (by omega), fun z => absurd z (by omega), fun z => absurd z (by omega), fun z => absurd z (by omega), fun _ => ⟨Iff.rfl, rfl, rfl⟩, fun z => absurd z (by omega), fun z => absurd z (by omega), fun z => absurd z (by omega), fun z => absurd z (by omega), fun z => absurd z (by omega), fun z => absurd z (by omega), fun z => absurd z (by omega), fun z => absurd z (by omega), fun z => absurd z (by omega), fun z => absurd z (by omega), fun z => absurd z (by omega), fun z => absurd z (by omega), fun z => absurd z (by omega), fun z => absurd z (by omega), fun z => absurd z (by omega)⟩
  by_cases g12 : b p = 23 ∨ b p = 24
  · exact ⟨2 ≤ t ∧ w (T 15 m + t - 1) ≠ 0 ∧ w (T 15 m + t - 2) ≠ 0, t - 2, w, fun z => absurd z (by omega), fun z => absurd z (by omega), fun z => absurd z (by omega), fun z => absurd z (by omega), fun z => absurd z (by omega), fun z => absurd z (by omega), fun z => absurd z (by omega), fun z => absurd z (by omega), fun z => absurd z (by omega), fun z => absurd z (by omega), fun z => absurd z (by omega), fun z => absurd z (by omega), fun _ => ⟨Iff.rfl, rfl, rfl⟩, fun z => absurd z (by omega), fun z => absurd z (by omega), fun z => absurd z (by omega), fun z => absurd z (by omega), fun z => absurd z (by omega), fun z => absurd z (by omega), fun z => absurd z (by omega), fun z => absurd z (by omega), fun z => absurd z (by omega), fun z => absurd z (by omega), fun z => absurd z (by omega), fun z => absurd z (by omega), fun z => absurd z (by omega), fun z => absurd z (by omega)⟩
  by_cases g13 : b p = 25
  · exact ⟨True, t, w, fun z => absurd z (by omega), fun z => absurd z (by omega), fun z => absurd z (by omega), fun z => absurd z (by omega), fun z => absurd z (by omega), fun z => absurd z (by omega), fun z => absurd z (by omega), fun z => absurd z (by omega), fun z => absurd z (by omega), fun z => absurd z (by omega), fun z => absurd z (by omega), fun z => absurd z (by omega), fun z => absurd z (by omega), fun _ => ⟨Iff.rfl, rfl, rfl⟩, fun z => absurd z (by omega), fun z => absurd z (by omega), fun z => absurd z (by omega), fun z => absurd z (by omega), fun z => absurd z (by omega), fun z => absurd z (by omega), fun z => absurd z (by omega), fun z => absurd z (by omega), fun z => absurd z (by omega), fun z => absurd z (by omega), fun z => absurd z (by omega), fun z => absurd z (by omega), fun z => absurd z (by omega)⟩
  by_cases g14 : b p = 26
  · exact ⟨t < T 16 m, t + 1, va_up w (T 15 m + t) (b (p + 1) + 1), fun z => absurd z (by omega), fun z => absurd z (by omega), fun z => absurd z (by omega), fun z => absurd z (by omega), fun z => absurd z (by omega), fun z => absurd z (by omega), fun z => absurd z (by omega), fun z => absurd z (by omega), fun z => absurd z (by omega), fun z => absurd z (by omega), fun z => absurd z (by omega), fun z => absurd z (by omega), fun z => absurd z (by omega), fun z => absurd z (by omega), fun _ => ⟨Iff.rfl, rfl, rfl⟩, fun z => absurd z (by omega), fun z => absurd z (by omega), fun z => absurd z (by omega), fun z => absurd z (by omega), fun z => absurd z (by omega), fun z => absurd z (by omega), fun z => absurd z (by omega), fun z => absurd z (by omega), fun z => absurd z (by omega), fun z => absurd z (by omega), fun z => absurd z (by omega), fun z => absurd z (by omega)⟩
  by_cases g15 : b p = 27
  · exact ⟨1 ≤ t ∧ goesT T (w (T 15 m + t - 1)) (b (p + 1) + 1), t, va_up w (T 15 m + t - 1) (T 7 (15 * b (p + 1) + b (p + 2))), fun z => absurd z (by omega), fun z => absurd z (by omega), fun z => absurd z (by omega), fun z => absurd z (by omega), fun z => absurd z (by omega), fun z => absurd z (by omega), fun z => absurd z (by omega), fun z => absurd z (by omega), fun z => absurd z (by omega), fun z => absurd z (by omega), fun z => absurd z (by omega), fun z => absurd z (by omega), fun z => absurd z (by omega), fun z => absurd z (by omega), fun z => absurd z (by omega), fun _ => ⟨Iff.rfl, rfl, rfl⟩, fun z => absurd z (by omega), fun z => absurd z (by omega), fun z => absurd z (by omega), fun z => absurd z (by omega), fun z => absurd z (by omega), fun z => absurd z (by omega), fun z => absurd z (by omega), fun z => absurd z (by omega), fun z => absurd z (by omega), fun z => absurd z (by omega), fun z => absurd z (by omega)⟩
  by_cases g16 : b p = 28
  · exact ⟨2 ≤ t ∧ goesT T (w (T 15 m + t - 1)) (T 7 (15 * b (p + 1) + b (p + 2))) ∧ goesT T (w (T 15 m + t - 2)) (b (p + 1) + 1), t - 2, w, fun z => absurd z (by omega), fun z => absurd z (by omega), fun z => absurd z (by omega), fun z => absurd z (by omega), fun z => absurd z (by omega), fun z => absurd z (by omega), fun z => absurd z (by omega), fun z => absurd z (by omega), fun z => absurd z (by omega), fun z => absurd z (by omega), fun z => absurd z (by omega), fun z => absurd z (by omega), fun z => absurd z (by omega), fun z => absurd z (by omega), fun z => absurd z (by omega), fun z => absurd z (by omega), fun _ => ⟨Iff.rfl, rfl, rfl⟩, fun z => absurd z (by omega), fun z => absurd z (by omega), fun z => absurd z (by omega), fun z => absurd z (by omega), fun z => absurd z (by omega), fun z => absurd z (by omega), fun z => absurd z (by omega), fun z => absurd z (by omega), fun z => absurd z (by omega), fun z => absurd z (by omega)⟩
  by_cases g17 : b p = 29
  · exact ⟨1 ≤ t ∧ w (T 15 m + t - 1) ≠ 0, t, va_up w (T 15 m + t - 1) 0, fun z => absurd z (by omega), fun z => absurd z (by omega), fun z => absurd z (by omega), fun z => absurd z (by omega), fun z => absurd z (by omega), fun z => absurd z (by omega), fun z => absurd z (by omega), fun z => absurd z (by omega), fun z => absurd z (by omega), fun z => absurd z (by omega), fun z => absurd z (by omega), fun z => absurd z (by omega), fun z => absurd z (by omega), fun z => absurd z (by omega), fun z => absurd z (by omega), fun z => absurd z (by omega), fun z => absurd z (by omega), fun _ => ⟨Iff.rfl, rfl, rfl⟩, fun z => absurd z (by omega), fun z => absurd z (by omega), fun z => absurd z (by omega), fun z => absurd z (by omega), fun z => absurd z (by omega), fun z => absurd z (by omega), fun z => absurd z (by omega), fun z => absurd z (by omega), fun z => absurd z (by omega)⟩
  by_cases g18 : b p = 30
  · exact ⟨1 ≤ t ∧ w (T 15 m + t - 1) ≠ 0, t, va_up w (T 15 m + t - 1) (b (p + 1) + 1), fun z => absurd z (by omega), fun z => absurd z (by omega), fun z => absurd z (by omega), fun z => absurd z (by omega), fun z => absurd z (by omega), fun z => absurd z (by omega), fun z => absurd z (by omega), fun z => absurd z (by omega), fun z => absurd z (by omega), fun z => absurd z (by omega), fun z => absurd z (by omega), fun z => absurd z (by omega), fun z => absurd z (by omega), fun z => absurd z (by omega), fun z => absurd z (by omega), fun z => absurd z (by omega), fun z => absurd z (by omega), fun z => absurd z (by omega), fun _ => ⟨Iff.rfl, rfl, rfl⟩, fun z => absurd z (by omega), fun z => absurd z (by omega), fun z => absurd z (by omega), fun z => absurd z (by omega), fun z => absurd z (by omega), fun z => absurd z (by omega), fun z => absurd z (by omega), fun z => absurd z (by omega)⟩
  by_cases g19 : b p = 31
  · exact ⟨1 ≤ t ∧ w (T 15 m + t - 1) = 0, t, va_up w (T 15 m + t - 1) (64 + b (p + 1)), fun z => absurd z (by omega), fun z => absurd z (by omega), fun z => absurd z (by omega), fun z => absurd z (by omega), fun z => absurd z (by omega), fun z => absurd z (by omega), fun z => absurd z (by omega), fun z => absurd z (by omega), fun z => absurd z (by omega), fun z => absurd z (by omega), fun z => absurd z (by omega), fun z => absurd z (by omega), fun z => absurd z (by omega), fun z => absurd z (by omega), fun z => absurd z (by omega), fun z => absurd z (by omega), fun z => absurd z (by omega), fun z => absurd z (by omega), fun z => absurd z (by omega), fun _ => ⟨Iff.rfl, rfl, rfl⟩, fun z => absurd z (by omega), fun z => absurd z (by omega), fun z => absurd z (by omega), fun z => absurd z (by omega), fun z => absurd z (by omega), fun z => absurd z (by omega), fun z => absurd z (by omega)⟩
  by_cases g20 : b p = 32
  · exact ⟨1 ≤ t ∧ 64 ≤ w (T 15 m + t - 1) ∧ w (T 15 m + t - 1) ≤ 97, t, va_up w (T 15 m + t - 1) 0, fun z => absurd z (by omega), fun z => absurd z (by omega), fun z => absurd z (by omega), fun z => absurd z (by omega), fun z => absurd z (by omega), fun z => absurd z (by omega), fun z => absurd z (by omega), fun z => absurd z (by omega), fun z => absurd z (by omega), fun z => absurd z (by omega), fun z => absurd z (by omega), fun z => absurd z (by omega), fun z => absurd z (by omega), fun z => absurd z (by omega), fun z => absurd z (by omega), fun z => absurd z (by omega), fun z => absurd z (by omega), fun z => absurd z (by omega), fun z => absurd z (by omega), fun z => absurd z (by omega), fun _ => ⟨Iff.rfl, rfl, rfl⟩, fun z => absurd z (by omega), fun z => absurd z (by omega), fun z => absurd z (by omega), fun z => absurd z (by omega), fun z => absurd z (by omega), fun z => absurd z (by omega)⟩
  by_cases g21 : b p = 33
  · exact ⟨2 ≤ t ∧ w (T 15 m + t - 1) = 0 ∧ 64 ≤ w (T 15 m + t - 2) ∧ w (T 15 m + t - 2) ≤ 97, t - 1, va_up w (T 15 m + t - 2) (if w (T 15 m + t - 2) = 97 then 97 else w (T 15 m + t - 2) - 64), fun z => absurd z (by omega), fun z => absurd z (by omega), fun z => absurd z (by omega), fun z => absurd z (by omega), fun z => absurd z (by omega), fun z => absurd z (by omega), fun z => absurd z (by omega), fun z => absurd z (by omega), fun z => absurd z (by omega), fun z => absurd z (by omega), fun z => absurd z (by omega), fun z => absurd z (by omega), fun z => absurd z (by omega), fun z => absurd z (by omega), fun z => absurd z (by omega), fun z => absurd z (by omega), fun z => absurd z (by omega), fun z => absurd z (by omega), fun z => absurd z (by omega), fun z => absurd z (by omega), fun z => absurd z (by omega), fun _ => ⟨Iff.rfl, rfl, rfl⟩, fun z => absurd z (by omega), fun z => absurd z (by omega), fun z => absurd z (by omega), fun z => absurd z (by omega), fun z => absurd z (by omega)⟩
  by_cases g22 : b p = 34
  · exact ⟨3 ≤ t ∧ w (T 15 m + t - 2) = 0 ∧ (64 ≤ w (T 15 m + t - 3) ∧ w (T 15 m + t - 3) ≤ 97) ∧ (w (T 15 m + t - 3) = 97 ∨ goesT T (w (T 15 m + t - 1)) (w (T 15 m + t - 3) - 64)), t - 3, w, fun z => absurd z (by omega), fun z => absurd z (by omega), fun z => absurd z (by omega), fun z => absurd z (by omega), fun z => absurd z (by omega), fun z => absurd z (by omega), fun z => absurd z (by omega), fun z => absurd z (by omega), fun z => absurd z (by omega), fun z => absurd z (by omega), fun z => absurd z (by omega), fun z => absurd z (by omega), fun z => absurd z (by omega), fun z => absurd z (by omega), fun z => absurd z (by omega), fun z => absurd z (by omega), fun z => absurd z (by omega), fun z => absurd z (by omega), fun z => absurd z (by omega), fun z => absurd z (by omega), fun z => absurd z (by omega), fun z => absurd z (by omega), fun _ => ⟨Iff.rfl, rfl, rfl⟩, fun z => absurd z (by omega), fun z => absurd z (by omega), fun z => absurd z (by omega), fun z => absurd z (by omega)⟩
  by_cases g23 : b p = 35 ∨ b p = 36
  · exact ⟨(T 12 (cmt T b p) ≤ t ∧ ∀ k, k < T 12 (cmt T b p) → goesT T (w (T 15 m + t - T 12 (cmt T b p) + k)) (cty T b p k)) ∧ (T 14 (cmt T b p) ≠ 255 → t - T 12 (cmt T b p) < T 16 m), t - T 12 (cmt T b p) + (if T 14 (cmt T b p) = 255 then 0 else 1), if T 14 (cmt T b p) = 255 then w else va_up w (T 15 m + (t - T 12 (cmt T b p))) (T 14 (cmt T b p)), fun z => absurd z (by omega), fun z => absurd z (by omega), fun z => absurd z (by omega), fun z => absurd z (by omega), fun z => absurd z (by omega), fun z => absurd z (by omega), fun z => absurd z (by omega), fun z => absurd z (by omega), fun z => absurd z (by omega), fun z => absurd z (by omega), fun z => absurd z (by omega), fun z => absurd z (by omega), fun z => absurd z (by omega), fun z => absurd z (by omega), fun z => absurd z (by omega), fun z => absurd z (by omega), fun z => absurd z (by omega), fun z => absurd z (by omega), fun z => absurd z (by omega), fun z => absurd z (by omega), fun z => absurd z (by omega), fun z => absurd z (by omega), fun z => absurd z (by omega), fun _ => ⟨Iff.rfl, rfl, rfl⟩, fun z => absurd z (by omega), fun z => absurd z (by omega), fun z => absurd z (by omega)⟩
  by_cases g24 : b p = 37
  · exact ⟨T 14 m = 255, t, w, fun z => absurd z (by omega), fun z => absurd z (by omega), fun z => absurd z (by omega), fun z => absurd z (by omega), fun z => absurd z (by omega), fun z => absurd z (by omega), fun z => absurd z (by omega), fun z => absurd z (by omega), fun z => absurd z (by omega), fun z => absurd z (by omega), fun z => absurd z (by omega), fun z => absurd z (by omega), fun z => absurd z (by omega), fun z => absurd z (by omega), fun z => absurd z (by omega), fun z => absurd z (by omega), fun z => absurd z (by omega), fun z => absurd z (by omega), fun z => absurd z (by omega), fun z => absurd z (by omega), fun z => absurd z (by omega), fun z => absurd z (by omega), fun z => absurd z (by omega), fun z => absurd z (by omega), fun _ => ⟨Iff.rfl, rfl, rfl⟩, fun z => absurd z (by omega), fun z => absurd z (by omega)⟩
  by_cases g25 : b p = 38
  · exact ⟨T 14 m ≠ 255 ∧ 1 ≤ t ∧ goesT T (w (T 15 m + t - 1)) (T 14 m), t - 1, w, fun z => absurd z (by omega), fun z => absurd z (by omega), fun z => absurd z (by omega), fun z => absurd z (by omega), fun z => absurd z (by omega), fun z => absurd z (by omega), fun z => absurd z (by omega), fun z => absurd z (by omega), fun z => absurd z (by omega), fun z => absurd z (by omega), fun z => absurd z (by omega), fun z => absurd z (by omega), fun z => absurd z (by omega), fun z => absurd z (by omega), fun z => absurd z (by omega), fun z => absurd z (by omega), fun z => absurd z (by omega), fun z => absurd z (by omega), fun z => absurd z (by omega), fun z => absurd z (by omega), fun z => absurd z (by omega), fun z => absurd z (by omega), fun z => absurd z (by omega), fun z => absurd z (by omega), fun z => absurd z (by omega), fun _ => ⟨Iff.rfl, rfl, rfl⟩, fun z => absurd z (by omega)⟩
  by_cases g26 : b p = 39
  · exact ⟨1 ≤ t ∧ ((1 ≤ w (T 15 m + t - 1) ∧ w (T 15 m + t - 1) ≤ 32) ∨ w (T 15 m + t - 1) = 97), t - 1, w, fun z => absurd z (by omega), fun z => absurd z (by omega), fun z => absurd z (by omega), fun z => absurd z (by omega), fun z => absurd z (by omega), fun z => absurd z (by omega), fun z => absurd z (by omega), fun z => absurd z (by omega), fun z => absurd z (by omega), fun z => absurd z (by omega), fun z => absurd z (by omega), fun z => absurd z (by omega), fun z => absurd z (by omega), fun z => absurd z (by omega), fun z => absurd z (by omega), fun z => absurd z (by omega), fun z => absurd z (by omega), fun z => absurd z (by omega), fun z => absurd z (by omega), fun z => absurd z (by omega), fun z => absurd z (by omega), fun z => absurd z (by omega), fun z => absurd z (by omega), fun z => absurd z (by omega), fun z => absurd z (by omega), fun z => absurd z (by omega), fun _ => ⟨Iff.rfl, rfl, rfl⟩⟩
  · omega
/-- nothing is wrong by what stands behind it -/
def lkd (T : Nat → Nat → Nat) (b : Nat → Nat) : Prop := ∀ w, ¬ bad T b w
theorem lkd.j {T : Nat → Nat → Nat} {b : Nat → Nat} {m p : Nat} (h : lkd T b) (hm : m < T 0 1) (hp : inC T m p) (h4 : T 4 p = 1) (hj : 19 ≤ b p ∧ b p ≤ 25) : bgt T m (pr b (jpl b p)) :=
  Classical.byContradiction (fun z => h (jpl b p) (Or.inr ⟨m, hm, Or.inl ⟨p, hp.1, hp.2, h4, Or.inr ⟨hj, z, rfl⟩⟩⟩))
theorem lkd.h {T : Nat → Nat → Nat} {b : Nat → Nat} {m i : Nat} (h : lkd T b) (hm : m < T 0 1) (hi : i < T 19 m) : bgt T m (pr b (T 20 m + 7 * i + 5)) :=
  Classical.byContradiction (fun z => h (T 20 m + 7 * i + 5) (Or.inr ⟨m, hm, Or.inr ⟨i, hi, Or.inr (Or.inr ⟨z, rfl⟩)⟩⟩))
theorem lkd.s {T : Nat → Nat → Nat} {b : Nat → Nat} {c s : Nat} (h : lkd T b) (hc : c < T 0 0) (hs : s < 16) (h9 : T 9 (16 * c + s) ≠ 0) : sfit T c s :=
  Classical.byContradiction (fun z => h (T 9 (16 * c + s) - 1) (Or.inl ⟨c, s, hc, hs, by omega, z⟩))
/-- the method of a slot has an owner -/
theorem slO {T : Nat → Nat → Nat} {b : Nat → Nat} {s : Nat} (hw : wf T b) (h : lkd T b) (hs : s < 16) : ∀ c, c < T 0 0 → T 8 (16 * c + s) ≠ 0 → T 8 (16 * c + s) - 1 < T 0 1 ∧ T 11 (T 8 (16 * c + s) - 1) ≠ 0 ∧ isA T c (T 11 (T 8 (16 * c + s) - 1) - 1) := by
  have w2 := hw.2.1
  have h5 := fun c (hc : c < T 0 0) => (hw.2.2.2.2.2.2.1 c hc).1
  intro c
  induction c using Nat.strongRecOn with
  | _ c ih =>
    intro hc h8
    obtain ⟨c1, c2, c3, c4, c5, c6⟩ := hw.2.2.2.2.2.2.1 c hc
    by_cases e : T 9 (16 * c + s) = 0
    · by_cases e5 : T 5 c = 0
      · exact absurd (c5 e5 s hs e) h8
      · have e8 := (c6 e5).2.2 s hs e
        rw [e8] at h8 ⊢
        obtain ⟨z1, z2, z3⟩ := ih (T 5 c - 1) (by omega) (by omega) h8
        exact ⟨z1, z2, (isA_u h5 w2 hc).mpr (Or.inr ⟨e5, z3⟩)⟩
    · obtain ⟨z1, z2, -⟩ := h.s hc hs e
      refine ⟨z1, by omega, ?_⟩
      rw [z2, Nat.add_sub_cancel]
      exact isA_r c
theorem lkd.c {T : Nat → Nat → Nat} {b : Nat → Nat} {m p : Nat} (hw : wf T b) (h : lkd T b) (hm : m < T 0 1) (hp : inC T m p) (h4 : T 4 p = 1) (ho : opT T b (T 15 m) p) (hop : b p = 35 ∨ b p = 36) : okc T b p := by
  rcases hop with e | e
  · have ec : cmt T b p = b (p + 1) := by unfold cmt; rw [if_pos e]
    refine ⟨?_, fun z => by omega⟩
    rw [ec]
    exact Classical.byContradiction (fun z => h (p + 1) (Or.inr ⟨m, hm, Or.inl ⟨p, hp.1, hp.2, h4, Or.inl ⟨e, by omega, rfl⟩⟩⟩))
  · have ec : cmt T b p = T 8 (16 * b (p + 1) + b (p + 2)) - 1 := by unfold cmt; rw [if_neg (by omega)]
    obtain ⟨q1, q2, q3⟩ := ho.2.2.2.2.2.2 e
    obtain ⟨z1, z2, -⟩ := slO hw h q2 _ q1 q3
    have := ((hw.2.2.2.2.2.2.2.2.1 _ z1).2.2.1 z2).1
    refine ⟨by rw [ec]; exact z1, fun _ => ⟨q1, q2, by rw [ec]; exact this, q3⟩⟩
theorem wf.op {T : Nat → Nat → Nat} {b : Nat → Nat} {m p : Nat} (hw : wf T b) (hm : m < T 0 1) (hp : inC T m p) (h4 : T 4 p = 1) : opT T b (T 15 m) p ∧ p + wd (b p) ≤ T 17 m + T 18 m ∧ (p + wd (b p) < T 17 m + T 18 m → T 4 (p + wd (b p)) = 1) := by
  rcases (hw.2.2.2.2.2.2.2.2.1 m hm).2.2.2.2.2.2.2.2.2.2.2.2.2.2 p hp.1 hp.2 with z | z
  · omega
  · exact z.2
