/-! ===== live blocks are no more than what was reached and what was made ===== -/
theorem lbs_u {hf B F S R : Nat} {C C0 : Nat → Int64} {s0 : List Nat} {ml : List (Nat × Nat)} {nb : List Nat} {z lv y : Nat → Nat} (g : GI hf B F S R C C0 s0 ml nb z lv y) {c s : Nat} (h : lbs s0 ml nb z y c s) (hs : 1 ≤ s) : (∀ q, q ∈ ml → q.2 = c → s = z q.1) ∧ (c ∈ nb → s = y c) ∧ (c ∈ s0 → ¬ mvd ml c → s = z c) := by
  have ob := g.ob
  have gR := (lan_in nb R g.2.2.1).1
  have gF := (lay_in ml F g.2.1).1
  have g4 := g.2.2.2.1
  have zz := fun a => (g.2.2.2.2.2.1 a).1
  have yy := fun a => (g.2.2.2.2.2.2.1 a).1
  rcases h with ⟨q, h1, h2, h3⟩ | ⟨h1, h2⟩ | ⟨h1, h2, h3⟩
  · have b1 := (lay_in ml F g.2.1).2 q h1
    have z1 := zz q.1
    refine ⟨fun q' k1 k2 => ?_, fun k => ?_, fun k _ => ?_⟩
    · by_cases e : q = q'
      · rw [← e]; exact h3.symm
      · have := lay_dj zz ml F g.2.1 q q' h1 k1 e
        have := zz q'.1
        omega
    · have := (lan_in nb R g.2.2.1).2 c k
      have := yy c
      omega
    · have := g.2.2.2.2.2.2.2.2.2.1 c k
      have := zz c
      omega
  · have b1 := (lan_in nb R g.2.2.1).2 c h1
    have z1 := yy c
    refine ⟨fun q' k1 k2 => ?_, fun k => h2.symm, fun k _ => ?_⟩
    · have := (lay_in ml F g.2.1).2 q' k1
      have := zz q'.1
      omega
    · have := g.2.2.2.2.2.2.2.2.2.1 c k
      have := zz c
      omega
  · have b1 := g.2.2.2.2.2.2.2.2.2.1 c h1
    have z1 := zz c
    refine ⟨fun q' k1 k2 => ?_, fun k => ?_, fun _ _ => h3.symm⟩
    · have := (lay_in ml F g.2.1).2 q' k1
      have := zz q'.1
      omega
    · have := (lan_in nb R g.2.2.1).2 c k
      have := yy c
      omega
theorem sumP_le {f z : Nat → Nat} : ∀ (l : List (Nat × Nat)), (∀ q, q ∈ l → f q.2 ≤ z q.1) → sumL f (l.map Prod.snd) ≤ sumL z (l.map Prod.fst) := by
  intro l
  induction l with
  | nil => intro _; exact Nat.le_refl _
  | cons p r ih =>
    intro h
    have h1 := h p List.mem_cons_self
    have h2 := ih (fun q hq => h q (List.mem_cons_of_mem _ hq))
    show f p.2 + sumL f (r.map Prod.snd) ≤ z p.1 + sumL z (r.map Prod.fst)
    omega
theorem blk_sum {hf B F S R : Nat} {C C0 : Nat → Int64} {s0 : List Nat} {ml : List (Nat × Nat)} {nb : List Nat} {z lv y : Nat → Nat} (g : GI hf B F S R C C0 s0 ml nb z lv y) {f : Nat → Nat} {ads : List Nat} (hn : ads.Nodup) (h : ∀ a, a ∈ ads → lbs s0 ml nb z y a (f a) ∧ 1 ≤ f a) : sumL f ads ≤ sumL z s0 + (B + hf - R) := by
  have g8 := g.2.2.2.2.2.2.2.2.1
  have g11 := g.2.2.2.2.2.2.2.2.2.2.2.1
  have g12 := g.2.2.2.2.2.2.2.2.2.2.2.2.1
  obtain ⟨un, hun⟩ : ∃ un : List Nat, un = s0.filter (fun a => decide (a ∉ ml.map Prod.fst)) := ⟨_, rfl⟩
  have mem_un : ∀ a, a ∈ un ↔ a ∈ s0 ∧ a ∉ ml.map Prod.fst := fun a => by
    rw [hun, List.mem_filter]
    exact ⟨fun q => ⟨q.1, of_decide_eq_true q.2⟩, fun q => ⟨q.1, decide_eq_true q.2⟩⟩
  obtain ⟨k, hk⟩ : ∃ k : Nat → Nat, k = fun a => if a ∈ ads then f a else 0 := ⟨_, rfl⟩
  have k0 : ∀ a, a ∉ ads → k a = 0 := fun a ha => by rw [hk]; exact if_neg ha
  have k1 : ∀ a, a ∈ ads → k a = f a := fun a ha => by rw [hk]; exact if_pos ha
  have nmv : ∀ a, a ∉ ml.map Prod.fst → ¬ mvd ml a := fun a ha q => ha (mvd_of q)
  have e1 : sumL f ads = sumL k ads := sumL_c ads (fun a ha => (k1 a ha).symm)
  have e2 := sumL_sub (f := k) ads (ml.map Prod.snd ++ (un ++ nb)) hn (fun a ha => by
    rcases (h a ha).1 with ⟨q, h1, h2, h3⟩ | ⟨h1, h2⟩ | ⟨h1, h2, h3⟩
    · exact List.mem_append.mpr (Or.inl (List.mem_map.mpr ⟨q, h1, h2⟩))
    · exact List.mem_append.mpr (Or.inr (List.mem_append.mpr (Or.inr h1)))
    · refine List.mem_append.mpr (Or.inr (List.mem_append.mpr (Or.inl ((mem_un a).mpr ⟨h1, fun q => h2 ?_⟩))))
      obtain ⟨p, p1, p2⟩ := List.mem_map.mp q
      exact ⟨p.2, by rw [← p2]; exact p1⟩)
  rw [sumL_app, sumL_app] at e2
  have e3 := sumP_le (f := k) (z := z) ml (fun q hq => by
    by_cases c : q.2 ∈ ads
    · rw [k1 _ c, (lbs_u g (h _ c).1 (h _ c).2).1 q hq rfl]
      exact Nat.le_refl _
    · rw [k0 _ c]; exact Nat.zero_le _)
  have e4 : sumL k un ≤ sumL z un := sumL_le un (fun a ha => by
    by_cases c : a ∈ ads
    · have ha := (mem_un a).mp ha
      rw [k1 _ c, (lbs_u g (h _ c).1 (h _ c).2).2.2 ha.1 (nmv a ha.2)]
      exact Nat.le_refl _
    · rw [k0 _ c]; exact Nat.zero_le _)
  have e5 : sumL k nb ≤ sumL y nb := sumL_le nb (fun a ha => by
    by_cases c : a ∈ ads
    · rw [k1 _ c, (lbs_u g (h _ c).1 (h _ c).2).2.1 ha]
      exact Nat.le_refl _
    · rw [k0 _ c]; exact Nat.zero_le _)
  have e6 := sumL_sub (f := z) (ml.map Prod.fst ++ un) s0 (nd_app g11 (by rw [hun]; exact g8.filter _) (fun x hx q => ((mem_un x).mp q).2 hx)) (fun a ha => by
    rcases List.mem_append.mp ha with q | q
    · obtain ⟨p, p1, p2⟩ := List.mem_map.mp q
      rw [← p2]; exact g12 p p1
    · exact ((mem_un a).mp q).1)
  rw [sumL_app] at e6
  have e7 := lan_s nb R g.2.2.1
  omega
