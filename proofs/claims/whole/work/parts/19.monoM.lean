theorem mo_X11_feed_72 {L19 L19' : sm_S → Int32 → Int32 → Int32 → Int32 → Int32 → Int32 → Prop} (hL19 : ∀ z0 z1 z2 z3 z4 z5 z6, L19 z0 z1 z2 z3 z4 z5 z6 → L19' z0 z1 z2 z3 z4 z5 z6) {K K' : Int32 → sm_S → Prop} (hK : ∀ r s, K r s → K' r s) {σ : sm_S} {x1 : Int32} {x2 : Int32} {x3 : Int32} {x4 : Int32} {x5 : Int32} {x6 : Int32} {y0 : Int32} (h : mp_X11_feed_72 L19 K σ x1 x2 x3 x4 x5 x6 y0) : mp_X11_feed_72 L19' K' σ x1 x2 x3 x4 x5 x6 y0 := by
  unfold mp_X11_feed_72 at h ⊢
  exact ⟨h.1, fun σ2 e4 => fun σ3 e6 => fun v4 e8 => hL19 _ _ _ _ _ _ _ (((h.2 σ2 e4) σ3 e6) v4 e8)⟩
theorem mo_X11_feed_19 {K K' : Int32 → sm_S → Prop} (hK : ∀ r s, K r s → K' r s) {n19 : Nat} {σ : sm_S} {x1 : Int32} {x2 : Int32} {x3 : Int32} {x4 : Int32} {x5 : Int32} {x6 : Int32} (h : mp_X11_feed_19 K n19 σ x1 x2 x3 x4 x5 x6) : mp_X11_feed_19 K' n19 σ x1 x2 x3 x4 x5 x6 := by
  suffices g : ∀ (σ : sm_S) (x1 : Int32) (x2 : Int32) (x3 : Int32) (x4 : Int32) (x5 : Int32) (x6 : Int32), mp_X11_feed_19 K n19 σ x1 x2 x3 x4 x5 x6 → mp_X11_feed_19 K' n19 σ x1 x2 x3 x4 x5 x6 from g _ _ _ _ _ _ _ h
  clear h
  induction n19 with
  | zero => exact fun _ _ _ _ _ _ _ h => h.elim
  | succ n19 ih19 =>
    intro σ x1 x2 x3 x4 x5 x6 h
    unfold mp_X11_feed_19 at h ⊢
    exact ⟨fun h1 => hK _ _ (h.1 h1), fun h2 => ⟨fun h3 => ⟨fun h4 => ⟨fun h5 => ⟨fun h6 => mo_X11_feed_72 ih19 hK (((((h.2 h2).1 h3).1 h4).1 h5).1 h6), fun h7 => mo_X11_feed_72 ih19 hK (((((h.2 h2).1 h3).1 h4).1 h5).2 h7)⟩, fun h8 => mo_X11_feed_72 ih19 hK ((((h.2 h2).1 h3).1 h4).2 h8)⟩, fun h9 => mo_X11_feed_72 ih19 hK (((h.2 h2).1 h3).2 h9)⟩, fun h10 => mo_X11_feed_72 ih19 hK ((h.2 h2).2 h10)⟩⟩
theorem mo_X11_feed {σ : sm_S} {p1 : Int32} {p2 : Int32} {p3 : Int32} {p4 : Int32} {p5 : Int32} {K K' : Int32 → sm_S → Prop} (hK : ∀ r s, K r s → K' r s) (h : mp_X11_feed σ p1 p2 p3 p4 p5 K) : mp_X11_feed σ p1 p2 p3 p4 p5 K' := by
  unfold mp_X11_feed at h ⊢
  exact ⟨fun h1 => (h.1 h1).elim (fun n19 h2 => ⟨n19, mo_X11_feed_19 hK h2⟩), fun h3 => hK _ _ (h.2 h3)⟩
theorem mo_X11_bad_16 {K K' : Int32 → sm_S → Prop} (hK : ∀ r s, K r s → K' r s) {σ : sm_S} {y1 : Int32} (h : mp_X11_bad_16 K σ y1) : mp_X11_bad_16 K' σ y1 := by
  unfold mp_X11_bad_16 at h ⊢
  exact fun σ1 e2 => hK _ _ (h σ1 e2)
theorem mo_X11_bad {σ : sm_S} {p1 : Int32} {K K' : Int32 → sm_S → Prop} (hK : ∀ r s, K r s → K' r s) (h : mp_X11_bad σ p1 K) : mp_X11_bad σ p1 K' := by
  unfold mp_X11_bad at h ⊢
  exact ⟨fun h1 => mo_X11_bad_16 hK (h.1 h1), fun h2 => mo_X11_bad_16 hK (h.2 h2)⟩
theorem mo_X11_here_26 {K K' : Int32 → sm_S → Prop} (hK : ∀ r s, K r s → K' r s) {σ : sm_S} {y0 : Int32} (h : mp_X11_here_26 K σ y0) : mp_X11_here_26 K' σ y0 := by
  unfold mp_X11_here_26 at h ⊢
  exact hK _ _ h
theorem mo_X11_here {σ : sm_S}  {K K' : Int32 → sm_S → Prop} (hK : ∀ r s, K r s → K' r s) (h : mp_X11_here σ  K) : mp_X11_here σ  K' := by
  unfold mp_X11_here at h ⊢
  exact ⟨fun h1 => mo_X11_here_26 hK (h.1 h1), fun h2 => ⟨(h.2 h2).1, mo_X11_here_26 hK (h.2 h2).2⟩⟩
theorem mo_X11_over_26 {K K' : Int32 → sm_S → Prop} (hK : ∀ r s, K r s → K' r s) {σ : sm_S} (h : mp_X11_over_26 K σ) : mp_X11_over_26 K' σ := by
  unfold mp_X11_over_26 at h ⊢
  exact mo_X11_bad (fun r2 σ1 h1 => ⟨h1.1, hK _ _ h1.2⟩) h
theorem mo_X11_over {σ : sm_S} {p1 : Int32} {p2 : Int32} {K K' : Int32 → sm_S → Prop} (hK : ∀ r s, K r s → K' r s) (h : mp_X11_over σ p1 p2 K) : mp_X11_over σ p1 p2 K' := by
  unfold mp_X11_over at h ⊢
  exact mo_X11_here (fun r5 σ4 h1 => ⟨fun h2 => mo_X11_over_26 hK (h1.1 h2), fun h3 => mo_X11_here (fun r8 σ7 h4 => ⟨fun h5 => mo_X11_over_26 hK (h4.1 h5), fun h6 => mo_X11_here (fun r11 σ10 h7 => ⟨fun h8 => fun σ13 e10 => hK _ _ ((h7.1 h8) σ13 e10), fun h11 => mo_X11_over_26 hK (h7.2 h11)⟩) (h4.2 h6)⟩) (h1.2 h3)⟩) h
theorem mo_X11_last {σ : sm_S}  {K K' : Int32 → sm_S → Prop} (hK : ∀ r s, K r s → K' r s) (h : mp_X11_last σ  K) : mp_X11_last σ  K' := by
  unfold mp_X11_last at h ⊢
  exact ⟨h.1, hK _ _ h.2⟩
theorem mo_X11_two {σ : sm_S} {p1 : Int32} {K K' : Int32 → sm_S → Prop} (hK : ∀ r s, K r s → K' r s) (h : mp_X11_two σ p1 K) : mp_X11_two σ p1 K' := by
  unfold mp_X11_two at h ⊢
  exact ⟨h.1, ⟨h.2.1, hK _ _ h.2.2⟩⟩
theorem mo_X11_overClass {σ : sm_S}  {K K' : Int32 → sm_S → Prop} (hK : ∀ r s, K r s → K' r s) (h : mp_X11_overClass σ  K) : mp_X11_overClass σ  K' := by
  unfold mp_X11_overClass at h ⊢
  exact mo_X11_over (fun r2 σ1 h1 => ⟨h1.1, hK _ _ h1.2⟩) h
theorem mo_X11_overType_46 {K K' : Int32 → sm_S → Prop} (hK : ∀ r s, K r s → K' r s) {σ : sm_S} {y0 : Int32} (h : mp_X11_overType_46 K σ y0) : mp_X11_overType_46 K' σ y0 := by
  unfold mp_X11_overType_46 at h ⊢
  exact ⟨fun h1 => fun σ2 e3 => hK _ _ ((h.1 h1) σ2 e3), fun h4 => mo_X11_bad (fun r4 σ3 h5 => ⟨h5.1, hK _ _ h5.2⟩) (h.2 h4)⟩
theorem mo_X11_overType_45 {K K' : Int32 → sm_S → Prop} (hK : ∀ r s, K r s → K' r s) {σ : sm_S} (h : mp_X11_overType_45 K σ) : mp_X11_overType_45 K' σ := by
  unfold mp_X11_overType_45 at h ⊢
  exact mo_X11_overType_46 hK h
theorem mo_X11_overType_41 {K K' : Int32 → sm_S → Prop} (hK : ∀ r s, K r s → K' r s) {σ : sm_S} (h : mp_X11_overType_41 K σ) : mp_X11_overType_41 K' σ := by
  unfold mp_X11_overType_41 at h ⊢
  exact mo_X11_overType_46 hK h
theorem mo_X11_overType_30 {K K' : Int32 → sm_S → Prop} (hK : ∀ r s, K r s → K' r s) {σ : sm_S} {x1 : Int32} {x2 : Int32} (h : mp_X11_overType_30 K σ x1 x2) : mp_X11_overType_30 K' σ x1 x2 := by
  unfold mp_X11_overType_30 at h ⊢
  exact ⟨fun h1 => mo_X11_overType_45 hK (h.1 h1), fun h2 => ⟨fun h3 => mo_X11_overType_45 hK ((h.2 h2).1 h3), fun h4 => mo_X11_overType_41 hK ((h.2 h2).2 h4)⟩⟩
theorem mo_X11_overType {σ : sm_S} {p1 : Int32} {K K' : Int32 → sm_S → Prop} (hK : ∀ r s, K r s → K' r s) (h : mp_X11_overType σ p1 K) : mp_X11_overType σ p1 K' := by
  unfold mp_X11_overType at h ⊢
  exact mo_X11_here (fun r9 σ8 h1 => ⟨fun h2 => mo_X11_overType_41 hK (h1.1 h2), fun h3 => ⟨fun h4 => mo_X11_overType_30 hK ((h1.2 h3).1 h4), fun h5 => ⟨fun h6 => mo_X11_overType_41 hK (((h1.2 h3).2 h5).1 h6), fun h7 => mo_X11_overType_30 hK (((h1.2 h3).2 h5).2 h7)⟩⟩⟩) h
theorem mo_X11_readClass_279 {K K' : Int32 → sm_S → Prop} (hK : ∀ r s, K r s → K' r s) {n279 : Nat} {σ : sm_S} {x1 : Int32} {x4 : Int32} {x5 : Int32} {x6 : Int32} (h : mp_X11_readClass_279 K n279 σ x1 x4 x5 x6) : mp_X11_readClass_279 K' n279 σ x1 x4 x5 x6 := by
  suffices g : ∀ (σ : sm_S) (x1 : Int32) (x4 : Int32) (x5 : Int32) (x6 : Int32), mp_X11_readClass_279 K n279 σ x1 x4 x5 x6 → mp_X11_readClass_279 K' n279 σ x1 x4 x5 x6 from g _ _ _ _ _ h
  clear h
  induction n279 with
  | zero => exact fun _ _ _ _ _ h => h.elim
  | succ n279 ih279 =>
    intro σ x1 x4 x5 x6 h
    unfold mp_X11_readClass_279 at h ⊢
    exact ⟨fun h1 => hK _ _ (h.1 h1), fun h2 => mo_X11_over (fun r3 σ2 h3 => ⟨fun h4 => mo_X11_last (fun r6 σ5 h5 => fun v7 e7 => mo_X11_over (fun r9 σ8 h8 => ⟨fun h9 => mo_X11_last (fun r12 σ11 h10 => ⟨h10.1, fun σ14 e14 => ⟨(h10.2 σ14 e14).1, fun σ16 e18 => fun v17 e20 => ih279 _ _ _ _ _ (((h10.2 σ14 e14).2 σ16 e18) v17 e20)⟩⟩) (h8.1 h9), fun h21 => hK _ _ (h8.2 h21)⟩) (h5 v7 e7)) (h3.1 h4), fun h22 => hK _ _ (h3.2 h22)⟩) (h.2 h2)⟩
theorem mo_X11_readClass_235 {L197 L197' : sm_S → Int32 → Int32 → Int32 → Prop} (hL197 : ∀ z0 z1 z2 z3, L197 z0 z1 z2 z3 → L197' z0 z1 z2 z3) {K K' : Int32 → sm_S → Prop} (hK : ∀ r s, K r s → K' r s) {σ : sm_S} {x1 : Int32} {x2 : Int32} {x4 : Int32} {y1 : Int32} {y2 : Int32} (h : mp_X11_readClass_235 L197 K σ x1 x2 x4 y1 y2) : mp_X11_readClass_235 L197' K' σ x1 x2 x4 y1 y2 := by
  unfold mp_X11_readClass_235 at h ⊢
  exact ⟨h.1, fun σ19 e4 => ⟨(h.2 σ19 e4).1, fun σ21 e8 => fun v22 e10 => hL197 _ _ _ _ (((h.2 σ19 e4).2 σ21 e8) v22 e10)⟩⟩
theorem mo_X11_readClass_197 {K K' : Int32 → sm_S → Prop} (hK : ∀ r s, K r s → K' r s) {n197 : Nat} {σ : sm_S} {x1 : Int32} {x2 : Int32} {x4 : Int32} (h : mp_X11_readClass_197 K n197 σ x1 x2 x4) : mp_X11_readClass_197 K' n197 σ x1 x2 x4 := by
  suffices g : ∀ (σ : sm_S) (x1 : Int32) (x2 : Int32) (x4 : Int32), mp_X11_readClass_197 K n197 σ x1 x2 x4 → mp_X11_readClass_197 K' n197 σ x1 x2 x4 from g _ _ _ _ h
  clear h
  induction n197 with
  | zero => exact fun _ _ _ _ h => h.elim
  | succ n197 ih197 =>
    intro σ x1 x2 x4 h
    unfold mp_X11_readClass_197 at h ⊢
    exact ⟨fun h1 => mo_X11_over (fun r25 σ24 h2 => ⟨fun h3 => mo_X11_last (fun r28 σ27 h4 => h4.elim (fun n279 h5 => ⟨n279, mo_X11_readClass_279 hK h5⟩)) (h2.1 h3), fun h6 => hK _ _ (h2.2 h6)⟩) (h.1 h1), fun h7 => ⟨fun h8 => ⟨((h.2 h7).1 h8).1, mo_X11_readClass_235 ih197 hK ((h.2 h7).1 h8).2⟩, fun h11 => mo_X11_readClass_235 ih197 hK ((h.2 h7).2 h11)⟩⟩
theorem mo_X11_readClass_151 {K K' : Int32 → sm_S → Prop} (hK : ∀ r s, K r s → K' r s) {n151 : Nat} {σ : sm_S} {x1 : Int32} {x2 : Int32} {x4 : Int32} (h : mp_X11_readClass_151 K n151 σ x1 x2 x4) : mp_X11_readClass_151 K' n151 σ x1 x2 x4 := by
  suffices g : ∀ (σ : sm_S) (x1 : Int32) (x2 : Int32) (x4 : Int32), mp_X11_readClass_151 K n151 σ x1 x2 x4 → mp_X11_readClass_151 K' n151 σ x1 x2 x4 from g _ _ _ _ h
  clear h
  induction n151 with
  | zero => exact fun _ _ _ _ h => h.elim
  | succ n151 ih151 =>
    intro σ x1 x2 x4 h
    unfold mp_X11_readClass_151 at h ⊢
    exact ⟨h.1, ⟨fun h3 => (h.2.1 h3).elim (fun n197 h4 => ⟨n197, mo_X11_readClass_197 hK h4⟩), fun h5 => mo_X11_overType (fun r34 σ33 h6 => ⟨fun h7 => mo_X11_last (fun r37 σ36 h8 => ⟨h8.1, fun σ39 e12 => fun v40 e14 => ih151 _ _ _ _ ((h8.2 σ39 e12) v40 e14)⟩) (h6.1 h7), fun h15 => hK _ _ (h6.2 h15)⟩) (h.2.2 h5)⟩⟩
theorem mo_X11_readClass_86 {K K' : Int32 → sm_S → Prop} (hK : ∀ r s, K r s → K' r s) {n86 : Nat} {σ : sm_S} {x1 : Int32} {x2 : Int32} {x3 : Int32} {x4 : Int32} (h : mp_X11_readClass_86 K n86 σ x1 x2 x3 x4) : mp_X11_readClass_86 K' n86 σ x1 x2 x3 x4 := by
  suffices g : ∀ (σ : sm_S) (x1 : Int32) (x2 : Int32) (x3 : Int32) (x4 : Int32), mp_X11_readClass_86 K n86 σ x1 x2 x3 x4 → mp_X11_readClass_86 K' n86 σ x1 x2 x3 x4 from g _ _ _ _ _ h
  clear h
  induction n86 with
  | zero => exact fun _ _ _ _ _ h => h.elim
  | succ n86 ih86 =>
    intro σ x1 x2 x3 x4 h
    unfold mp_X11_readClass_86 at h ⊢
    exact ⟨fun h1 => mo_X11_over (fun r43 σ42 h2 => ⟨fun h3 => mo_X11_last (fun r46 σ45 h4 => ⟨h4.1, fun σ48 e8 => (h4.2 σ48 e8).elim (fun n151 h9 => ⟨n151, mo_X11_readClass_151 hK h9⟩)⟩) (h2.1 h3), fun h10 => hK _ _ (h2.2 h10)⟩) (h.1 h1), fun h11 => ⟨(h.2 h11).1, ⟨(h.2 h11).2.1, fun σ51 e17 => fun v52 e19 => ih86 _ _ _ _ _ (((h.2 h11).2.2 σ51 e17) v52 e19)⟩⟩⟩
theorem mo_X11_readClass_82 {K K' : Int32 → sm_S → Prop} (hK : ∀ r s, K r s → K' r s) {σ : sm_S} {x1 : Int32} {x2 : Int32} {y0 : Int32} (h : mp_X11_readClass_82 K σ x1 x2 y0) : mp_X11_readClass_82 K' σ x1 x2 y0 := by
  unfold mp_X11_readClass_82 at h ⊢
  exact h.elim (fun n86 h1 => ⟨n86, mo_X11_readClass_86 hK h1⟩)
theorem mo_X11_readClass_50 {K K' : Int32 → sm_S → Prop} (hK : ∀ r s, K r s → K' r s) {σ : sm_S} {x1 : Int32} {y1 : Int32} {y2 : Int32} (h : mp_X11_readClass_50 K σ x1 y1 y2) : mp_X11_readClass_50 K' σ x1 y1 y2 := by
  unfold mp_X11_readClass_50 at h ⊢
  exact ⟨h.1, fun σ54 e4 => fun σ55 e6 => ⟨((h.2 σ54 e4) σ55 e6).1, fun v57 e10 => ⟨fun h11 => ⟨((((h.2 σ54 e4) σ55 e6).2 v57 e10).1 h11).1, mo_X11_readClass_82 hK ((((h.2 σ54 e4) σ55 e6).2 v57 e10).1 h11).2⟩, fun h14 => mo_X11_readClass_82 hK ((((h.2 σ54 e4) σ55 e6).2 v57 e10).2 h14)⟩⟩⟩
theorem mo_X11_readClass_27 {K K' : Int32 → sm_S → Prop} (hK : ∀ r s, K r s → K' r s) {σ : sm_S} {x1 : Int32} (h : mp_X11_readClass_27 K σ x1) : mp_X11_readClass_27 K' σ x1 := by
  unfold mp_X11_readClass_27 at h ⊢
  exact mo_X11_here (fun r61 σ60 h1 => ⟨fun h2 => mo_X11_here (fun r64 σ63 h3 => mo_X11_readClass_50 hK h3) (h1.1 h2), fun h4 => mo_X11_readClass_50 hK (h1.2 h4)⟩) h
theorem mo_X11_readClass {σ : sm_S} {p1 : Int32} {K K' : Int32 → sm_S → Prop} (hK : ∀ r s, K r s → K' r s) (h : mp_X11_readClass σ p1 K) : mp_X11_readClass σ p1 K' := by
  unfold mp_X11_readClass at h ⊢
  exact mo_X11_here (fun r66 σ65 h1 => ⟨fun h2 => mo_X11_readClass_27 hK (h1.1 h2), fun h3 => mo_X11_here (fun r69 σ68 h4 => ⟨fun h5 => mo_X11_readClass_27 hK (h4.1 h5), fun h6 => mo_X11_bad (fun r72 σ71 h7 => ⟨h7.1, hK _ _ h7.2⟩) (h4.2 h6)⟩) (h1.2 h3)⟩) h
theorem mo_X11_wide_97 {K K' : Int32 → sm_S → Prop} (hK : ∀ r s, K r s → K' r s) {σ : sm_S} {y0 : Int32} (h : mp_X11_wide_97 K σ y0) : mp_X11_wide_97 K' σ y0 := by
  unfold mp_X11_wide_97 at h ⊢
  exact hK _ _ h
theorem mo_X11_wide_92 {K K' : Int32 → sm_S → Prop} (hK : ∀ r s, K r s → K' r s) {σ : sm_S} (h : mp_X11_wide_92 K σ) : mp_X11_wide_92 K' σ := by
  unfold mp_X11_wide_92 at h ⊢
  exact mo_X11_wide_97 hK h
theorem mo_X11_wide_86 {K K' : Int32 → sm_S → Prop} (hK : ∀ r s, K r s → K' r s) {σ : sm_S} {x0 : Int32} (h : mp_X11_wide_86 K σ x0) : mp_X11_wide_86 K' σ x0 := by
  unfold mp_X11_wide_86 at h ⊢
  exact ⟨fun h1 => mo_X11_wide_97 hK (h.1 h1), fun h2 => mo_X11_wide_92 hK (h.2 h2)⟩
theorem mo_X11_wide_54 {K K' : Int32 → sm_S → Prop} (hK : ∀ r s, K r s → K' r s) {σ : sm_S} (h : mp_X11_wide_54 K σ) : mp_X11_wide_54 K' σ := by
  unfold mp_X11_wide_54 at h ⊢
  exact mo_X11_wide_97 hK h
theorem mo_X11_wide_36 {K K' : Int32 → sm_S → Prop} (hK : ∀ r s, K r s → K' r s) {σ : sm_S} {x0 : Int32} (h : mp_X11_wide_36 K σ x0) : mp_X11_wide_36 K' σ x0 := by
  unfold mp_X11_wide_36 at h ⊢
  exact ⟨fun h1 => mo_X11_wide_54 hK (h.1 h1), fun h2 => ⟨fun h3 => mo_X11_wide_54 hK ((h.2 h2).1 h3), fun h4 => ⟨fun h5 => ⟨fun h6 => mo_X11_wide_92 hK ((((h.2 h2).2 h4).1 h5).1 h6), fun h7 => ⟨fun h8 => mo_X11_wide_92 hK (((((h.2 h2).2 h4).1 h5).2 h7).1 h8), fun h9 => ⟨fun h10 => mo_X11_wide_92 hK ((((((h.2 h2).2 h4).1 h5).2 h7).2 h9).1 h10), fun h11 => ⟨fun h12 => mo_X11_wide_86 hK (((((((h.2 h2).2 h4).1 h5).2 h7).2 h9).2 h11).1 h12), fun h13 => ⟨fun h14 => mo_X11_wide_92 hK ((((((((h.2 h2).2 h4).1 h5).2 h7).2 h9).2 h11).2 h13).1 h14), fun h15 => mo_X11_wide_86 hK ((((((((h.2 h2).2 h4).1 h5).2 h7).2 h9).2 h11).2 h13).2 h15)⟩⟩⟩⟩⟩, fun h16 => mo_X11_wide_54 hK (((h.2 h2).2 h4).2 h16)⟩⟩⟩
theorem mo_X11_wide_20 {K K' : Int32 → sm_S → Prop} (hK : ∀ r s, K r s → K' r s) {σ : sm_S} (h : mp_X11_wide_20 K σ) : mp_X11_wide_20 K' σ := by
  unfold mp_X11_wide_20 at h ⊢
  exact mo_X11_wide_97 hK h
theorem mo_X11_wide {σ : sm_S} {p1 : Int32} {K K' : Int32 → sm_S → Prop} (hK : ∀ r s, K r s → K' r s) (h : mp_X11_wide σ p1 K) : mp_X11_wide σ p1 K' := by
  unfold mp_X11_wide at h ⊢
  exact ⟨fun h1 => ⟨fun h2 => mo_X11_wide_20 hK ((h.1 h1).1 h2), fun h3 => ⟨fun h4 => ⟨fun h5 => mo_X11_wide_36 hK ((((h.1 h1).2 h3).1 h4).1 h5), fun h6 => ⟨fun h7 => mo_X11_wide_54 hK (((((h.1 h1).2 h3).1 h4).2 h6).1 h7), fun h8 => mo_X11_wide_36 hK (((((h.1 h1).2 h3).1 h4).2 h6).2 h8)⟩⟩, fun h9 => mo_X11_wide_20 hK (((h.1 h1).2 h3).2 h9)⟩⟩, fun h10 => mo_X11_wide_97 hK (h.2 h10)⟩
theorem mo_X11_readInstruction_461 {K K' : Int32 → sm_S → Prop} (hK : ∀ r s, K r s → K' r s) {σ : sm_S} {x5 : Int32} (h : mp_X11_readInstruction_461 K σ x5) : mp_X11_readInstruction_461 K' σ x5 := by
  unfold mp_X11_readInstruction_461 at h ⊢
  exact ⟨h.1, hK _ _ h.2⟩
theorem mo_X11_readInstruction_439 {K K' : Int32 → sm_S → Prop} (hK : ∀ r s, K r s → K' r s) {σ : sm_S} {x3 : Int32} {x5 : Int32} (h : mp_X11_readInstruction_439 K σ x3 x5) : mp_X11_readInstruction_439 K' σ x3 x5 := by
  unfold mp_X11_readInstruction_439 at h ⊢
  exact ⟨fun h1 => mo_X11_readInstruction_461 hK (h.1 h1), fun h2 => ⟨(h.2 h2).1, fun σ4 e6 => fun σ5 e8 => mo_X11_readInstruction_461 hK (((h.2 h2).2 σ4 e6) σ5 e8)⟩⟩
theorem mo_X11_readInstruction_437 {K K' : Int32 → sm_S → Prop} (hK : ∀ r s, K r s → K' r s) {σ : sm_S} {x3 : Int32} {y0 : Int32} (h : mp_X11_readInstruction_437 K σ x3 y0) : mp_X11_readInstruction_437 K' σ x3 y0 := by
  unfold mp_X11_readInstruction_437 at h ⊢
  exact mo_X11_readInstruction_439 hK h
theorem mo_X11_readInstruction_411 {K K' : Int32 → sm_S → Prop} (hK : ∀ r s, K r s → K' r s) {σ : sm_S} {x3 : Int32} {y0 : Int32} (h : mp_X11_readInstruction_411 K σ x3 y0) : mp_X11_readInstruction_411 K' σ x3 y0 := by
  unfold mp_X11_readInstruction_411 at h ⊢
  exact ⟨fun h1 => mo_X11_bad (fun r8 σ7 h2 => mo_X11_readInstruction_437 hK h2) (h.1 h1), fun h3 => mo_X11_over (fun r10 σ9 h4 => mo_X11_readInstruction_437 hK h4) (h.2 h3)⟩
theorem mo_X11_readInstruction_410 {K K' : Int32 → sm_S → Prop} (hK : ∀ r s, K r s → K' r s) {σ : sm_S} {x3 : Int32} (h : mp_X11_readInstruction_410 K σ x3) : mp_X11_readInstruction_410 K' σ x3 := by
  unfold mp_X11_readInstruction_410 at h ⊢
  exact mo_X11_readInstruction_411 hK h
theorem mo_X11_readInstruction_308 {K K' : Int32 → sm_S → Prop} (hK : ∀ r s, K r s → K' r s) {σ : sm_S} {x3 : Int32} {y0 : Int32} (h : mp_X11_readInstruction_308 K σ x3 y0) : mp_X11_readInstruction_308 K' σ x3 y0 := by
  unfold mp_X11_readInstruction_308 at h ⊢
  exact mo_X11_readInstruction_439 hK h
theorem mo_X11_readInstruction_307 {K K' : Int32 → sm_S → Prop} (hK : ∀ r s, K r s → K' r s) {σ : sm_S} {x3 : Int32} (h : mp_X11_readInstruction_307 K σ x3) : mp_X11_readInstruction_307 K' σ x3 := by
  unfold mp_X11_readInstruction_307 at h ⊢
  exact mo_X11_readInstruction_308 hK h
theorem mo_X11_readInstruction_277 {K K' : Int32 → sm_S → Prop} (hK : ∀ r s, K r s → K' r s) {σ : sm_S} {x3 : Int32} (h : mp_X11_readInstruction_277 K σ x3) : mp_X11_readInstruction_277 K' σ x3 := by
  unfold mp_X11_readInstruction_277 at h ⊢
  exact mo_X11_overClass (fun r12 σ11 h1 => ⟨fun h2 => mo_X11_readInstruction_307 hK (h1.1 h2), fun h3 => mo_X11_last (fun r15 σ14 h4 => ⟨h4.1, mo_X11_over (fun r18 σ17 h7 => ⟨fun h8 => mo_X11_readInstruction_307 hK (h7.1 h8), fun h9 => mo_X11_readInstruction_308 hK (h7.2 h9)⟩) h4.2⟩) (h1.2 h3)⟩) h
theorem mo_X11_readInstruction_254 {K K' : Int32 → sm_S → Prop} (hK : ∀ r s, K r s → K' r s) {σ : sm_S} {x3 : Int32} (h : mp_X11_readInstruction_254 K σ x3) : mp_X11_readInstruction_254 K' σ x3 := by
  unfold mp_X11_readInstruction_254 at h ⊢
  exact mo_X11_overClass (fun r21 σ20 h1 => mo_X11_readInstruction_439 hK h1) h
theorem mo_X11_readInstruction_233 {K K' : Int32 → sm_S → Prop} (hK : ∀ r s, K r s → K' r s) {σ : sm_S} {x3 : Int32} {x4 : Int32} {x5 : Int32} (h : mp_X11_readInstruction_233 K σ x3 x4 x5) : mp_X11_readInstruction_233 K' σ x3 x4 x5 := by
  unfold mp_X11_readInstruction_233 at h ⊢
  exact ⟨fun h1 => mo_X11_readInstruction_254 hK (h.1 h1), fun h2 => ⟨fun h3 => mo_X11_readInstruction_254 hK ((h.2 h2).1 h3), fun h4 => ⟨fun h5 => ⟨fun h6 => mo_X11_readInstruction_277 hK ((((h.2 h2).2 h4).1 h5).1 h6), fun h7 => ⟨fun h8 => ⟨fun h9 => ⟨fun h10 => ⟨fun h11 => mo_X11_readInstruction_439 hK ((((((((h.2 h2).2 h4).1 h5).2 h7).1 h8).1 h9).1 h10).1 h11), fun h12 => mo_X11_overClass (fun r31 σ30 h13 => ⟨fun h14 => mo_X11_readInstruction_439 hK (h13.1 h14), fun h15 => mo_X11_last (fun r34 σ33 h16 => mo_X11_here (fun r36 σ35 h17 => ⟨fun h18 => mo_X11_readInstruction_410 hK (h17.1 h18), fun h19 => mo_X11_here (fun r39 σ38 h20 => ⟨h20.1, ⟨fun h23 => mo_X11_readInstruction_410 hK (h20.2.1 h23), fun h24 => mo_X11_readInstruction_411 hK (h20.2.2 h24)⟩⟩) (h17.2 h19)⟩) h16) (h13.2 h15)⟩) ((((((((h.2 h2).2 h4).1 h5).2 h7).1 h8).1 h9).1 h10).2 h12)⟩, fun h25 => mo_X11_over (fun r43 σ42 h26 => mo_X11_readInstruction_439 hK h26) (((((((h.2 h2).2 h4).1 h5).2 h7).1 h8).1 h9).2 h25)⟩, fun h27 => mo_X11_over (fun r45 σ44 h28 => mo_X11_readInstruction_439 hK h28) ((((((h.2 h2).2 h4).1 h5).2 h7).1 h8).2 h27)⟩, fun h29 => mo_X11_readInstruction_277 hK (((((h.2 h2).2 h4).1 h5).2 h7).2 h29)⟩⟩, fun h30 => mo_X11_readInstruction_254 hK (((h.2 h2).2 h4).2 h30)⟩⟩⟩
theorem mo_X11_readInstruction_228 {K K' : Int32 → sm_S → Prop} (hK : ∀ r s, K r s → K' r s) {σ : sm_S} {x3 : Int32} {y0 : Int32} (h : mp_X11_readInstruction_228 K σ x3 y0) : mp_X11_readInstruction_228 K' σ x3 y0 := by
  unfold mp_X11_readInstruction_228 at h ⊢
  exact mo_X11_readInstruction_439 hK h
theorem mo_X11_readInstruction_227 {K K' : Int32 → sm_S → Prop} (hK : ∀ r s, K r s → K' r s) {σ : sm_S} {x3 : Int32} (h : mp_X11_readInstruction_227 K σ x3) : mp_X11_readInstruction_227 K' σ x3 := by
  unfold mp_X11_readInstruction_227 at h ⊢
  exact mo_X11_readInstruction_228 hK h
theorem mo_X11_readInstruction_182 {K K' : Int32 → sm_S → Prop} (hK : ∀ r s, K r s → K' r s) {σ : sm_S} {x3 : Int32} {y0 : Int32} (h : mp_X11_readInstruction_182 K σ x3 y0) : mp_X11_readInstruction_182 K' σ x3 y0 := by
  unfold mp_X11_readInstruction_182 at h ⊢
  exact mo_X11_readInstruction_439 hK h
theorem mo_X11_readInstruction_181 {K K' : Int32 → sm_S → Prop} (hK : ∀ r s, K r s → K' r s) {σ : sm_S} {x3 : Int32} (h : mp_X11_readInstruction_181 K σ x3) : mp_X11_readInstruction_181 K' σ x3 := by
  unfold mp_X11_readInstruction_181 at h ⊢
  exact mo_X11_readInstruction_182 hK h
theorem mo_X11_readInstruction_146 {K K' : Int32 → sm_S → Prop} (hK : ∀ r s, K r s → K' r s) {σ : sm_S} {x3 : Int32} (h : mp_X11_readInstruction_146 K σ x3) : mp_X11_readInstruction_146 K' σ x3 := by
  unfold mp_X11_readInstruction_146 at h ⊢
  exact mo_X11_over (fun r47 σ46 h1 => ⟨fun h2 => mo_X11_readInstruction_181 hK (h1.1 h2), fun h3 => mo_X11_over (fun r50 σ49 h4 => ⟨fun h5 => mo_X11_readInstruction_181 hK (h4.1 h5), fun h6 => mo_X11_over (fun r53 σ52 h7 => ⟨fun h8 => mo_X11_readInstruction_181 hK (h7.1 h8), fun h9 => mo_X11_readInstruction_182 hK (h7.2 h9)⟩) (h4.2 h6)⟩) (h1.2 h3)⟩) h
theorem mo_X11_readInstruction_114 {K K' : Int32 → sm_S → Prop} (hK : ∀ r s, K r s → K' r s) {σ : sm_S} {x1 : Int32} {x3 : Int32} (h : mp_X11_readInstruction_114 K σ x1 x3) : mp_X11_readInstruction_114 K' σ x1 x3 := by
  unfold mp_X11_readInstruction_114 at h ⊢
  exact ⟨h.1, mo_X11_over (fun r57 σ56 h3 => mo_X11_readInstruction_439 hK h3) h.2⟩
theorem mo_X11_readInstruction_97 {K K' : Int32 → sm_S → Prop} (hK : ∀ r s, K r s → K' r s) {σ : sm_S} {x3 : Int32} {y0 : Int32} (h : mp_X11_readInstruction_97 K σ x3 y0) : mp_X11_readInstruction_97 K' σ x3 y0 := by
  unfold mp_X11_readInstruction_97 at h ⊢
  exact mo_X11_readInstruction_439 hK h
theorem mo_X11_readInstruction_96 {K K' : Int32 → sm_S → Prop} (hK : ∀ r s, K r s → K' r s) {σ : sm_S} {x3 : Int32} (h : mp_X11_readInstruction_96 K σ x3) : mp_X11_readInstruction_96 K' σ x3 := by
  unfold mp_X11_readInstruction_96 at h ⊢
  exact mo_X11_readInstruction_97 hK h
theorem mo_X11_readInstruction {σ : sm_S} {p1 : Int32} {p2 : Int32} {K K' : Int32 → sm_S → Prop} (hK : ∀ r s, K r s → K' r s) (h : mp_X11_readInstruction σ p1 p2 K) : mp_X11_readInstruction σ p1 p2 K' := by
  unfold mp_X11_readInstruction at h ⊢
  exact fun v58 e2 => mo_X11_over (fun r60 σ59 h3 => ⟨fun h4 => mo_X11_last (fun r63 σ62 h5 => mo_X11_wide (fun r65 σ64 h6 => ⟨fun h7 => ⟨fun h8 => ⟨fun h9 => mo_X11_readInstruction_114 hK (((h6.1 h7).1 h8).1 h9), fun h10 => ⟨fun h11 => ⟨fun h12 => mo_X11_readInstruction_146 hK (((((h6.1 h7).1 h8).2 h10).1 h11).1 h12), fun h13 => ⟨fun h14 => ⟨fun h15 => mo_X11_readInstruction_233 hK (((((((h6.1 h7).1 h8).2 h10).1 h11).2 h13).1 h14).1 h15), fun h16 => ⟨fun h17 => mo_X11_readInstruction_233 hK ((((((((h6.1 h7).1 h8).2 h10).1 h11).2 h13).1 h14).2 h16).1 h17), fun h18 => mo_X11_over (fun r75 σ74 h19 => ⟨fun h20 => mo_X11_readInstruction_227 hK (h19.1 h20), fun h21 => mo_X11_over (fun r78 σ77 h22 => ⟨fun h23 => mo_X11_readInstruction_227 hK (h22.1 h23), fun h24 => mo_X11_readInstruction_228 hK (h22.2 h24)⟩) (h19.2 h21)⟩) ((((((((h6.1 h7).1 h8).2 h10).1 h11).2 h13).1 h14).2 h16).2 h18)⟩⟩, fun h25 => mo_X11_readInstruction_146 hK ((((((h6.1 h7).1 h8).2 h10).1 h11).2 h13).2 h25)⟩⟩, fun h26 => mo_X11_readInstruction_114 hK ((((h6.1 h7).1 h8).2 h10).2 h26)⟩⟩, fun h27 => mo_X11_over (fun r81 σ80 h28 => ⟨fun h29 => mo_X11_readInstruction_96 hK (h28.1 h29), fun h30 => mo_X11_over (fun r84 σ83 h31 => ⟨fun h32 => mo_X11_readInstruction_96 hK (h31.1 h32), fun h33 => mo_X11_over (fun r87 σ86 h34 => ⟨fun h35 => mo_X11_readInstruction_96 hK (h34.1 h35), fun h36 => mo_X11_over (fun r90 σ89 h37 => ⟨fun h38 => mo_X11_readInstruction_96 hK (h37.1 h38), fun h39 => mo_X11_readInstruction_97 hK (h37.2 h39)⟩) (h34.2 h36)⟩) (h31.2 h33)⟩) (h28.2 h30)⟩) ((h6.1 h7).2 h27)⟩, fun h40 => mo_X11_bad (fun r93 σ92 h41 => ⟨h41.1, hK _ _ h41.2⟩) (h6.2 h40)⟩) h5) (h3.1 h4), fun h44 => hK _ _ (h3.2 h44)⟩) (h v58 e2)
theorem mo_X11_readMethod_477 {L388 L388' : sm_S → Int32 → Int32 → Prop} (hL388 : ∀ z0 z1 z2, L388 z0 z1 z2 → L388' z0 z1 z2) {K K' : Int32 → sm_S → Prop} (hK : ∀ r s, K r s → K' r s) {σ : sm_S} {x1 : Int32} {x5 : Int32} {y0 : Int32} (h : mp_X11_readMethod_477 L388 K σ x1 x5 y0) : mp_X11_readMethod_477 L388' K' σ x1 x5 y0 := by
  unfold mp_X11_readMethod_477 at h ⊢
  exact ⟨fun h1 => fun v2 e3 => hL388 _ _ _ ((h.1 h1) v2 e3), fun h4 => hK _ _ (h.2 h4)⟩
theorem mo_X11_readMethod_476 {L388 L388' : sm_S → Int32 → Int32 → Prop} (hL388 : ∀ z0 z1 z2, L388 z0 z1 z2 → L388' z0 z1 z2) {K K' : Int32 → sm_S → Prop} (hK : ∀ r s, K r s → K' r s) {σ : sm_S} {x1 : Int32} {x5 : Int32} (h : mp_X11_readMethod_476 L388 K σ x1 x5) : mp_X11_readMethod_476 L388' K' σ x1 x5 := by
  unfold mp_X11_readMethod_476 at h ⊢
  exact mo_X11_readMethod_477 hL388 hK h
theorem mo_X11_readMethod_388 {K K' : Int32 → sm_S → Prop} (hK : ∀ r s, K r s → K' r s) {n388 : Nat} {σ : sm_S} {x1 : Int32} {x5 : Int32} (h : mp_X11_readMethod_388 K n388 σ x1 x5) : mp_X11_readMethod_388 K' n388 σ x1 x5 := by
  suffices g : ∀ (σ : sm_S) (x1 : Int32) (x5 : Int32), mp_X11_readMethod_388 K n388 σ x1 x5 → mp_X11_readMethod_388 K' n388 σ x1 x5 from g _ _ _ h
  clear h
  induction n388 with
  | zero => exact fun _ _ _ h => h.elim
  | succ n388 ih388 =>
    intro σ x1 x5 h
    unfold mp_X11_readMethod_388 at h ⊢
    exact ⟨h.1, ⟨fun h3 => hK _ _ (h.2.1 h3), fun h4 => mo_X11_over (fun r6 σ5 h5 => ⟨fun h6 => mo_X11_readMethod_476 ih388 hK (h5.1 h6), fun h7 => mo_X11_over (fun r9 σ8 h8 => ⟨fun h9 => mo_X11_readMethod_476 ih388 hK (h8.1 h9), fun h10 => mo_X11_over (fun r12 σ11 h11 => ⟨fun h12 => mo_X11_readMethod_476 ih388 hK (h11.1 h12), fun h13 => mo_X11_over (fun r15 σ14 h14 => ⟨fun h15 => mo_X11_readMethod_476 ih388 hK (h14.1 h15), fun h16 => mo_X11_overClass (fun r18 σ17 h17 => ⟨fun h18 => mo_X11_readMethod_476 ih388 hK (h17.1 h18), fun h19 => mo_X11_over (fun r21 σ20 h20 => ⟨fun h21 => mo_X11_readMethod_476 ih388 hK (h20.1 h21), fun h22 => mo_X11_over (fun r24 σ23 h23 => ⟨fun h24 => mo_X11_readMethod_476 ih388 hK (h23.1 h24), fun h25 => mo_X11_readMethod_477 ih388 hK (h23.2 h25)⟩) (h20.2 h22)⟩) (h17.2 h19)⟩) (h14.2 h16)⟩) (h11.2 h13)⟩) (h8.2 h10)⟩) (h5.2 h7)⟩) (h.2.2 h4)⟩⟩
theorem mo_X11_readMethod_332 {K K' : Int32 → sm_S → Prop} (hK : ∀ r s, K r s → K' r s) {n332 : Nat} {σ : sm_S} {x1 : Int32} {x4 : Int32} (h : mp_X11_readMethod_332 K n332 σ x1 x4) : mp_X11_readMethod_332 K' n332 σ x1 x4 := by
  suffices g : ∀ (σ : sm_S) (x1 : Int32) (x4 : Int32), mp_X11_readMethod_332 K n332 σ x1 x4 → mp_X11_readMethod_332 K' n332 σ x1 x4 from g _ _ _ h
  clear h
  induction n332 with
  | zero => exact fun _ _ _ h => h.elim
  | succ n332 ih332 =>
    intro σ x1 x4 h
    unfold mp_X11_readMethod_332 at h ⊢
    exact ⟨fun h1 => mo_X11_over (fun r28 σ27 h2 => ⟨fun h3 => mo_X11_last (fun r31 σ30 h4 => ⟨h4.1, fun σ33 e8 => ⟨(h4.2 σ33 e8).1, fun σ35 e12 => ((h4.2 σ33 e8).2 σ35 e12).elim (fun n388 h13 => ⟨n388, mo_X11_readMethod_388 hK h13⟩)⟩⟩) (h2.1 h3), fun h14 => hK _ _ (h2.2 h14)⟩) (h.1 h1), fun h15 => mo_X11_readInstruction (fun r37 σ36 h16 => ⟨fun h17 => ih332 _ _ _ (h16.1 h17), fun h18 => hK _ _ (h16.2 h18)⟩) (h.2 h15)⟩
theorem mo_X11_readMethod_291 {K K' : Int32 → sm_S → Prop} (hK : ∀ r s, K r s → K' r s) {σ : sm_S} (h : mp_X11_readMethod_291 K σ) : mp_X11_readMethod_291 K' σ := by
  unfold mp_X11_readMethod_291 at h ⊢
  exact hK _ _ h
theorem mo_X11_readMethod_285 {K K' : Int32 → sm_S → Prop} (hK : ∀ r s, K r s → K' r s) {σ : sm_S} {x1 : Int32} {y1 : Int32} {y2 : Int32} (h : mp_X11_readMethod_285 K σ x1 y1 y2) : mp_X11_readMethod_285 K' σ x1 y1 y2 := by
  unfold mp_X11_readMethod_285 at h ⊢
  exact mo_X11_over (fun r40 σ39 h1 => ⟨fun h2 => mo_X11_two (fun r43 σ42 h3 => ⟨h3.1, fun σ45 e7 => ⟨(h3.2 σ45 e7).1, fun σ47 e11 => ⟨((h3.2 σ45 e7).2 σ47 e11).1, fun v49 e15 => (((h3.2 σ45 e7).2 σ47 e11).2 v49 e15).elim (fun n332 h16 => ⟨n332, mo_X11_readMethod_332 hK h16⟩)⟩⟩⟩) (h1.1 h2), fun h17 => mo_X11_readMethod_291 hK (h1.2 h17)⟩) h
theorem mo_X11_readMethod_268 {K K' : Int32 → sm_S → Prop} (hK : ∀ r s, K r s → K' r s) {σ : sm_S} {x1 : Int32} {y1 : Int32} (h : mp_X11_readMethod_268 K σ x1 y1) : mp_X11_readMethod_268 K' σ x1 y1 := by
  unfold mp_X11_readMethod_268 at h ⊢
  exact mo_X11_last (fun r51 σ50 h1 => ⟨fun h2 => mo_X11_readMethod_285 hK (h1.1 h2), fun h3 => mo_X11_readMethod_285 hK (h1.2 h3)⟩) h
theorem mo_X11_readMethod_194 {K K' : Int32 → sm_S → Prop} (hK : ∀ r s, K r s → K' r s) {σ : sm_S} {x1 : Int32} {x3 : Int32} {y1 : Int32} {y2 : Int32} (h : mp_X11_readMethod_194 K σ x1 x3 y1 y2) : mp_X11_readMethod_194 K' σ x1 x3 y1 y2 := by
  unfold mp_X11_readMethod_194 at h ⊢
  exact ⟨h.1, fun σ54 e4 => mo_X11_over (fun r56 σ55 h5 => ⟨fun h6 => mo_X11_last (fun r59 σ58 h7 => ⟨h7.1, fun σ61 e11 => ⟨(h7.2 σ61 e11).1, mo_X11_over (fun r64 σ63 h14 => ⟨fun h15 => mo_X11_last (fun r67 σ66 h16 => ⟨h16.1, fun σ69 e20 => mo_X11_over (fun r71 σ70 h21 => ⟨fun h22 => mo_X11_readMethod_291 hK (h21.1 h22), fun h23 => mo_X11_last (fun r74 σ73 h24 => ⟨fun h25 => mo_X11_readMethod_268 hK (h24.1 h25), fun h26 => mo_X11_readMethod_268 hK (h24.2 h26)⟩) (h21.2 h23)⟩) (h16.2 σ69 e20)⟩) (h14.1 h15), fun h27 => hK _ _ (h14.2 h27)⟩) (h7.2 σ61 e11).2⟩⟩) (h5.1 h6), fun h28 => hK _ _ (h5.2 h28)⟩) (h.2 σ54 e4)⟩
theorem mo_X11_readMethod_114 {K K' : Int32 → sm_S → Prop} (hK : ∀ r s, K r s → K' r s) {n114 : Nat} {σ : sm_S} {x1 : Int32} {x2 : Int32} {x3 : Int32} {x4 : Int32} (h : mp_X11_readMethod_114 K n114 σ x1 x2 x3 x4) : mp_X11_readMethod_114 K' n114 σ x1 x2 x3 x4 := by
  suffices g : ∀ (σ : sm_S) (x1 : Int32) (x2 : Int32) (x3 : Int32) (x4 : Int32), mp_X11_readMethod_114 K n114 σ x1 x2 x3 x4 → mp_X11_readMethod_114 K' n114 σ x1 x2 x3 x4 from g _ _ _ _ _ h
  clear h
  induction n114 with
  | zero => exact fun _ _ _ _ _ h => h.elim
  | succ n114 ih114 =>
    intro σ x1 x2 x3 x4 h
    unfold mp_X11_readMethod_114 at h ⊢
    exact ⟨fun h1 => ⟨(h.1 h1).1, fun σ78 e5 => mo_X11_overType (fun r80 σ79 h6 => ⟨fun h7 => mo_X11_last (fun r83 σ82 h8 => ⟨fun h9 => mo_X11_last (fun r86 σ85 h10 => mo_X11_readMethod_194 hK h10) (h8.1 h9), fun h11 => mo_X11_readMethod_194 hK (h8.2 h11)⟩) (h6.1 h7), fun h12 => hK _ _ (h6.2 h12)⟩) ((h.1 h1).2 σ78 e5)⟩, fun h13 => mo_X11_overType (fun r88 σ87 h14 => ⟨fun h15 => mo_X11_last (fun r91 σ90 h16 => ⟨h16.1, fun σ93 e20 => fun v94 e22 => fun v95 e24 => ih114 _ _ _ _ _ (((h16.2 σ93 e20) v94 e22) v95 e24)⟩) (h14.1 h15), fun h25 => hK _ _ (h14.2 h25)⟩) (h.2 h13)⟩
theorem mo_X11_readMethod_111 {K K' : Int32 → sm_S → Prop} (hK : ∀ r s, K r s → K' r s) {σ : sm_S} {x1 : Int32} {x2 : Int32} {x3 : Int32} (h : mp_X11_readMethod_111 K σ x1 x2 x3) : mp_X11_readMethod_111 K' σ x1 x2 x3 := by
  unfold mp_X11_readMethod_111 at h ⊢
  exact h.elim (fun n114 h1 => ⟨n114, mo_X11_readMethod_114 hK h1⟩)
theorem mo_X11_readMethod_53 {K K' : Int32 → sm_S → Prop} (hK : ∀ r s, K r s → K' r s) {σ : sm_S} {x1 : Int32} {y1 : Int32} {y2 : Int32} (h : mp_X11_readMethod_53 K σ x1 y1 y2) : mp_X11_readMethod_53 K' σ x1 y1 y2 := by
  unfold mp_X11_readMethod_53 at h ⊢
  exact ⟨h.1, fun σ97 e4 => fun σ98 e6 => mo_X11_over (fun r100 σ99 h7 => ⟨fun h8 => mo_X11_last (fun r103 σ102 h9 => ⟨h9.1, ⟨fun h12 => mo_X11_readMethod_111 hK (h9.2.1 h12), fun h13 => ⟨(h9.2.2 h13).1, ⟨(h9.2.2 h13).2.1, fun σ108 e19 => mo_X11_readMethod_111 hK ((h9.2.2 h13).2.2 σ108 e19)⟩⟩⟩⟩) (h7.1 h8), fun h20 => hK _ _ (h7.2 h20)⟩) ((h.2 σ97 e4) σ98 e6)⟩
theorem mo_X11_readMethod_30 {K K' : Int32 → sm_S → Prop} (hK : ∀ r s, K r s → K' r s) {σ : sm_S} {x1 : Int32} (h : mp_X11_readMethod_30 K σ x1) : mp_X11_readMethod_30 K' σ x1 := by
  unfold mp_X11_readMethod_30 at h ⊢
  exact mo_X11_here (fun r110 σ109 h1 => ⟨fun h2 => mo_X11_here (fun r113 σ112 h3 => mo_X11_readMethod_53 hK h3) (h1.1 h2), fun h4 => mo_X11_readMethod_53 hK (h1.2 h4)⟩) h
theorem mo_X11_readMethod {σ : sm_S} {p1 : Int32} {K K' : Int32 → sm_S → Prop} (hK : ∀ r s, K r s → K' r s) (h : mp_X11_readMethod σ p1 K) : mp_X11_readMethod σ p1 K' := by
  unfold mp_X11_readMethod at h ⊢
  exact mo_X11_here (fun r115 σ114 h1 => ⟨fun h2 => mo_X11_readMethod_30 hK (h1.1 h2), fun h3 => mo_X11_here (fun r118 σ117 h4 => ⟨fun h5 => mo_X11_readMethod_30 hK (h4.1 h5), fun h6 => mo_X11_bad (fun r121 σ120 h7 => ⟨h7.1, hK _ _ h7.2⟩) (h4.2 h6)⟩) (h1.2 h3)⟩) h
theorem mo_X11_readAll_217 {K K' : Int32 → sm_S → Prop} (hK : ∀ r s, K r s → K' r s) {σ : sm_S} {y0 : Int32} (h : mp_X11_readAll_217 K σ y0) : mp_X11_readAll_217 K' σ y0 := by
  unfold mp_X11_readAll_217 at h ⊢
  exact ⟨h.1, hK _ _ h.2⟩
theorem mo_X11_readAll_212 {K K' : Int32 → sm_S → Prop} (hK : ∀ r s, K r s → K' r s) {σ : sm_S} (h : mp_X11_readAll_212 K σ) : mp_X11_readAll_212 K' σ := by
  unfold mp_X11_readAll_212 at h ⊢
  exact mo_X11_readAll_217 hK h
theorem mo_X11_readAll_166 {K K' : Int32 → sm_S → Prop} (hK : ∀ r s, K r s → K' r s) {σ : sm_S} (h : mp_X11_readAll_166 K σ) : mp_X11_readAll_166 K' σ := by
  unfold mp_X11_readAll_166 at h ⊢
  exact mo_X11_bad (fun r3 σ2 h1 => ⟨h1.1, hK _ _ h1.2⟩) h
theorem mo_X11_readAll_100 {K K' : Int32 → sm_S → Prop} (hK : ∀ r s, K r s → K' r s) {n100 : Nat} {σ : sm_S} {x1 : Int32} (h : mp_X11_readAll_100 K n100 σ x1) : mp_X11_readAll_100 K' n100 σ x1 := by
  suffices g : ∀ (σ : sm_S) (x1 : Int32), mp_X11_readAll_100 K n100 σ x1 → mp_X11_readAll_100 K' n100 σ x1 from g _ _ h
  clear h
  induction n100 with
  | zero => exact fun _ _ h => h.elim
  | succ n100 ih100 =>
    intro σ x1 h
    unfold mp_X11_readAll_100 at h ⊢
    exact ⟨fun h1 => mo_X11_here (fun r7 σ6 h2 => ⟨fun h3 => mo_X11_readAll_166 hK (h2.1 h3), fun h4 => ⟨(h2.2 h4).1, ⟨fun h7 => mo_X11_readAll_166 hK ((h2.2 h4).2.1 h7), fun h8 => ⟨((h2.2 h4).2.2 h8).1, ⟨fun h11 => mo_X11_readAll_166 hK (((h2.2 h4).2.2 h8).2.1 h11), fun h12 => ⟨(((h2.2 h4).2.2 h8).2.2 h12).1, ⟨fun h15 => fun σ15 e17 => fun σ16 e19 => ⟨fun h20 => mo_X11_readAll_212 hK (((((((h2.2 h4).2.2 h8).2.2 h12).2.1 h15) σ15 e17) σ16 e19).1 h20), fun h21 => mo_X11_bad (fun r19 σ18 h22 => ⟨fun h23 => mo_X11_readAll_217 hK (h22.1 h23), fun h24 => mo_X11_readAll_212 hK (h22.2 h24)⟩) (((((((h2.2 h4).2.2 h8).2.2 h12).2.1 h15) σ15 e17) σ16 e19).2 h21)⟩, fun h25 => mo_X11_readAll_166 hK ((((h2.2 h4).2.2 h8).2.2 h12).2.2 h25)⟩⟩⟩⟩⟩⟩⟩) (h.1 h1), fun h26 => mo_X11_readMethod (fun r22 σ21 h27 => ⟨fun h28 => fun v24 e30 => ih100 _ _ ((h27.1 h28) v24 e30), fun h31 => hK _ _ (h27.2 h31)⟩) (h.2 h26)⟩
theorem mo_X11_readAll_48 {K K' : Int32 → sm_S → Prop} (hK : ∀ r s, K r s → K' r s) {n48 : Nat} {σ : sm_S} {x1 : Int32} (h : mp_X11_readAll_48 K n48 σ x1) : mp_X11_readAll_48 K' n48 σ x1 := by
  suffices g : ∀ (σ : sm_S) (x1 : Int32), mp_X11_readAll_48 K n48 σ x1 → mp_X11_readAll_48 K' n48 σ x1 from g _ _ h
  clear h
  induction n48 with
  | zero => exact fun _ _ h => h.elim
  | succ n48 ih48 =>
    intro σ x1 h
    unfold mp_X11_readAll_48 at h ⊢
    exact ⟨fun h1 => mo_X11_over (fun r27 σ26 h2 => ⟨fun h3 => mo_X11_last (fun r30 σ29 h4 => fun σ31 e6 => (h4 σ31 e6).elim (fun n100 h7 => ⟨n100, mo_X11_readAll_100 hK h7⟩)) (h2.1 h3), fun h8 => hK _ _ (h2.2 h8)⟩) (h.1 h1), fun h9 => mo_X11_overClass (fun r33 σ32 h10 => ⟨fun h11 => mo_X11_last (fun r36 σ35 h12 => ⟨h12.1, fun σ38 e16 => fun v39 e18 => ih48 _ _ ((h12.2 σ38 e16) v39 e18)⟩) (h10.1 h11), fun h19 => hK _ _ (h10.2 h19)⟩) (h.2 h9)⟩
theorem mo_X11_readAll_22 {K K' : Int32 → sm_S → Prop} (hK : ∀ r s, K r s → K' r s) {n22 : Nat} {σ : sm_S} {x1 : Int32} (h : mp_X11_readAll_22 K n22 σ x1) : mp_X11_readAll_22 K' n22 σ x1 := by
  suffices g : ∀ (σ : sm_S) (x1 : Int32), mp_X11_readAll_22 K n22 σ x1 → mp_X11_readAll_22 K' n22 σ x1 from g _ _ h
  clear h
  induction n22 with
  | zero => exact fun _ _ h => h.elim
  | succ n22 ih22 =>
    intro σ x1 h
    unfold mp_X11_readAll_22 at h ⊢
    exact ⟨fun h1 => (h.1 h1).elim (fun n48 h2 => ⟨n48, mo_X11_readAll_48 hK h2⟩), fun h3 => mo_X11_readClass (fun r42 σ41 h4 => ⟨fun h5 => fun v44 e7 => ih22 _ _ ((h4.1 h5) v44 e7), fun h8 => hK _ _ (h4.2 h8)⟩) (h.2 h3)⟩
theorem mo_X11_readAll {σ : sm_S}  {K K' : Int32 → sm_S → Prop} (hK : ∀ r s, K r s → K' r s) (h : mp_X11_readAll σ  K) : mp_X11_readAll σ  K' := by
  unfold mp_X11_readAll at h ⊢
  exact mo_X11_over (fun r46 σ45 h1 => ⟨fun h2 => mo_X11_last (fun r49 σ48 h3 => fun σ50 e5 => (h3 σ50 e5).elim (fun n22 h6 => ⟨n22, mo_X11_readAll_22 hK h6⟩)) (h1.1 h2), fun h7 => hK _ _ (h1.2 h7)⟩) h
theorem mo_X11_note_28 {K K' : sm_S → Prop} (hK : ∀ s, K s → K' s) {σ : sm_S} {y1 : Int32} (h : mp_X11_note_28 K σ y1) : mp_X11_note_28 K' σ y1 := by
  unfold mp_X11_note_28 at h ⊢
  exact fun σ1 e2 => hK _ (h σ1 e2)
theorem mo_X11_note_24 {K K' : sm_S → Prop} (hK : ∀ s, K s → K' s) {σ : sm_S} (h : mp_X11_note_24 K σ) : mp_X11_note_24 K' σ := by
  unfold mp_X11_note_24 at h ⊢
  exact mo_X11_note_28 hK h
theorem mo_X11_note_20 {K K' : sm_S → Prop} (hK : ∀ s, K s → K' s) {σ : sm_S} {x1 : Int32} (h : mp_X11_note_20 K σ x1) : mp_X11_note_20 K' σ x1 := by
  unfold mp_X11_note_20 at h ⊢
  exact mo_X11_note_28 hK h
theorem mo_X11_note {σ : sm_S} {p1 : Int32} {p2 : Int32} {K K' : sm_S → Prop} (hK : ∀ s, K s → K' s) (h : mp_X11_note σ p1 p2 K) : mp_X11_note σ p1 p2 K' := by
  unfold mp_X11_note at h ⊢
  exact ⟨fun h1 => mo_X11_note_24 hK (h.1 h1), fun h2 => ⟨fun h3 => mo_X11_note_20 hK ((h.2 h2).1 h3), fun h4 => ⟨fun h5 => mo_X11_note_24 hK (((h.2 h2).2 h4).1 h5), fun h6 => mo_X11_note_20 hK (((h.2 h2).2 h4).2 h6)⟩⟩⟩
theorem mo_X11_isBegin_31 {K K' : Int32 → sm_S → Prop} (hK : ∀ r s, K r s → K' r s) {σ : sm_S} {y0 : Int32} (h : mp_X11_isBegin_31 K σ y0) : mp_X11_isBegin_31 K' σ y0 := by
  unfold mp_X11_isBegin_31 at h ⊢
  exact ⟨h.1, hK _ _ h.2⟩
theorem mo_X11_isBegin_30 {K K' : Int32 → sm_S → Prop} (hK : ∀ r s, K r s → K' r s) {σ : sm_S} (h : mp_X11_isBegin_30 K σ) : mp_X11_isBegin_30 K' σ := by
  unfold mp_X11_isBegin_30 at h ⊢
  exact mo_X11_isBegin_31 hK h
theorem mo_X11_isBegin {σ : sm_S} {p1 : Int32} {p2 : Int32} {K K' : Int32 → sm_S → Prop} (hK : ∀ r s, K r s → K' r s) (h : mp_X11_isBegin σ p1 p2 K) : mp_X11_isBegin σ p1 p2 K' := by
  unfold mp_X11_isBegin at h ⊢
  exact ⟨h.1, ⟨fun h3 => mo_X11_isBegin_30 hK (h.2.1 h3), fun h4 => ⟨(h.2.2 h4).1, ⟨(h.2.2 h4).2.1, ⟨fun h9 => mo_X11_isBegin_30 hK ((h.2.2 h4).2.2.1 h9), fun h10 => mo_X11_isBegin_31 hK ((h.2.2 h4).2.2.2 h10)⟩⟩⟩⟩⟩
theorem mo_X11_isLike_93 {K K' : Int32 → sm_S → Prop} (hK : ∀ r s, K r s → K' r s) {σ : sm_S} {x3 : Int32} (h : mp_X11_isLike_93 K σ x3) : mp_X11_isLike_93 K' σ x3 := by
  unfold mp_X11_isLike_93 at h ⊢
  exact ⟨h.1, hK _ _ h.2⟩
theorem mo_X11_isLike_86 {L39 L39' : sm_S → Int32 → Int32 → Int32 → Int32 → Prop} (hL39 : ∀ z0 z1 z2 z3 z4, L39 z0 z1 z2 z3 z4 → L39' z0 z1 z2 z3 z4) {K K' : Int32 → sm_S → Prop} (hK : ∀ r s, K r s → K' r s) {σ : sm_S} {x1 : Int32} {x2 : Int32} {x4 : Int32} {y0 : Int32} (h : mp_X11_isLike_86 L39 K σ x1 x2 x4 y0) : mp_X11_isLike_86 L39' K' σ x1 x2 x4 y0 := by
  unfold mp_X11_isLike_86 at h ⊢
  exact fun v2 e2 => hL39 _ _ _ _ _ (h v2 e2)
theorem mo_X11_isLike_39 {K K' : Int32 → sm_S → Prop} (hK : ∀ r s, K r s → K' r s) {n39 : Nat} {σ : sm_S} {x1 : Int32} {x2 : Int32} {x3 : Int32} {x4 : Int32} (h : mp_X11_isLike_39 K n39 σ x1 x2 x3 x4) : mp_X11_isLike_39 K' n39 σ x1 x2 x3 x4 := by
  suffices g : ∀ (σ : sm_S) (x1 : Int32) (x2 : Int32) (x3 : Int32) (x4 : Int32), mp_X11_isLike_39 K n39 σ x1 x2 x3 x4 → mp_X11_isLike_39 K' n39 σ x1 x2 x3 x4 from g _ _ _ _ _ h
  clear h
  induction n39 with
  | zero => exact fun _ _ _ _ _ h => h.elim
  | succ n39 ih39 =>
    intro σ x1 x2 x3 x4 h
    unfold mp_X11_isLike_39 at h ⊢
    exact ⟨h.1, ⟨fun h3 => mo_X11_isLike_93 hK (h.2.1 h3), fun h4 => ⟨fun h5 => mo_X11_isLike_93 hK ((h.2.2 h4).1 h5), fun h6 => ⟨((h.2.2 h4).2 h6).1, ⟨((h.2.2 h4).2 h6).2.1, ⟨fun h11 => mo_X11_isLike_86 ih39 hK (((h.2.2 h4).2 h6).2.2.1 h11), fun h12 => mo_X11_isLike_86 ih39 hK (((h.2.2 h4).2 h6).2.2.2 h12)⟩⟩⟩⟩⟩⟩
theorem mo_X11_isLike_35 {K K' : Int32 → sm_S → Prop} (hK : ∀ r s, K r s → K' r s) {σ : sm_S} {x1 : Int32} {x2 : Int32} {y0 : Int32} (h : mp_X11_isLike_35 K σ x1 x2 y0) : mp_X11_isLike_35 K' σ x1 x2 y0 := by
  unfold mp_X11_isLike_35 at h ⊢
  exact h.elim (fun n39 h1 => ⟨n39, mo_X11_isLike_39 hK h1⟩)
theorem mo_X11_isLike_34 {K K' : Int32 → sm_S → Prop} (hK : ∀ r s, K r s → K' r s) {σ : sm_S} {x1 : Int32} {x2 : Int32} (h : mp_X11_isLike_34 K σ x1 x2) : mp_X11_isLike_34 K' σ x1 x2 := by
  unfold mp_X11_isLike_34 at h ⊢
  exact mo_X11_isLike_35 hK h
theorem mo_X11_isLike {σ : sm_S} {p1 : Int32} {p2 : Int32} {K K' : Int32 → sm_S → Prop} (hK : ∀ r s, K r s → K' r s) (h : mp_X11_isLike σ p1 p2 K) : mp_X11_isLike σ p1 p2 K' := by
  unfold mp_X11_isLike at h ⊢
  exact ⟨h.1, ⟨h.2.1, ⟨fun h5 => mo_X11_isLike_34 hK (h.2.2.1 h5), fun h6 => ⟨(h.2.2.2 h6).1, ⟨(h.2.2.2 h6).2.1, ⟨fun h11 => mo_X11_isLike_34 hK ((h.2.2.2 h6).2.2.1 h11), fun h12 => mo_X11_isLike_35 hK ((h.2.2.2 h6).2.2.2 h12)⟩⟩⟩⟩⟩⟩
theorem mo_X11_checkSlots_131 {L2 L2' : sm_S → Int32 → Prop} (hL2 : ∀ z0 z1, L2 z0 z1 → L2' z0 z1) {K K' : sm_S → Prop} (hK : ∀ s, K s → K' s) {σ : sm_S} {x1 : Int32} (h : mp_X11_checkSlots_131 L2 K σ x1) : mp_X11_checkSlots_131 L2' K' σ x1 := by
  unfold mp_X11_checkSlots_131 at h ⊢
  exact fun v1 e2 => hL2 _ _ (h v1 e2)
theorem mo_X11_checkSlots_117 {L2 L2' : sm_S → Int32 → Prop} (hL2 : ∀ z0 z1, L2 z0 z1 → L2' z0 z1) {K K' : sm_S → Prop} (hK : ∀ s, K s → K' s) {σ : sm_S} {x1 : Int32} {y0 : Int32} (h : mp_X11_checkSlots_117 L2 K σ x1 y0) : mp_X11_checkSlots_117 L2' K' σ x1 y0 := by
  unfold mp_X11_checkSlots_117 at h ⊢
  exact ⟨h.1, mo_X11_note (fun σ3 h3 => mo_X11_checkSlots_131 hL2 hK h3) h.2⟩
theorem mo_X11_checkSlots_116 {L2 L2' : sm_S → Int32 → Prop} (hL2 : ∀ z0 z1, L2 z0 z1 → L2' z0 z1) {K K' : sm_S → Prop} (hK : ∀ s, K s → K' s) {σ : sm_S} {x1 : Int32} (h : mp_X11_checkSlots_116 L2 K σ x1) : mp_X11_checkSlots_116 L2' K' σ x1 := by
  unfold mp_X11_checkSlots_116 at h ⊢
  exact mo_X11_checkSlots_117 hL2 hK h
theorem mo_X11_checkSlots_112 {L2 L2' : sm_S → Int32 → Prop} (hL2 : ∀ z0 z1, L2 z0 z1 → L2' z0 z1) {K K' : sm_S → Prop} (hK : ∀ s, K s → K' s) {σ : sm_S} {x1 : Int32} (h : mp_X11_checkSlots_112 L2 K σ x1) : mp_X11_checkSlots_112 L2' K' σ x1 := by
  unfold mp_X11_checkSlots_112 at h ⊢
  exact mo_X11_checkSlots_117 hL2 hK h
theorem mo_X11_checkSlots_67 {L2 L2' : sm_S → Int32 → Prop} (hL2 : ∀ z0 z1, L2 z0 z1 → L2' z0 z1) {K K' : sm_S → Prop} (hK : ∀ s, K s → K' s) {σ : sm_S} {x1 : Int32} {x2 : Int32} {x3 : Int32} {y0 : Int32} (h : mp_X11_checkSlots_67 L2 K σ x1 x2 x3 y0) : mp_X11_checkSlots_67 L2' K' σ x1 x2 x3 y0 := by
  unfold mp_X11_checkSlots_67 at h ⊢
  exact ⟨fun h1 => mo_X11_checkSlots_116 hL2 hK (h.1 h1), fun h2 => ⟨(h.2 h2).1, ⟨fun h5 => mo_X11_checkSlots_116 hL2 hK ((h.2 h2).2.1 h5), fun h6 => ⟨fun h7 => mo_X11_checkSlots_112 hL2 hK (((h.2 h2).2.2 h6).1 h7), fun h8 => ⟨fun h9 => mo_X11_checkSlots_112 hL2 hK ((((h.2 h2).2.2 h6).2 h8).1 h9), fun h10 => mo_X11_isLike (fun r10 σ9 h11 => ⟨fun h12 => mo_X11_checkSlots_116 hL2 hK (h11.1 h12), fun h13 => mo_X11_checkSlots_112 hL2 hK (h11.2 h13)⟩) ((((h.2 h2).2.2 h6).2 h8).2 h10)⟩⟩⟩⟩⟩
theorem mo_X11_checkSlots_2 {K K' : sm_S → Prop} (hK : ∀ s, K s → K' s) {n2 : Nat} {σ : sm_S} {x1 : Int32} (h : mp_X11_checkSlots_2 K n2 σ x1) : mp_X11_checkSlots_2 K' n2 σ x1 := by
  suffices g : ∀ (σ : sm_S) (x1 : Int32), mp_X11_checkSlots_2 K n2 σ x1 → mp_X11_checkSlots_2 K' n2 σ x1 from g _ _ h
  clear h
  induction n2 with
  | zero => exact fun _ _ h => h.elim
  | succ n2 ih2 =>
    intro σ x1 h
    unfold mp_X11_checkSlots_2 at h ⊢
    exact ⟨fun h1 => hK _ (h.1 h1), fun h2 => fun v13 e4 => ⟨((h.2 h2) v13 e4).1, fun v15 e8 => ⟨(((h.2 h2) v13 e4).2 v15 e8).1, ⟨fun h11 => mo_X11_checkSlots_131 ih2 hK ((((h.2 h2) v13 e4).2 v15 e8).2.1 h11), fun h12 => ⟨((((h.2 h2) v13 e4).2 v15 e8).2.2 h12).1, ⟨fun h15 => ⟨(((((h.2 h2) v13 e4).2 v15 e8).2.2 h12).2.1 h15).1, ⟨(((((h.2 h2) v13 e4).2 v15 e8).2.2 h12).2.1 h15).2.1, mo_X11_checkSlots_67 ih2 hK (((((h.2 h2) v13 e4).2 v15 e8).2.2 h12).2.1 h15).2.2⟩⟩, fun h20 => mo_X11_checkSlots_67 ih2 hK (((((h.2 h2) v13 e4).2 v15 e8).2.2 h12).2.2 h20)⟩⟩⟩⟩⟩⟩
theorem mo_X11_checkSlots {σ : sm_S}  {K K' : sm_S → Prop} (hK : ∀ s, K s → K' s) (h : mp_X11_checkSlots σ  K) : mp_X11_checkSlots σ  K' := by
  unfold mp_X11_checkSlots at h ⊢
  exact h.elim (fun n2 h1 => ⟨n2, mo_X11_checkSlots_2 hK h1⟩)
theorem mo_X11_checkCode_243 {L143 L143' : sm_S → Int32 → Int32 → Prop} (hL143 : ∀ z0 z1 z2, L143 z0 z1 z2 → L143' z0 z1 z2) {K K' : sm_S → Prop} (hK : ∀ s, K s → K' s) {σ : sm_S} {x1 : Int32} {x2 : Int32} {x3 : Int32} {y1 : Int32} {y2 : Int32} (h : mp_X11_checkCode_243 L143 K σ x1 x2 x3 y1 y2) : mp_X11_checkCode_243 L143' K' σ x1 x2 x3 y1 y2 := by
  unfold mp_X11_checkCode_243 at h ⊢
  exact mo_X11_note (fun σ1 h1 => mo_X11_two (fun r3 σ2 h2 => mo_X11_isBegin (fun r5 σ4 h3 => mo_X11_note (fun σ6 h4 => fun v7 e6 => hL143 _ _ _ (h4 v7 e6)) h3) h2) h1) h
theorem mo_X11_checkCode_238 {L143 L143' : sm_S → Int32 → Int32 → Prop} (hL143 : ∀ z0 z1 z2, L143 z0 z1 z2 → L143' z0 z1 z2) {K K' : sm_S → Prop} (hK : ∀ s, K s → K' s) {σ : sm_S} {x1 : Int32} {x2 : Int32} {x3 : Int32} {y1 : Int32} (h : mp_X11_checkCode_238 L143 K σ x1 x2 x3 y1) : mp_X11_checkCode_238 L143' K' σ x1 x2 x3 y1 := by
  unfold mp_X11_checkCode_238 at h ⊢
  exact mo_X11_checkCode_243 hL143 hK h
theorem mo_X11_checkCode_200 {L143 L143' : sm_S → Int32 → Int32 → Prop} (hL143 : ∀ z0 z1 z2, L143 z0 z1 z2 → L143' z0 z1 z2) {K K' : sm_S → Prop} (hK : ∀ s, K s → K' s) {σ : sm_S} {x1 : Int32} {x2 : Int32} {x3 : Int32} {y1 : Int32} {y2 : Int32} (h : mp_X11_checkCode_200 L143 K σ x1 x2 x3 y1 y2) : mp_X11_checkCode_200 L143' K' σ x1 x2 x3 y1 y2 := by
  unfold mp_X11_checkCode_200 at h ⊢
  exact mo_X11_note (fun σ8 h1 => mo_X11_two (fun r10 σ9 h2 => mo_X11_isBegin (fun r12 σ11 h3 => ⟨fun h4 => mo_X11_checkCode_238 hL143 hK (h3.1 h4), fun h5 => mo_X11_two (fun r15 σ14 h6 => ⟨h6.1, ⟨fun h9 => mo_X11_checkCode_243 hL143 hK (h6.2.1 h9), fun h10 => mo_X11_checkCode_238 hL143 hK (h6.2.2 h10)⟩⟩) (h3.2 h5)⟩) h2) h1) h
theorem mo_X11_checkCode_199 {L143 L143' : sm_S → Int32 → Int32 → Prop} (hL143 : ∀ z0 z1 z2, L143 z0 z1 z2 → L143' z0 z1 z2) {K K' : sm_S → Prop} (hK : ∀ s, K s → K' s) {σ : sm_S} {x1 : Int32} {x2 : Int32} {x3 : Int32} {y1 : Int32} (h : mp_X11_checkCode_199 L143 K σ x1 x2 x3 y1) : mp_X11_checkCode_199 L143' K' σ x1 x2 x3 y1 := by
  unfold mp_X11_checkCode_199 at h ⊢
  exact mo_X11_checkCode_200 hL143 hK h
theorem mo_X11_checkCode_143 {K K' : sm_S → Prop} (hK : ∀ s, K s → K' s) {n143 : Nat} {σ : sm_S} {x1 : Int32} {x2 : Int32} (h : mp_X11_checkCode_143 K n143 σ x1 x2) : mp_X11_checkCode_143 K' n143 σ x1 x2 := by
  suffices g : ∀ (σ : sm_S) (x1 : Int32) (x2 : Int32), mp_X11_checkCode_143 K n143 σ x1 x2 → mp_X11_checkCode_143 K' n143 σ x1 x2 from g _ _ _ h
  clear h
  induction n143 with
  | zero => exact fun _ _ _ h => h.elim
  | succ n143 ih143 =>
    intro σ x1 x2 h
    unfold mp_X11_checkCode_143 at h ⊢
    exact ⟨h.1, ⟨fun h3 => hK _ (h.2.1 h3), fun h4 => ⟨(h.2.2 h4).1, fun v21 e8 => mo_X11_two (fun r23 σ22 h9 => mo_X11_isBegin (fun r25 σ24 h10 => ⟨fun h11 => mo_X11_checkCode_199 ih143 hK (h10.1 h11), fun h12 => mo_X11_two (fun r28 σ27 h13 => mo_X11_two (fun r30 σ29 h14 => ⟨fun h15 => mo_X11_checkCode_199 ih143 hK (h14.1 h15), fun h16 => mo_X11_checkCode_200 ih143 hK (h14.2 h16)⟩) h13) (h10.2 h12)⟩) h9) ((h.2.2 h4).2 v21 e8)⟩⟩⟩
theorem mo_X11_checkCode_135 {L7 L7' : sm_S → Int32 → Int32 → Prop} (hL7 : ∀ z0 z1 z2, L7 z0 z1 z2 → L7' z0 z1 z2) {K K' : sm_S → Prop} (hK : ∀ s, K s → K' s) {σ : sm_S} {x1 : Int32} {x2 : Int32} (h : mp_X11_checkCode_135 L7 K σ x1 x2) : mp_X11_checkCode_135 L7' K' σ x1 x2 := by
  unfold mp_X11_checkCode_135 at h ⊢
  exact fun v32 e2 => hL7 _ _ _ (h v32 e2)
theorem mo_X11_checkCode_132 {L7 L7' : sm_S → Int32 → Int32 → Prop} (hL7 : ∀ z0 z1 z2, L7 z0 z1 z2 → L7' z0 z1 z2) {K K' : sm_S → Prop} (hK : ∀ s, K s → K' s) {σ : sm_S} {x1 : Int32} {x2 : Int32} {y1 : Int32} {y2 : Int32} (h : mp_X11_checkCode_132 L7 K σ x1 x2 y1 y2) : mp_X11_checkCode_132 L7' K' σ x1 x2 y1 y2 := by
  unfold mp_X11_checkCode_132 at h ⊢
  exact mo_X11_note (fun σ33 h1 => mo_X11_checkCode_135 hL7 hK h1) h
theorem mo_X11_checkCode_102 {L7 L7' : sm_S → Int32 → Int32 → Prop} (hL7 : ∀ z0 z1 z2, L7 z0 z1 z2 → L7' z0 z1 z2) {K K' : sm_S → Prop} (hK : ∀ s, K s → K' s) {σ : sm_S} {x1 : Int32} {x2 : Int32} {x3 : Int32} (h : mp_X11_checkCode_102 L7 K σ x1 x2 x3) : mp_X11_checkCode_102 L7' K' σ x1 x2 x3 := by
  unfold mp_X11_checkCode_102 at h ⊢
  exact ⟨fun h1 => mo_X11_checkCode_135 hL7 hK (h.1 h1), fun h2 => ⟨(h.2 h2).1, ⟨fun h5 => mo_X11_checkCode_132 hL7 hK ((h.2 h2).2.1 h5), fun h6 => mo_X11_checkCode_132 hL7 hK ((h.2 h2).2.2 h6)⟩⟩⟩
theorem mo_X11_checkCode_77 {L7 L7' : sm_S → Int32 → Int32 → Prop} (hL7 : ∀ z0 z1 z2, L7 z0 z1 z2 → L7' z0 z1 z2) {K K' : sm_S → Prop} (hK : ∀ s, K s → K' s) {σ : sm_S} {x1 : Int32} {x2 : Int32} {x3 : Int32} {y0 : Int32} (h : mp_X11_checkCode_77 L7 K σ x1 x2 x3 y0) : mp_X11_checkCode_77 L7' K' σ x1 x2 x3 y0 := by
  unfold mp_X11_checkCode_77 at h ⊢
  exact ⟨fun h1 => mo_X11_checkCode_102 hL7 hK (h.1 h1), fun h2 => mo_X11_two (fun r39 σ38 h3 => mo_X11_isBegin (fun r41 σ40 h4 => mo_X11_note (fun σ42 h5 => mo_X11_checkCode_102 hL7 hK h5) h4) h3) (h.2 h2)⟩
theorem mo_X11_checkCode_76 {L7 L7' : sm_S → Int32 → Int32 → Prop} (hL7 : ∀ z0 z1 z2, L7 z0 z1 z2 → L7' z0 z1 z2) {K K' : sm_S → Prop} (hK : ∀ s, K s → K' s) {σ : sm_S} {x1 : Int32} {x2 : Int32} {x3 : Int32} (h : mp_X11_checkCode_76 L7 K σ x1 x2 x3) : mp_X11_checkCode_76 L7' K' σ x1 x2 x3 := by
  unfold mp_X11_checkCode_76 at h ⊢
  exact mo_X11_checkCode_77 hL7 hK h
theorem mo_X11_checkCode_52 {L7 L7' : sm_S → Int32 → Int32 → Prop} (hL7 : ∀ z0 z1 z2, L7 z0 z1 z2 → L7' z0 z1 z2) {K K' : sm_S → Prop} (hK : ∀ s, K s → K' s) {σ : sm_S} {x1 : Int32} {x2 : Int32} {x3 : Int32} (h : mp_X11_checkCode_52 L7 K σ x1 x2 x3) : mp_X11_checkCode_52 L7' K' σ x1 x2 x3 := by
  unfold mp_X11_checkCode_52 at h ⊢
  exact mo_X11_checkCode_77 hL7 hK h
theorem mo_X11_checkCode_7 {K K' : sm_S → Prop} (hK : ∀ s, K s → K' s) {n7 : Nat} {σ : sm_S} {x1 : Int32} {x2 : Int32} (h : mp_X11_checkCode_7 K n7 σ x1 x2) : mp_X11_checkCode_7 K' n7 σ x1 x2 := by
  suffices g : ∀ (σ : sm_S) (x1 : Int32) (x2 : Int32), mp_X11_checkCode_7 K n7 σ x1 x2 → mp_X11_checkCode_7 K' n7 σ x1 x2 from g _ _ _ h
  clear h
  induction n7 with
  | zero => exact fun _ _ _ h => h.elim
  | succ n7 ih7 =>
    intro σ x1 x2 h
    unfold mp_X11_checkCode_7 at h ⊢
    exact ⟨h.1, ⟨h.2.1, ⟨fun h5 => (h.2.2.1 h5).elim (fun n143 h6 => ⟨n143, mo_X11_checkCode_143 hK h6⟩), fun h7 => ⟨(h.2.2.2 h7).1, ⟨fun h10 => mo_X11_checkCode_135 ih7 hK ((h.2.2.2 h7).2.1 h10), fun h11 => ⟨((h.2.2.2 h7).2.2 h11).1, fun v49 e15 => ⟨fun h16 => mo_X11_checkCode_52 ih7 hK ((((h.2.2.2 h7).2.2 h11).2 v49 e15).1 h16), fun h17 => ⟨fun h18 => ⟨fun h19 => mo_X11_checkCode_76 ih7 hK ((((((h.2.2.2 h7).2.2 h11).2 v49 e15).2 h17).1 h18).1 h19), fun h20 => ⟨fun h21 => mo_X11_checkCode_76 ih7 hK (((((((h.2.2.2 h7).2.2 h11).2 v49 e15).2 h17).1 h18).2 h20).1 h21), fun h22 => mo_X11_checkCode_77 ih7 hK (((((((h.2.2.2 h7).2.2 h11).2 v49 e15).2 h17).1 h18).2 h20).2 h22)⟩⟩, fun h23 => mo_X11_checkCode_52 ih7 hK (((((h.2.2.2 h7).2.2 h11).2 v49 e15).2 h17).2 h23)⟩⟩⟩⟩⟩⟩⟩⟩
theorem mo_X11_checkCode {σ : sm_S} {p1 : Int32} {K K' : sm_S → Prop} (hK : ∀ s, K s → K' s) (h : mp_X11_checkCode σ p1 K) : mp_X11_checkCode σ p1 K' := by
  unfold mp_X11_checkCode at h ⊢
  exact ⟨h.1, fun v55 e4 => (h.2 v55 e4).elim (fun n7 h5 => ⟨n7, mo_X11_checkCode_7 hK h5⟩)⟩
theorem mo_X11_end_150 {K K' : Int32 → sm_S → Prop} (hK : ∀ r s, K r s → K' r s) {σ : sm_S} {y0 : Int32} (h : mp_X11_end_150 K σ y0) : mp_X11_end_150 K' σ y0 := by
  unfold mp_X11_end_150 at h ⊢
  exact hK _ _ h
theorem mo_X11_end_126 {K K' : Int32 → sm_S → Prop} (hK : ∀ r s, K r s → K' r s) {σ : sm_S} {y1 : Int32} (h : mp_X11_end_126 K σ y1) : mp_X11_end_126 K' σ y1 := by
  unfold mp_X11_end_126 at h ⊢
  exact ⟨h.1, fun σ2 e4 => ⟨fun h5 => mo_X11_end_150 hK ((h.2 σ2 e4).1 h5), fun h6 => mo_X11_end_150 hK ((h.2 σ2 e4).2 h6)⟩⟩
theorem mo_X11_end_113 {K K' : Int32 → sm_S → Prop} (hK : ∀ r s, K r s → K' r s) {σ : sm_S} (h : mp_X11_end_113 K σ) : mp_X11_end_113 K' σ := by
  unfold mp_X11_end_113 at h ⊢
  exact ⟨fun h1 => mo_X11_end_126 hK (h.1 h1), fun h2 => mo_X11_end_126 hK (h.2 h2)⟩
theorem mo_X11_end_94 {K K' : Int32 → sm_S → Prop} (hK : ∀ r s, K r s → K' r s) {n94 : Nat} {σ : sm_S} {x2 : Int32} (h : mp_X11_end_94 K n94 σ x2) : mp_X11_end_94 K' n94 σ x2 := by
  suffices g : ∀ (σ : sm_S) (x2 : Int32), mp_X11_end_94 K n94 σ x2 → mp_X11_end_94 K' n94 σ x2 from g _ _ h
  clear h
  induction n94 with
  | zero => exact fun _ _ h => h.elim
  | succ n94 ih94 =>
    intro σ x2 h
    unfold mp_X11_end_94 at h ⊢
    exact ⟨fun h1 => mo_X11_end_113 hK (h.1 h1), fun h2 => mo_X11_checkCode (fun σ6 h3 => fun v7 e5 => ih94 _ _ (h3 v7 e5)) (h.2 h2)⟩
theorem mo_X11_end_26 {K K' : Int32 → sm_S → Prop} (hK : ∀ r s, K r s → K' r s) {n26 : Nat} {σ : sm_S} {x1 : Int32} {x2 : Int32} (h : mp_X11_end_26 K n26 σ x1 x2) : mp_X11_end_26 K' n26 σ x1 x2 := by
  suffices g : ∀ (σ : sm_S) (x1 : Int32) (x2 : Int32), mp_X11_end_26 K n26 σ x1 x2 → mp_X11_end_26 K' n26 σ x1 x2 from g _ _ _ h
  clear h
  induction n26 with
  | zero => exact fun _ _ _ h => h.elim
  | succ n26 ih26 =>
    intro σ x1 x2 h
    unfold mp_X11_end_26 at h ⊢
    exact ⟨fun h1 => fun σ9 e3 => fun σ10 e5 => fun σ11 e7 => fun σ12 e9 => fun σ13 e11 => mo_X11_readAll (fun r15 σ14 h12 => ⟨fun h13 => mo_X11_end_113 hK (h12.1 h13), fun h14 => mo_X11_checkSlots (fun σ17 h15 => h15.elim (fun n94 h16 => ⟨n94, mo_X11_end_94 hK h16⟩)) (h12.2 h14)⟩) ((((((h.1 h1) σ9 e3) σ10 e5) σ11 e7) σ12 e9) σ13 e11), fun h17 => ⟨(h.2 h17).1, ⟨(h.2 h17).2.1, fun σ20 e23 => ⟨((h.2 h17).2.2 σ20 e23).1, fun σ22 e27 => fun v23 e29 => ih26 _ _ _ ((((h.2 h17).2.2 σ20 e23).2 σ22 e27) v23 e29)⟩⟩⟩⟩
theorem mo_X11_end_12 {K K' : Int32 → sm_S → Prop} (hK : ∀ r s, K r s → K' r s) {σ : sm_S} (h : mp_X11_end_12 K σ) : mp_X11_end_12 K' σ := by
  unfold mp_X11_end_12 at h ⊢
  exact fun σ24 e2 => hK _ _ (h σ24 e2)
theorem mo_X11_end {σ : sm_S} {p1 : Int32} {K K' : Int32 → sm_S → Prop} (hK : ∀ r s, K r s → K' r s) (h : mp_X11_end σ p1 K) : mp_X11_end σ p1 K' := by
  unfold mp_X11_end at h ⊢
  exact ⟨fun h1 => mo_X11_end_12 hK (h.1 h1), fun h2 => ⟨fun h3 => fun σ27 e5 => (((h.2 h2).1 h3) σ27 e5).elim (fun n26 h6 => ⟨n26, mo_X11_end_26 hK h6⟩), fun h7 => mo_X11_end_12 hK ((h.2 h2).2 h7)⟩⟩
theorem mo_X11_isClass_24 {K K' : Int32 → sm_S → Prop} (hK : ∀ r s, K r s → K' r s) {σ : sm_S} {y0 : Int32} (h : mp_X11_isClass_24 K σ y0) : mp_X11_isClass_24 K' σ y0 := by
  unfold mp_X11_isClass_24 at h ⊢
  exact ⟨h.1, hK _ _ h.2⟩
theorem mo_X11_isClass_23 {K K' : Int32 → sm_S → Prop} (hK : ∀ r s, K r s → K' r s) {σ : sm_S} (h : mp_X11_isClass_23 K σ) : mp_X11_isClass_23 K' σ := by
  unfold mp_X11_isClass_23 at h ⊢
  exact mo_X11_isClass_24 hK h
theorem mo_X11_isClass {σ : sm_S} {p1 : Int32} {K K' : Int32 → sm_S → Prop} (hK : ∀ r s, K r s → K' r s) (h : mp_X11_isClass σ p1 K) : mp_X11_isClass σ p1 K' := by
  unfold mp_X11_isClass at h ⊢
  exact ⟨fun h1 => mo_X11_isClass_23 hK (h.1 h1), fun h2 => ⟨fun h3 => mo_X11_isClass_23 hK ((h.2 h2).1 h3), fun h4 => ⟨fun h5 => mo_X11_isClass_23 hK (((h.2 h2).2 h4).1 h5), fun h6 => mo_X11_isClass_24 hK (((h.2 h2).2 h4).2 h6)⟩⟩⟩
theorem mo_X11_isA_49 {K K' : Int32 → sm_S → Prop} (hK : ∀ r s, K r s → K' r s) {σ : sm_S} {y0 : Int32} (h : mp_X11_isA_49 K σ y0) : mp_X11_isA_49 K' σ y0 := by
  unfold mp_X11_isA_49 at h ⊢
  exact ⟨h.1, hK _ _ h.2⟩
theorem mo_X11_isA_39 {K K' : Int32 → sm_S → Prop} (hK : ∀ r s, K r s → K' r s) {σ : sm_S} {x2 : Int32} {x3 : Int32} (h : mp_X11_isA_39 K σ x2 x3) : mp_X11_isA_39 K' σ x2 x3 := by
  unfold mp_X11_isA_39 at h ⊢
  exact ⟨fun h1 => mo_X11_isA_49 hK (h.1 h1), fun h2 => mo_X11_isA_49 hK (h.2 h2)⟩
theorem mo_X11_isA_20 {K K' : Int32 → sm_S → Prop} (hK : ∀ r s, K r s → K' r s) {n20 : Nat} {σ : sm_S} {x2 : Int32} {x3 : Int32} (h : mp_X11_isA_20 K n20 σ x2 x3) : mp_X11_isA_20 K' n20 σ x2 x3 := by
  suffices g : ∀ (σ : sm_S) (x2 : Int32) (x3 : Int32), mp_X11_isA_20 K n20 σ x2 x3 → mp_X11_isA_20 K' n20 σ x2 x3 from g _ _ _ h
  clear h
  induction n20 with
  | zero => exact fun _ _ _ h => h.elim
  | succ n20 ih20 =>
    intro σ x2 x3 h
    unfold mp_X11_isA_20 at h ⊢
    exact ⟨fun h1 => mo_X11_isA_39 hK (h.1 h1), fun h2 => ⟨fun h3 => mo_X11_isA_39 hK ((h.2 h2).1 h3), fun h4 => ⟨((h.2 h2).2 h4).1, fun v6 e8 => ih20 _ _ _ (((h.2 h2).2 h4).2 v6 e8)⟩⟩⟩
theorem mo_X11_isA_16 {K K' : Int32 → sm_S → Prop} (hK : ∀ r s, K r s → K' r s) {σ : sm_S} (h : mp_X11_isA_16 K σ) : mp_X11_isA_16 K' σ := by
  unfold mp_X11_isA_16 at h ⊢
  exact hK _ _ h
theorem mo_X11_isA {σ : sm_S} {p1 : Int32} {p2 : Int32} {K K' : Int32 → sm_S → Prop} (hK : ∀ r s, K r s → K' r s) (h : mp_X11_isA σ p1 p2 K) : mp_X11_isA σ p1 p2 K' := by
  unfold mp_X11_isA at h ⊢
  exact mo_X11_isClass (fun r8 σ7 h1 => ⟨fun h2 => mo_X11_isA_16 hK (h1.1 h2), fun h3 => mo_X11_isClass (fun r11 σ10 h4 => ⟨fun h5 => (h4.1 h5).elim (fun n20 h6 => ⟨n20, mo_X11_isA_20 hK h6⟩), fun h7 => mo_X11_isA_16 hK (h4.2 h7)⟩) (h1.2 h3)⟩) h
theorem mo_X12_isRow_17 {K K' : Int32 → sm_S → Prop} (hK : ∀ r s, K r s → K' r s) {σ : sm_S} {y0 : Int32} (h : mp_X12_isRow_17 K σ y0) : mp_X12_isRow_17 K' σ y0 := by
  unfold mp_X12_isRow_17 at h ⊢
  exact ⟨h.1, hK _ _ h.2⟩
theorem mo_X12_isRow_16 {K K' : Int32 → sm_S → Prop} (hK : ∀ r s, K r s → K' r s) {σ : sm_S} (h : mp_X12_isRow_16 K σ) : mp_X12_isRow_16 K' σ := by
  unfold mp_X12_isRow_16 at h ⊢
  exact mo_X12_isRow_17 hK h
theorem mo_X12_isRow {σ : sm_S} {p1 : Int32} {K K' : Int32 → sm_S → Prop} (hK : ∀ r s, K r s → K' r s) (h : mp_X12_isRow σ p1 K) : mp_X12_isRow σ p1 K' := by
  unfold mp_X12_isRow at h ⊢
  exact ⟨fun h1 => mo_X12_isRow_16 hK (h.1 h1), fun h2 => ⟨fun h3 => mo_X12_isRow_16 hK ((h.2 h2).1 h3), fun h4 => mo_X12_isRow_17 hK ((h.2 h2).2 h4)⟩⟩
theorem mo_X12_isSome_15 {K K' : Int32 → sm_S → Prop} (hK : ∀ r s, K r s → K' r s) {σ : sm_S} {y0 : Int32} (h : mp_X12_isSome_15 K σ y0) : mp_X12_isSome_15 K' σ y0 := by
  unfold mp_X12_isSome_15 at h ⊢
  exact ⟨h.1, hK _ _ h.2⟩
theorem mo_X12_isSome_14 {K K' : Int32 → sm_S → Prop} (hK : ∀ r s, K r s → K' r s) {σ : sm_S} (h : mp_X12_isSome_14 K σ) : mp_X12_isSome_14 K' σ := by
  unfold mp_X12_isSome_14 at h ⊢
  exact mo_X12_isSome_15 hK h
theorem mo_X12_isSome {σ : sm_S} {p1 : Int32} {K K' : Int32 → sm_S → Prop} (hK : ∀ r s, K r s → K' r s) (h : mp_X12_isSome σ p1 K) : mp_X12_isSome σ p1 K' := by
  unfold mp_X12_isSome at h ⊢
  exact ⟨fun h1 => mo_X12_isSome_14 hK (h.1 h1), fun h2 => ⟨fun h3 => mo_X12_isSome_14 hK ((h.2 h2).1 h3), fun h4 => mo_X12_isSome_15 hK ((h.2 h2).2 h4)⟩⟩
theorem mo_X12_isReference_15 {K K' : Int32 → sm_S → Prop} (hK : ∀ r s, K r s → K' r s) {σ : sm_S} {y0 : Int32} (h : mp_X12_isReference_15 K σ y0) : mp_X12_isReference_15 K' σ y0 := by
  unfold mp_X12_isReference_15 at h ⊢
  exact ⟨h.1, hK _ _ h.2⟩
theorem mo_X12_isReference_14 {K K' : Int32 → sm_S → Prop} (hK : ∀ r s, K r s → K' r s) {σ : sm_S} (h : mp_X12_isReference_14 K σ) : mp_X12_isReference_14 K' σ := by
  unfold mp_X12_isReference_14 at h ⊢
  exact mo_X12_isReference_15 hK h
theorem mo_X12_isReference {σ : sm_S} {p1 : Int32} {K K' : Int32 → sm_S → Prop} (hK : ∀ r s, K r s → K' r s) (h : mp_X12_isReference σ p1 K) : mp_X12_isReference σ p1 K' := by
  unfold mp_X12_isReference at h ⊢
  exact ⟨fun h1 => mo_X12_isReference_14 hK (h.1 h1), fun h2 => ⟨fun h3 => mo_X12_isReference_14 hK ((h.2 h2).1 h3), fun h4 => mo_X12_isReference_15 hK ((h.2 h2).2 h4)⟩⟩
theorem mo_X12_goes_59 {K K' : Int32 → sm_S → Prop} (hK : ∀ r s, K r s → K' r s) {σ : sm_S} {y0 : Int32} (h : mp_X12_goes_59 K σ y0) : mp_X12_goes_59 K' σ y0 := by
  unfold mp_X12_goes_59 at h ⊢
  exact ⟨h.1, hK _ _ h.2⟩
theorem mo_X12_goes_58 {K K' : Int32 → sm_S → Prop} (hK : ∀ r s, K r s → K' r s) {σ : sm_S} (h : mp_X12_goes_58 K σ) : mp_X12_goes_58 K' σ := by
  unfold mp_X12_goes_58 at h ⊢
  exact mo_X12_goes_59 hK h
theorem mo_X12_goes_54 {K K' : Int32 → sm_S → Prop} (hK : ∀ r s, K r s → K' r s) {σ : sm_S} (h : mp_X12_goes_54 K σ) : mp_X12_goes_54 K' σ := by
  unfold mp_X12_goes_54 at h ⊢
  exact mo_X12_goes_59 hK h
theorem mo_X12_goes_24 {K K' : Int32 → sm_S → Prop} (hK : ∀ r s, K r s → K' r s) {σ : sm_S} {x1 : Int32} {x2 : Int32} (h : mp_X12_goes_24 K σ x1 x2) : mp_X12_goes_24 K' σ x1 x2 := by
  unfold mp_X12_goes_24 at h ⊢
  exact mo_X12_isSome (fun r3 σ2 h1 => ⟨fun h2 => mo_X12_goes_58 hK (h1.1 h2), fun h3 => mo_X12_isSome (fun r6 σ5 h4 => ⟨fun h5 => mo_X12_goes_58 hK (h4.1 h5), fun h6 => mo_X11_isA (fun r9 σ8 h7 => ⟨fun h8 => mo_X12_goes_58 hK (h7.1 h8), fun h9 => mo_X12_goes_54 hK (h7.2 h9)⟩) (h4.2 h6)⟩) (h1.2 h3)⟩) h
theorem mo_X12_goes {σ : sm_S} {p1 : Int32} {p2 : Int32} {K K' : Int32 → sm_S → Prop} (hK : ∀ r s, K r s → K' r s) (h : mp_X12_goes σ p1 p2 K) : mp_X12_goes σ p1 p2 K' := by
  unfold mp_X12_goes at h ⊢
  exact ⟨fun h1 => mo_X12_goes_54 hK (h.1 h1), fun h2 => ⟨fun h3 => mo_X12_goes_24 hK ((h.2 h2).1 h3), fun h4 => mo_X12_isReference (fun r14 σ13 h5 => ⟨fun h6 => mo_X12_goes_24 hK (h5.1 h6), fun h7 => ⟨fun h8 => mo_X12_goes_54 hK ((h5.2 h7).1 h8), fun h9 => mo_X12_goes_24 hK ((h5.2 h7).2 h9)⟩⟩) ((h.2 h2).2 h4)⟩⟩
theorem mo_X12_meet_110 {K K' : Int32 → sm_S → Prop} (hK : ∀ r s, K r s → K' r s) {σ : sm_S} (h : mp_X12_meet_110 K σ) : mp_X12_meet_110 K' σ := by
  unfold mp_X12_meet_110 at h ⊢
  exact hK _ _ h
theorem mo_X12_meet_109 {K K' : Int32 → sm_S → Prop} (hK : ∀ r s, K r s → K' r s) {σ : sm_S} {y0 : Int32} (h : mp_X12_meet_109 K σ y0) : mp_X12_meet_109 K' σ y0 := by
  unfold mp_X12_meet_109 at h ⊢
  exact hK _ _ h
theorem mo_X12_meet_97 {K K' : Int32 → sm_S → Prop} (hK : ∀ r s, K r s → K' r s) {σ : sm_S} {x3 : Int32} (h : mp_X12_meet_97 K σ x3) : mp_X12_meet_97 K' σ x3 := by
  unfold mp_X12_meet_97 at h ⊢
  exact ⟨fun h1 => mo_X12_meet_109 hK (h.1 h1), fun h2 => mo_X12_meet_109 hK (h.2 h2)⟩
theorem mo_X12_meet_66 {K K' : Int32 → sm_S → Prop} (hK : ∀ r s, K r s → K' r s) {n66 : Nat} {σ : sm_S} {x2 : Int32} {x3 : Int32} (h : mp_X12_meet_66 K n66 σ x2 x3) : mp_X12_meet_66 K' n66 σ x2 x3 := by
  suffices g : ∀ (σ : sm_S) (x2 : Int32) (x3 : Int32), mp_X12_meet_66 K n66 σ x2 x3 → mp_X12_meet_66 K' n66 σ x2 x3 from g _ _ _ h
  clear h
  induction n66 with
  | zero => exact fun _ _ _ h => h.elim
  | succ n66 ih66 =>
    intro σ x2 x3 h
    unfold mp_X12_meet_66 at h ⊢
    exact ⟨fun h1 => mo_X12_meet_97 hK (h.1 h1), fun h2 => mo_X11_isA (fun r4 σ3 h3 => ⟨fun h4 => mo_X12_meet_97 hK (h3.1 h4), fun h5 => ⟨(h3.2 h5).1, fun v7 e9 => ih66 _ _ _ ((h3.2 h5).2 v7 e9)⟩⟩) (h.2 h2)⟩
theorem mo_X12_meet_47 {K K' : Int32 → sm_S → Prop} (hK : ∀ r s, K r s → K' r s) {σ : sm_S} {y0 : Int32} (h : mp_X12_meet_47 K σ y0) : mp_X12_meet_47 K' σ y0 := by
  unfold mp_X12_meet_47 at h ⊢
  exact hK _ _ h
theorem mo_X12_meet_36 {K K' : Int32 → sm_S → Prop} (hK : ∀ r s, K r s → K' r s) {σ : sm_S} {x1 : Int32} {x2 : Int32} (h : mp_X12_meet_36 K σ x1 x2) : mp_X12_meet_36 K' σ x1 x2 := by
  unfold mp_X12_meet_36 at h ⊢
  exact ⟨fun h1 => mo_X12_meet_47 hK (h.1 h1), fun h2 => mo_X12_meet_47 hK (h.2 h2)⟩
theorem mo_X12_meet_21 {K K' : Int32 → sm_S → Prop} (hK : ∀ r s, K r s → K' r s) {σ : sm_S} (h : mp_X12_meet_21 K σ) : mp_X12_meet_21 K' σ := by
  unfold mp_X12_meet_21 at h ⊢
  exact hK _ _ h
theorem mo_X12_meet {σ : sm_S} {p1 : Int32} {p2 : Int32} {K K' : Int32 → sm_S → Prop} (hK : ∀ r s, K r s → K' r s) (h : mp_X12_meet σ p1 p2 K) : mp_X12_meet σ p1 p2 K' := by
  unfold mp_X12_meet at h ⊢
  exact ⟨fun h1 => mo_X12_isReference (fun r11 σ10 h2 => ⟨fun h3 => mo_X12_meet_21 hK (h2.1 h3), fun h4 => mo_X12_isReference (fun r14 σ13 h5 => ⟨fun h6 => ⟨fun h7 => mo_X12_meet_36 hK ((h5.1 h6).1 h7), fun h8 => ⟨fun h9 => mo_X12_isSome (fun r19 σ18 h10 => ⟨fun h11 => mo_X12_meet_110 hK (h10.1 h11), fun h12 => mo_X12_isSome (fun r22 σ21 h13 => ⟨fun h14 => mo_X12_meet_110 hK (h13.1 h14), fun h15 => fun v24 e17 => ((h13.2 h15) v24 e17).elim (fun n66 h18 => ⟨n66, mo_X12_meet_66 hK h18⟩)⟩) (h10.2 h12)⟩) (((h5.1 h6).2 h8).1 h9), fun h19 => mo_X12_meet_36 hK (((h5.1 h6).2 h8).2 h19)⟩⟩, fun h20 => mo_X12_meet_21 hK (h5.2 h20)⟩) (h2.2 h4)⟩) (h.1 h1), fun h21 => hK _ _ (h.2 h21)⟩
theorem mo_X12_come_225 {L135 L135' : sm_S → Int32 → Int32 → Int32 → Prop} (hL135 : ∀ z0 z1 z2 z3, L135 z0 z1 z2 z3 → L135' z0 z1 z2 z3) {K K' : Int32 → sm_S → Prop} (hK : ∀ r s, K r s → K' r s) {σ : sm_S} {x3 : Int32} {x4 : Int32} {x5 : Int32} {x7 : Int32} {y1 : Int32} {y2 : Int32} (h : mp_X12_come_225 L135 K σ x3 x4 x5 x7 y1 y2) : mp_X12_come_225 L135' K' σ x3 x4 x5 x7 y1 y2 := by
  unfold mp_X12_come_225 at h ⊢
  exact ⟨h.1, fun σ2 e4 => ⟨(h.2 σ2 e4).1, fun σ4 e8 => fun v5 e10 => hL135 _ _ _ _ (((h.2 σ2 e4).2 σ4 e8) v5 e10)⟩⟩
theorem mo_X12_come_220 {L135 L135' : sm_S → Int32 → Int32 → Int32 → Prop} (hL135 : ∀ z0 z1 z2 z3, L135 z0 z1 z2 z3 → L135' z0 z1 z2 z3) {K K' : Int32 → sm_S → Prop} (hK : ∀ r s, K r s → K' r s) {σ : sm_S} {x3 : Int32} {x4 : Int32} {x5 : Int32} {x7 : Int32} {y1 : Int32} (h : mp_X12_come_220 L135 K σ x3 x4 x5 x7 y1) : mp_X12_come_220 L135' K' σ x3 x4 x5 x7 y1 := by
  unfold mp_X12_come_220 at h ⊢
  exact mo_X12_come_225 hL135 hK h
theorem mo_X12_come_197 {L135 L135' : sm_S → Int32 → Int32 → Int32 → Prop} (hL135 : ∀ z0 z1 z2 z3, L135 z0 z1 z2 z3 → L135' z0 z1 z2 z3) {K K' : Int32 → sm_S → Prop} (hK : ∀ r s, K r s → K' r s) {σ : sm_S} {x3 : Int32} {x4 : Int32} {x5 : Int32} {x6 : Int32} {x7 : Int32} (h : mp_X12_come_197 L135 K σ x3 x4 x5 x6 x7) : mp_X12_come_197 L135' K' σ x3 x4 x5 x6 x7 := by
  unfold mp_X12_come_197 at h ⊢
  exact ⟨h.1, ⟨fun h3 => mo_X12_come_220 hL135 hK (h.2.1 h3), fun h4 => ⟨fun h5 => mo_X12_come_225 hL135 hK ((h.2.2 h4).1 h5), fun h6 => mo_X12_come_220 hL135 hK ((h.2.2 h4).2 h6)⟩⟩⟩
theorem mo_X12_come_135 {K K' : Int32 → sm_S → Prop} (hK : ∀ r s, K r s → K' r s) {n135 : Nat} {σ : sm_S} {x3 : Int32} {x4 : Int32} {x5 : Int32} (h : mp_X12_come_135 K n135 σ x3 x4 x5) : mp_X12_come_135 K' n135 σ x3 x4 x5 := by
  suffices g : ∀ (σ : sm_S) (x3 : Int32) (x4 : Int32) (x5 : Int32), mp_X12_come_135 K n135 σ x3 x4 x5 → mp_X12_come_135 K' n135 σ x3 x4 x5 from g _ _ _ _ h
  clear h
  induction n135 with
  | zero => exact fun _ _ _ _ h => h.elim
  | succ n135 ih135 =>
    intro σ x3 x4 x5 h
    unfold mp_X12_come_135 at h ⊢
    exact ⟨fun h1 => hK _ _ (h.1 h1), fun h2 => ⟨(h.2 h2).1, fun v11 e6 => ⟨((h.2 h2).2 v11 e6).1, mo_X12_meet (fun r14 σ13 h9 => ⟨fun h10 => mo_X12_come_197 ih135 hK (h9.1 h10), fun h11 => ⟨fun h12 => mo_X12_come_197 ih135 hK ((h9.2 h11).1 h12), fun h13 => fun σ17 e15 => hK _ _ (((h9.2 h11).2 h13) σ17 e15)⟩⟩) ((h.2 h2).2 v11 e6).2⟩⟩⟩
theorem mo_X12_come_62 {K K' : Int32 → sm_S → Prop} (hK : ∀ r s, K r s → K' r s) {n62 : Nat} {σ : sm_S} {x3 : Int32} {x4 : Int32} {x5 : Int32} (h : mp_X12_come_62 K n62 σ x3 x4 x5) : mp_X12_come_62 K' n62 σ x3 x4 x5 := by
  suffices g : ∀ (σ : sm_S) (x3 : Int32) (x4 : Int32) (x5 : Int32), mp_X12_come_62 K n62 σ x3 x4 x5 → mp_X12_come_62 K' n62 σ x3 x4 x5 from g _ _ _ _ h
  clear h
  induction n62 with
  | zero => exact fun _ _ _ _ h => h.elim
  | succ n62 ih62 =>
    intro σ x3 x4 x5 h
    unfold mp_X12_come_62 at h ⊢
    exact ⟨fun h1 => ⟨(h.1 h1).1, fun σ20 e5 => hK _ _ ((h.1 h1).2 σ20 e5)⟩, fun h6 => ⟨(h.2 h6).1, ⟨(h.2 h6).2.1, fun σ23 e12 => fun v24 e14 => ih62 _ _ _ _ (((h.2 h6).2.2 σ23 e12) v24 e14)⟩⟩⟩
theorem mo_X12_come {σ : sm_S} {p1 : Int32} {p2 : Int32} {K K' : Int32 → sm_S → Prop} (hK : ∀ r s, K r s → K' r s) (h : mp_X12_come σ p1 p2 K) : mp_X12_come σ p1 p2 K' := by
  unfold mp_X12_come at h ⊢
  exact ⟨h.1, ⟨fun h3 => ⟨(h.2.1 h3).1, fun v28 e7 => ⟨((h.2.1 h3).2 v28 e7).1, fun v30 e11 => ⟨(((h.2.1 h3).2 v28 e7).2 v30 e11).1, ⟨fun h14 => ⟨((((h.2.1 h3).2 v28 e7).2 v30 e11).2.1 h14).1, ⟨fun h17 => (((((h.2.1 h3).2 v28 e7).2 v30 e11).2.1 h14).2.1 h17).elim (fun n135 h18 => ⟨n135, mo_X12_come_135 hK h18⟩), fun h19 => fun σ35 e21 => hK _ _ ((((((h.2.1 h3).2 v28 e7).2 v30 e11).2.1 h14).2.2 h19) σ35 e21)⟩⟩, fun h22 => ⟨((((h.2.1 h3).2 v28 e7).2 v30 e11).2.2 h22).1, fun σ37 e26 => (((((h.2.1 h3).2 v28 e7).2 v30 e11).2.2 h22).2 σ37 e26).elim (fun n62 h27 => ⟨n62, mo_X12_come_62 hK h27⟩)⟩⟩⟩⟩⟩, fun h28 => hK _ _ (h.2.2 h28)⟩⟩
theorem mo_X12_takeUp_12 {K K' : sm_S → Prop} (hK : ∀ s, K s → K' s) {n12 : Nat} {σ : sm_S} {x1 : Int32} {x2 : Int32} {x3 : Int32} (h : mp_X12_takeUp_12 K n12 σ x1 x2 x3) : mp_X12_takeUp_12 K' n12 σ x1 x2 x3 := by
  suffices g : ∀ (σ : sm_S) (x1 : Int32) (x2 : Int32) (x3 : Int32), mp_X12_takeUp_12 K n12 σ x1 x2 x3 → mp_X12_takeUp_12 K' n12 σ x1 x2 x3 from g _ _ _ _ h
  clear h
  induction n12 with
  | zero => exact fun _ _ _ _ h => h.elim
  | succ n12 ih12 =>
    intro σ x1 x2 x3 h
    unfold mp_X12_takeUp_12 at h ⊢
    exact ⟨h.1, ⟨fun h3 => hK _ (h.2.1 h3), fun h4 => ⟨(h.2.2 h4).1, ⟨(h.2.2 h4).2.1, fun σ5 e10 => fun v6 e12 => ih12 _ _ _ _ (((h.2.2 h4).2.2 σ5 e10) v6 e12)⟩⟩⟩⟩
theorem mo_X12_takeUp {σ : sm_S} {p1 : Int32} {p2 : Int32} {K K' : sm_S → Prop} (hK : ∀ s, K s → K' s) (h : mp_X12_takeUp σ p1 p2 K) : mp_X12_takeUp σ p1 p2 K' := by
  unfold mp_X12_takeUp at h ⊢
  exact ⟨h.1, fun σ8 e4 => (h.2 σ8 e4).elim (fun n12 h5 => ⟨n12, mo_X12_takeUp_12 hK h5⟩)⟩
theorem mo_X12_push {σ : sm_S} {p1 : Int32} {p2 : Int32} {K K' : Int32 → sm_S → Prop} (hK : ∀ r s, K r s → K' r s) (h : mp_X12_push σ p1 p2 K) : mp_X12_push σ p1 p2 K' := by
  unfold mp_X12_push at h ⊢
  exact ⟨h.1, ⟨fun h3 => ⟨(h.2.1 h3).1, ⟨(h.2.1 h3).2.1, fun σ5 e9 => fun σ6 e11 => hK _ _ (((h.2.1 h3).2.2 σ5 e9) σ6 e11)⟩⟩, fun h12 => hK _ _ (h.2.2 h12)⟩⟩
theorem mo_X12_pop {σ : sm_S} {p1 : Int32} {K K' : Int32 → sm_S → Prop} (hK : ∀ r s, K r s → K' r s) (h : mp_X12_pop σ p1 K) : mp_X12_pop σ p1 K' := by
  unfold mp_X12_pop at h ⊢
  exact ⟨fun h1 => fun σ2 e3 => ⟨((h.1 h1) σ2 e3).1, ⟨((h.1 h1) σ2 e3).2.1, hK _ _ ((h.1 h1) σ2 e3).2.2⟩⟩, fun h8 => hK _ _ (h.2 h8)⟩
theorem mo_X12_popInto_25 {K K' : Int32 → sm_S → Prop} (hK : ∀ r s, K r s → K' r s) {σ : sm_S} {y0 : Int32} (h : mp_X12_popInto_25 K σ y0) : mp_X12_popInto_25 K' σ y0 := by
  unfold mp_X12_popInto_25 at h ⊢
  exact ⟨h.1, hK _ _ h.2⟩
theorem mo_X12_popInto_24 {K K' : Int32 → sm_S → Prop} (hK : ∀ r s, K r s → K' r s) {σ : sm_S} (h : mp_X12_popInto_24 K σ) : mp_X12_popInto_24 K' σ := by
  unfold mp_X12_popInto_24 at h ⊢
  exact mo_X12_popInto_25 hK h
theorem mo_X12_popInto {σ : sm_S} {p1 : Int32} {p2 : Int32} {K K' : Int32 → sm_S → Prop} (hK : ∀ r s, K r s → K' r s) (h : mp_X12_popInto σ p1 p2 K) : mp_X12_popInto σ p1 p2 K' := by
  unfold mp_X12_popInto at h ⊢
  exact mo_X12_pop (fun r3 σ2 h1 => ⟨fun h2 => mo_X12_popInto_24 hK (h1.1 h2), fun h3 => mo_X12_goes (fun r6 σ5 h4 => ⟨fun h5 => mo_X12_popInto_24 hK (h4.1 h5), fun h6 => mo_X12_popInto_25 hK (h4.2 h6)⟩) (h1.2 h3)⟩) h
theorem mo_X12_popReference_23 {K K' : Int32 → sm_S → Prop} (hK : ∀ r s, K r s → K' r s) {σ : sm_S} {y0 : Int32} (h : mp_X12_popReference_23 K σ y0) : mp_X12_popReference_23 K' σ y0 := by
  unfold mp_X12_popReference_23 at h ⊢
  exact ⟨h.1, hK _ _ h.2⟩
theorem mo_X12_popReference_22 {K K' : Int32 → sm_S → Prop} (hK : ∀ r s, K r s → K' r s) {σ : sm_S} (h : mp_X12_popReference_22 K σ) : mp_X12_popReference_22 K' σ := by
  unfold mp_X12_popReference_22 at h ⊢
  exact mo_X12_popReference_23 hK h
theorem mo_X12_popReference {σ : sm_S} {p1 : Int32} {K K' : Int32 → sm_S → Prop} (hK : ∀ r s, K r s → K' r s) (h : mp_X12_popReference σ p1 K) : mp_X12_popReference σ p1 K' := by
  unfold mp_X12_popReference at h ⊢
  exact mo_X12_pop (fun r3 σ2 h1 => ⟨fun h2 => mo_X12_popReference_22 hK (h1.1 h2), fun h3 => mo_X12_isReference (fun r6 σ5 h4 => ⟨fun h5 => mo_X12_popReference_22 hK (h4.1 h5), fun h6 => mo_X12_popReference_23 hK (h4.2 h6)⟩) (h1.2 h3)⟩) h
theorem mo_X12_popInts_2 {K K' : Int32 → sm_S → Prop} (hK : ∀ r s, K r s → K' r s) {n2 : Nat} {σ : sm_S} {x1 : Int32} {x2 : Int32} {x3 : Int32} (h : mp_X12_popInts_2 K n2 σ x1 x2 x3) : mp_X12_popInts_2 K' n2 σ x1 x2 x3 := by
  suffices g : ∀ (σ : sm_S) (x1 : Int32) (x2 : Int32) (x3 : Int32), mp_X12_popInts_2 K n2 σ x1 x2 x3 → mp_X12_popInts_2 K' n2 σ x1 x2 x3 from g _ _ _ _ h
  clear h
  induction n2 with
  | zero => exact fun _ _ _ _ h => h.elim
  | succ n2 ih2 =>
    intro σ x1 x2 x3 h
    unfold mp_X12_popInts_2 at h ⊢
    exact ⟨fun h1 => hK _ _ (h.1 h1), fun h2 => mo_X12_pop (fun r3 σ2 h3 => ⟨fun h4 => fun v5 e6 => ih2 _ _ _ _ ((h3.1 h4) v5 e6), fun h7 => hK _ _ (h3.2 h7)⟩) (h.2 h2)⟩
theorem mo_X12_popInts {σ : sm_S} {p1 : Int32} {p2 : Int32} {K K' : Int32 → sm_S → Prop} (hK : ∀ r s, K r s → K' r s) (h : mp_X12_popInts σ p1 p2 K) : mp_X12_popInts σ p1 p2 K' := by
  unfold mp_X12_popInts at h ⊢
  exact h.elim (fun n2 h1 => ⟨n2, mo_X12_popInts_2 hK h1⟩)
theorem mo_X12_popParameters_13 {K K' : Int32 → sm_S → Prop} (hK : ∀ r s, K r s → K' r s) {n13 : Nat} {σ : sm_S} {x1 : Int32} {x2 : Int32} {x3 : Int32} {x4 : Int32} (h : mp_X12_popParameters_13 K n13 σ x1 x2 x3 x4) : mp_X12_popParameters_13 K' n13 σ x1 x2 x3 x4 := by
  suffices g : ∀ (σ : sm_S) (x1 : Int32) (x2 : Int32) (x3 : Int32) (x4 : Int32), mp_X12_popParameters_13 K n13 σ x1 x2 x3 x4 → mp_X12_popParameters_13 K' n13 σ x1 x2 x3 x4 from g _ _ _ _ _ h
  clear h
  induction n13 with
  | zero => exact fun _ _ _ _ _ h => h.elim
  | succ n13 ih13 =>
    intro σ x1 x2 x3 x4 h
    unfold mp_X12_popParameters_13 at h ⊢
    exact ⟨fun h1 => hK _ _ (h.1 h1), fun h2 => ⟨(h.2 h2).1, mo_X12_popInto (fun r4 σ3 h5 => ⟨fun h6 => fun v6 e8 => ih13 _ _ _ _ _ ((h5.1 h6) v6 e8), fun h9 => hK _ _ (h5.2 h9)⟩) (h.2 h2).2⟩⟩
theorem mo_X12_popParameters {σ : sm_S} {p1 : Int32} {p2 : Int32} {p3 : Int32} {K K' : Int32 → sm_S → Prop} (hK : ∀ r s, K r s → K' r s) (h : mp_X12_popParameters σ p1 p2 p3 K) : mp_X12_popParameters σ p1 p2 p3 K' := by
  unfold mp_X12_popParameters at h ⊢
  exact ⟨h.1, fun v8 e4 => (h.2 v8 e4).elim (fun n13 h5 => ⟨n13, mo_X12_popParameters_13 hK h5⟩)⟩
theorem mo_X12_pushGiven_34 {K K' : Int32 → sm_S → Prop} (hK : ∀ r s, K r s → K' r s) {σ : sm_S} {y0 : Int32} (h : mp_X12_pushGiven_34 K σ y0) : mp_X12_pushGiven_34 K' σ y0 := by
  unfold mp_X12_pushGiven_34 at h ⊢
  exact ⟨h.1, hK _ _ h.2⟩
theorem mo_X12_pushGiven_29 {K K' : Int32 → sm_S → Prop} (hK : ∀ r s, K r s → K' r s) {σ : sm_S} (h : mp_X12_pushGiven_29 K σ) : mp_X12_pushGiven_29 K' σ := by
  unfold mp_X12_pushGiven_29 at h ⊢
  exact mo_X12_pushGiven_34 hK h
theorem mo_X12_pushGiven {σ : sm_S} {p1 : Int32} {p2 : Int32} {K K' : Int32 → sm_S → Prop} (hK : ∀ r s, K r s → K' r s) (h : mp_X12_pushGiven σ p1 p2 K) : mp_X12_pushGiven σ p1 p2 K' := by
  unfold mp_X12_pushGiven at h ⊢
  exact ⟨h.1, ⟨fun h3 => mo_X12_pushGiven_29 hK (h.2.1 h3), fun h4 => ⟨(h.2.2 h4).1, mo_X12_push (fun r6 σ5 h7 => ⟨fun h8 => mo_X12_pushGiven_34 hK (h7.1 h8), fun h9 => mo_X12_pushGiven_29 hK (h7.2 h9)⟩) (h.2.2 h4).2⟩⟩⟩
theorem mo_X12_fitsRow_188 {K K' : Int32 → sm_S → Prop} (hK : ∀ r s, K r s → K' r s) {σ : sm_S} {y0 : Int32} (h : mp_X12_fitsRow_188 K σ y0) : mp_X12_fitsRow_188 K' σ y0 := by
  unfold mp_X12_fitsRow_188 at h ⊢
  exact ⟨h.1, hK _ _ h.2⟩
theorem mo_X12_fitsRow_187 {K K' : Int32 → sm_S → Prop} (hK : ∀ r s, K r s → K' r s) {σ : sm_S} (h : mp_X12_fitsRow_187 K σ) : mp_X12_fitsRow_187 K' σ := by
  unfold mp_X12_fitsRow_187 at h ⊢
  exact mo_X12_fitsRow_188 hK h
theorem mo_X12_fitsRow_177 {K K' : Int32 → sm_S → Prop} (hK : ∀ r s, K r s → K' r s) {σ : sm_S} {y1 : Int32} {y2 : Int32} (h : mp_X12_fitsRow_177 K σ y1 y2) : mp_X12_fitsRow_177 K' σ y1 y2 := by
  unfold mp_X12_fitsRow_177 at h ⊢
  exact mo_X12_push (fun r3 σ2 h1 => ⟨fun h2 => mo_X12_fitsRow_187 hK (h1.1 h2), fun h3 => mo_X12_fitsRow_188 hK (h1.2 h3)⟩) h
theorem mo_X12_fitsRow_148 {K K' : Int32 → sm_S → Prop} (hK : ∀ r s, K r s → K' r s) {σ : sm_S} {x1 : Int32} {x2 : Int32} {x4 : Int32} (h : mp_X12_fitsRow_148 K σ x1 x2 x4) : mp_X12_fitsRow_148 K' σ x1 x2 x4 := by
  unfold mp_X12_fitsRow_148 at h ⊢
  exact ⟨fun h1 => ⟨fun h2 => mo_X12_fitsRow_177 hK ((h.1 h1).1 h2), fun h3 => mo_X12_fitsRow_177 hK ((h.1 h1).2 h3)⟩, fun h4 => mo_X12_fitsRow_177 hK (h.2 h4)⟩
theorem mo_X12_fitsRow_131 {K K' : Int32 → sm_S → Prop} (hK : ∀ r s, K r s → K' r s) {σ : sm_S} {x1 : Int32} {x2 : Int32} {y0 : Int32} (h : mp_X12_fitsRow_131 K σ x1 x2 y0) : mp_X12_fitsRow_131 K' σ x1 x2 y0 := by
  unfold mp_X12_fitsRow_131 at h ⊢
  exact ⟨fun h1 => mo_X12_fitsRow_148 hK (h.1 h1), fun h2 => mo_X12_isRow (fun r9 σ8 h3 => ⟨fun h4 => mo_X12_fitsRow_187 hK (h3.1 h4), fun h5 => mo_X12_fitsRow_148 hK (h3.2 h5)⟩) (h.2 h2)⟩
theorem mo_X12_fitsRow_122 {K K' : Int32 → sm_S → Prop} (hK : ∀ r s, K r s → K' r s) {σ : sm_S} {x1 : Int32} {x2 : Int32} (h : mp_X12_fitsRow_122 K σ x1 x2) : mp_X12_fitsRow_122 K' σ x1 x2 := by
  unfold mp_X12_fitsRow_122 at h ⊢
  exact mo_X12_pop (fun r12 σ11 h1 => mo_X12_fitsRow_131 hK h1) h
theorem mo_X12_fitsRow_106 {K K' : Int32 → sm_S → Prop} (hK : ∀ r s, K r s → K' r s) {σ : sm_S} {y0 : Int32} (h : mp_X12_fitsRow_106 K σ y0) : mp_X12_fitsRow_106 K' σ y0 := by
  unfold mp_X12_fitsRow_106 at h ⊢
  exact ⟨h.1, hK _ _ h.2⟩
theorem mo_X12_fitsRow_105 {K K' : Int32 → sm_S → Prop} (hK : ∀ r s, K r s → K' r s) {σ : sm_S} (h : mp_X12_fitsRow_105 K σ) : mp_X12_fitsRow_105 K' σ := by
  unfold mp_X12_fitsRow_105 at h ⊢
  exact mo_X12_fitsRow_106 hK h
theorem mo_X12_fitsRow_101 {K K' : Int32 → sm_S → Prop} (hK : ∀ r s, K r s → K' r s) {σ : sm_S} (h : mp_X12_fitsRow_101 K σ) : mp_X12_fitsRow_101 K' σ := by
  unfold mp_X12_fitsRow_101 at h ⊢
  exact mo_X12_fitsRow_106 hK h
theorem mo_X12_fitsRow_70 {K K' : Int32 → sm_S → Prop} (hK : ∀ r s, K r s → K' r s) {σ : sm_S} {x4 : Int32} {y0 : Int32} (h : mp_X12_fitsRow_70 K σ x4 y0) : mp_X12_fitsRow_70 K' σ x4 y0 := by
  unfold mp_X12_fitsRow_70 at h ⊢
  exact ⟨fun h1 => mo_X12_fitsRow_101 hK (h.1 h1), fun h2 => mo_X12_isRow (fun r16 σ15 h3 => ⟨fun h4 => mo_X12_fitsRow_105 hK (h3.1 h4), fun h5 => mo_X12_goes (fun r19 σ18 h6 => ⟨fun h7 => mo_X12_fitsRow_105 hK (h6.1 h7), fun h8 => mo_X12_fitsRow_101 hK (h6.2 h8)⟩) (h3.2 h5)⟩) (h.2 h2)⟩
theorem mo_X12_fitsRow_69 {K K' : Int32 → sm_S → Prop} (hK : ∀ r s, K r s → K' r s) {σ : sm_S} {x4 : Int32} (h : mp_X12_fitsRow_69 K σ x4) : mp_X12_fitsRow_69 K' σ x4 := by
  unfold mp_X12_fitsRow_69 at h ⊢
  exact mo_X12_fitsRow_70 hK h
theorem mo_X12_fitsRow_32 {K K' : Int32 → sm_S → Prop} (hK : ∀ r s, K r s → K' r s) {σ : sm_S} {y0 : Int32} (h : mp_X12_fitsRow_32 K σ y0) : mp_X12_fitsRow_32 K' σ y0 := by
  unfold mp_X12_fitsRow_32 at h ⊢
  exact ⟨h.1, hK _ _ h.2⟩
theorem mo_X12_fitsRow_31 {K K' : Int32 → sm_S → Prop} (hK : ∀ r s, K r s → K' r s) {σ : sm_S} (h : mp_X12_fitsRow_31 K σ) : mp_X12_fitsRow_31 K' σ := by
  unfold mp_X12_fitsRow_31 at h ⊢
  exact mo_X12_fitsRow_32 hK h
theorem mo_X12_fitsRow {σ : sm_S} {p1 : Int32} {p2 : Int32} {p3 : Int32} {K K' : Int32 → sm_S → Prop} (hK : ∀ r s, K r s → K' r s) (h : mp_X12_fitsRow σ p1 p2 p3 K) : mp_X12_fitsRow σ p1 p2 p3 K' := by
  unfold mp_X12_fitsRow at h ⊢
  exact ⟨fun h1 => ⟨fun h2 => ⟨fun h3 => mo_X12_fitsRow_122 hK (((h.1 h1).1 h2).1 h3), fun h4 => mo_X12_popInts (fun r26 σ25 h5 => ⟨fun h6 => mo_X12_fitsRow_131 hK (h5.1 h6), fun h7 => mo_X12_fitsRow_122 hK (h5.2 h7)⟩) (((h.1 h1).1 h2).2 h4)⟩, fun h8 => mo_X12_pop (fun r29 σ28 h9 => ⟨fun h10 => mo_X12_fitsRow_69 hK (h9.1 h10), fun h11 => mo_X12_popInts (fun r32 σ31 h12 => ⟨fun h13 => mo_X12_fitsRow_69 hK (h12.1 h13), fun h14 => mo_X12_pop (fun r35 σ34 h15 => mo_X12_fitsRow_70 hK h15) (h12.2 h14)⟩) (h9.2 h11)⟩) ((h.1 h1).2 h8)⟩, fun h16 => mo_X12_popInts (fun r37 σ36 h17 => ⟨fun h18 => mo_X12_fitsRow_31 hK (h17.1 h18), fun h19 => mo_X12_push (fun r40 σ39 h20 => ⟨fun h21 => mo_X12_fitsRow_31 hK (h20.1 h21), fun h22 => mo_X12_fitsRow_32 hK (h20.2 h22)⟩) (h17.2 h19)⟩) (h.2 h16)⟩
theorem mo_X12_fitsPlace_156 {K K' : Int32 → sm_S → Prop} (hK : ∀ r s, K r s → K' r s) {σ : sm_S} {y0 : Int32} (h : mp_X12_fitsPlace_156 K σ y0) : mp_X12_fitsPlace_156 K' σ y0 := by
  unfold mp_X12_fitsPlace_156 at h ⊢
  exact ⟨h.1, hK _ _ h.2⟩
theorem mo_X12_fitsPlace_155 {K K' : Int32 → sm_S → Prop} (hK : ∀ r s, K r s → K' r s) {σ : sm_S} (h : mp_X12_fitsPlace_155 K σ) : mp_X12_fitsPlace_155 K' σ := by
  unfold mp_X12_fitsPlace_155 at h ⊢
  exact mo_X12_fitsPlace_156 hK h
theorem mo_X12_fitsPlace_117 {K K' : Int32 → sm_S → Prop} (hK : ∀ r s, K r s → K' r s) {σ : sm_S} {y0 : Int32} (h : mp_X12_fitsPlace_117 K σ y0) : mp_X12_fitsPlace_117 K' σ y0 := by
  unfold mp_X12_fitsPlace_117 at h ⊢
  exact ⟨h.1, hK _ _ h.2⟩
theorem mo_X12_fitsPlace_116 {K K' : Int32 → sm_S → Prop} (hK : ∀ r s, K r s → K' r s) {σ : sm_S} (h : mp_X12_fitsPlace_116 K σ) : mp_X12_fitsPlace_116 K' σ := by
  unfold mp_X12_fitsPlace_116 at h ⊢
  exact mo_X12_fitsPlace_117 hK h
theorem mo_X12_fitsPlace_35 {K K' : Int32 → sm_S → Prop} (hK : ∀ r s, K r s → K' r s) {σ : sm_S} {y0 : Int32} (h : mp_X12_fitsPlace_35 K σ y0) : mp_X12_fitsPlace_35 K' σ y0 := by
  unfold mp_X12_fitsPlace_35 at h ⊢
  exact ⟨h.1, hK _ _ h.2⟩
theorem mo_X12_fitsPlace_34 {K K' : Int32 → sm_S → Prop} (hK : ∀ r s, K r s → K' r s) {σ : sm_S} (h : mp_X12_fitsPlace_34 K σ) : mp_X12_fitsPlace_34 K' σ := by
  unfold mp_X12_fitsPlace_34 at h ⊢
  exact mo_X12_fitsPlace_35 hK h
theorem mo_X12_fitsPlace {σ : sm_S} {p1 : Int32} {p2 : Int32} {p3 : Int32} {K K' : Int32 → sm_S → Prop} (hK : ∀ r s, K r s → K' r s) (h : mp_X12_fitsPlace σ p1 p2 p3 K) : mp_X12_fitsPlace σ p1 p2 p3 K' := by
  unfold mp_X12_fitsPlace at h ⊢
  exact ⟨fun h1 => mo_X12_pop (fun r6 σ5 h2 => ⟨fun h3 => ⟨fun h4 => ⟨((h2.1 h3).1 h4).1, fun σ10 e8 => hK _ _ (((h2.1 h3).1 h4).2 σ10 e8)⟩, fun h9 => hK _ _ ((h2.1 h3).2.1 h9), fun h10 => mo_X12_push (fun r14 σ13 h11 => ⟨fun h12 => mo_X12_fitsPlace_116 hK (h11.1 h12), fun h13 => mo_X12_push (fun r17 σ16 h14 => ⟨fun h15 => mo_X12_fitsPlace_116 hK (h14.1 h15), fun h16 => mo_X12_fitsPlace_117 hK (h14.2 h16)⟩) (h11.2 h13)⟩) ((h2.1 h3).2.2.1 h10), fun h17 h18 h19 => mo_X12_pop (fun r20 σ19 h20 => ⟨fun h21 => mo_X12_fitsPlace_155 hK (h20.1 h21), fun h22 => mo_X12_push (fun r23 σ22 h23 => ⟨fun h24 => mo_X12_fitsPlace_155 hK (h23.1 h24), fun h25 => mo_X12_push (fun r26 σ25 h26 => ⟨fun h27 => mo_X12_fitsPlace_155 hK (h26.1 h27), fun h28 => mo_X12_fitsPlace_156 hK (h26.2 h28)⟩) (h23.2 h25)⟩) (h20.2 h22)⟩) ((h2.1 h3).2.2.2 h17 h18 h19)⟩, fun h29 => hK _ _ (h2.2 h29)⟩) (h.1 h1), fun h30 => ⟨(h.2 h30).1, ⟨fun h33 => mo_X12_fitsPlace_34 hK ((h.2 h30).2.1 h33), fun h34 => ⟨((h.2 h30).2.2 h34).1, mo_X12_push (fun r32 σ31 h37 => ⟨fun h38 => mo_X12_fitsPlace_34 hK (h37.1 h38), fun h39 => mo_X12_fitsPlace_35 hK (h37.2 h39)⟩) ((h.2 h30).2.2 h34).2⟩⟩⟩⟩
theorem mo_X12_fits_624 {K K' : Int32 → sm_S → Prop} (hK : ∀ r s, K r s → K' r s) {σ : sm_S} {y0 : Int32} (h : mp_X12_fits_624 K σ y0) : mp_X12_fits_624 K' σ y0 := by
  unfold mp_X12_fits_624 at h ⊢
  exact ⟨h.1, hK _ _ h.2⟩
theorem mo_X12_fits_619 {K K' : Int32 → sm_S → Prop} (hK : ∀ r s, K r s → K' r s) {σ : sm_S} (h : mp_X12_fits_619 K σ) : mp_X12_fits_619 K' σ := by
  unfold mp_X12_fits_619 at h ⊢
  exact mo_X12_fits_624 hK h
theorem mo_X12_fits_596 {K K' : Int32 → sm_S → Prop} (hK : ∀ r s, K r s → K' r s) {σ : sm_S} {y0 : Int32} (h : mp_X12_fits_596 K σ y0) : mp_X12_fits_596 K' σ y0 := by
  unfold mp_X12_fits_596 at h ⊢
  exact ⟨h.1, hK _ _ h.2⟩
theorem mo_X12_fits_595 {K K' : Int32 → sm_S → Prop} (hK : ∀ r s, K r s → K' r s) {σ : sm_S} (h : mp_X12_fits_595 K σ) : mp_X12_fits_595 K' σ := by
  unfold mp_X12_fits_595 at h ⊢
  exact mo_X12_fits_596 hK h
theorem mo_X12_fits_561 {K K' : Int32 → sm_S → Prop} (hK : ∀ r s, K r s → K' r s) {σ : sm_S} {y0 : Int32} (h : mp_X12_fits_561 K σ y0) : mp_X12_fits_561 K' σ y0 := by
  unfold mp_X12_fits_561 at h ⊢
  exact ⟨h.1, hK _ _ h.2⟩
theorem mo_X12_fits_543 {K K' : Int32 → sm_S → Prop} (hK : ∀ r s, K r s → K' r s) {σ : sm_S} {y0 : Int32} (h : mp_X12_fits_543 K σ y0) : mp_X12_fits_543 K' σ y0 := by
  unfold mp_X12_fits_543 at h ⊢
  exact ⟨h.1, hK _ _ h.2⟩
theorem mo_X12_fits_542 {K K' : Int32 → sm_S → Prop} (hK : ∀ r s, K r s → K' r s) {σ : sm_S} (h : mp_X12_fits_542 K σ) : mp_X12_fits_542 K' σ := by
  unfold mp_X12_fits_542 at h ⊢
  exact mo_X12_fits_543 hK h
theorem mo_X12_fits_488 {K K' : Int32 → sm_S → Prop} (hK : ∀ r s, K r s → K' r s) {σ : sm_S} {y0 : Int32} (h : mp_X12_fits_488 K σ y0) : mp_X12_fits_488 K' σ y0 := by
  unfold mp_X12_fits_488 at h ⊢
  exact ⟨h.1, hK _ _ h.2⟩
theorem mo_X12_fits_487 {K K' : Int32 → sm_S → Prop} (hK : ∀ r s, K r s → K' r s) {σ : sm_S} (h : mp_X12_fits_487 K σ) : mp_X12_fits_487 K' σ := by
  unfold mp_X12_fits_487 at h ⊢
  exact mo_X12_fits_488 hK h
theorem mo_X12_fits_463 {K K' : Int32 → sm_S → Prop} (hK : ∀ r s, K r s → K' r s) {σ : sm_S} {y0 : Int32} (h : mp_X12_fits_463 K σ y0) : mp_X12_fits_463 K' σ y0 := by
  unfold mp_X12_fits_463 at h ⊢
  exact ⟨h.1, hK _ _ h.2⟩
theorem mo_X12_fits_462 {K K' : Int32 → sm_S → Prop} (hK : ∀ r s, K r s → K' r s) {σ : sm_S} (h : mp_X12_fits_462 K σ) : mp_X12_fits_462 K' σ := by
  unfold mp_X12_fits_462 at h ⊢
  exact mo_X12_fits_463 hK h
theorem mo_X12_fits_438 {K K' : Int32 → sm_S → Prop} (hK : ∀ r s, K r s → K' r s) {σ : sm_S} {y0 : Int32} (h : mp_X12_fits_438 K σ y0) : mp_X12_fits_438 K' σ y0 := by
  unfold mp_X12_fits_438 at h ⊢
  exact ⟨h.1, hK _ _ h.2⟩
theorem mo_X12_fits_437 {K K' : Int32 → sm_S → Prop} (hK : ∀ r s, K r s → K' r s) {σ : sm_S} (h : mp_X12_fits_437 K σ) : mp_X12_fits_437 K' σ := by
  unfold mp_X12_fits_437 at h ⊢
  exact mo_X12_fits_438 hK h
theorem mo_X12_fits_415 {K K' : Int32 → sm_S → Prop} (hK : ∀ r s, K r s → K' r s) {σ : sm_S} {y0 : Int32} (h : mp_X12_fits_415 K σ y0) : mp_X12_fits_415 K' σ y0 := by
  unfold mp_X12_fits_415 at h ⊢
  exact ⟨h.1, hK _ _ h.2⟩
theorem mo_X12_fits_414 {K K' : Int32 → sm_S → Prop} (hK : ∀ r s, K r s → K' r s) {σ : sm_S} (h : mp_X12_fits_414 K σ) : mp_X12_fits_414 K' σ := by
  unfold mp_X12_fits_414 at h ⊢
  exact mo_X12_fits_415 hK h
theorem mo_X12_fits_375 {K K' : Int32 → sm_S → Prop} (hK : ∀ r s, K r s → K' r s) {σ : sm_S} {y0 : Int32} (h : mp_X12_fits_375 K σ y0) : mp_X12_fits_375 K' σ y0 := by
  unfold mp_X12_fits_375 at h ⊢
  exact ⟨h.1, hK _ _ h.2⟩
theorem mo_X12_fits_374 {K K' : Int32 → sm_S → Prop} (hK : ∀ r s, K r s → K' r s) {σ : sm_S} (h : mp_X12_fits_374 K σ) : mp_X12_fits_374 K' σ := by
  unfold mp_X12_fits_374 at h ⊢
  exact mo_X12_fits_375 hK h
theorem mo_X12_fits_324 {K K' : Int32 → sm_S → Prop} (hK : ∀ r s, K r s → K' r s) {σ : sm_S} {y0 : Int32} (h : mp_X12_fits_324 K σ y0) : mp_X12_fits_324 K' σ y0 := by
  unfold mp_X12_fits_324 at h ⊢
  exact ⟨h.1, hK _ _ h.2⟩
theorem mo_X12_fits_323 {K K' : Int32 → sm_S → Prop} (hK : ∀ r s, K r s → K' r s) {σ : sm_S} (h : mp_X12_fits_323 K σ) : mp_X12_fits_323 K' σ := by
  unfold mp_X12_fits_323 at h ⊢
  exact mo_X12_fits_324 hK h
theorem mo_X12_fits_85 {K K' : Int32 → sm_S → Prop} (hK : ∀ r s, K r s → K' r s) {σ : sm_S} {x1 : Int32} {x2 : Int32} {x3 : Int32} {x4 : Int32} (h : mp_X12_fits_85 K σ x1 x2 x3 x4) : mp_X12_fits_85 K' σ x1 x2 x3 x4 := by
  unfold mp_X12_fits_85 at h ⊢
  exact ⟨fun h1 => mo_X12_push (fun r13 σ12 h2 => ⟨h2.1, hK _ _ h2.2⟩) (h.1 h1), fun h5 => mo_X12_push (fun r17 σ16 h6 => ⟨h6.1, hK _ _ h6.2⟩) (h.2.1 h5), fun h9 => mo_X12_pop (fun r21 σ20 h10 => ⟨fun h11 => mo_X12_fits_619 hK (h10.1 h11), fun h12 => mo_X12_isSome (fun r24 σ23 h13 => ⟨fun h14 => mo_X12_fits_624 hK (h13.1 h14), fun h15 => mo_X12_fits_619 hK (h13.2 h15)⟩) (h10.2 h12)⟩) (h.2.2.1 h9), fun h16 => mo_X12_pop (fun r28 σ27 h17 => ⟨fun h18 => mo_X12_fits_619 hK (h17.1 h18), fun h19 => mo_X12_isSome (fun r31 σ30 h20 => ⟨fun h21 => mo_X12_fits_624 hK (h20.1 h21), fun h22 => mo_X12_fits_619 hK (h20.2 h22)⟩) (h17.2 h19)⟩) (h.2.2.2.1 h16), fun h23 => mo_X12_pop (fun r35 σ34 h24 => ⟨fun h25 => mo_X12_fits_619 hK (h24.1 h25), fun h26 => mo_X12_isSome (fun r38 σ37 h27 => ⟨fun h28 => mo_X12_fits_624 hK (h27.1 h28), fun h29 => mo_X12_fits_619 hK (h27.2 h29)⟩) (h24.2 h26)⟩) (h.2.2.2.2.1 h23), fun h30 => mo_X12_pop (fun r42 σ41 h31 => ⟨fun h32 => mo_X12_fits_619 hK (h31.1 h32), fun h33 => mo_X12_isSome (fun r45 σ44 h34 => ⟨fun h35 => mo_X12_fits_624 hK (h34.1 h35), fun h36 => mo_X12_fits_619 hK (h34.2 h36)⟩) (h31.2 h33)⟩) (h.2.2.2.2.2.1 h30), fun h37 => mo_X12_pop (fun r49 σ48 h38 => ⟨fun h39 => mo_X12_fits_619 hK (h38.1 h39), fun h40 => mo_X12_isSome (fun r52 σ51 h41 => ⟨fun h42 => mo_X12_fits_624 hK (h41.1 h42), fun h43 => mo_X12_fits_619 hK (h41.2 h43)⟩) (h38.2 h40)⟩) (h.2.2.2.2.2.2.1 h37), fun h44 => mo_X12_pop (fun r56 σ55 h45 => ⟨fun h46 => mo_X12_fits_619 hK (h45.1 h46), fun h47 => mo_X12_isSome (fun r59 σ58 h48 => ⟨fun h49 => mo_X12_fits_624 hK (h48.1 h49), fun h50 => mo_X12_fits_619 hK (h48.2 h50)⟩) (h45.2 h47)⟩) (h.2.2.2.2.2.2.2.1 h44), fun h51 => mo_X12_pop (fun r63 σ62 h52 => ⟨fun h53 => mo_X12_fits_619 hK (h52.1 h53), fun h54 => mo_X12_isSome (fun r66 σ65 h55 => ⟨fun h56 => mo_X12_fits_624 hK (h55.1 h56), fun h57 => mo_X12_fits_619 hK (h55.2 h57)⟩) (h52.2 h54)⟩) (h.2.2.2.2.2.2.2.2.1 h51), fun h58 => mo_X12_pop (fun r70 σ69 h59 => ⟨fun h60 => mo_X12_fits_619 hK (h59.1 h60), fun h61 => mo_X12_isSome (fun r73 σ72 h62 => ⟨fun h63 => mo_X12_fits_624 hK (h62.1 h63), fun h64 => mo_X12_fits_619 hK (h62.2 h64)⟩) (h59.2 h61)⟩) (h.2.2.2.2.2.2.2.2.2.1 h58), fun h65 => mo_X12_pop (fun r77 σ76 h66 => ⟨fun h67 => mo_X12_fits_619 hK (h66.1 h67), fun h68 => mo_X12_isSome (fun r80 σ79 h69 => ⟨fun h70 => mo_X12_fits_624 hK (h69.1 h70), fun h71 => mo_X12_fits_619 hK (h69.2 h71)⟩) (h66.2 h68)⟩) (h.2.2.2.2.2.2.2.2.2.2.1 h65), fun h72 => mo_X12_pop (fun r84 σ83 h73 => ⟨fun h74 => mo_X12_fits_619 hK (h73.1 h74), fun h75 => mo_X12_isSome (fun r87 σ86 h76 => ⟨fun h77 => mo_X12_fits_624 hK (h76.1 h77), fun h78 => mo_X12_fits_619 hK (h76.2 h78)⟩) (h73.2 h75)⟩) (h.2.2.2.2.2.2.2.2.2.2.2.1 h72), fun h79 => mo_X12_pop (fun r91 σ90 h80 => ⟨fun h81 => mo_X12_fits_619 hK (h80.1 h81), fun h82 => mo_X12_isSome (fun r94 σ93 h83 => ⟨fun h84 => mo_X12_fits_624 hK (h83.1 h84), fun h85 => mo_X12_fits_619 hK (h83.2 h85)⟩) (h80.2 h82)⟩) (h.2.2.2.2.2.2.2.2.2.2.2.2.1 h79), fun h86 => mo_X12_pop (fun r98 σ97 h87 => ⟨fun h88 => mo_X12_fits_619 hK (h87.1 h88), fun h89 => mo_X12_isSome (fun r101 σ100 h90 => ⟨fun h91 => mo_X12_fits_624 hK (h90.1 h91), fun h92 => mo_X12_fits_619 hK (h90.2 h92)⟩) (h87.2 h89)⟩) (h.2.2.2.2.2.2.2.2.2.2.2.2.2.1 h86), fun h93 => mo_X12_pop (fun r105 σ104 h94 => ⟨fun h95 => mo_X12_fits_619 hK (h94.1 h95), fun h96 => mo_X12_isSome (fun r108 σ107 h97 => ⟨fun h98 => mo_X12_fits_624 hK (h97.1 h98), fun h99 => mo_X12_fits_619 hK (h97.2 h99)⟩) (h94.2 h96)⟩) (h.2.2.2.2.2.2.2.2.2.2.2.2.2.2.1 h93), fun h100 => mo_X12_pop (fun r112 σ111 h101 => ⟨fun h102 => mo_X12_fits_619 hK (h101.1 h102), fun h103 => mo_X12_isSome (fun r115 σ114 h104 => ⟨fun h105 => mo_X12_fits_624 hK (h104.1 h105), fun h106 => mo_X12_fits_619 hK (h104.2 h106)⟩) (h101.2 h103)⟩) (h.2.2.2.2.2.2.2.2.2.2.2.2.2.2.2.1 h100), fun h107 => mo_X12_pop (fun r119 σ118 h108 => ⟨fun h109 => mo_X12_fits_619 hK (h108.1 h109), fun h110 => mo_X12_isSome (fun r122 σ121 h111 => ⟨fun h112 => mo_X12_fits_624 hK (h111.1 h112), fun h113 => mo_X12_fits_619 hK (h111.2 h113)⟩) (h108.2 h110)⟩) (h.2.2.2.2.2.2.2.2.2.2.2.2.2.2.2.2.1 h107), fun h114 => mo_X12_pop (fun r126 σ125 h115 => ⟨fun h116 => mo_X12_fits_619 hK (h115.1 h116), fun h117 => mo_X12_isSome (fun r129 σ128 h118 => ⟨fun h119 => mo_X12_fits_624 hK (h118.1 h119), fun h120 => mo_X12_fits_619 hK (h118.2 h120)⟩) (h115.2 h117)⟩) (h.2.2.2.2.2.2.2.2.2.2.2.2.2.2.2.2.2.1 h114), fun h121 => mo_X12_pop (fun r133 σ132 h122 => ⟨fun h123 => mo_X12_fits_619 hK (h122.1 h123), fun h124 => mo_X12_isSome (fun r136 σ135 h125 => ⟨fun h126 => mo_X12_fits_624 hK (h125.1 h126), fun h127 => mo_X12_fits_619 hK (h125.2 h127)⟩) (h122.2 h124)⟩) (h.2.2.2.2.2.2.2.2.2.2.2.2.2.2.2.2.2.2.1 h121), fun h128 => mo_X12_popInts (fun r140 σ139 h129 => ⟨h129.1, hK _ _ h129.2⟩) (h.2.2.2.2.2.2.2.2.2.2.2.2.2.2.2.2.2.2.2.1 h128), fun h132 => mo_X12_popInts (fun r144 σ143 h133 => ⟨h133.1, hK _ _ h133.2⟩) (h.2.2.2.2.2.2.2.2.2.2.2.2.2.2.2.2.2.2.2.2.1 h132), fun h136 => mo_X12_popReference (fun r148 σ147 h137 => ⟨h137.1, hK _ _ h137.2⟩) (h.2.2.2.2.2.2.2.2.2.2.2.2.2.2.2.2.2.2.2.2.2.1 h136), fun h140 => mo_X12_popReference (fun r152 σ151 h141 => ⟨h141.1, hK _ _ h141.2⟩) (h.2.2.2.2.2.2.2.2.2.2.2.2.2.2.2.2.2.2.2.2.2.2.1 h140), fun h144 => mo_X12_popReference (fun r156 σ155 h145 => ⟨fun h146 => mo_X12_fits_323 hK (h145.1 h146), fun h147 => mo_X12_popReference (fun r159 σ158 h148 => ⟨fun h149 => mo_X12_fits_323 hK (h148.1 h149), fun h150 => mo_X12_fits_324 hK (h148.2 h150)⟩) (h145.2 h147)⟩) (h.2.2.2.2.2.2.2.2.2.2.2.2.2.2.2.2.2.2.2.2.2.2.2.1 h144), fun h151 => mo_X12_popReference (fun r163 σ162 h152 => ⟨fun h153 => mo_X12_fits_323 hK (h152.1 h153), fun h154 => mo_X12_popReference (fun r166 σ165 h155 => ⟨fun h156 => mo_X12_fits_323 hK (h155.1 h156), fun h157 => mo_X12_fits_324 hK (h155.2 h157)⟩) (h152.2 h154)⟩) (h.2.2.2.2.2.2.2.2.2.2.2.2.2.2.2.2.2.2.2.2.2.2.2.2.1 h151), fun h158 => hK _ _ (h.2.2.2.2.2.2.2.2.2.2.2.2.2.2.2.2.2.2.2.2.2.2.2.2.2.1 h158), fun h159 => mo_X12_push (fun r171 σ170 h160 => ⟨h160.1, hK _ _ h160.2⟩) (h.2.2.2.2.2.2.2.2.2.2.2.2.2.2.2.2.2.2.2.2.2.2.2.2.2.2.1 h159), fun h163 => mo_X12_popInto (fun r175 σ174 h164 => ⟨fun h165 => mo_X12_fits_374 hK (h164.1 h165), fun h166 => ⟨(h164.2 h166).1, mo_X12_push (fun r179 σ178 h169 => ⟨fun h170 => mo_X12_fits_374 hK (h169.1 h170), fun h171 => mo_X12_fits_375 hK (h169.2 h171)⟩) (h164.2 h166).2⟩⟩) (h.2.2.2.2.2.2.2.2.2.2.2.2.2.2.2.2.2.2.2.2.2.2.2.2.2.2.2.1 h163), fun h172 => ⟨(h.2.2.2.2.2.2.2.2.2.2.2.2.2.2.2.2.2.2.2.2.2.2.2.2.2.2.2.2.1 h172).1, mo_X12_popInto (fun r184 σ183 h175 => ⟨fun h176 => mo_X12_fits_414 hK (h175.1 h176), fun h177 => mo_X12_popInto (fun r187 σ186 h178 => ⟨fun h179 => mo_X12_fits_414 hK (h178.1 h179), fun h180 => mo_X12_fits_415 hK (h178.2 h180)⟩) (h175.2 h177)⟩) (h.2.2.2.2.2.2.2.2.2.2.2.2.2.2.2.2.2.2.2.2.2.2.2.2.2.2.2.2.1 h172).2⟩, fun h181 => mo_X12_popReference (fun r191 σ190 h182 => ⟨fun h183 => mo_X12_fits_437 hK (h182.1 h183), fun h184 => mo_X12_push (fun r194 σ193 h185 => ⟨fun h186 => mo_X12_fits_437 hK (h185.1 h186), fun h187 => mo_X12_fits_438 hK (h185.2 h187)⟩) (h182.2 h184)⟩) (h.2.2.2.2.2.2.2.2.2.2.2.2.2.2.2.2.2.2.2.2.2.2.2.2.2.2.2.2.2.1 h181), fun h188 => mo_X12_popReference (fun r198 σ197 h189 => ⟨fun h190 => mo_X12_fits_462 hK (h189.1 h190), fun h191 => mo_X12_push (fun r201 σ200 h192 => ⟨fun h193 => mo_X12_fits_462 hK (h192.1 h193), fun h194 => mo_X12_fits_463 hK (h192.2 h194)⟩) (h189.2 h191)⟩) (h.2.2.2.2.2.2.2.2.2.2.2.2.2.2.2.2.2.2.2.2.2.2.2.2.2.2.2.2.2.2.1 h188), fun h195 => mo_X12_pop (fun r205 σ204 h196 => ⟨fun h197 => mo_X12_fits_619 hK (h196.1 h197), fun h198 => mo_X12_isSome (fun r208 σ207 h199 => ⟨fun h200 => mo_X12_fits_624 hK (h199.1 h200), fun h201 => mo_X12_fits_619 hK (h199.2 h201)⟩) (h196.2 h198)⟩) (h.2.2.2.2.2.2.2.2.2.2.2.2.2.2.2.2.2.2.2.2.2.2.2.2.2.2.2.2.2.2.2.1 h195), fun h202 => mo_X12_pop (fun r212 σ211 h203 => ⟨fun h204 => mo_X12_fits_619 hK (h203.1 h204), fun h205 => mo_X12_isSome (fun r215 σ214 h206 => ⟨fun h207 => mo_X12_fits_624 hK (h206.1 h207), fun h208 => mo_X12_fits_619 hK (h206.2 h208)⟩) (h203.2 h205)⟩) (h.2.2.2.2.2.2.2.2.2.2.2.2.2.2.2.2.2.2.2.2.2.2.2.2.2.2.2.2.2.2.2.2.1 h202), fun h209 => mo_X12_pop (fun r219 σ218 h210 => ⟨fun h211 => mo_X12_fits_619 hK (h210.1 h211), fun h212 => mo_X12_isSome (fun r222 σ221 h213 => ⟨fun h214 => mo_X12_fits_624 hK (h213.1 h214), fun h215 => mo_X12_fits_619 hK (h213.2 h215)⟩) (h210.2 h212)⟩) (h.2.2.2.2.2.2.2.2.2.2.2.2.2.2.2.2.2.2.2.2.2.2.2.2.2.2.2.2.2.2.2.2.2.1 h209), fun h216 => mo_X12_pop (fun r226 σ225 h217 => ⟨fun h218 => mo_X12_fits_619 hK (h217.1 h218), fun h219 => mo_X12_isSome (fun r229 σ228 h220 => ⟨fun h221 => mo_X12_fits_624 hK (h220.1 h221), fun h222 => mo_X12_fits_619 hK (h220.2 h222)⟩) (h217.2 h219)⟩) (h.2.2.2.2.2.2.2.2.2.2.2.2.2.2.2.2.2.2.2.2.2.2.2.2.2.2.2.2.2.2.2.2.2.2.1 h216), fun h223 => mo_X12_popParameters (fun r233 σ232 h224 => ⟨fun h225 => mo_X12_fits_487 hK (h224.1 h225), fun h226 => mo_X12_pushGiven (fun r236 σ235 h227 => ⟨fun h228 => mo_X12_fits_487 hK (h227.1 h228), fun h229 => mo_X12_fits_488 hK (h227.2 h229)⟩) (h224.2 h226)⟩) (h.2.2.2.2.2.2.2.2.2.2.2.2.2.2.2.2.2.2.2.2.2.2.2.2.2.2.2.2.2.2.2.2.2.2.2.1 h223), fun h230 => ⟨(h.2.2.2.2.2.2.2.2.2.2.2.2.2.2.2.2.2.2.2.2.2.2.2.2.2.2.2.2.2.2.2.2.2.2.2.2.1 h230).1, fun v240 e234 => mo_X12_popParameters (fun r242 σ241 h235 => ⟨fun h236 => mo_X12_fits_542 hK (h235.1 h236), fun h237 => mo_X12_popInto (fun r245 σ244 h238 => ⟨fun h239 => mo_X12_fits_542 hK (h238.1 h239), fun h240 => mo_X12_pushGiven (fun r248 σ247 h241 => ⟨fun h242 => mo_X12_fits_542 hK (h241.1 h242), fun h243 => mo_X12_fits_543 hK (h241.2 h243)⟩) (h238.2 h240)⟩) (h235.2 h237)⟩) ((h.2.2.2.2.2.2.2.2.2.2.2.2.2.2.2.2.2.2.2.2.2.2.2.2.2.2.2.2.2.2.2.2.2.2.2.2.1 h230).2 v240 e234)⟩, fun h244 => ⟨(h.2.2.2.2.2.2.2.2.2.2.2.2.2.2.2.2.2.2.2.2.2.2.2.2.2.2.2.2.2.2.2.2.2.2.2.2.2.1 h244).1, ⟨fun h247 => mo_X12_fits_561 hK ((h.2.2.2.2.2.2.2.2.2.2.2.2.2.2.2.2.2.2.2.2.2.2.2.2.2.2.2.2.2.2.2.2.2.2.2.2.2.1 h244).2.1 h247), fun h248 => mo_X12_fits_561 hK ((h.2.2.2.2.2.2.2.2.2.2.2.2.2.2.2.2.2.2.2.2.2.2.2.2.2.2.2.2.2.2.2.2.2.2.2.2.2.1 h244).2.2 h248)⟩⟩, fun h249 => ⟨(h.2.2.2.2.2.2.2.2.2.2.2.2.2.2.2.2.2.2.2.2.2.2.2.2.2.2.2.2.2.2.2.2.2.2.2.2.2.2.1 h249).1, ⟨fun h252 => mo_X12_fits_595 hK ((h.2.2.2.2.2.2.2.2.2.2.2.2.2.2.2.2.2.2.2.2.2.2.2.2.2.2.2.2.2.2.2.2.2.2.2.2.2.2.1 h249).2.1 h252), fun h253 => ⟨((h.2.2.2.2.2.2.2.2.2.2.2.2.2.2.2.2.2.2.2.2.2.2.2.2.2.2.2.2.2.2.2.2.2.2.2.2.2.2.1 h249).2.2 h253).1, mo_X12_popInto (fun r258 σ257 h256 => ⟨fun h257 => mo_X12_fits_595 hK (h256.1 h257), fun h258 => mo_X12_fits_596 hK (h256.2 h258)⟩) ((h.2.2.2.2.2.2.2.2.2.2.2.2.2.2.2.2.2.2.2.2.2.2.2.2.2.2.2.2.2.2.2.2.2.2.2.2.2.2.1 h249).2.2 h253).2⟩⟩⟩, fun h259 => mo_X12_pop (fun r262 σ261 h260 => ⟨fun h261 => mo_X12_fits_619 hK (h260.1 h261), fun h262 => mo_X12_isSome (fun r265 σ264 h263 => ⟨fun h264 => mo_X12_fits_624 hK (h263.1 h264), fun h265 => mo_X12_fits_619 hK (h263.2 h265)⟩) (h260.2 h262)⟩) (h.2.2.2.2.2.2.2.2.2.2.2.2.2.2.2.2.2.2.2.2.2.2.2.2.2.2.2.2.2.2.2.2.2.2.2.2.2.2.2.1 h259), fun h266 => mo_X12_push (fun r269 σ268 h267 => ⟨h267.1, hK _ _ h267.2⟩) (h.2.2.2.2.2.2.2.2.2.2.2.2.2.2.2.2.2.2.2.2.2.2.2.2.2.2.2.2.2.2.2.2.2.2.2.2.2.2.2.2.1 h266), fun h270 => mo_X12_popInts (fun r273 σ272 h271 => ⟨h271.1, hK _ _ h271.2⟩) (h.2.2.2.2.2.2.2.2.2.2.2.2.2.2.2.2.2.2.2.2.2.2.2.2.2.2.2.2.2.2.2.2.2.2.2.2.2.2.2.2.2.1 h270), fun h274 h275 h276 h277 h278 h279 h280 h281 h282 h283 h284 h285 h286 h287 h288 h289 h290 h291 h292 h293 h294 h295 h296 h297 h298 h299 h300 h301 h302 h303 h304 h305 h306 h307 h308 h309 h310 h311 h312 h313 h314 h315 => mo_X12_pop (fun r276 σ275 h316 => ⟨fun h317 => mo_X12_fits_619 hK (h316.1 h317), fun h318 => mo_X12_isSome (fun r279 σ278 h319 => ⟨fun h320 => mo_X12_fits_624 hK (h319.1 h320), fun h321 => mo_X12_fits_619 hK (h319.2 h321)⟩) (h316.2 h318)⟩) (h.2.2.2.2.2.2.2.2.2.2.2.2.2.2.2.2.2.2.2.2.2.2.2.2.2.2.2.2.2.2.2.2.2.2.2.2.2.2.2.2.2.2 h274 h275 h276 h277 h278 h279 h280 h281 h282 h283 h284 h285 h286 h287 h288 h289 h290 h291 h292 h293 h294 h295 h296 h297 h298 h299 h300 h301 h302 h303 h304 h305 h306 h307 h308 h309 h310 h311 h312 h313 h314 h315)⟩
theorem mo_X12_fits_84 {K K' : Int32 → sm_S → Prop} (hK : ∀ r s, K r s → K' r s) {σ : sm_S} {y0 : Int32} (h : mp_X12_fits_84 K σ y0) : mp_X12_fits_84 K' σ y0 := by
  unfold mp_X12_fits_84 at h ⊢
  exact ⟨h.1, hK _ _ h.2⟩
theorem mo_X12_fits_83 {K K' : Int32 → sm_S → Prop} (hK : ∀ r s, K r s → K' r s) {σ : sm_S} (h : mp_X12_fits_83 K σ) : mp_X12_fits_83 K' σ := by
  unfold mp_X12_fits_83 at h ⊢
  exact mo_X12_fits_84 hK h
theorem mo_X12_fits_64 {K K' : Int32 → sm_S → Prop} (hK : ∀ r s, K r s → K' r s) {σ : sm_S} {x1 : Int32} {y1 : Int32} {y2 : Int32} (h : mp_X12_fits_64 K σ x1 y1 y2) : mp_X12_fits_64 K' σ x1 y1 y2 := by
  unfold mp_X12_fits_64 at h ⊢
  exact mo_X12_popInts (fun r283 σ282 h1 => ⟨fun h2 => mo_X12_fits_83 hK (h1.1 h2), fun h3 => mo_X12_push (fun r286 σ285 h4 => ⟨fun h5 => mo_X12_fits_83 hK (h4.1 h5), fun h6 => mo_X12_fits_84 hK (h4.2 h6)⟩) (h1.2 h3)⟩) h
theorem mo_X12_fits_39 {K K' : Int32 → sm_S → Prop} (hK : ∀ r s, K r s → K' r s) {σ : sm_S} {x1 : Int32} {x2 : Int32} {x3 : Int32} {x4 : Int32} (h : mp_X12_fits_39 K σ x1 x2 x3 x4) : mp_X12_fits_39 K' σ x1 x2 x3 x4 := by
  unfold mp_X12_fits_39 at h ⊢
  exact ⟨fun h1 => mo_X12_fits_85 hK (h.1 h1), fun h2 => ⟨fun h3 => mo_X12_fits_85 hK ((h.2 h2).1 h3), fun h4 => ⟨fun h5 => mo_X12_fits_64 hK (((h.2 h2).2 h4).1 h5), fun h6 => mo_X12_fits_64 hK (((h.2 h2).2 h4).2 h6)⟩⟩⟩
theorem mo_X12_fits_19 {K K' : Int32 → sm_S → Prop} (hK : ∀ r s, K r s → K' r s) {σ : sm_S} {x1 : Int32} {x2 : Int32} {x3 : Int32} {x4 : Int32} (h : mp_X12_fits_19 K σ x1 x2 x3 x4) : mp_X12_fits_19 K' σ x1 x2 x3 x4 := by
  unfold mp_X12_fits_19 at h ⊢
  exact ⟨fun h1 => mo_X12_fits_39 hK (h.1 h1), fun h2 => ⟨fun h3 => mo_X12_fits_39 hK ((h.2 h2).1 h3), fun h4 => mo_X12_fitsRow (fun r294 σ293 h5 => ⟨h5.1, hK _ _ h5.2⟩) ((h.2 h2).2 h4)⟩⟩
theorem mo_X12_fits {σ : sm_S} {p1 : Int32} {p2 : Int32} {p3 : Int32} {p4 : Int32} {K K' : Int32 → sm_S → Prop} (hK : ∀ r s, K r s → K' r s) (h : mp_X12_fits σ p1 p2 p3 p4 K) : mp_X12_fits σ p1 p2 p3 p4 K' := by
  unfold mp_X12_fits at h ⊢
  exact ⟨fun h1 => mo_X12_fits_19 hK (h.1 h1), fun h2 => ⟨fun h3 => mo_X12_fits_19 hK ((h.2 h2).1 h3), fun h4 => mo_X12_fitsPlace (fun r299 σ298 h5 => ⟨h5.1, hK _ _ h5.2⟩) ((h.2 h2).2 h4)⟩⟩
theorem mo_X12_isJump_17 {K K' : Int32 → sm_S → Prop} (hK : ∀ r s, K r s → K' r s) {σ : sm_S} {y0 : Int32} (h : mp_X12_isJump_17 K σ y0) : mp_X12_isJump_17 K' σ y0 := by
  unfold mp_X12_isJump_17 at h ⊢
  exact ⟨h.1, hK _ _ h.2⟩
theorem mo_X12_isJump_16 {K K' : Int32 → sm_S → Prop} (hK : ∀ r s, K r s → K' r s) {σ : sm_S} (h : mp_X12_isJump_16 K σ) : mp_X12_isJump_16 K' σ := by
  unfold mp_X12_isJump_16 at h ⊢
  exact mo_X12_isJump_17 hK h
theorem mo_X12_isJump {σ : sm_S} {p1 : Int32} {K K' : Int32 → sm_S → Prop} (hK : ∀ r s, K r s → K' r s) (h : mp_X12_isJump σ p1 K) : mp_X12_isJump σ p1 K' := by
  unfold mp_X12_isJump at h ⊢
  exact ⟨fun h1 => mo_X12_isJump_16 hK (h.1 h1), fun h2 => ⟨fun h3 => mo_X12_isJump_16 hK ((h.2 h2).1 h3), fun h4 => mo_X12_isJump_17 hK ((h.2 h2).2 h4)⟩⟩
theorem mo_X12_jumpOf_27 {K K' : Int32 → sm_S → Prop} (hK : ∀ r s, K r s → K' r s) {σ : sm_S} {y1 : Int32} (h : mp_X12_jumpOf_27 K σ y1) : mp_X12_jumpOf_27 K' σ y1 := by
  unfold mp_X12_jumpOf_27 at h ⊢
  exact mo_X11_two (fun r2 σ1 h1 => hK _ _ h1) h
theorem mo_X12_jumpOf {σ : sm_S} {p1 : Int32} {K K' : Int32 → sm_S → Prop} (hK : ∀ r s, K r s → K' r s) (h : mp_X12_jumpOf σ p1 K) : mp_X12_jumpOf σ p1 K' := by
  unfold mp_X12_jumpOf at h ⊢
  exact ⟨h.1, ⟨fun h3 => mo_X12_jumpOf_27 hK (h.2.1 h3), fun h4 => mo_X12_jumpOf_27 hK (h.2.2 h4)⟩⟩
theorem mo_X12_look_292 {K K' : Int32 → sm_S → Prop} (hK : ∀ r s, K r s → K' r s) {σ : sm_S} {y0 : Int32} (h : mp_X12_look_292 K σ y0) : mp_X12_look_292 K' σ y0 := by
  unfold mp_X12_look_292 at h ⊢
  exact ⟨h.1, hK _ _ h.2⟩
theorem mo_X12_look_291 {K K' : Int32 → sm_S → Prop} (hK : ∀ r s, K r s → K' r s) {σ : sm_S} (h : mp_X12_look_291 K σ) : mp_X12_look_291 K' σ := by
  unfold mp_X12_look_291 at h ⊢
  exact mo_X12_look_292 hK h
theorem mo_X12_look_287 {K K' : Int32 → sm_S → Prop} (hK : ∀ r s, K r s → K' r s) {σ : sm_S} (h : mp_X12_look_287 K σ) : mp_X12_look_287 K' σ := by
  unfold mp_X12_look_287 at h ⊢
  exact mo_X12_look_292 hK h
theorem mo_X12_look_266 {K K' : Int32 → sm_S → Prop} (hK : ∀ r s, K r s → K' r s) {σ : sm_S} {x1 : Int32} {x2 : Int32} {x4 : Int32} (h : mp_X12_look_266 K σ x1 x2 x4) : mp_X12_look_266 K' σ x1 x2 x4 := by
  unfold mp_X12_look_266 at h ⊢
  exact mo_X12_isJump (fun r3 σ2 h1 => ⟨fun h2 => mo_X12_look_287 hK (h1.1 h2), fun h3 => mo_X12_jumpOf (fun r6 σ5 h4 => mo_X12_come (fun r8 σ7 h5 => ⟨fun h6 => mo_X12_look_291 hK (h5.1 h6), fun h7 => mo_X12_look_287 hK (h5.2 h7)⟩) h4) (h1.2 h3)⟩) h
theorem mo_X12_look_244 {K K' : Int32 → sm_S → Prop} (hK : ∀ r s, K r s → K' r s) {σ : sm_S} {x1 : Int32} {x2 : Int32} {x3 : Int32} {x4 : Int32} {y0 : Int32} (h : mp_X12_look_244 K σ x1 x2 x3 x4 y0) : mp_X12_look_244 K' σ x1 x2 x3 x4 y0 := by
  unfold mp_X12_look_244 at h ⊢
  exact ⟨fun h1 => mo_X12_look_266 hK (h.1 h1), fun h2 => mo_X11_wide (fun r12 σ11 h3 => mo_X12_come (fun r14 σ13 h4 => ⟨fun h5 => mo_X12_look_291 hK (h4.1 h5), fun h6 => mo_X12_look_266 hK (h4.2 h6)⟩) h3) (h.2 h2)⟩
theorem mo_X12_look_239 {K K' : Int32 → sm_S → Prop} (hK : ∀ r s, K r s → K' r s) {σ : sm_S} {x1 : Int32} {x2 : Int32} {x3 : Int32} {x4 : Int32} (h : mp_X12_look_239 K σ x1 x2 x3 x4) : mp_X12_look_239 K' σ x1 x2 x3 x4 := by
  unfold mp_X12_look_239 at h ⊢
  exact mo_X12_look_244 hK h
theorem mo_X12_look_202 {K K' : Int32 → sm_S → Prop} (hK : ∀ r s, K r s → K' r s) {σ : sm_S} {x1 : Int32} {x2 : Int32} {x3 : Int32} {x4 : Int32} {y1 : Int32} {y2 : Int32} {y3 : Int32} {y5 : Int32} (h : mp_X12_look_202 K σ x1 x2 x3 x4 y1 y2 y3 y5) : mp_X12_look_202 K' σ x1 x2 x3 x4 y1 y2 y3 y5 := by
  unfold mp_X12_look_202 at h ⊢
  exact ⟨h.1, mo_X12_fits (fun r18 σ17 h3 => ⟨fun h4 => ⟨fun h5 => mo_X12_look_239 hK ((h3.1 h4).1 h5), fun h6 => ⟨fun h7 => mo_X12_look_239 hK (((h3.1 h4).2 h6).1 h7), fun h8 => ⟨fun h9 => mo_X12_look_239 hK ((((h3.1 h4).2 h6).2 h8).1 h9), fun h10 => ⟨fun h11 => mo_X12_look_244 hK (((((h3.1 h4).2 h6).2 h8).2 h10).1 h11), fun h12 => mo_X12_look_239 hK (((((h3.1 h4).2 h6).2 h8).2 h10).2 h12)⟩⟩⟩⟩, fun h13 => hK _ _ (h3.2 h13)⟩) h.2⟩
theorem mo_X12_look_178 {K K' : Int32 → sm_S → Prop} (hK : ∀ r s, K r s → K' r s) {σ : sm_S} {x1 : Int32} {x2 : Int32} {x3 : Int32} {x4 : Int32} {y1 : Int32} {y2 : Int32} {y4 : Int32} (h : mp_X12_look_178 K σ x1 x2 x3 x4 y1 y2 y4) : mp_X12_look_178 K' σ x1 x2 x3 x4 y1 y2 y4 := by
  unfold mp_X12_look_178 at h ⊢
  exact ⟨h.1, ⟨fun h3 => mo_X12_look_202 hK (h.2.1 h3), fun h4 => mo_X12_look_202 hK (h.2.2 h4)⟩⟩
theorem mo_X12_look_128 {L15 L15' : sm_S → Int32 → Int32 → Int32 → Int32 → Prop} (hL15 : ∀ z0 z1 z2 z3 z4, L15 z0 z1 z2 z3 z4 → L15' z0 z1 z2 z3 z4) {K K' : Int32 → sm_S → Prop} (hK : ∀ r s, K r s → K' r s) {σ : sm_S} {x1 : Int32} {x2 : Int32} {x3 : Int32} {x4 : Int32} (h : mp_X12_look_128 L15 K σ x1 x2 x3 x4) : mp_X12_look_128 L15' K' σ x1 x2 x3 x4 := by
  unfold mp_X12_look_128 at h ⊢
  exact fun v26 e2 => hL15 _ _ _ _ _ (h v26 e2)
theorem mo_X12_look_126 {L15 L15' : sm_S → Int32 → Int32 → Int32 → Int32 → Prop} (hL15 : ∀ z0 z1 z2 z3 z4, L15 z0 z1 z2 z3 z4 → L15' z0 z1 z2 z3 z4) {K K' : Int32 → sm_S → Prop} (hK : ∀ r s, K r s → K' r s) {σ : sm_S} (h : mp_X12_look_126 L15 K σ) : mp_X12_look_126 L15' K' σ := by
  unfold mp_X12_look_126 at h ⊢
  exact hK _ _ h
theorem mo_X12_look_15 {K K' : Int32 → sm_S → Prop} (hK : ∀ r s, K r s → K' r s) {n15 : Nat} {σ : sm_S} {x1 : Int32} {x2 : Int32} {x3 : Int32} {x4 : Int32} (h : mp_X12_look_15 K n15 σ x1 x2 x3 x4) : mp_X12_look_15 K' n15 σ x1 x2 x3 x4 := by
  suffices g : ∀ (σ : sm_S) (x1 : Int32) (x2 : Int32) (x3 : Int32) (x4 : Int32), mp_X12_look_15 K n15 σ x1 x2 x3 x4 → mp_X12_look_15 K' n15 σ x1 x2 x3 x4 from g _ _ _ _ _ h
  clear h
  induction n15 with
  | zero => exact fun _ _ _ _ _ h => h.elim
  | succ n15 ih15 =>
    intro σ x1 x2 x3 x4 h
    unfold mp_X12_look_15 at h ⊢
    exact ⟨h.1, ⟨fun h3 => mo_X12_takeUp (fun σ29 h4 => ⟨h4.1, fun v31 e8 => ⟨fun h9 => mo_X12_look_178 hK ((h4.2 v31 e8).1 h9), fun h10 => mo_X12_look_178 hK ((h4.2 v31 e8).2 h10)⟩⟩) (h.2.1 h3), fun h11 => ⟨(h.2.2 h11).1, fun v34 e15 => mo_X11_two (fun r36 σ35 h16 => ⟨fun h17 => mo_X12_look_128 ih15 hK (h16.1 h17), fun h18 => mo_X11_two (fun r39 σ38 h19 => ⟨fun h20 => mo_X12_look_128 ih15 hK (h19.1 h20), fun h21 => mo_X12_takeUp (fun σ41 h22 => fun σ42 e24 => ⟨(h22 σ42 e24).1, mo_X12_push (fun r45 σ44 h27 => ⟨fun h28 => mo_X12_look_126 ih15 hK (h27.1 h28), fun h29 => mo_X11_two (fun r48 σ47 h30 => mo_X12_come (fun r50 σ49 h31 => ⟨fun h32 => mo_X12_look_128 ih15 hK (h31.1 h32), fun h33 => mo_X12_look_126 ih15 hK (h31.2 h33)⟩) h30) (h27.2 h29)⟩) (h22 σ42 e24).2⟩) (h19.2 h21)⟩) (h16.2 h18)⟩) ((h.2.2 h11).2 v34 e15)⟩⟩⟩
theorem mo_X12_look {σ : sm_S} {p1 : Int32} {p2 : Int32} {K K' : Int32 → sm_S → Prop} (hK : ∀ r s, K r s → K' r s) (h : mp_X12_look σ p1 p2 K) : mp_X12_look σ p1 p2 K' := by
  unfold mp_X12_look at h ⊢
  exact ⟨h.1, fun v53 e4 => (h.2 v53 e4).elim (fun n15 h5 => ⟨n15, mo_X12_look_15 hK h5⟩)⟩
theorem mo_X12_verify_102 {K K' : Int32 → sm_S → Prop} (hK : ∀ r s, K r s → K' r s) {n102 : Nat} {σ : sm_S} {x1 : Int32} {x3 : Int32} {x4 : Int32} (h : mp_X12_verify_102 K n102 σ x1 x3 x4) : mp_X12_verify_102 K' n102 σ x1 x3 x4 := by
  suffices g : ∀ (σ : sm_S) (x1 : Int32) (x3 : Int32) (x4 : Int32), mp_X12_verify_102 K n102 σ x1 x3 x4 → mp_X12_verify_102 K' n102 σ x1 x3 x4 from g _ _ _ _ h
  clear h
  induction n102 with
  | zero => exact fun _ _ _ _ h => h.elim
  | succ n102 ih102 =>
    intro σ x1 x3 x4 h
    unfold mp_X12_verify_102 at h ⊢
    exact ⟨fun h1 => hK _ _ (h.1 h1), fun h2 => ⟨(h.2 h2).1, ⟨fun h5 => fun v4 e7 => ih102 _ _ _ _ (((h.2 h2).2.1 h5) v4 e7), fun h8 => ⟨((h.2 h2).2.2 h8).1, fun σ6 e12 => fun σ7 e14 => mo_X12_look (fun r9 σ8 h15 => ⟨fun h16 => ⟨(h15.1 h16).1, fun v12 e20 => ih102 _ _ _ _ ((h15.1 h16).2 v12 e20)⟩, fun h21 => hK _ _ (h15.2 h21)⟩) ((((h.2 h2).2.2 h8).2 σ6 e12) σ7 e14)⟩⟩⟩⟩
theorem mo_X12_verify_57 {L7 L7' : sm_S → Int32 → Int32 → Prop} (hL7 : ∀ z0 z1 z2, L7 z0 z1 z2 → L7' z0 z1 z2) {K K' : Int32 → sm_S → Prop} (hK : ∀ r s, K r s → K' r s) {σ : sm_S} {x1 : Int32} {x2 : Int32} {y1 : Int32} {y2 : Int32} (h : mp_X12_verify_57 L7 K σ x1 x2 y1 y2) : mp_X12_verify_57 L7' K' σ x1 x2 y1 y2 := by
  unfold mp_X12_verify_57 at h ⊢
  exact ⟨h.1, fun σ14 e4 => fun v15 e6 => hL7 _ _ _ ((h.2 σ14 e4) v15 e6)⟩
theorem mo_X12_verify_7 {K K' : Int32 → sm_S → Prop} (hK : ∀ r s, K r s → K' r s) {n7 : Nat} {σ : sm_S} {x1 : Int32} {x2 : Int32} (h : mp_X12_verify_7 K n7 σ x1 x2) : mp_X12_verify_7 K' n7 σ x1 x2 := by
  suffices g : ∀ (σ : sm_S) (x1 : Int32) (x2 : Int32), mp_X12_verify_7 K n7 σ x1 x2 → mp_X12_verify_7 K' n7 σ x1 x2 from g _ _ _ h
  clear h
  induction n7 with
  | zero => exact fun _ _ _ h => h.elim
  | succ n7 ih7 =>
    intro σ x1 x2 h
    unfold mp_X12_verify_7 at h ⊢
    exact ⟨h.1, ⟨fun h3 => mo_X12_come (fun r19 σ18 h4 => ⟨h4.1, ⟨h4.2.1, fun v22 e10 => ⟨(h4.2.2 v22 e10).1, fun v24 e14 => ((h4.2.2 v22 e10).2 v24 e14).elim (fun n102 h15 => ⟨n102, mo_X12_verify_102 hK h15⟩)⟩⟩⟩) (h.2.1 h3), fun h16 => ⟨(h.2.2 h16).1, ⟨fun h19 => mo_X12_verify_57 ih7 hK ((h.2.2 h16).2.1 h19), fun h20 => ⟨((h.2.2 h16).2.2 h20).1, mo_X12_verify_57 ih7 hK ((h.2.2 h16).2.2 h20).2⟩⟩⟩⟩⟩
theorem mo_X12_verify {σ : sm_S} {p1 : Int32} {K K' : Int32 → sm_S → Prop} (hK : ∀ r s, K r s → K' r s) (h : mp_X12_verify σ p1 K) : mp_X12_verify σ p1 K' := by
  unfold mp_X12_verify at h ⊢
  exact fun σ28 e2 => (h σ28 e2).elim (fun n7 h3 => ⟨n7, mo_X12_verify_7 hK h3⟩)
theorem mo_X12_feed {σ : sm_S} {p1 : Int32} {p2 : Int32} {p3 : Int32} {p4 : Int32} {p5 : Int32} {K K' : Int32 → sm_S → Prop} (hK : ∀ r s, K r s → K' r s) (h : mp_X12_feed σ p1 p2 p3 p4 p5 K) : mp_X12_feed σ p1 p2 p3 p4 p5 K' := by
  unfold mp_X12_feed at h ⊢
  exact mo_X11_feed (fun r2 σ1 h1 => hK _ _ h1) h
theorem mo_X12_end_76 {K K' : Int32 → sm_S → Prop} (hK : ∀ r s, K r s → K' r s) {n76 : Nat} {σ : sm_S} {x2 : Int32} {x3 : Int32} (h : mp_X12_end_76 K n76 σ x2 x3) : mp_X12_end_76 K' n76 σ x2 x3 := by
  suffices g : ∀ (σ : sm_S) (x2 : Int32) (x3 : Int32), mp_X12_end_76 K n76 σ x2 x3 → mp_X12_end_76 K' n76 σ x2 x3 from g _ _ _ h
  clear h
  induction n76 with
  | zero => exact fun _ _ _ h => h.elim
  | succ n76 ih76 =>
    intro σ x2 x3 h
    unfold mp_X12_end_76 at h ⊢
    exact ⟨fun h1 => hK _ _ (h.1 h1), fun h2 => mo_X12_verify (fun r3 σ2 h3 => ⟨fun h4 => fun v5 e6 => ih76 _ _ _ ((h3.1 h4) v5 e6), fun h7 => fun σ6 e9 => hK _ _ ((h3.2 h7) σ6 e9)⟩) (h.2 h2)⟩
theorem mo_X12_end_47 {K K' : Int32 → sm_S → Prop} (hK : ∀ r s, K r s → K' r s) {n47 : Nat} {σ : sm_S} {x2 : Int32} {x3 : Int32} (h : mp_X12_end_47 K n47 σ x2 x3) : mp_X12_end_47 K' n47 σ x2 x3 := by
  suffices g : ∀ (σ : sm_S) (x2 : Int32) (x3 : Int32), mp_X12_end_47 K n47 σ x2 x3 → mp_X12_end_47 K' n47 σ x2 x3 from g _ _ _ h
  clear h
  induction n47 with
  | zero => exact fun _ _ _ h => h.elim
  | succ n47 ih47 =>
    intro σ x2 x3 h
    unfold mp_X12_end_47 at h ⊢
    exact ⟨fun h1 => (h.1 h1).elim (fun n76 h2 => ⟨n76, mo_X12_end_76 hK h2⟩), fun h3 => ⟨(h.2 h3).1, fun σ9 e7 => ⟨((h.2 h3).2 σ9 e7).1, fun σ11 e11 => fun v12 e13 => ih47 _ _ _ ((((h.2 h3).2 σ9 e7).2 σ11 e11) v12 e13)⟩⟩⟩
theorem mo_X12_end_15 {K K' : Int32 → sm_S → Prop} (hK : ∀ r s, K r s → K' r s) {σ : sm_S} (h : mp_X12_end_15 K σ) : mp_X12_end_15 K' σ := by
  unfold mp_X12_end_15 at h ⊢
  exact fun σ13 e2 => hK _ _ (h σ13 e2)
theorem mo_X12_end {σ : sm_S} {p1 : Int32} {K K' : Int32 → sm_S → Prop} (hK : ∀ r s, K r s → K' r s) (h : mp_X12_end σ p1 K) : mp_X12_end σ p1 K' := by
  unfold mp_X12_end at h ⊢
  exact ⟨fun h1 => mo_X12_end_15 hK (h.1 h1), fun h2 => ⟨fun h3 => fun σ16 e5 => mo_X11_end (fun r18 σ17 h6 => ⟨fun h7 => (h6.1 h7).elim (fun n47 h8 => ⟨n47, mo_X12_end_47 hK h8⟩), fun h9 => hK _ _ (h6.2 h9)⟩) (((h.2 h2).1 h3) σ16 e5), fun h10 => mo_X12_end_15 hK ((h.2 h2).2 h10)⟩⟩
theorem mo_X12_stands_166 {K K' : Int32 → sm_S → Prop} (hK : ∀ r s, K r s → K' r s) {σ : sm_S} {y0 : Int32} (h : mp_X12_stands_166 K σ y0) : mp_X12_stands_166 K' σ y0 := by
  unfold mp_X12_stands_166 at h ⊢
  exact hK _ _ h
theorem mo_X12_stands_165 {K K' : Int32 → sm_S → Prop} (hK : ∀ r s, K r s → K' r s) {σ : sm_S} (h : mp_X12_stands_165 K σ) : mp_X12_stands_165 K' σ := by
  unfold mp_X12_stands_165 at h ⊢
  exact mo_X12_stands_166 hK h
theorem mo_X12_stands_124 {K K' : Int32 → sm_S → Prop} (hK : ∀ r s, K r s → K' r s) {σ : sm_S} {x3 : Int32} {x4 : Int32} {x5 : Int32} {x6 : Int32} (h : mp_X12_stands_124 K σ x3 x4 x5 x6) : mp_X12_stands_124 K' σ x3 x4 x5 x6 := by
  unfold mp_X12_stands_124 at h ⊢
  exact ⟨fun h1 => mo_X12_stands_165 hK (h.1 h1), fun h2 => ⟨fun h3 => mo_X12_stands_165 hK ((h.2 h2).1 h3), fun h4 => ⟨((h.2 h2).2 h4).1, ⟨fun h7 => mo_X12_stands_165 hK (((h.2 h2).2 h4).2.1 h7), fun h8 => ⟨(((h.2 h2).2 h4).2.2 h8).1, mo_X12_stands_166 hK (((h.2 h2).2 h4).2.2 h8).2⟩⟩⟩⟩⟩
theorem mo_X12_stands_41 {K K' : Int32 → sm_S → Prop} (hK : ∀ r s, K r s → K' r s) {σ : sm_S} (h : mp_X12_stands_41 K σ) : mp_X12_stands_41 K' σ := by
  unfold mp_X12_stands_41 at h ⊢
  exact hK _ _ h
theorem mo_X12_stands {σ : sm_S} {p1 : Int32} {p2 : Int32} {p3 : Int32} {p4 : Int32} {K K' : Int32 → sm_S → Prop} (hK : ∀ r s, K r s → K' r s) (h : mp_X12_stands σ p1 p2 p3 p4 K) : mp_X12_stands σ p1 p2 p3 p4 K' := by
  unfold mp_X12_stands at h ⊢
  exact ⟨fun h1 => mo_X12_stands_41 hK (h.1 h1), fun h2 => ⟨fun h3 => mo_X12_stands_41 hK ((h.2 h2).1 h3), fun h4 => ⟨fun h5 => mo_X12_stands_41 hK (((h.2 h2).2 h4).1 h5), fun h6 => ⟨fun h7 => mo_X12_stands_41 hK ((((h.2 h2).2 h4).2 h6).1 h7), fun h8 => mo_X11_isBegin (fun r11 σ10 h9 => ⟨fun h10 => ⟨(h9.1 h10).1, fun v14 e14 => ⟨((h9.1 h10).2 v14 e14).1, ⟨fun h17 => ⟨fun h18 => ⟨((((h9.1 h10).2 v14 e14).2.1 h17).1 h18).1, fun v19 e22 => ⟨fun h23 => mo_X12_stands_124 hK ((((((h9.1 h10).2 v14 e14).2.1 h17).1 h18).2 v19 e22).1 h23), fun h24 => ⟨fun h25 => mo_X12_stands_124 hK (((((((h9.1 h10).2 v14 e14).2.1 h17).1 h18).2 v19 e22).2 h24).1 h25), fun h26 => ⟨fun h27 => mo_X12_stands_124 hK ((((((((h9.1 h10).2 v14 e14).2.1 h17).1 h18).2 v19 e22).2 h24).2 h26).1 h27), fun h28 => ⟨((((((((h9.1 h10).2 v14 e14).2.1 h17).1 h18).2 v19 e22).2 h24).2 h26).2 h28).1, mo_X12_stands_166 hK ((((((((h9.1 h10).2 v14 e14).2.1 h17).1 h18).2 v19 e22).2 h24).2 h26).2 h28).2⟩⟩⟩⟩⟩, fun h31 => ⟨((((h9.1 h10).2 v14 e14).2.1 h17).2 h31).1, hK _ _ ((((h9.1 h10).2 v14 e14).2.1 h17).2 h31).2⟩⟩, fun h34 => hK _ _ (((h9.1 h10).2 v14 e14).2.2 h34)⟩⟩⟩, fun h35 => mo_X12_stands_41 hK (h9.2 h35)⟩) ((((h.2 h2).2 h4).2 h6).2 h8)⟩⟩⟩⟩
theorem mo_X12_input {σ : sm_S} {p1 : Int32} {K K' : Int32 → sm_S → Prop} (hK : ∀ r s, K r s → K' r s) (h : mp_X12_input σ p1 K) : mp_X12_input σ p1 K' := by
  unfold mp_X12_input at h ⊢
  exact ⟨fun h1 => ⟨(h.1 h1).1, fun σ3 e5 => fun σ4 e7 => hK _ _ (((h.1 h1).2 σ3 e5) σ4 e7)⟩, fun h8 => hK _ _ (h.2 h8)⟩
theorem mo_X12_clear {σ : sm_S}  {K K' : sm_S → Prop} (hK : ∀ s, K s → K' s) (h : mp_X12_clear σ  K) : mp_X12_clear σ  K' := by
  unfold mp_X12_clear at h ⊢
  exact fun σ1 e2 => hK _ (h σ1 e2)
theorem mo_X12_enter_32 {K K' : sm_S → Prop} (hK : ∀ s, K s → K' s) {n32 : Nat} {σ : sm_S} {x2 : Int32} (h : mp_X12_enter_32 K n32 σ x2) : mp_X12_enter_32 K' n32 σ x2 := by
  suffices g : ∀ (σ : sm_S) (x2 : Int32), mp_X12_enter_32 K n32 σ x2 → mp_X12_enter_32 K' n32 σ x2 from g _ _ h
  clear h
  induction n32 with
  | zero => exact fun _ _ h => h.elim
  | succ n32 ih32 =>
    intro σ x2 h
    unfold mp_X12_enter_32 at h ⊢
    exact ⟨fun h1 => fun σ2 e3 => hK _ ((h.1 h1) σ2 e3), fun h4 => ⟨(h.2 h4).1, fun σ4 e8 => ⟨((h.2 h4).2 σ4 e8).1, fun σ6 e12 => fun v7 e14 => ih32 _ _ ((((h.2 h4).2 σ4 e8).2 σ6 e12) v7 e14)⟩⟩⟩
theorem mo_X12_enter {σ : sm_S} {p1 : Int32} {K K' : sm_S → Prop} (hK : ∀ s, K s → K' s) (h : mp_X12_enter σ p1 K) : mp_X12_enter σ p1 K' := by
  unfold mp_X12_enter at h ⊢
  exact ⟨h.1, fun σ9 e4 => ⟨(h.2 σ9 e4).1, fun σ11 e8 => ⟨((h.2 σ9 e4).2 σ11 e8).1, fun σ13 e12 => (((h.2 σ9 e4).2 σ11 e8).2 σ13 e12).elim (fun n32 h13 => ⟨n32, mo_X12_enter_32 hK h13⟩)⟩⟩⟩
theorem mo_X12_isDone_24 {K K' : Int32 → sm_S → Prop} (hK : ∀ r s, K r s → K' r s) {σ : sm_S} {y0 : Int32} (h : mp_X12_isDone_24 K σ y0) : mp_X12_isDone_24 K' σ y0 := by
  unfold mp_X12_isDone_24 at h ⊢
  exact ⟨h.1, hK _ _ h.2⟩
theorem mo_X12_isDone {σ : sm_S}  {K K' : Int32 → sm_S → Prop} (hK : ∀ r s, K r s → K' r s) (h : mp_X12_isDone σ  K) : mp_X12_isDone σ  K' := by
  unfold mp_X12_isDone at h ⊢
  exact ⟨fun h1 => mo_X12_isDone_24 hK (h.1 h1), fun h2 => mo_X12_isDone_24 hK (h.2 h2)⟩
theorem mo_X12_cellsOf_30 {K K' : Int32 → sm_S → Prop} (hK : ∀ r s, K r s → K' r s) {σ : sm_S} {y0 : Int32} (h : mp_X12_cellsOf_30 K σ y0) : mp_X12_cellsOf_30 K' σ y0 := by
  unfold mp_X12_cellsOf_30 at h ⊢
  exact hK _ _ h
theorem mo_X12_cellsOf {σ : sm_S} {p1 : Int32} {K K' : Int32 → sm_S → Prop} (hK : ∀ r s, K r s → K' r s) (h : mp_X12_cellsOf σ p1 K) : mp_X12_cellsOf σ p1 K' := by
  unfold mp_X12_cellsOf at h ⊢
  exact ⟨h.1, ⟨fun h3 => mo_X12_cellsOf_30 hK (h.2.1 h3), fun h4 => ⟨(h.2.2 h4).1, ⟨(h.2.2 h4).2.1, mo_X12_cellsOf_30 hK (h.2.2 h4).2.2⟩⟩⟩⟩
theorem mo_X12_isPart_45 {K K' : Int32 → sm_S → Prop} (hK : ∀ r s, K r s → K' r s) {σ : sm_S} {y0 : Int32} (h : mp_X12_isPart_45 K σ y0) : mp_X12_isPart_45 K' σ y0 := by
  unfold mp_X12_isPart_45 at h ⊢
  exact ⟨h.1, hK _ _ h.2⟩
theorem mo_X12_isPart {σ : sm_S} {p1 : Int32} {p2 : Int32} {K K' : Int32 → sm_S → Prop} (hK : ∀ r s, K r s → K' r s) (h : mp_X12_isPart σ p1 p2 K) : mp_X12_isPart σ p1 p2 K' := by
  unfold mp_X12_isPart at h ⊢
  exact ⟨h.1, ⟨fun h3 => ⟨(h.2.1 h3).1, mo_X12_isPart_45 hK (h.2.1 h3).2⟩, fun h6 => ⟨(h.2.2 h6).1, ⟨(h.2.2 h6).2.1, ⟨fun h11 => mo_X12_isPart_45 hK ((h.2.2 h6).2.2.1 h11), fun h12 => mo_X12_isPart_45 hK ((h.2.2 h6).2.2.2 h12)⟩⟩⟩⟩⟩
theorem mo_X12_mark_48 {K K' : sm_S → Prop} (hK : ∀ s, K s → K' s) {σ : sm_S} (h : mp_X12_mark_48 K σ) : mp_X12_mark_48 K' σ := by
  unfold mp_X12_mark_48 at h ⊢
  exact hK _ h
theorem mo_X12_mark {σ : sm_S} {p1 : Int32} {K K' : sm_S → Prop} (hK : ∀ s, K s → K' s) (h : mp_X12_mark σ p1 K) : mp_X12_mark σ p1 K' := by
  unfold mp_X12_mark at h ⊢
  exact ⟨fun h1 => mo_X12_mark_48 hK (h.1 h1), fun h2 => ⟨(h.2 h2).1, ⟨fun h5 => mo_X12_mark_48 hK ((h.2 h2).2.1 h5), fun h6 => ⟨((h.2 h2).2.2 h6).1, fun σ5 e10 => ⟨(((h.2 h2).2.2 h6).2 σ5 e10).1, fun σ7 e14 => fun σ8 e16 => mo_X12_mark_48 hK (((((h.2 h2).2.2 h6).2 σ5 e10).2 σ7 e14) σ8 e16)⟩⟩⟩⟩⟩
theorem mo_X12_reach_196 {L122 L122' : sm_S → Int32 → Prop} {L159 L159' : sm_S → Int32 → Int32 → Int32 → Prop} (hL122 : ∀ z0 z1, L122 z0 z1 → L122' z0 z1) (hL159 : ∀ z0 z1 z2 z3, L159 z0 z1 z2 z3 → L159' z0 z1 z2 z3) {K K' : Int32 → sm_S → Prop} (hK : ∀ r s, K r s → K' r s) {σ : sm_S} {x1 : Int32} {x2 : Int32} {x3 : Int32} (h : mp_X12_reach_196 L122 L159 K σ x1 x2 x3) : mp_X12_reach_196 L122' L159' K' σ x1 x2 x3 := by
  unfold mp_X12_reach_196 at h ⊢
  exact fun v1 e2 => hL159 _ _ _ _ (h v1 e2)
theorem mo_X12_reach_159 {L122 L122' : sm_S → Int32 → Prop} (hL122 : ∀ z0 z1, L122 z0 z1 → L122' z0 z1) {K K' : Int32 → sm_S → Prop} (hK : ∀ r s, K r s → K' r s) {n159 : Nat} {σ : sm_S} {x1 : Int32} {x2 : Int32} {x3 : Int32} (h : mp_X12_reach_159 L122 K n159 σ x1 x2 x3) : mp_X12_reach_159 L122' K' n159 σ x1 x2 x3 := by
  suffices g : ∀ (σ : sm_S) (x1 : Int32) (x2 : Int32) (x3 : Int32), mp_X12_reach_159 L122 K n159 σ x1 x2 x3 → mp_X12_reach_159 L122' K' n159 σ x1 x2 x3 from g _ _ _ _ h
  clear h
  induction n159 with
  | zero => exact fun _ _ _ _ h => h.elim
  | succ n159 ih159 =>
    intro σ x1 x2 x3 h
    unfold mp_X12_reach_159 at h ⊢
    exact mo_X12_cellsOf (fun r3 σ2 h1 => ⟨fun h2 => hL122 _ _ (h1.1 h2), fun h3 => mo_X12_isPart (fun r6 σ5 h4 => ⟨fun h5 => mo_X12_reach_196 hL122 ih159 hK (h4.1 h5), fun h6 => ⟨(h4.2 h6).1, ⟨(h4.2 h6).2.1, mo_X12_mark (fun σ10 h11 => mo_X12_reach_196 hL122 ih159 hK h11) (h4.2 h6).2.2⟩⟩⟩) (h1.2 h3)⟩) h
theorem mo_X12_reach_122 {K K' : Int32 → sm_S → Prop} (hK : ∀ r s, K r s → K' r s) {n122 : Nat} {σ : sm_S} {x1 : Int32} (h : mp_X12_reach_122 K n122 σ x1) : mp_X12_reach_122 K' n122 σ x1 := by
  suffices g : ∀ (σ : sm_S) (x1 : Int32), mp_X12_reach_122 K n122 σ x1 → mp_X12_reach_122 K' n122 σ x1 from g _ _ h
  clear h
  induction n122 with
  | zero => exact fun _ _ h => h.elim
  | succ n122 ih122 =>
    intro σ x1 h
    unfold mp_X12_reach_122 at h ⊢
    exact ⟨fun h1 => hK _ _ (h.1 h1), fun h2 => fun σ12 e4 => ⟨((h.2 h2) σ12 e4).1, fun v14 e8 => mo_X12_cellsOf (fun r16 σ15 h9 => fun v17 e11 => (h9 v17 e11).elim (fun n159 h12 => ⟨n159, mo_X12_reach_159 ih122 hK h12⟩)) (((h.2 h2) σ12 e4).2 v14 e8)⟩⟩
theorem mo_X12_reach_95 {L25 L25' : sm_S → Int32 → Int32 → Prop} {L58 L58' : sm_S → Int32 → Int32 → Int32 → Int32 → Prop} (hL25 : ∀ z0 z1 z2, L25 z0 z1 z2 → L25' z0 z1 z2) (hL58 : ∀ z0 z1 z2 z3 z4, L58 z0 z1 z2 z3 z4 → L58' z0 z1 z2 z3 z4) {K K' : Int32 → sm_S → Prop} (hK : ∀ r s, K r s → K' r s) {σ : sm_S} {x1 : Int32} {x2 : Int32} {x3 : Int32} {x4 : Int32} (h : mp_X12_reach_95 L25 L58 K σ x1 x2 x3 x4) : mp_X12_reach_95 L25' L58' K' σ x1 x2 x3 x4 := by
  unfold mp_X12_reach_95 at h ⊢
  exact fun v18 e2 => hL58 _ _ _ _ _ (h v18 e2)
theorem mo_X12_reach_58 {L25 L25' : sm_S → Int32 → Int32 → Prop} (hL25 : ∀ z0 z1 z2, L25 z0 z1 z2 → L25' z0 z1 z2) {K K' : Int32 → sm_S → Prop} (hK : ∀ r s, K r s → K' r s) {n58 : Nat} {σ : sm_S} {x1 : Int32} {x2 : Int32} {x3 : Int32} {x4 : Int32} (h : mp_X12_reach_58 L25 K n58 σ x1 x2 x3 x4) : mp_X12_reach_58 L25' K' n58 σ x1 x2 x3 x4 := by
  suffices g : ∀ (σ : sm_S) (x1 : Int32) (x2 : Int32) (x3 : Int32) (x4 : Int32), mp_X12_reach_58 L25 K n58 σ x1 x2 x3 x4 → mp_X12_reach_58 L25' K' n58 σ x1 x2 x3 x4 from g _ _ _ _ _ h
  clear h
  induction n58 with
  | zero => exact fun _ _ _ _ _ h => h.elim
  | succ n58 ih58 =>
    intro σ x1 x2 x3 x4 h
    unfold mp_X12_reach_58 at h ⊢
    exact ⟨fun h1 => fun v20 e3 => hL25 _ _ _ ((h.1 h1) v20 e3), fun h4 => ⟨(h.2 h4).1, ⟨fun h7 => mo_X12_reach_95 hL25 ih58 hK ((h.2 h4).2.1 h7), fun h8 => ⟨((h.2 h4).2.2 h8).1, mo_X12_mark (fun σ24 h11 => mo_X12_reach_95 hL25 ih58 hK h11) ((h.2 h4).2.2 h8).2⟩⟩⟩⟩
theorem mo_X12_reach_25 {K K' : Int32 → sm_S → Prop} (hK : ∀ r s, K r s → K' r s) {n25 : Nat} {σ : sm_S} {x1 : Int32} {x2 : Int32} (h : mp_X12_reach_25 K n25 σ x1 x2) : mp_X12_reach_25 K' n25 σ x1 x2 := by
  suffices g : ∀ (σ : sm_S) (x1 : Int32) (x2 : Int32), mp_X12_reach_25 K n25 σ x1 x2 → mp_X12_reach_25 K' n25 σ x1 x2 from g _ _ _ h
  clear h
  induction n25 with
  | zero => exact fun _ _ _ h => h.elim
  | succ n25 ih25 =>
    intro σ x1 x2 h
    unfold mp_X12_reach_25 at h ⊢
    exact ⟨fun h1 => ⟨fun h2 => ((h.1 h1).1 h2).elim (fun n122 h3 => ⟨n122, mo_X12_reach_122 hK h3⟩), fun h4 => mo_X12_mark (fun σ27 h5 => h5.elim (fun n122 h6 => ⟨n122, mo_X12_reach_122 hK h6⟩)) ((h.1 h1).2 h4)⟩, fun h7 => ⟨(h.2 h7).1, ⟨(h.2 h7).2.1, ⟨(h.2 h7).2.2.1, fun v31 e15 => ((h.2 h7).2.2.2 v31 e15).elim (fun n58 h16 => ⟨n58, mo_X12_reach_58 ih25 hK h16⟩)⟩⟩⟩⟩
theorem mo_X12_reach {σ : sm_S}  {K K' : Int32 → sm_S → Prop} (hK : ∀ r s, K r s → K' r s) (h : mp_X12_reach σ  K) : mp_X12_reach σ  K' := by
  unfold mp_X12_reach at h ⊢
  exact fun σ32 e2 => fun σ33 e4 => fun v34 e6 => (((h σ32 e2) σ33 e4) v34 e6).elim (fun n25 h7 => ⟨n25, mo_X12_reach_25 hK h7⟩)
theorem mo_X12_make_65 {K K' : Int32 → sm_S → Prop} (hK : ∀ r s, K r s → K' r s) {σ : sm_S} {x1 : Int32} (h : mp_X12_make_65 K σ x1) : mp_X12_make_65 K' σ x1 := by
  unfold mp_X12_make_65 at h ⊢
  exact fun σ1 e2 => hK _ _ (h σ1 e2)
theorem mo_X12_make {σ : sm_S} {p1 : Int32} {K K' : Int32 → sm_S → Prop} (hK : ∀ r s, K r s → K' r s) (h : mp_X12_make σ p1 K) : mp_X12_make σ p1 K' := by
  unfold mp_X12_make at h ⊢
  exact mo_X12_isDone (fun r3 σ2 h1 => ⟨fun h2 => mo_X12_make_65 hK (h1.1 h2), fun h3 => ⟨fun h4 => ⟨fun h5 => mo_X12_make_65 hK (((h1.2 h3).1 h4).1 h5), fun h6 => mo_X12_reach (fun r8 σ7 h7 => fun σ9 e9 => fun σ10 e11 => fun σ11 e13 => mo_X12_make_65 hK (((h7 σ9 e9) σ10 e11) σ11 e13)) (((h1.2 h3).1 h4).2 h6)⟩, fun h14 => hK _ _ ((h1.2 h3).2 h14)⟩⟩) h
theorem mo_X12_start_113 {K K' : Int32 → sm_S → Prop} (hK : ∀ r s, K r s → K' r s) {n113 : Nat} {σ : sm_S} {x4 : Int32} (h : mp_X12_start_113 K n113 σ x4) : mp_X12_start_113 K' n113 σ x4 := by
  suffices g : ∀ (σ : sm_S) (x4 : Int32), mp_X12_start_113 K n113 σ x4 → mp_X12_start_113 K' n113 σ x4 from g _ _ h
  clear h
  induction n113 with
  | zero => exact fun _ _ h => h.elim
  | succ n113 ih113 =>
    intro σ x4 h
    unfold mp_X12_start_113 at h ⊢
    exact ⟨fun h1 => fun σ2 e3 => fun σ3 e5 => fun σ4 e7 => fun σ5 e9 => fun σ6 e11 => fun σ7 e13 => fun σ8 e15 => mo_X12_make (fun r10 σ9 h16 => mo_X12_enter (fun σ11 h17 => hK _ _ h17) h16) ((((((((h.1 h1) σ2 e3) σ3 e5) σ4 e7) σ5 e9) σ6 e11) σ7 e13) σ8 e15), fun h18 => ⟨(h.2 h18).1, fun σ13 e22 => fun v14 e24 => ih113 _ _ (((h.2 h18).2 σ13 e22) v14 e24)⟩⟩
theorem mo_X12_start_60 {K K' : Int32 → sm_S → Prop} (hK : ∀ r s, K r s → K' r s) {σ : sm_S} {x3 : Int32} {y1 : Int32} (h : mp_X12_start_60 K σ x3 y1) : mp_X12_start_60 K' σ x3 y1 := by
  unfold mp_X12_start_60 at h ⊢
  exact fun σ15 e2 => ⟨(h σ15 e2).1, fun σ16 e6 => fun σ17 e8 => fun σ18 e10 => fun σ19 e12 => fun σ20 e14 => fun σ21 e16 => fun σ22 e18 => ((((((((h σ15 e2).2 σ16 e6) σ17 e8) σ18 e10) σ19 e12) σ20 e14) σ21 e16) σ22 e18).elim (fun n113 h19 => ⟨n113, mo_X12_start_113 hK h19⟩)⟩
theorem mo_X12_start_37 {K K' : Int32 → sm_S → Prop} (hK : ∀ r s, K r s → K' r s) {σ : sm_S} {x2 : Int32} {y0 : Int32} (h : mp_X12_start_37 K σ x2 y0) : mp_X12_start_37 K' σ x2 y0 := by
  unfold mp_X12_start_37 at h ⊢
  exact ⟨fun h1 => ⟨fun h2 => mo_X12_start_60 hK ((h.1 h1).1 h2), fun h3 => mo_X12_start_60 hK ((h.1 h1).2 h3)⟩, fun h4 => mo_X12_start_60 hK (h.2 h4)⟩
theorem mo_X12_start {σ : sm_S} {p1 : Int32} {p2 : Int32} {K K' : Int32 → sm_S → Prop} (hK : ∀ r s, K r s → K' r s) (h : mp_X12_start σ p1 p2 K) : mp_X12_start σ p1 p2 K' := by
  unfold mp_X12_start at h ⊢
  exact ⟨fun h1 => ⟨fun h2 => ⟨fun h3 => mo_X12_start_37 hK (((h.1 h1).1 h2).1 h3), fun h4 => mo_X12_start_37 hK (((h.1 h1).1 h2).2 h4)⟩, fun h5 => mo_X12_start_37 hK ((h.1 h1).2 h5)⟩, fun h6 => hK _ _ (h.2 h6)⟩
theorem mo_X12_clean_382 {K K' : sm_S → Prop} (hK : ∀ s, K s → K' s) {n382 : Nat} {σ : sm_S} {x2 : Int32} {x3 : Int32} {x4 : Int32} (h : mp_X12_clean_382 K n382 σ x2 x3 x4) : mp_X12_clean_382 K' n382 σ x2 x3 x4 := by
  suffices g : ∀ (σ : sm_S) (x2 : Int32) (x3 : Int32) (x4 : Int32), mp_X12_clean_382 K n382 σ x2 x3 x4 → mp_X12_clean_382 K' n382 σ x2 x3 x4 from g _ _ _ _ h
  clear h
  induction n382 with
  | zero => exact fun _ _ _ _ h => h.elim
  | succ n382 ih382 =>
    intro σ x2 x3 x4 h
    unfold mp_X12_clean_382 at h ⊢
    exact ⟨fun h1 => fun σ2 e3 => fun σ3 e5 => hK _ (((h.1 h1) σ2 e3) σ3 e5), fun h6 => ⟨(h.2 h6).1, fun σ5 e10 => fun v6 e12 => ih382 _ _ _ _ (((h.2 h6).2 σ5 e10) v6 e12)⟩⟩
theorem mo_X12_clean_373 {L176 L176' : sm_S → Int32 → Int32 → Int32 → Prop} (hL176 : ∀ z0 z1 z2 z3, L176 z0 z1 z2 z3 → L176' z0 z1 z2 z3) {K K' : sm_S → Prop} (hK : ∀ s, K s → K' s) {σ : sm_S} {x2 : Int32} {x3 : Int32} {x4 : Int32} (h : mp_X12_clean_373 L176 K σ x2 x3 x4) : mp_X12_clean_373 L176' K' σ x2 x3 x4 := by
  unfold mp_X12_clean_373 at h ⊢
  exact fun v7 e2 => hL176 _ _ _ _ (h v7 e2)
theorem mo_X12_clean_286 {L176 L176' : sm_S → Int32 → Int32 → Int32 → Prop} {L230 L230' : sm_S → Int32 → Int32 → Int32 → Int32 → Int32 → Int32 → Int32 → Prop} (hL176 : ∀ z0 z1 z2 z3, L176 z0 z1 z2 z3 → L176' z0 z1 z2 z3) (hL230 : ∀ z0 z1 z2 z3 z4 z5 z6 z7, L230 z0 z1 z2 z3 z4 z5 z6 z7 → L230' z0 z1 z2 z3 z4 z5 z6 z7) {K K' : sm_S → Prop} (hK : ∀ s, K s → K' s) {σ : sm_S} {x2 : Int32} {x3 : Int32} {x4 : Int32} {x5 : Int32} {x6 : Int32} {x7 : Int32} {x8 : Int32} {y1 : Int32} {y2 : Int32} (h : mp_X12_clean_286 L176 L230 K σ x2 x3 x4 x5 x6 x7 x8 y1 y2) : mp_X12_clean_286 L176' L230' K' σ x2 x3 x4 x5 x6 x7 x8 y1 y2 := by
  unfold mp_X12_clean_286 at h ⊢
  exact ⟨h.1, fun σ9 e4 => fun v10 e6 => hL230 _ _ _ _ _ _ _ _ ((h.2 σ9 e4) v10 e6)⟩
theorem mo_X12_clean_284 {L176 L176' : sm_S → Int32 → Int32 → Int32 → Prop} {L230 L230' : sm_S → Int32 → Int32 → Int32 → Int32 → Int32 → Int32 → Int32 → Prop} (hL176 : ∀ z0 z1 z2 z3, L176 z0 z1 z2 z3 → L176' z0 z1 z2 z3) (hL230 : ∀ z0 z1 z2 z3 z4 z5 z6 z7, L230 z0 z1 z2 z3 z4 z5 z6 z7 → L230' z0 z1 z2 z3 z4 z5 z6 z7) {K K' : sm_S → Prop} (hK : ∀ s, K s → K' s) {σ : sm_S} {x2 : Int32} {x3 : Int32} {x4 : Int32} {x5 : Int32} {x6 : Int32} {x7 : Int32} {x8 : Int32} {x9 : Int32} {y1 : Int32} (h : mp_X12_clean_284 L176 L230 K σ x2 x3 x4 x5 x6 x7 x8 x9 y1) : mp_X12_clean_284 L176' L230' K' σ x2 x3 x4 x5 x6 x7 x8 x9 y1 := by
  unfold mp_X12_clean_284 at h ⊢
  exact mo_X12_clean_286 hL176 hL230 hK h
theorem mo_X12_clean_230 {L176 L176' : sm_S → Int32 → Int32 → Int32 → Prop} (hL176 : ∀ z0 z1 z2 z3, L176 z0 z1 z2 z3 → L176' z0 z1 z2 z3) {K K' : sm_S → Prop} (hK : ∀ s, K s → K' s) {n230 : Nat} {σ : sm_S} {x2 : Int32} {x3 : Int32} {x4 : Int32} {x5 : Int32} {x6 : Int32} {x7 : Int32} {x8 : Int32} (h : mp_X12_clean_230 L176 K n230 σ x2 x3 x4 x5 x6 x7 x8) : mp_X12_clean_230 L176' K' n230 σ x2 x3 x4 x5 x6 x7 x8 := by
  suffices g : ∀ (σ : sm_S) (x2 : Int32) (x3 : Int32) (x4 : Int32) (x5 : Int32) (x6 : Int32) (x7 : Int32) (x8 : Int32), mp_X12_clean_230 L176 K n230 σ x2 x3 x4 x5 x6 x7 x8 → mp_X12_clean_230 L176' K' n230 σ x2 x3 x4 x5 x6 x7 x8 from g _ _ _ _ _ _ _ _ h
  clear h
  induction n230 with
  | zero => exact fun _ _ _ _ _ _ _ _ h => h.elim
  | succ n230 ih230 =>
    intro σ x2 x3 x4 x5 x6 x7 x8 h
    unfold mp_X12_clean_230 at h ⊢
    exact ⟨fun h1 => ⟨(h.1 h1).1, ⟨(h.1 h1).2.1, fun σ14 e7 => ⟨((h.1 h1).2.2 σ14 e7).1, ⟨((h.1 h1).2.2 σ14 e7).2.1, fun σ17 e13 => ⟨(((h.1 h1).2.2 σ14 e7).2.2 σ17 e13).1, ⟨(((h.1 h1).2.2 σ14 e7).2.2 σ17 e13).2.1, fun σ20 e19 => ⟨((((h.1 h1).2.2 σ14 e7).2.2 σ17 e13).2.2 σ20 e19).1, ⟨((((h.1 h1).2.2 σ14 e7).2.2 σ17 e13).2.2 σ20 e19).2.1, fun σ23 e25 => ⟨(((((h.1 h1).2.2 σ14 e7).2.2 σ17 e13).2.2 σ20 e19).2.2 σ23 e25).1, fun σ25 e29 => ⟨((((((h.1 h1).2.2 σ14 e7).2.2 σ17 e13).2.2 σ20 e19).2.2 σ23 e25).2 σ25 e29).1, fun σ27 e33 => fun v28 e35 => mo_X12_clean_373 hL176 hK ((((((((h.1 h1).2.2 σ14 e7).2.2 σ17 e13).2.2 σ20 e19).2.2 σ23 e25).2 σ25 e29).2 σ27 e33) v28 e35)⟩⟩⟩⟩⟩⟩⟩⟩⟩⟩, fun h36 => ⟨(h.2 h36).1, fun v30 e40 => mo_X12_isPart (fun r32 σ31 h41 => ⟨fun h42 => mo_X12_clean_284 hL176 ih230 hK (h41.1 h42), fun h43 => ⟨fun h44 => mo_X12_clean_284 hL176 ih230 hK ((h41.2 h43).1 h44), fun h45 => ⟨((h41.2 h43).2 h45).1, mo_X12_clean_286 hL176 ih230 hK ((h41.2 h43).2 h45).2⟩⟩⟩) ((h.2 h36).2 v30 e40)⟩⟩
theorem mo_X12_clean_176 {K K' : sm_S → Prop} (hK : ∀ s, K s → K' s) {n176 : Nat} {σ : sm_S} {x2 : Int32} {x3 : Int32} {x4 : Int32} (h : mp_X12_clean_176 K n176 σ x2 x3 x4) : mp_X12_clean_176 K' n176 σ x2 x3 x4 := by
  suffices g : ∀ (σ : sm_S) (x2 : Int32) (x3 : Int32) (x4 : Int32), mp_X12_clean_176 K n176 σ x2 x3 x4 → mp_X12_clean_176 K' n176 σ x2 x3 x4 from g _ _ _ _ h
  clear h
  induction n176 with
  | zero => exact fun _ _ _ _ h => h.elim
  | succ n176 ih176 =>
    intro σ x2 x3 x4 h
    unfold mp_X12_clean_176 at h ⊢
    exact ⟨fun h1 => (h.1 h1).elim (fun n382 h2 => ⟨n382, mo_X12_clean_382 hK h2⟩), fun h3 => ⟨(h.2 h3).1, ⟨fun h6 => mo_X12_clean_373 ih176 hK ((h.2 h3).2.1 h6), fun h7 => ⟨((h.2 h3).2.2 h7).1, fun v40 e11 => mo_X12_cellsOf (fun r42 σ41 h12 => fun v43 e14 => ⟨(h12 v43 e14).1, fun v45 e18 => ((h12 v43 e14).2 v45 e18).elim (fun n230 h19 => ⟨n230, mo_X12_clean_230 ih176 hK h19⟩)⟩) (((h.2 h3).2.2 h7).2 v40 e11)⟩⟩⟩⟩
theorem mo_X12_clean_168 {K K' : sm_S → Prop} (hK : ∀ s, K s → K' s) {σ : sm_S} {x2 : Int32} {y1 : Int32} (h : mp_X12_clean_168 K σ x2 y1) : mp_X12_clean_168 K' σ x2 y1 := by
  unfold mp_X12_clean_168 at h ⊢
  exact fun σ46 e2 => (h σ46 e2).elim (fun n176 h3 => ⟨n176, mo_X12_clean_176 hK h3⟩)
theorem mo_X12_clean_138 {L53 L53' : sm_S → Int32 → Int32 → Prop} (hL53 : ∀ z0 z1 z2, L53 z0 z1 z2 → L53' z0 z1 z2) {K K' : sm_S → Prop} (hK : ∀ s, K s → K' s) {σ : sm_S} {x2 : Int32} {x3 : Int32} (h : mp_X12_clean_138 L53 K σ x2 x3) : mp_X12_clean_138 L53' K' σ x2 x3 := by
  unfold mp_X12_clean_138 at h ⊢
  exact fun v47 e2 => hL53 _ _ _ (h v47 e2)
theorem mo_X12_clean_53 {K K' : sm_S → Prop} (hK : ∀ s, K s → K' s) {n53 : Nat} {σ : sm_S} {x2 : Int32} {x3 : Int32} (h : mp_X12_clean_53 K n53 σ x2 x3) : mp_X12_clean_53 K' n53 σ x2 x3 := by
  suffices g : ∀ (σ : sm_S) (x2 : Int32) (x3 : Int32), mp_X12_clean_53 K n53 σ x2 x3 → mp_X12_clean_53 K' n53 σ x2 x3 from g _ _ _ h
  clear h
  induction n53 with
  | zero => exact fun _ _ _ h => h.elim
  | succ n53 ih53 =>
    intro σ x2 x3 h
    unfold mp_X12_clean_53 at h ⊢
    exact ⟨fun h1 => ⟨fun h2 => mo_X12_clean_168 hK ((h.1 h1).1 h2), fun h3 => ⟨((h.1 h1).2 h3).1, mo_X12_clean_168 hK ((h.1 h1).2 h3).2⟩⟩, fun h6 => ⟨(h.2 h6).1, ⟨(h.2 h6).2.1, ⟨(h.2 h6).2.2.1, fun v54 e14 => ⟨fun h15 => mo_X12_clean_138 ih53 hK (((h.2 h6).2.2.2 v54 e14).1 h15), fun h16 => ⟨(((h.2 h6).2.2.2 v54 e14).2 h16).1, ⟨fun h19 => mo_X12_clean_138 ih53 hK ((((h.2 h6).2.2.2 v54 e14).2 h16).2.1 h19), fun h20 => ⟨((((h.2 h6).2.2.2 v54 e14).2 h16).2.2 h20).1, ⟨fun h23 => mo_X12_clean_138 ih53 hK (((((h.2 h6).2.2.2 v54 e14).2 h16).2.2 h20).2.1 h23), fun h24 => ⟨(((((h.2 h6).2.2.2 v54 e14).2 h16).2.2 h20).2.2 h24).1, ⟨(((((h.2 h6).2.2.2 v54 e14).2 h16).2.2 h20).2.2 h24).2.1, ⟨(((((h.2 h6).2.2.2 v54 e14).2 h16).2.2 h20).2.2 h24).2.2.1, fun σ63 e32 => mo_X12_clean_138 ih53 hK ((((((h.2 h6).2.2.2 v54 e14).2 h16).2.2 h20).2.2 h24).2.2.2 σ63 e32)⟩⟩⟩⟩⟩⟩⟩⟩⟩⟩⟩⟩
theorem mo_X12_clean_43 {L9 L9' : sm_S → Int32 → Int32 → Prop} (hL9 : ∀ z0 z1 z2, L9 z0 z1 z2 → L9' z0 z1 z2) {K K' : sm_S → Prop} (hK : ∀ s, K s → K' s) {σ : sm_S} {x3 : Int32} {y0 : Int32} {y1 : Int32} (h : mp_X12_clean_43 L9 K σ x3 y0 y1) : mp_X12_clean_43 L9' K' σ x3 y0 y1 := by
  unfold mp_X12_clean_43 at h ⊢
  exact fun v64 e2 => fun v65 e4 => hL9 _ _ _ ((h v64 e2) v65 e4)
theorem mo_X12_clean_9 {K K' : sm_S → Prop} (hK : ∀ s, K s → K' s) {n9 : Nat} {σ : sm_S} {x2 : Int32} {x3 : Int32} (h : mp_X12_clean_9 K n9 σ x2 x3) : mp_X12_clean_9 K' n9 σ x2 x3 := by
  suffices g : ∀ (σ : sm_S) (x2 : Int32) (x3 : Int32), mp_X12_clean_9 K n9 σ x2 x3 → mp_X12_clean_9 K' n9 σ x2 x3 from g _ _ _ h
  clear h
  induction n9 with
  | zero => exact fun _ _ _ h => h.elim
  | succ n9 ih9 =>
    intro σ x2 x3 h
    unfold mp_X12_clean_9 at h ⊢
    exact ⟨fun h1 => (h.1 h1).elim (fun n53 h2 => ⟨n53, mo_X12_clean_53 hK h2⟩), fun h3 => ⟨(h.2 h3).1, fun σ68 e7 => ⟨((h.2 h3).2 σ68 e7).1, ⟨fun h10 => mo_X12_clean_43 ih9 hK (((h.2 h3).2 σ68 e7).2.1 h10), fun h11 => mo_X12_clean_43 ih9 hK (((h.2 h3).2 σ68 e7).2.2 h11)⟩⟩⟩⟩
theorem mo_X12_clean {σ : sm_S}  {K K' : sm_S → Prop} (hK : ∀ s, K s → K' s) (h : mp_X12_clean σ  K) : mp_X12_clean σ  K' := by
  unfold mp_X12_clean at h ⊢
  exact mo_X12_reach (fun r72 σ71 h1 => h1.elim (fun n9 h2 => ⟨n9, mo_X12_clean_9 hK h2⟩)) h
theorem mo_X12_thing_134 {L100 L100' : sm_S → Int32 → Int32 → Int32 → Prop} (hL100 : ∀ z0 z1 z2 z3, L100 z0 z1 z2 z3 → L100' z0 z1 z2 z3) {K K' : Int32 → sm_S → Prop} (hK : ∀ r s, K r s → K' r s) {σ : sm_S} {x5 : Int32} {x6 : Int32} {x7 : Int32} {y1 : Int32} {y2 : Int32} (h : mp_X12_thing_134 L100 K σ x5 x6 x7 y1 y2) : mp_X12_thing_134 L100' K' σ x5 x6 x7 y1 y2 := by
  unfold mp_X12_thing_134 at h ⊢
  exact ⟨h.1, fun σ2 e4 => fun v3 e6 => hL100 _ _ _ _ ((h.2 σ2 e4) v3 e6)⟩
theorem mo_X12_thing_100 {K K' : Int32 → sm_S → Prop} (hK : ∀ r s, K r s → K' r s) {n100 : Nat} {σ : sm_S} {x5 : Int32} {x6 : Int32} {x7 : Int32} (h : mp_X12_thing_100 K n100 σ x5 x6 x7) : mp_X12_thing_100 K' n100 σ x5 x6 x7 := by
  suffices g : ∀ (σ : sm_S) (x5 : Int32) (x6 : Int32) (x7 : Int32), mp_X12_thing_100 K n100 σ x5 x6 x7 → mp_X12_thing_100 K' n100 σ x5 x6 x7 from g _ _ _ _ h
  clear h
  induction n100 with
  | zero => exact fun _ _ _ _ h => h.elim
  | succ n100 ih100 =>
    intro σ x5 x6 x7 h
    unfold mp_X12_thing_100 at h ⊢
    exact ⟨fun h1 => fun σ5 e3 => hK _ _ ((h.1 h1) σ5 e3), fun h4 => mo_X12_isPart (fun r7 σ6 h5 => ⟨fun h6 => mo_X12_thing_134 ih100 hK (h5.1 h6), fun h7 => mo_X12_thing_134 ih100 hK (h5.2 h7)⟩) (h.2 h4)⟩
theorem mo_X12_thing_25 {K K' : Int32 → sm_S → Prop} (hK : ∀ r s, K r s → K' r s) {σ : sm_S} {x1 : Int32} {x2 : Int32} {x3 : Int32} {x4 : Int32} (h : mp_X12_thing_25 K σ x1 x2 x3 x4) : mp_X12_thing_25 K' σ x1 x2 x3 x4 := by
  unfold mp_X12_thing_25 at h ⊢
  exact fun v9 e2 => fun σ10 e4 => ⟨((h v9 e2) σ10 e4).1, fun σ12 e8 => ⟨(((h v9 e2) σ10 e4).2 σ12 e8).1, fun σ14 e12 => ⟨((((h v9 e2) σ10 e4).2 σ12 e8).2 σ14 e12).1, fun σ16 e16 => ⟨(((((h v9 e2) σ10 e4).2 σ12 e8).2 σ14 e12).2 σ16 e16).1, fun σ18 e20 => ⟨((((((h v9 e2) σ10 e4).2 σ12 e8).2 σ14 e12).2 σ16 e16).2 σ18 e20).1, fun σ20 e24 => mo_X12_cellsOf (fun r22 σ21 h25 => fun v23 e27 => (h25 v23 e27).elim (fun n100 h28 => ⟨n100, mo_X12_thing_100 hK h28⟩)) (((((((h v9 e2) σ10 e4).2 σ12 e8).2 σ14 e12).2 σ16 e16).2 σ18 e20).2 σ20 e24)⟩⟩⟩⟩⟩
theorem mo_X12_thing_21 {K K' : Int32 → sm_S → Prop} (hK : ∀ r s, K r s → K' r s) {σ : sm_S} {x1 : Int32} {x2 : Int32} {x3 : Int32} {x4 : Int32} (h : mp_X12_thing_21 K σ x1 x2 x3 x4) : mp_X12_thing_21 K' σ x1 x2 x3 x4 := by
  unfold mp_X12_thing_21 at h ⊢
  exact mo_X12_clean (fun σ24 h1 => mo_X12_thing_25 hK h1) h
theorem mo_X12_thing {σ : sm_S} {p1 : Int32} {p2 : Int32} {p3 : Int32} {p4 : Int32} {K K' : Int32 → sm_S → Prop} (hK : ∀ r s, K r s → K' r s) (h : mp_X12_thing σ p1 p2 p3 p4 K) : mp_X12_thing σ p1 p2 p3 p4 K' := by
  unfold mp_X12_thing at h ⊢
  exact ⟨fun h1 => mo_X12_thing_21 hK (h.1 h1), fun h2 => ⟨fun h3 => mo_X12_thing_25 hK ((h.2 h2).1 h3), fun h4 => mo_X12_thing_21 hK ((h.2 h2).2 h4)⟩⟩
theorem mo_X12_object {σ : sm_S} {p1 : Int32} {K K' : Int32 → sm_S → Prop} (hK : ∀ r s, K r s → K' r s) (h : mp_X12_object σ p1 K) : mp_X12_object σ p1 K' := by
  unfold mp_X12_object at h ⊢
  exact mo_X12_thing (fun r2 σ1 h1 => hK _ _ h1) h
theorem mo_X12_method {σ : sm_S}  {K K' : Int32 → sm_S → Prop} (hK : ∀ r s, K r s → K' r s) (h : mp_X12_method σ  K) : mp_X12_method σ  K' := by
  unfold mp_X12_method at h ⊢
  exact ⟨h.1, hK _ _ h.2⟩
theorem mo_X12_under {σ : sm_S} {p1 : Int32} {K K' : Int32 → sm_S → Prop} (hK : ∀ r s, K r s → K' r s) (h : mp_X12_under σ p1 K) : mp_X12_under σ p1 K' := by
  unfold mp_X12_under at h ⊢
  exact mo_X12_method (fun r2 σ1 h1 => ⟨h1.1, ⟨h1.2.1, hK _ _ h1.2.2⟩⟩) h
theorem mo_X12_value {σ : sm_S} {p1 : Int32} {K K' : Int32 → sm_S → Prop} (hK : ∀ r s, K r s → K' r s) (h : mp_X12_value σ p1 K) : mp_X12_value σ p1 K' := by
  unfold mp_X12_value at h ⊢
  exact mo_X12_under (fun r2 σ1 h1 => ⟨h1.1, hK _ _ h1.2⟩) h
theorem mo_X12_drop {σ : sm_S} {p1 : Int32} {K K' : sm_S → Prop} (hK : ∀ s, K s → K' s) (h : mp_X12_drop σ p1 K) : mp_X12_drop σ p1 K' := by
  unfold mp_X12_drop at h ⊢
  exact ⟨h.1, ⟨h.2.1, fun σ3 e6 => hK _ (h.2.2 σ3 e6)⟩⟩
theorem mo_X12_putInt {σ : sm_S} {p1 : Int32} {K K' : sm_S → Prop} (hK : ∀ s, K s → K' s) (h : mp_X12_putInt σ p1 K) : mp_X12_putInt σ p1 K' := by
  unfold mp_X12_putInt at h ⊢
  exact ⟨h.1, ⟨h.2.1, fun σ3 e6 => mo_X12_under (fun r5 σ4 h7 => ⟨h7.1, fun σ7 e11 => mo_X12_under (fun r9 σ8 h12 => ⟨h12.1, fun σ11 e16 => hK _ (h12.2 σ11 e16)⟩) (h7.2 σ7 e11)⟩) (h.2.2 σ3 e6)⟩⟩
theorem mo_X12_putThing {σ : sm_S} {p1 : Int32} {K K' : sm_S → Prop} (hK : ∀ s, K s → K' s) (h : mp_X12_putThing σ p1 K) : mp_X12_putThing σ p1 K' := by
  unfold mp_X12_putThing at h ⊢
  exact ⟨h.1, ⟨h.2.1, fun σ3 e6 => mo_X12_under (fun r5 σ4 h7 => ⟨h7.1, fun σ7 e11 => mo_X12_under (fun r9 σ8 h12 => ⟨h12.1, fun σ11 e16 => hK _ (h12.2 σ11 e16)⟩) (h7.2 σ7 e11)⟩) (h.2.2 σ3 e6)⟩⟩
theorem mo_X12_copy {σ : sm_S} {p1 : Int32} {p2 : Int32} {K K' : sm_S → Prop} (hK : ∀ s, K s → K' s) (h : mp_X12_copy σ p1 p2 K) : mp_X12_copy σ p1 p2 K' := by
  unfold mp_X12_copy at h ⊢
  exact ⟨h.1, ⟨h.2.1, fun σ3 e6 => ⟨(h.2.2 σ3 e6).1, ⟨(h.2.2 σ3 e6).2.1, fun σ6 e12 => hK _ ((h.2.2 σ3 e6).2.2 σ6 e12)⟩⟩⟩⟩
theorem mo_X12_noRoom {σ : sm_S}  {K K' : Int32 → sm_S → Prop} (hK : ∀ r s, K r s → K' r s) (h : mp_X12_noRoom σ  K) : mp_X12_noRoom σ  K' := by
  unfold mp_X12_noRoom at h ⊢
  exact fun σ1 e2 => hK _ _ (h σ1 e2)
theorem mo_X12_fault {σ : sm_S} {p1 : Int32} {K K' : Int32 → sm_S → Prop} (hK : ∀ r s, K r s → K' r s) (h : mp_X12_fault σ p1 K) : mp_X12_fault σ p1 K' := by
  unfold mp_X12_fault at h ⊢
  exact ⟨h.1, fun v2 e4 => ⟨(h.2 v2 e4).1, mo_X12_make (fun r5 σ4 h7 => ⟨fun h8 => mo_X12_object (fun r8 σ7 h9 => fun σ9 e11 => fun σ10 e13 => hK _ _ ((h9 σ9 e11) σ10 e13)) (h7.1 h8), fun h14 => mo_X12_noRoom (fun r12 σ11 h15 => ⟨h15.1, hK _ _ h15.2⟩) (h7.2 h14)⟩) (h.2 v2 e4).2⟩⟩
theorem mo_X12_leave {σ : sm_S}  {K K' : sm_S → Prop} (hK : ∀ s, K s → K' s) (h : mp_X12_leave σ  K) : mp_X12_leave σ  K' := by
  unfold mp_X12_leave at h ⊢
  exact fun σ1 e2 => hK _ (h σ1 e2)
theorem mo_X12_fly_182 {K K' : sm_S → Prop} (hK : ∀ s, K s → K' s) {σ : sm_S} {y1 : Int32} (h : mp_X12_fly_182 K σ y1) : mp_X12_fly_182 K' σ y1 := by
  unfold mp_X12_fly_182 at h ⊢
  exact fun σ1 e2 => hK _ (h σ1 e2)
theorem mo_X12_fly_156 {L27 L27' : sm_S → Int32 → Int32 → Int32 → Prop} (hL27 : ∀ z0 z1 z2 z3, L27 z0 z1 z2 z3 → L27' z0 z1 z2 z3) {K K' : sm_S → Prop} (hK : ∀ s, K s → K' s) {σ : sm_S} {x1 : Int32} {x2 : Int32} {x3 : Int32} (h : mp_X12_fly_156 L27 K σ x1 x2 x3) : mp_X12_fly_156 L27' K' σ x1 x2 x3 := by
  unfold mp_X12_fly_156 at h ⊢
  exact fun v2 e2 => hL27 _ _ _ _ (h v2 e2)
theorem mo_X12_fly_27 {K K' : sm_S → Prop} (hK : ∀ s, K s → K' s) {n27 : Nat} {σ : sm_S} {x1 : Int32} {x2 : Int32} {x3 : Int32} (h : mp_X12_fly_27 K n27 σ x1 x2 x3) : mp_X12_fly_27 K' n27 σ x1 x2 x3 := by
  suffices g : ∀ (σ : sm_S) (x1 : Int32) (x2 : Int32) (x3 : Int32), mp_X12_fly_27 K n27 σ x1 x2 x3 → mp_X12_fly_27 K' n27 σ x1 x2 x3 from g _ _ _ _ h
  clear h
  induction n27 with
  | zero => exact fun _ _ _ _ h => h.elim
  | succ n27 ih27 =>
    intro σ x1 x2 x3 h
    unfold mp_X12_fly_27 at h ⊢
    exact ⟨h.1, ⟨h.2.1, ⟨fun h5 => mo_X12_leave (fun σ6 h6 => ⟨fun h7 => mo_X12_fly_182 hK (h6.1 h7), fun h8 => mo_X12_fly_182 hK (h6.2 h8)⟩) (h.2.2.1 h5), fun h9 => mo_X11_two (fun r9 σ8 h10 => ⟨fun h11 => mo_X12_fly_156 ih27 hK (h10.1 h11), fun h12 => mo_X11_two (fun r12 σ11 h13 => ⟨fun h14 => mo_X12_fly_156 ih27 hK (h13.1 h14), fun h15 => ⟨(h13.2 h15).1, ⟨(h13.2 h15).2.1, mo_X11_isA (fun r17 σ16 h20 => ⟨fun h21 => mo_X12_fly_156 ih27 hK (h20.1 h21), fun h22 => ⟨(h20.2 h22).1, fun σ20 e26 => mo_X12_putThing (fun σ21 h27 => mo_X11_two (fun r23 σ22 h28 => ⟨h28.1, fun σ25 e32 => fun σ26 e34 => hK _ ((h28.2 σ25 e32) σ26 e34)⟩) h27) ((h20.2 h22).2 σ20 e26)⟩⟩) (h13.2 h15).2.2⟩⟩⟩) (h10.2 h12)⟩) (h.2.2.2 h9)⟩⟩⟩
theorem mo_X12_fly {σ : sm_S}  {K K' : sm_S → Prop} (hK : ∀ s, K s → K' s) (h : mp_X12_fly σ  K) : mp_X12_fly σ  K' := by
  unfold mp_X12_fly at h ⊢
  exact mo_X12_method (fun r28 σ27 h1 => ⟨h1.1, fun v30 e5 => ⟨(h1.2 v30 e5).1, fun v32 e9 => ((h1.2 v30 e5).2 v32 e9).elim (fun n27 h10 => ⟨n27, mo_X12_fly_27 hK h10⟩)⟩⟩) h
theorem mo_X12_onward {σ : sm_S} {p1 : Int32} {K K' : sm_S → Prop} (hK : ∀ s, K s → K' s) (h : mp_X12_onward σ p1 K) : mp_X12_onward σ p1 K' := by
  unfold mp_X12_onward at h ⊢
  exact ⟨h.1, ⟨h.2.1, mo_X11_wide (fun r4 σ3 h5 => ⟨h5.1, fun σ6 e9 => hK _ (h5.2 σ6 e9)⟩) h.2.2⟩⟩
theorem mo_X12_call_45 {K K' : Int32 → sm_S → Prop} (hK : ∀ r s, K r s → K' r s) {n45 : Nat} {σ : sm_S} {x2 : Int32} {x3 : Int32} {x4 : Int32} (h : mp_X12_call_45 K n45 σ x2 x3 x4) : mp_X12_call_45 K' n45 σ x2 x3 x4 := by
  suffices g : ∀ (σ : sm_S) (x2 : Int32) (x3 : Int32) (x4 : Int32), mp_X12_call_45 K n45 σ x2 x3 x4 → mp_X12_call_45 K' n45 σ x2 x3 x4 from g _ _ _ _ h
  clear h
  induction n45 with
  | zero => exact fun _ _ _ _ h => h.elim
  | succ n45 ih45 =>
    intro σ x2 x3 x4 h
    unfold mp_X12_call_45 at h ⊢
    exact ⟨fun h1 => hK _ _ (h.1 h1), fun h2 => mo_X12_copy (fun σ2 h3 => fun v3 e5 => ih45 _ _ _ _ (h3 v3 e5)) (h.2 h2)⟩
theorem mo_X12_call {σ : sm_S} {p1 : Int32} {K K' : Int32 → sm_S → Prop} (hK : ∀ r s, K r s → K' r s) (h : mp_X12_call σ p1 K) : mp_X12_call σ p1 K' := by
  unfold mp_X12_call at h ⊢
  exact mo_X12_make (fun r5 σ4 h1 => ⟨fun h2 => ⟨(h1.1 h2).1, fun v8 e6 => mo_X12_under (fun r10 σ9 h7 => mo_X12_drop (fun σ11 h8 => mo_X12_enter (fun σ12 h9 => h9.elim (fun n45 h10 => ⟨n45, mo_X12_call_45 hK h10⟩)) h8) h7) ((h1.1 h2).2 v8 e6)⟩, fun h11 => mo_X12_noRoom (fun r14 σ13 h12 => ⟨h12.1, hK _ _ h12.2⟩) (h1.2 h11)⟩) h
theorem mo_X12_deep_22 {K K' : Int32 → sm_S → Prop} (hK : ∀ r s, K r s → K' r s) {σ : sm_S} {y0 : Int32} (h : mp_X12_deep_22 K σ y0) : mp_X12_deep_22 K' σ y0 := by
  unfold mp_X12_deep_22 at h ⊢
  exact hK _ _ h
theorem mo_X12_deep {σ : sm_S} {p1 : Int32} {K K' : Int32 → sm_S → Prop} (hK : ∀ r s, K r s → K' r s) (h : mp_X12_deep σ p1 K) : mp_X12_deep σ p1 K' := by
  unfold mp_X12_deep at h ⊢
  exact ⟨fun h1 => ⟨fun h2 => mo_X12_deep_22 hK ((h.1 h1).1 h2), fun h3 => mo_X12_deep_22 hK ((h.1 h1).2 h3)⟩, fun h4 => mo_X12_deep_22 hK (h.2 h4)⟩
theorem mo_X12_wideOf_22 {K K' : Int32 → sm_S → Prop} (hK : ∀ r s, K r s → K' r s) {σ : sm_S} {y0 : Int32} (h : mp_X12_wideOf_22 K σ y0) : mp_X12_wideOf_22 K' σ y0 := by
  unfold mp_X12_wideOf_22 at h ⊢
  exact hK _ _ h
theorem mo_X12_wideOf {σ : sm_S} {p1 : Int32} {K K' : Int32 → sm_S → Prop} (hK : ∀ r s, K r s → K' r s) (h : mp_X12_wideOf σ p1 K) : mp_X12_wideOf σ p1 K' := by
  unfold mp_X12_wideOf at h ⊢
  exact ⟨fun h1 => ⟨fun h2 => mo_X12_wideOf_22 hK ((h.1 h1).1 h2), fun h3 => mo_X12_wideOf_22 hK ((h.1 h1).2 h3)⟩, fun h4 => mo_X12_wideOf_22 hK (h.2 h4)⟩
theorem mo_X12_itemCell_77 {L16 L16' : sm_S → Int32 → Int32 → Int32 → Prop} (hL16 : ∀ z0 z1 z2 z3, L16 z0 z1 z2 z3 → L16' z0 z1 z2 z3) {K K' : Int32 → sm_S → Prop} (hK : ∀ r s, K r s → K' r s) {σ : sm_S} {y1 : Int32} (h : mp_X12_itemCell_77 L16 K σ y1) : mp_X12_itemCell_77 L16' K' σ y1 := by
  unfold mp_X12_itemCell_77 at h ⊢
  exact ⟨h.1, fun σ2 e4 => hK _ _ (h.2 σ2 e4)⟩
theorem mo_X12_itemCell_16 {K K' : Int32 → sm_S → Prop} (hK : ∀ r s, K r s → K' r s) {n16 : Nat} {σ : sm_S} {x3 : Int32} {x4 : Int32} {x5 : Int32} (h : mp_X12_itemCell_16 K n16 σ x3 x4 x5) : mp_X12_itemCell_16 K' n16 σ x3 x4 x5 := by
  suffices g : ∀ (σ : sm_S) (x3 : Int32) (x4 : Int32) (x5 : Int32), mp_X12_itemCell_16 K n16 σ x3 x4 x5 → mp_X12_itemCell_16 K' n16 σ x3 x4 x5 from g _ _ _ _ h
  clear h
  induction n16 with
  | zero => exact fun _ _ _ _ h => h.elim
  | succ n16 ih16 =>
    intro σ x3 x4 x5 h
    unfold mp_X12_itemCell_16 at h ⊢
    exact ⟨fun h1 => ⟨(h.1 h1).1, hK _ _ (h.1 h1).2⟩, fun h4 => ⟨(h.2 h4).1, mo_X12_wideOf (fun r7 σ6 h7 => ⟨h7.1, fun v8 e11 => mo_X12_wideOf (fun r10 σ9 h12 => ⟨h12.1, fun v11 e16 => ⟨(h12.2 v11 e16).1, ⟨fun h19 => ⟨((h12.2 v11 e16).2.1 h19).1, fun v15 e23 => fun v16 e25 => ih16 _ _ _ _ ((((h12.2 v11 e16).2.1 h19).2 v15 e23) v16 e25)⟩, fun h26 => fun σ17 e28 => ⟨fun h29 => mo_X12_itemCell_77 ih16 hK ((((h12.2 v11 e16).2.2 h26) σ17 e28).1 h29), fun h30 => mo_X12_itemCell_77 ih16 hK ((((h12.2 v11 e16).2.2 h26) σ17 e28).2 h30)⟩⟩⟩⟩) (h7.2 v8 e11)⟩) (h.2 h4).2⟩⟩
theorem mo_X12_itemCell {σ : sm_S} {p1 : Int32} {p2 : Int32} {K K' : Int32 → sm_S → Prop} (hK : ∀ r s, K r s → K' r s) (h : mp_X12_itemCell σ p1 p2 K) : mp_X12_itemCell σ p1 p2 K' := by
  unfold mp_X12_itemCell at h ⊢
  exact ⟨h.1, mo_X12_deep (fun r23 σ22 h3 => h3.elim (fun n16 h4 => ⟨n16, mo_X12_itemCell_16 hK h4⟩)) h.2⟩
theorem mo_X12_doRow_328 {K K' : Int32 → sm_S → Prop} (hK : ∀ r s, K r s → K' r s) {σ : sm_S} {x5 : Int32} {y1 : Int32} {y2 : Int32} {y3 : Int32} (h : mp_X12_doRow_328 K σ x5 y1 y2 y3) : mp_X12_doRow_328 K' σ x5 y1 y2 y3 := by
  unfold mp_X12_doRow_328 at h ⊢
  exact mo_X12_thing (fun r2 σ1 h1 => mo_X12_value (fun r4 σ3 h2 => mo_X12_itemCell (fun r6 σ5 h3 => ⟨h3.1, fun σ8 e7 => hK _ _ (h3.2 σ8 e7)⟩) h2) h1) h
theorem mo_X12_doRow_285 {K K' : Int32 → sm_S → Prop} (hK : ∀ r s, K r s → K' r s) {σ : sm_S} {x1 : Int32} (h : mp_X12_doRow_285 K σ x1) : mp_X12_doRow_285 K' σ x1 := by
  unfold mp_X12_doRow_285 at h ⊢
  exact mo_X12_onward (fun σ9 h1 => hK _ _ h1) h
theorem mo_X12_doRow_258 {K K' : Int32 → sm_S → Prop} (hK : ∀ r s, K r s → K' r s) {σ : sm_S} {x1 : Int32} {x7 : Int32} {y0 : Int32} (h : mp_X12_doRow_258 K σ x1 x7 y0) : mp_X12_doRow_258 K' σ x1 x7 y0 := by
  unfold mp_X12_doRow_258 at h ⊢
  exact mo_X12_drop (fun σ10 h1 => ⟨fun h2 => mo_X12_putInt (fun σ12 h3 => mo_X12_doRow_285 hK h3) (h1.1 h2), fun h4 => mo_X12_putThing (fun σ13 h5 => mo_X12_doRow_285 hK h5) (h1.2 h4)⟩) h
theorem mo_X12_doRow_224 {K K' : Int32 → sm_S → Prop} (hK : ∀ r s, K r s → K' r s) {σ : sm_S} {x1 : Int32} {x2 : Int32} {x5 : Int32} {x6 : Int32} {y0 : Int32} (h : mp_X12_doRow_224 K σ x1 x2 x5 x6 y0) : mp_X12_doRow_224 K' σ x1 x2 x5 x6 y0 := by
  unfold mp_X12_doRow_224 at h ⊢
  exact ⟨fun h1 => ⟨fun h2 => mo_X12_value (fun r17 σ16 h3 => ⟨h3.1, fun σ19 e7 => mo_X12_drop (fun σ20 h8 => mo_X12_onward (fun σ21 h9 => hK _ _ h9) h8) (h3.2 σ19 e7)⟩) ((h.1 h1).1 h2), fun h10 => mo_X12_make (fun r23 σ22 h11 => ⟨fun h12 => ⟨fun h13 => mo_X12_doRow_328 hK ((h11.1 h12).1 h13), fun h14 => mo_X12_doRow_328 hK ((h11.1 h12).2 h14)⟩, fun h15 => mo_X12_noRoom (fun r27 σ26 h16 => ⟨h16.1, hK _ _ h16.2⟩) (h11.2 h15)⟩) ((h.1 h1).2 h10)⟩, fun h19 => ⟨fun h20 => ⟨((h.2 h19).1 h20).1, mo_X12_doRow_258 hK ((h.2 h19).1 h20).2⟩, fun h23 => ⟨fun h24 => mo_X12_doRow_258 hK (((h.2 h19).2 h23).1 h24), fun h25 => mo_X12_doRow_258 hK (((h.2 h19).2 h23).2 h25)⟩⟩⟩
theorem mo_X12_doRow_193 {K K' : Int32 → sm_S → Prop} (hK : ∀ r s, K r s → K' r s) {σ : sm_S} (h : mp_X12_doRow_193 K σ) : mp_X12_doRow_193 K' σ := by
  unfold mp_X12_doRow_193 at h ⊢
  exact mo_X12_fault (fun r33 σ32 h1 => ⟨h1.1, hK _ _ h1.2⟩) h
theorem mo_X12_doRow_171 {K K' : Int32 → sm_S → Prop} (hK : ∀ r s, K r s → K' r s) {σ : sm_S} {x1 : Int32} {x2 : Int32} {x4 : Int32} {y1 : Int32} (h : mp_X12_doRow_171 K σ x1 x2 x4 y1) : mp_X12_doRow_171 K' σ x1 x2 x4 y1 := by
  unfold mp_X12_doRow_171 at h ⊢
  exact mo_X12_value (fun r36 σ35 h1 => ⟨fun h2 => mo_X12_doRow_193 hK (h1.1 h2), fun h3 => ⟨(h1.2 h3).1, ⟨fun h6 => mo_X12_itemCell (fun r41 σ40 h7 => ⟨h7.1, ⟨fun h10 => mo_X12_doRow_224 hK (h7.2.1 h10), fun h11 => mo_X12_doRow_224 hK (h7.2.2 h11)⟩⟩) ((h1.2 h3).2.1 h6), fun h12 => mo_X12_doRow_193 hK ((h1.2 h3).2.2 h12)⟩⟩⟩) h
theorem mo_X12_doRow_113 {K K' : Int32 → sm_S → Prop} (hK : ∀ r s, K r s → K' r s) {σ : sm_S} {x1 : Int32} {x2 : Int32} {y1 : Int32} (h : mp_X12_doRow_113 K σ x1 x2 y1) : mp_X12_doRow_113 K' σ x1 x2 y1 := by
  unfold mp_X12_doRow_113 at h ⊢
  exact mo_X12_value (fun r45 σ44 h1 => ⟨fun h2 => ⟨fun h3 => ⟨fun h4 => mo_X12_doRow_171 hK (((h1.1 h2).1 h3).1 h4), fun h5 => mo_X12_doRow_171 hK (((h1.1 h2).1 h3).2 h5)⟩, fun h6 => mo_X12_drop (fun σ49 h7 => ⟨h7.1, mo_X12_putInt (fun σ51 h10 => mo_X12_onward (fun σ52 h11 => hK _ _ h11) h10) h7.2⟩) ((h1.1 h2).2 h6)⟩, fun h12 => mo_X12_fault (fun r54 σ53 h13 => ⟨h13.1, hK _ _ h13.2⟩) (h1.2 h12)⟩) h
theorem mo_X12_doRow_67 {K K' : Int32 → sm_S → Prop} (hK : ∀ r s, K r s → K' r s) {σ : sm_S} {x1 : Int32} {x3 : Int32} {y1 : Int32} {y2 : Int32} {y3 : Int32} (h : mp_X12_doRow_67 K σ x1 x3 y1 y2 y3) : mp_X12_doRow_67 K' σ x1 x3 y1 y2 y3 := by
  unfold mp_X12_doRow_67 at h ⊢
  exact mo_X12_thing (fun r57 σ56 h1 => mo_X12_drop (fun σ58 h2 => mo_X12_putThing (fun σ59 h3 => mo_X12_onward (fun σ60 h4 => hK _ _ h4) h3) h2) h1) h
theorem mo_X12_doRow_62 {K K' : Int32 → sm_S → Prop} (hK : ∀ r s, K r s → K' r s) {σ : sm_S} {x1 : Int32} {x3 : Int32} {y1 : Int32} {y2 : Int32} (h : mp_X12_doRow_62 K σ x1 x3 y1 y2) : mp_X12_doRow_62 K' σ x1 x3 y1 y2 := by
  unfold mp_X12_doRow_62 at h ⊢
  exact mo_X12_doRow_67 hK h
theorem mo_X12_doRow_26 {K K' : Int32 → sm_S → Prop} (hK : ∀ r s, K r s → K' r s) {σ : sm_S} (h : mp_X12_doRow_26 K σ) : mp_X12_doRow_26 K' σ := by
  unfold mp_X12_doRow_26 at h ⊢
  exact mo_X12_fault (fun r62 σ61 h1 => ⟨h1.1, hK _ _ h1.2⟩) h
theorem mo_X12_doRow {σ : sm_S} {p1 : Int32} {p2 : Int32} {p3 : Int32} {K K' : Int32 → sm_S → Prop} (hK : ∀ r s, K r s → K' r s) (h : mp_X12_doRow σ p1 p2 p3 K) : mp_X12_doRow σ p1 p2 p3 K' := by
  unfold mp_X12_doRow at h ⊢
  exact ⟨fun h1 => ⟨fun h2 => ⟨fun h3 => mo_X12_doRow_113 hK (((h.1 h1).1 h2).1 h3), fun h4 => mo_X12_doRow_113 hK (((h.1 h1).1 h2).2 h4)⟩, fun h5 => mo_X12_doRow_113 hK ((h.1 h1).2 h5)⟩, fun h6 => mo_X12_value (fun r68 σ67 h7 => ⟨fun h8 => mo_X12_doRow_26 hK (h7.1 h8), fun h9 => ⟨fun h10 => mo_X12_make (fun r72 σ71 h11 => ⟨fun h12 => ⟨fun h13 => mo_X12_doRow_62 hK ((h11.1 h12).1 h13), fun h14 => mo_X12_deep (fun r76 σ75 h15 => ⟨fun h16 => mo_X12_doRow_67 hK (h15.1 h16), fun h17 => mo_X12_doRow_62 hK (h15.2 h17)⟩) ((h11.1 h12).2 h14)⟩, fun h18 => mo_X12_noRoom (fun r79 σ78 h19 => ⟨h19.1, hK _ _ h19.2⟩) (h11.2 h18)⟩) ((h7.2 h9).1 h10), fun h22 => mo_X12_doRow_26 hK ((h7.2 h9).2 h22)⟩⟩) (h.2 h6)⟩
theorem mo_X12_getField_53 {K K' : sm_S → Prop} (hK : ∀ s, K s → K' s) {σ : sm_S} (h : mp_X12_getField_53 K σ) : mp_X12_getField_53 K' σ := by
  unfold mp_X12_getField_53 at h ⊢
  exact hK _ h
theorem mo_X12_getField {σ : sm_S} {p1 : Int32} {p2 : Int32} {K K' : sm_S → Prop} (hK : ∀ s, K s → K' s) (h : mp_X12_getField σ p1 p2 K) : mp_X12_getField σ p1 p2 K' := by
  unfold mp_X12_getField at h ⊢
  exact mo_X12_value (fun r2 σ1 h1 => ⟨h1.1, ⟨h1.2.1, fun v5 e7 => mo_X12_drop (fun σ6 h8 => ⟨h8.1, ⟨fun h11 => mo_X12_putInt (fun σ9 h12 => mo_X12_getField_53 hK h12) (h8.2.1 h11), fun h13 => mo_X12_putThing (fun σ10 h14 => mo_X12_getField_53 hK h14) (h8.2.2 h13)⟩⟩) (h1.2.2 v5 e7)⟩⟩) h
theorem mo_X12_give_95 {K K' : sm_S → Prop} (hK : ∀ s, K s → K' s) {σ : sm_S} (h : mp_X12_give_95 K σ) : mp_X12_give_95 K' σ := by
  unfold mp_X12_give_95 at h ⊢
  exact mo_X12_method (fun r2 σ1 h1 => ⟨h1.1, ⟨h1.2.1, mo_X12_onward (fun σ5 h6 => hK _ h6) h1.2.2⟩⟩) h
theorem mo_X12_give_36 {K K' : sm_S → Prop} (hK : ∀ s, K s → K' s) {σ : sm_S} {x1 : Int32} {x2 : Int32} {y0 : Int32} (h : mp_X12_give_36 K σ x1 x2 y0) : mp_X12_give_36 K' σ x1 x2 y0 := by
  unfold mp_X12_give_36 at h ⊢
  exact mo_X12_leave (fun σ6 h1 => ⟨fun h2 => ⟨fun h3 => mo_X12_give_95 hK ((h1.1 h2).1 h3), fun h4 => ⟨((h1.1 h2).2 h4).1, ⟨((h1.1 h2).2 h4).2.1, fun σ11 e10 => mo_X12_under (fun r13 σ12 h11 => ⟨h11.1, fun σ15 e15 => mo_X12_under (fun r17 σ16 h16 => ⟨h16.1, fun σ19 e20 => mo_X12_give_95 hK (h16.2 σ19 e20)⟩) (h11.2 σ15 e15)⟩) (((h1.1 h2).2 h4).2.2 σ11 e10)⟩⟩⟩, fun h21 => fun σ20 e23 => hK _ ((h1.2 h21) σ20 e23)⟩) h
theorem mo_X12_give_35 {K K' : sm_S → Prop} (hK : ∀ s, K s → K' s) {σ : sm_S} {x1 : Int32} {x2 : Int32} (h : mp_X12_give_35 K σ x1 x2) : mp_X12_give_35 K' σ x1 x2 := by
  unfold mp_X12_give_35 at h ⊢
  exact mo_X12_give_36 hK h
theorem mo_X12_give_13 {K K' : sm_S → Prop} (hK : ∀ s, K s → K' s) {σ : sm_S} {x1 : Int32} {y0 : Int32} (h : mp_X12_give_13 K σ x1 y0) : mp_X12_give_13 K' σ x1 y0 := by
  unfold mp_X12_give_13 at h ⊢
  exact ⟨fun h1 => mo_X12_give_35 hK (h.1 h1), fun h2 => mo_X12_under (fun r23 σ22 h3 => ⟨h3.1, ⟨fun h6 => mo_X12_give_35 hK (h3.2.1 h6), fun h7 => mo_X12_give_36 hK (h3.2.2 h7)⟩⟩) (h.2 h2)⟩
theorem mo_X12_give {σ : sm_S} {p1 : Int32} {K K' : sm_S → Prop} (hK : ∀ s, K s → K' s) (h : mp_X12_give σ p1 K) : mp_X12_give σ p1 K' := by
  unfold mp_X12_give at h ⊢
  exact ⟨fun h1 => mo_X12_give_13 hK (h.1 h1), fun h2 => mo_X12_value (fun r28 σ27 h3 => mo_X12_give_13 hK h3) (h.2 h2)⟩
theorem mo_X12_isOne_36 {K K' : Int32 → sm_S → Prop} (hK : ∀ r s, K r s → K' r s) {σ : sm_S} {y0 : Int32} (h : mp_X12_isOne_36 K σ y0) : mp_X12_isOne_36 K' σ y0 := by
  unfold mp_X12_isOne_36 at h ⊢
  exact ⟨h.1, hK _ _ h.2⟩
theorem mo_X12_isOne_35 {K K' : Int32 → sm_S → Prop} (hK : ∀ r s, K r s → K' r s) {σ : sm_S} (h : mp_X12_isOne_35 K σ) : mp_X12_isOne_35 K' σ := by
  unfold mp_X12_isOne_35 at h ⊢
  exact mo_X12_isOne_36 hK h
theorem mo_X12_isOne {σ : sm_S} {p1 : Int32} {p2 : Int32} {K K' : Int32 → sm_S → Prop} (hK : ∀ r s, K r s → K' r s) (h : mp_X12_isOne σ p1 p2 K) : mp_X12_isOne σ p1 p2 K' := by
  unfold mp_X12_isOne at h ⊢
  exact ⟨fun h1 => mo_X12_isOne_35 hK (h.1 h1), fun h2 => ⟨(h.2 h2).1, ⟨fun h5 => mo_X12_isOne_35 hK ((h.2 h2).2.1 h5), fun h6 => ⟨((h.2 h2).2.2 h6).1, mo_X11_isA (fun r7 σ6 h9 => ⟨fun h10 => mo_X12_isOne_35 hK (h9.1 h10), fun h11 => mo_X12_isOne_36 hK (h9.2 h11)⟩) ((h.2 h2).2.2 h6).2⟩⟩⟩⟩
theorem mo_X12_doThings_409 {K K' : Int32 → sm_S → Prop} (hK : ∀ r s, K r s → K' r s) {σ : sm_S} {x1 : Int32} (h : mp_X12_doThings_409 K σ x1) : mp_X12_doThings_409 K' σ x1 := by
  unfold mp_X12_doThings_409 at h ⊢
  exact mo_X12_onward (fun σ1 h1 => hK _ _ h1) h
theorem mo_X12_doThings_365 {K K' : Int32 → sm_S → Prop} (hK : ∀ r s, K r s → K' r s) {σ : sm_S} {y1 : Int32} (h : mp_X12_doThings_365 K σ y1) : mp_X12_doThings_365 K' σ y1 := by
  unfold mp_X12_doThings_365 at h ⊢
  exact mo_X12_give (fun σ2 h1 => hK _ _ h1) h
theorem mo_X12_doThings_352 {K K' : Int32 → sm_S → Prop} (hK : ∀ r s, K r s → K' r s) {σ : sm_S} {y0 : Int32} (h : mp_X12_doThings_352 K σ y0) : mp_X12_doThings_352 K' σ y0 := by
  unfold mp_X12_doThings_352 at h ⊢
  exact ⟨h.1, hK _ _ h.2⟩
theorem mo_X12_doThings_242 {K K' : Int32 → sm_S → Prop} (hK : ∀ r s, K r s → K' r s) {σ : sm_S} {x1 : Int32} {y1 : Int32} (h : mp_X12_doThings_242 K σ x1 y1) : mp_X12_doThings_242 K' σ x1 y1 := by
  unfold mp_X12_doThings_242 at h ⊢
  exact mo_X12_putInt (fun σ4 h1 => mo_X12_doThings_409 hK h1) h
theorem mo_X12_doThings_35 {K K' : Int32 → sm_S → Prop} (hK : ∀ r s, K r s → K' r s) {σ : sm_S} {x1 : Int32} {x2 : Int32} {x3 : Int32} {y1 : Int32} (h : mp_X12_doThings_35 K σ x1 x2 x3 y1) : mp_X12_doThings_35 K' σ x1 x2 x3 y1 := by
  unfold mp_X12_doThings_35 at h ⊢
  exact ⟨h.1, fun v6 e4 => ⟨fun h5 => ⟨((h.2 v6 e4).1 h5).1, mo_X12_make (fun r10 σ9 h8 => ⟨fun h9 => mo_X12_object (fun r13 σ12 h10 => mo_X12_putThing (fun σ14 h11 => mo_X12_doThings_409 hK h11) h10) (h8.1 h9), fun h12 => mo_X12_noRoom (fun r16 σ15 h13 => ⟨h13.1, hK _ _ h13.2⟩) (h8.2 h12)⟩) ((h.2 v6 e4).1 h5).2⟩, fun h16 => mo_X12_value (fun r20 σ19 h17 => ⟨fun h18 => mo_X12_getField (fun σ22 h19 => mo_X12_doThings_409 hK h19) (h17.1 h18), fun h20 => mo_X12_fault (fun r24 σ23 h21 => ⟨h21.1, hK _ _ h21.2⟩) (h17.2 h20)⟩) ((h.2 v6 e4).2.1 h16), fun h24 => mo_X12_value (fun r28 σ27 h25 => ⟨fun h26 => mo_X12_value (fun r31 σ30 h27 => ⟨h27.1, mo_X12_value (fun r34 σ33 h30 => ⟨h30.1, fun σ36 e34 => mo_X12_drop (fun σ37 h35 => mo_X12_doThings_409 hK h35) (h30.2 σ36 e34)⟩) h27.2⟩) (h25.1 h26), fun h36 => mo_X12_fault (fun r39 σ38 h37 => ⟨h37.1, hK _ _ h37.2⟩) (h25.2 h36)⟩) ((h.2 v6 e4).2.2.1 h24), fun h40 => mo_X12_value (fun r43 σ42 h41 => mo_X12_isOne (fun r45 σ44 h42 => mo_X12_drop (fun σ46 h43 => ⟨fun h44 => mo_X12_doThings_242 hK (h43.1 h44), fun h45 => mo_X12_doThings_242 hK (h43.2 h45)⟩) h42) h41) ((h.2 v6 e4).2.2.2.1 h40), fun h46 => mo_X12_value (fun r50 σ49 h47 => ⟨fun h48 => mo_X12_doThings_409 hK (h47.1 h48), fun h49 => mo_X12_value (fun r53 σ52 h50 => mo_X12_isOne (fun r55 σ54 h51 => ⟨fun h52 => mo_X12_doThings_409 hK (h51.1 h52), fun h53 => mo_X12_fault (fun r58 σ57 h54 => ⟨h54.1, hK _ _ h54.2⟩) (h51.2 h53)⟩) h50) (h47.2 h49)⟩) ((h.2 v6 e4).2.2.2.2.1 h46), fun h57 => mo_X12_doRow (fun r62 σ61 h58 => ⟨h58.1, hK _ _ h58.2⟩) ((h.2 v6 e4).2.2.2.2.2.1 h57), fun h61 => mo_X12_doRow (fun r66 σ65 h62 => ⟨h62.1, hK _ _ h62.2⟩) ((h.2 v6 e4).2.2.2.2.2.2.1 h61), fun h65 => mo_X12_doRow (fun r70 σ69 h66 => ⟨h66.1, hK _ _ h66.2⟩) ((h.2 v6 e4).2.2.2.2.2.2.2.1 h65), fun h69 => mo_X12_doRow (fun r74 σ73 h70 => ⟨h70.1, hK _ _ h70.2⟩) ((h.2 v6 e4).2.2.2.2.2.2.2.2.1 h69), fun h73 => mo_X12_call (fun r78 σ77 h74 => ⟨h74.1, hK _ _ h74.2⟩) ((h.2 v6 e4).2.2.2.2.2.2.2.2.2.1 h73), fun h77 => ⟨((h.2 v6 e4).2.2.2.2.2.2.2.2.2.2.1 h77).1, ⟨((h.2 v6 e4).2.2.2.2.2.2.2.2.2.2.1 h77).2.1, mo_X12_value (fun r84 σ83 h82 => ⟨fun h83 => ⟨(h82.1 h83).1, ⟨(h82.1 h83).2.1, mo_X12_call (fun r89 σ88 h88 => mo_X12_doThings_352 hK h88) (h82.1 h83).2.2⟩⟩, fun h89 => mo_X12_fault (fun r91 σ90 h90 => mo_X12_doThings_352 hK h90) (h82.2 h89)⟩) ((h.2 v6 e4).2.2.2.2.2.2.2.2.2.2.1 h77).2.2⟩⟩, fun h91 => ⟨fun h92 => mo_X12_doThings_365 hK (((h.2 v6 e4).2.2.2.2.2.2.2.2.2.2.2.1 h91).1 h92), fun h93 => mo_X12_doThings_365 hK (((h.2 v6 e4).2.2.2.2.2.2.2.2.2.2.2.1 h91).2 h93)⟩, fun h94 => ⟨fun h95 => mo_X12_doThings_365 hK (((h.2 v6 e4).2.2.2.2.2.2.2.2.2.2.2.2.1 h94).1 h95), fun h96 => mo_X12_doThings_365 hK (((h.2 v6 e4).2.2.2.2.2.2.2.2.2.2.2.2.1 h94).2 h96)⟩, fun h97 => mo_X12_value (fun r98 σ97 h98 => ⟨fun h99 => fun σ100 e101 => mo_X12_value (fun r102 σ101 h102 => fun σ103 e104 => hK _ _ (h102 σ103 e104)) ((h98.1 h99) σ100 e101), fun h105 => mo_X12_fault (fun r105 σ104 h106 => ⟨h106.1, hK _ _ h106.2⟩) (h98.2 h105)⟩) ((h.2 v6 e4).2.2.2.2.2.2.2.2.2.2.2.2.2.1 h97), fun h109 h110 h111 h112 h113 h114 h115 h116 h117 h118 h119 h120 h121 h122 => mo_X12_doRow (fun r108 σ107 h123 => ⟨h123.1, hK _ _ h123.2⟩) ((h.2 v6 e4).2.2.2.2.2.2.2.2.2.2.2.2.2.2 h109 h110 h111 h112 h113 h114 h115 h116 h117 h118 h119 h120 h121 h122)⟩⟩
theorem mo_X12_doThings {σ : sm_S} {p1 : Int32} {p2 : Int32} {K K' : Int32 → sm_S → Prop} (hK : ∀ r s, K r s → K' r s) (h : mp_X12_doThings σ p1 p2 K) : mp_X12_doThings σ p1 p2 K' := by
  unfold mp_X12_doThings at h ⊢
  exact ⟨h.1, fun v111 e4 => ⟨fun h5 => mo_X12_doThings_35 hK ((h.2 v111 e4).1 h5), fun h6 => mo_X12_doThings_35 hK ((h.2 v111 e4).2 h6)⟩⟩
theorem mo_X12_reckon {σ : sm_S} {p1 : Int32} {p2 : Int32} {p3 : Int32} {K K' : Int32 → sm_S → Prop} (hK : ∀ r s, K r s → K' r s) (h : mp_X12_reckon σ p1 p2 p3 K) : mp_X12_reckon σ p1 p2 p3 K' := by
  unfold mp_X12_reckon at h ⊢
  exact ⟨fun h1 => hK _ _ (h.1 h1), fun h2 => hK _ _ (h.2.1 h2), fun h3 => hK _ _ (h.2.2.1 h3), fun h4 => ⟨(h.2.2.2.1 h4).1, hK _ _ (h.2.2.2.1 h4).2⟩, fun h7 => ⟨(h.2.2.2.2.1 h7).1, hK _ _ (h.2.2.2.2.1 h7).2⟩, fun h10 => hK _ _ (h.2.2.2.2.2.1 h10), fun h11 => hK _ _ (h.2.2.2.2.2.2.1 h11), fun h12 => hK _ _ (h.2.2.2.2.2.2.2.1 h12), fun h13 => hK _ _ (h.2.2.2.2.2.2.2.2.1 h13), fun h14 => hK _ _ (h.2.2.2.2.2.2.2.2.2.1 h14), fun h15 h16 h17 h18 h19 h20 h21 h22 h23 h24 => hK _ _ (h.2.2.2.2.2.2.2.2.2.2 h15 h16 h17 h18 h19 h20 h21 h22 h23 h24)⟩
theorem mo_X12_doValues_469 {K K' : sm_S → Prop} (hK : ∀ s, K s → K' s) {σ : sm_S} (h : mp_X12_doValues_469 K σ) : mp_X12_doValues_469 K' σ := by
  unfold mp_X12_doValues_469 at h ⊢
  exact hK _ h
theorem mo_X12_doValues_454 {K K' : sm_S → Prop} (hK : ∀ s, K s → K' s) {σ : sm_S} (h : mp_X12_doValues_454 K σ) : mp_X12_doValues_454 K' σ := by
  unfold mp_X12_doValues_454 at h ⊢
  exact fun σ1 e2 => mo_X12_drop (fun σ2 h3 => mo_X12_doValues_469 hK h3) (h σ1 e2)
theorem mo_X12_doValues_413 {K K' : sm_S → Prop} (hK : ∀ s, K s → K' s) {σ : sm_S} {y1 : Int32} {y2 : Int32} (h : mp_X12_doValues_413 K σ y1 y2) : mp_X12_doValues_413 K' σ y1 y2 := by
  unfold mp_X12_doValues_413 at h ⊢
  exact fun σ3 e2 => mo_X12_doValues_469 hK (h σ3 e2)
theorem mo_X12_doValues_395 {K K' : sm_S → Prop} (hK : ∀ s, K s → K' s) {σ : sm_S} {x7 : Int32} {y1 : Int32} (h : mp_X12_doValues_395 K σ x7 y1) : mp_X12_doValues_395 K' σ x7 y1 := by
  unfold mp_X12_doValues_395 at h ⊢
  exact mo_X12_putInt (fun σ4 h1 => ⟨fun h2 => mo_X12_doValues_413 hK (h1.1 h2), fun h3 => mo_X12_doValues_413 hK (h1.2 h3)⟩) h
theorem mo_X12_doValues_374 {K K' : sm_S → Prop} (hK : ∀ s, K s → K' s) {σ : sm_S} {y0 : Int32} (h : mp_X12_doValues_374 K σ y0) : mp_X12_doValues_374 K' σ y0 := by
  unfold mp_X12_doValues_374 at h ⊢
  exact ⟨fun h1 => mo_X12_doValues_395 hK (h.1 h1), fun h2 => ⟨(h.2 h2).1, mo_X12_doValues_395 hK (h.2 h2).2⟩⟩
theorem mo_X12_doValues_42 {K K' : sm_S → Prop} (hK : ∀ s, K s → K' s) {σ : sm_S} {x1 : Int32} {x2 : Int32} (h : mp_X12_doValues_42 K σ x1 x2) : mp_X12_doValues_42 K' σ x1 x2 := by
  unfold mp_X12_doValues_42 at h ⊢
  exact fun v8 e2 => ⟨(h v8 e2).1, fun v10 e6 => ⟨fun h7 => mo_X11_two (fun r13 σ12 h8 => mo_X11_two (fun r15 σ14 h9 => mo_X12_putInt (fun σ16 h10 => mo_X12_doValues_469 hK h10) h9) h8) (((h v8 e2).2 v10 e6).1 h7), fun h11 => mo_X12_putThing (fun σ18 h12 => mo_X12_doValues_469 hK h12) (((h v8 e2).2 v10 e6).2.1 h11), fun h13 => ⟨(((h v8 e2).2 v10 e6).2.2.1 h13).1, ⟨(((h v8 e2).2 v10 e6).2.2.1 h13).2.1, fun σ22 e19 => mo_X12_under (fun r24 σ23 h20 => mo_X12_copy (fun σ25 h21 => mo_X12_doValues_469 hK h21) h20) ((((h v8 e2).2 v10 e6).2.2.1 h13).2.2 σ22 e19)⟩⟩, fun h22 => mo_X12_under (fun r28 σ27 h23 => mo_X12_copy (fun σ29 h24 => mo_X12_drop (fun σ30 h25 => mo_X12_doValues_469 hK h25) h24) h23) (((h v8 e2).2 v10 e6).2.2.2.1 h22), fun h26 => mo_X12_drop (fun σ32 h27 => mo_X12_doValues_469 hK h27) (((h v8 e2).2 v10 e6).2.2.2.2.1 h26), fun h28 => ⟨(((h v8 e2).2 v10 e6).2.2.2.2.2.1 h28).1, ⟨(((h v8 e2).2 v10 e6).2.2.2.2.2.1 h28).2.1, fun σ36 e34 => mo_X12_under (fun r38 σ37 h35 => mo_X12_under (fun r40 σ39 h36 => mo_X12_copy (fun σ41 h37 => mo_X12_doValues_469 hK h37) h36) h35) ((((h v8 e2).2 v10 e6).2.2.2.2.2.1 h28).2.2 σ36 e34)⟩⟩, fun h38 => mo_X12_value (fun r44 σ43 h39 => mo_X12_under (fun r46 σ45 h40 => ⟨h40.1, fun v48 e44 => mo_X12_under (fun r50 σ49 h45 => mo_X12_under (fun r52 σ51 h46 => mo_X12_copy (fun σ53 h47 => mo_X12_under (fun r55 σ54 h48 => ⟨h48.1, fun σ57 e52 => mo_X12_under (fun r59 σ58 h53 => ⟨h53.1, fun σ61 e57 => mo_X12_doValues_469 hK (h53.2 σ61 e57)⟩) (h48.2 σ57 e52)⟩) h47) h46) h45) (h40.2 v48 e44)⟩) h39) (((h v8 e2).2 v10 e6).2.2.2.2.2.2.1 h38), fun h58 => mo_X12_under (fun r64 σ63 h59 => mo_X12_value (fun r66 σ65 h60 => ⟨h60.1, fun σ68 e64 => mo_X12_doValues_469 hK (h60.2 σ68 e64)⟩) h59) (((h v8 e2).2 v10 e6).2.2.2.2.2.2.2.1 h58), fun h65 => ⟨fun h66 => mo_X12_doValues_374 hK ((((h v8 e2).2 v10 e6).2.2.2.2.2.2.2.2.1 h65).1 h66), fun h67 => mo_X12_doValues_374 hK ((((h v8 e2).2 v10 e6).2.2.2.2.2.2.2.2.1 h65).2 h67)⟩, fun h68 h69 h70 h71 h72 h73 h74 h75 h76 => ⟨fun h77 => mo_X12_doValues_454 hK ((((h v8 e2).2 v10 e6).2.2.2.2.2.2.2.2.2 h68 h69 h70 h71 h72 h73 h74 h75 h76).1 h77), fun h78 => mo_X12_value (fun r73 σ72 h79 => ⟨h79.1, fun σ75 e83 => fun σ76 e85 => mo_X12_doValues_454 hK ((h79.2 σ75 e83) σ76 e85)⟩) ((((h v8 e2).2 v10 e6).2.2.2.2.2.2.2.2.2 h68 h69 h70 h71 h72 h73 h74 h75 h76).2 h78)⟩⟩⟩
theorem mo_X12_doValues {σ : sm_S} {p1 : Int32} {p2 : Int32} {K K' : sm_S → Prop} (hK : ∀ s, K s → K' s) (h : mp_X12_doValues σ p1 p2 K) : mp_X12_doValues σ p1 p2 K' := by
  unfold mp_X12_doValues at h ⊢
  exact ⟨fun h1 => mo_X12_doValues_42 hK (h.1 h1), fun h2 => ⟨fun h3 => mo_X12_doValues_42 hK ((h.2 h2).1 h3), fun h4 => mo_X12_value (fun r80 σ79 h5 => mo_X12_value (fun r82 σ81 h6 => mo_X12_drop (fun σ83 h7 => mo_X12_reckon (fun r85 σ84 h8 => mo_X12_putInt (fun σ86 h9 => hK _ h9) h8) h7) h6) h5) ((h.2 h2).2 h4)⟩⟩
theorem mo_X12_compares_101 {K K' : Int32 → sm_S → Prop} (hK : ∀ r s, K r s → K' r s) {σ : sm_S} {y0 : Int32} (h : mp_X12_compares_101 K σ y0) : mp_X12_compares_101 K' σ y0 := by
  unfold mp_X12_compares_101 at h ⊢
  exact ⟨h.1, hK _ _ h.2⟩
theorem mo_X12_compares_90 {K K' : Int32 → sm_S → Prop} (hK : ∀ r s, K r s → K' r s) {σ : sm_S} {y0 : Int32} (h : mp_X12_compares_90 K σ y0) : mp_X12_compares_90 K' σ y0 := by
  unfold mp_X12_compares_90 at h ⊢
  exact ⟨h.1, hK _ _ h.2⟩
theorem mo_X12_compares_79 {K K' : Int32 → sm_S → Prop} (hK : ∀ r s, K r s → K' r s) {σ : sm_S} {y0 : Int32} (h : mp_X12_compares_79 K σ y0) : mp_X12_compares_79 K' σ y0 := by
  unfold mp_X12_compares_79 at h ⊢
  exact ⟨h.1, hK _ _ h.2⟩
theorem mo_X12_compares_68 {K K' : Int32 → sm_S → Prop} (hK : ∀ r s, K r s → K' r s) {σ : sm_S} {y0 : Int32} (h : mp_X12_compares_68 K σ y0) : mp_X12_compares_68 K' σ y0 := by
  unfold mp_X12_compares_68 at h ⊢
  exact ⟨h.1, hK _ _ h.2⟩
theorem mo_X12_compares_57 {K K' : Int32 → sm_S → Prop} (hK : ∀ r s, K r s → K' r s) {σ : sm_S} {y0 : Int32} (h : mp_X12_compares_57 K σ y0) : mp_X12_compares_57 K' σ y0 := by
  unfold mp_X12_compares_57 at h ⊢
  exact ⟨h.1, hK _ _ h.2⟩
theorem mo_X12_compares_46 {K K' : Int32 → sm_S → Prop} (hK : ∀ r s, K r s → K' r s) {σ : sm_S} {y0 : Int32} (h : mp_X12_compares_46 K σ y0) : mp_X12_compares_46 K' σ y0 := by
  unfold mp_X12_compares_46 at h ⊢
  exact ⟨h.1, hK _ _ h.2⟩
theorem mo_X12_compares {σ : sm_S} {p1 : Int32} {p2 : Int32} {p3 : Int32} {K K' : Int32 → sm_S → Prop} (hK : ∀ r s, K r s → K' r s) (h : mp_X12_compares σ p1 p2 p3 K) : mp_X12_compares σ p1 p2 p3 K' := by
  unfold mp_X12_compares at h ⊢
  exact ⟨fun h1 => ⟨fun h2 => mo_X12_compares_46 hK ((h.1 h1).1 h2), fun h3 => mo_X12_compares_46 hK ((h.1 h1).2 h3)⟩, fun h4 => ⟨fun h5 => mo_X12_compares_57 hK ((h.2.1 h4).1 h5), fun h6 => mo_X12_compares_57 hK ((h.2.1 h4).2 h6)⟩, fun h7 => ⟨fun h8 => mo_X12_compares_68 hK ((h.2.2.1 h7).1 h8), fun h9 => mo_X12_compares_68 hK ((h.2.2.1 h7).2 h9)⟩, fun h10 => ⟨fun h11 => mo_X12_compares_79 hK ((h.2.2.2.1 h10).1 h11), fun h12 => mo_X12_compares_79 hK ((h.2.2.2.1 h10).2 h12)⟩, fun h13 => ⟨fun h14 => mo_X12_compares_90 hK ((h.2.2.2.2.1 h13).1 h14), fun h15 => mo_X12_compares_90 hK ((h.2.2.2.2.1 h13).2 h15)⟩, fun h16 h17 h18 h19 h20 => ⟨fun h21 => mo_X12_compares_101 hK ((h.2.2.2.2.2 h16 h17 h18 h19 h20).1 h21), fun h22 => mo_X12_compares_101 hK ((h.2.2.2.2.2 h16 h17 h18 h19 h20).2 h22)⟩⟩
theorem mo_X12_jump_216 {K K' : sm_S → Prop} (hK : ∀ s, K s → K' s) {σ : sm_S} (h : mp_X12_jump_216 K σ) : mp_X12_jump_216 K' σ := by
  unfold mp_X12_jump_216 at h ⊢
  exact hK _ h
theorem mo_X12_jump_182 {K K' : sm_S → Prop} (hK : ∀ s, K s → K' s) {σ : sm_S} {x1 : Int32} {x3 : Int32} {x5 : Int32} (h : mp_X12_jump_182 K σ x1 x3 x5) : mp_X12_jump_182 K' σ x1 x3 x5 := by
  unfold mp_X12_jump_182 at h ⊢
  exact mo_X12_drop (fun σ1 h1 => ⟨fun h2 => mo_X12_onward (fun σ3 h3 => mo_X12_jump_216 hK h3) (h1.1 h2), fun h4 => mo_X12_jumpOf (fun r5 σ4 h5 => ⟨h5.1, fun σ7 e9 => mo_X12_jump_216 hK (h5.2 σ7 e9)⟩) (h1.2 h4)⟩) h
theorem mo_X12_jump_172 {K K' : sm_S → Prop} (hK : ∀ s, K s → K' s) {σ : sm_S} {x1 : Int32} {y0 : Int32} (h : mp_X12_jump_172 K σ x1 y0) : mp_X12_jump_172 K' σ x1 y0 := by
  unfold mp_X12_jump_172 at h ⊢
  exact mo_X12_jump_182 hK h
theorem mo_X12_jump_147 {K K' : sm_S → Prop} (hK : ∀ s, K s → K' s) {σ : sm_S} {x1 : Int32} {y0 : Int32} (h : mp_X12_jump_147 K σ x1 y0) : mp_X12_jump_147 K' σ x1 y0 := by
  unfold mp_X12_jump_147 at h ⊢
  exact mo_X12_jump_182 hK h
theorem mo_X12_jump_125 {K K' : sm_S → Prop} (hK : ∀ s, K s → K' s) {σ : sm_S} {x1 : Int32} {x5 : Int32} {y0 : Int32} (h : mp_X12_jump_125 K σ x1 x5 y0) : mp_X12_jump_125 K' σ x1 x5 y0 := by
  unfold mp_X12_jump_125 at h ⊢
  exact mo_X12_jump_182 hK h
theorem mo_X12_jump_107 {K K' : sm_S → Prop} (hK : ∀ s, K s → K' s) {σ : sm_S} {x1 : Int32} {x5 : Int32} {y0 : Int32} (h : mp_X12_jump_107 K σ x1 x5 y0) : mp_X12_jump_107 K' σ x1 x5 y0 := by
  unfold mp_X12_jump_107 at h ⊢
  exact mo_X12_jump_182 hK h
theorem mo_X12_jump {σ : sm_S} {p1 : Int32} {p2 : Int32} {K K' : sm_S → Prop} (hK : ∀ s, K s → K' s) (h : mp_X12_jump σ p1 p2 K) : mp_X12_jump σ p1 p2 K' := by
  unfold mp_X12_jump at h ⊢
  exact ⟨h.1, fun v9 e4 => ⟨fun h5 => mo_X12_value (fun r12 σ11 h6 => mo_X12_compares (fun r14 σ13 h7 => mo_X12_jump_182 hK h7) h6) ((h.2 v9 e4).1 h5), fun h8 => mo_X12_value (fun r17 σ16 h9 => mo_X12_value (fun r19 σ18 h10 => mo_X12_compares (fun r21 σ20 h11 => mo_X12_jump_182 hK h11) h10) h9) ((h.2 v9 e4).2.1 h8), fun h12 => mo_X12_value (fun r24 σ23 h13 => ⟨fun h14 => mo_X12_jump_107 hK (h13.1 h14), fun h15 => mo_X12_jump_107 hK (h13.2 h15)⟩) ((h.2 v9 e4).2.2.1 h12), fun h16 => mo_X12_value (fun r28 σ27 h17 => ⟨fun h18 => mo_X12_jump_125 hK (h17.1 h18), fun h19 => mo_X12_jump_125 hK (h17.2 h19)⟩) ((h.2 v9 e4).2.2.2.1 h16), fun h20 => mo_X12_value (fun r32 σ31 h21 => mo_X12_value (fun r34 σ33 h22 => ⟨fun h23 => mo_X12_jump_147 hK (h22.1 h23), fun h24 => mo_X12_jump_147 hK (h22.2 h24)⟩) h21) ((h.2 v9 e4).2.2.2.2.1 h20), fun h25 => mo_X12_value (fun r38 σ37 h26 => mo_X12_value (fun r40 σ39 h27 => ⟨fun h28 => mo_X12_jump_172 hK (h27.1 h28), fun h29 => mo_X12_jump_172 hK (h27.2 h29)⟩) h26) ((h.2 v9 e4).2.2.2.2.2.1 h25), fun h30 h31 h32 h33 h34 h35 => mo_X12_jump_182 hK ((h.2 v9 e4).2.2.2.2.2.2 h30 h31 h32 h33 h34 h35)⟩⟩
theorem mo_X12_step_120 {K K' : Int32 → sm_S → Prop} (hK : ∀ r s, K r s → K' r s) {σ : sm_S} {x1 : Int32} {x2 : Int32} (h : mp_X12_step_120 K σ x1 x2) : mp_X12_step_120 K' σ x1 x2 := by
  unfold mp_X12_step_120 at h ⊢
  exact mo_X12_doValues (fun σ1 h1 => mo_X12_onward (fun σ2 h2 => hK _ _ h2) h1) h
theorem mo_X12_step_106 {K K' : Int32 → sm_S → Prop} (hK : ∀ r s, K r s → K' r s) {σ : sm_S} {x1 : Int32} {x2 : Int32} (h : mp_X12_step_106 K σ x1 x2) : mp_X12_step_106 K' σ x1 x2 := by
  unfold mp_X12_step_106 at h ⊢
  exact mo_X12_value (fun r4 σ3 h1 => ⟨fun h2 => mo_X12_step_120 hK (h1.1 h2), fun h3 => mo_X12_fault (fun r7 σ6 h4 => ⟨h4.1, hK _ _ h4.2⟩) (h1.2 h3)⟩) h
theorem mo_X12_step_94 {K K' : Int32 → sm_S → Prop} (hK : ∀ r s, K r s → K' r s) {σ : sm_S} {x1 : Int32} {x2 : Int32} (h : mp_X12_step_94 K σ x1 x2) : mp_X12_step_94 K' σ x1 x2 := by
  unfold mp_X12_step_94 at h ⊢
  exact ⟨fun h1 => mo_X12_step_106 hK (h.1 h1), fun h2 => ⟨fun h3 => mo_X12_step_120 hK ((h.2 h2).1 h3), fun h4 => mo_X12_step_106 hK ((h.2 h2).2 h4)⟩⟩
theorem mo_X12_step_87 {K K' : Int32 → sm_S → Prop} (hK : ∀ r s, K r s → K' r s) {σ : sm_S} {x1 : Int32} {x2 : Int32} (h : mp_X12_step_87 K σ x1 x2) : mp_X12_step_87 K' σ x1 x2 := by
  unfold mp_X12_step_87 at h ⊢
  exact mo_X12_doThings (fun r12 σ11 h1 => ⟨h1.1, hK _ _ h1.2⟩) h
theorem mo_X12_step_75 {K K' : Int32 → sm_S → Prop} (hK : ∀ r s, K r s → K' r s) {σ : sm_S} {x1 : Int32} {x2 : Int32} (h : mp_X12_step_75 K σ x1 x2) : mp_X12_step_75 K' σ x1 x2 := by
  unfold mp_X12_step_75 at h ⊢
  exact ⟨fun h1 => mo_X12_step_94 hK (h.1 h1), fun h2 => ⟨fun h3 => mo_X12_step_94 hK ((h.2 h2).1 h3), fun h4 => mo_X12_step_87 hK ((h.2 h2).2 h4)⟩⟩
theorem mo_X12_step {σ : sm_S}  {K K' : Int32 → sm_S → Prop} (hK : ∀ r s, K r s → K' r s) (h : mp_X12_step σ  K) : mp_X12_step σ  K' := by
  unfold mp_X12_step at h ⊢
  exact ⟨fun h1 => mo_X12_method (fun r18 σ17 h2 => ⟨h2.1, ⟨h2.2.1, fun v21 e8 => ⟨(h2.2.2 v21 e8).1, fun v23 e12 => mo_X12_isJump (fun r25 σ24 h13 => ⟨fun h14 => ⟨fun h15 => mo_X12_step_75 hK ((h13.1 h14).1 h15), fun h16 => ⟨fun h17 => mo_X12_step_87 hK (((h13.1 h14).2 h16).1 h17), fun h18 => mo_X12_step_75 hK (((h13.1 h14).2 h16).2 h18)⟩⟩, fun h19 => mo_X12_jump (fun σ29 h20 => hK _ _ h20) (h13.2 h19)⟩) ((h2.2.2 v21 e8).2 v23 e12)⟩⟩⟩) (h.1 h1), fun h21 => mo_X12_fly (fun σ30 h22 => hK _ _ h22) (h.2 h21)⟩
theorem mo_X12_run_59 {K K' : Int32 → sm_S → Prop} (hK : ∀ r s, K r s → K' r s) {σ : sm_S} {x2 : Int32} (h : mp_X12_run_59 K σ x2) : mp_X12_run_59 K' σ x2 := by
  unfold mp_X12_run_59 at h ⊢
  exact hK _ _ h
theorem mo_X12_run_23 {K K' : Int32 → sm_S → Prop} (hK : ∀ r s, K r s → K' r s) {n23 : Nat} {σ : sm_S} {x1 : Int32} {x2 : Int32} (h : mp_X12_run_23 K n23 σ x1 x2) : mp_X12_run_23 K' n23 σ x1 x2 := by
  suffices g : ∀ (σ : sm_S) (x1 : Int32) (x2 : Int32), mp_X12_run_23 K n23 σ x1 x2 → mp_X12_run_23 K' n23 σ x1 x2 from g _ _ _ h
  clear h
  induction n23 with
  | zero => exact fun _ _ _ h => h.elim
  | succ n23 ih23 =>
    intro σ x1 x2 h
    unfold mp_X12_run_23 at h ⊢
    exact ⟨fun h1 => mo_X12_run_59 hK (h.1 h1), fun h2 => ⟨fun h3 => mo_X12_run_59 hK ((h.2 h2).1 h3), fun h4 => mo_X12_step (fun r4 σ3 h5 => ⟨fun h6 => ih23 _ _ _ (h5.1 h6), fun h7 => fun σ6 e9 => fun v7 e11 => ih23 _ _ _ (((h5.2 h7) σ6 e9) v7 e11)⟩) ((h.2 h2).2 h4)⟩⟩
theorem mo_X12_run_19 {K K' : Int32 → sm_S → Prop} (hK : ∀ r s, K r s → K' r s) {σ : sm_S} (h : mp_X12_run_19 K σ) : mp_X12_run_19 K' σ := by
  unfold mp_X12_run_19 at h ⊢
  exact hK _ _ h
theorem mo_X12_run {σ : sm_S} {p1 : Int32} {K K' : Int32 → sm_S → Prop} (hK : ∀ r s, K r s → K' r s) (h : mp_X12_run σ p1 K) : mp_X12_run σ p1 K' := by
  unfold mp_X12_run at h ⊢
  exact ⟨fun h1 => mo_X12_run_19 hK (h.1 h1), fun h2 => ⟨fun h3 => mo_X12_run_19 hK ((h.2 h2).1 h3), fun h4 => ⟨fun h5 => (((h.2 h2).2 h4).1 h5).elim (fun n23 h6 => ⟨n23, mo_X12_run_23 hK h6⟩), fun h7 => mo_X12_run_19 hK (((h.2 h2).2 h4).2 h7)⟩⟩⟩
theorem mo_X12_state {σ : sm_S}  {K K' : Int32 → sm_S → Prop} (hK : ∀ r s, K r s → K' r s) (h : mp_X12_state σ  K) : mp_X12_state σ  K' := by
  unfold mp_X12_state at h ⊢
  exact hK _ _ h
theorem mo_X12_count_172 {K K' : Int64 → sm_S → Prop} (hK : ∀ r s, K r s → K' r s) {σ : sm_S} {y0 : Int64} (h : mp_X12_count_172 K σ y0) : mp_X12_count_172 K' σ y0 := by
  unfold mp_X12_count_172 at h ⊢
  exact hK _ _ h
theorem mo_X12_count_149 {K K' : Int64 → sm_S → Prop} (hK : ∀ r s, K r s → K' r s) {σ : sm_S} {y0 : Int64} (h : mp_X12_count_149 K σ y0) : mp_X12_count_149 K' σ y0 := by
  unfold mp_X12_count_149 at h ⊢
  exact hK _ _ h
theorem mo_X12_count_126 {K K' : Int64 → sm_S → Prop} (hK : ∀ r s, K r s → K' r s) {σ : sm_S} {y0 : Int64} (h : mp_X12_count_126 K σ y0) : mp_X12_count_126 K' σ y0 := by
  unfold mp_X12_count_126 at h ⊢
  exact hK _ _ h
theorem mo_X12_count_125 {K K' : Int64 → sm_S → Prop} (hK : ∀ r s, K r s → K' r s) {σ : sm_S} (h : mp_X12_count_125 K σ) : mp_X12_count_125 K' σ := by
  unfold mp_X12_count_125 at h ⊢
  exact mo_X12_count_126 hK h
theorem mo_X12_count_109 {K K' : Int64 → sm_S → Prop} (hK : ∀ r s, K r s → K' r s) {σ : sm_S} {y0 : Int64} (h : mp_X12_count_109 K σ y0) : mp_X12_count_109 K' σ y0 := by
  unfold mp_X12_count_109 at h ⊢
  exact hK _ _ h
theorem mo_X12_count_95 {K K' : Int64 → sm_S → Prop} (hK : ∀ r s, K r s → K' r s) {σ : sm_S} {y0 : Int64} (h : mp_X12_count_95 K σ y0) : mp_X12_count_95 K' σ y0 := by
  unfold mp_X12_count_95 at h ⊢
  exact hK _ _ h
theorem mo_X12_count_82 {K K' : Int64 → sm_S → Prop} (hK : ∀ r s, K r s → K' r s) {σ : sm_S} {y0 : Int64} (h : mp_X12_count_82 K σ y0) : mp_X12_count_82 K' σ y0 := by
  unfold mp_X12_count_82 at h ⊢
  exact hK _ _ h
theorem mo_X12_count_68 {K K' : Int64 → sm_S → Prop} (hK : ∀ r s, K r s → K' r s) {σ : sm_S} {y0 : Int64} (h : mp_X12_count_68 K σ y0) : mp_X12_count_68 K' σ y0 := by
  unfold mp_X12_count_68 at h ⊢
  exact hK _ _ h
theorem mo_X12_count_12 {K K' : Int64 → sm_S → Prop} (hK : ∀ r s, K r s → K' r s) {σ : sm_S} {x1 : Int32} {y0 : Int32} (h : mp_X12_count_12 K σ x1 y0) : mp_X12_count_12 K' σ x1 y0 := by
  unfold mp_X12_count_12 at h ⊢
  exact ⟨fun h1 => ⟨fun h2 => mo_X12_count_68 hK ((h.1 h1).1 h2), fun h3 => mo_X12_count_68 hK ((h.1 h1).2 h3)⟩, fun h4 => ⟨fun h5 => mo_X12_count_82 hK ((h.2.1 h4).1 h5), fun h6 => mo_X12_count_82 hK ((h.2.1 h4).2 h6)⟩, fun h7 => ⟨fun h8 => mo_X12_count_95 hK ((h.2.2.1 h7).1 h8), fun h9 => mo_X12_count_95 hK ((h.2.2.1 h7).2 h9)⟩, fun h10 => ⟨fun h11 => mo_X12_count_109 hK ((h.2.2.2.1 h10).1 h11), fun h12 => mo_X12_count_109 hK ((h.2.2.2.1 h10).2 h12)⟩, fun h13 => ⟨fun h14 => mo_X12_count_125 hK ((h.2.2.2.2.1 h13).1 h14), fun h15 => ⟨fun h16 => mo_X12_count_125 hK (((h.2.2.2.2.1 h13).2 h15).1 h16), fun h17 => mo_X12_count_126 hK (((h.2.2.2.2.1 h13).2 h15).2 h17)⟩⟩, fun h18 => ⟨fun h19 => mo_X12_count_149 hK ((h.2.2.2.2.2.1 h18).1 h19), fun h20 => mo_X12_count_149 hK ((h.2.2.2.2.2.1 h18).2 h20)⟩, fun h21 => ⟨fun h22 => mo_X12_count_172 hK ((h.2.2.2.2.2.2.1 h21).1 h22), fun h23 => mo_X12_count_172 hK ((h.2.2.2.2.2.2.1 h21).2 h23)⟩, fun h24 h25 h26 h27 h28 h29 h30 => hK _ _ (h.2.2.2.2.2.2.2 h24 h25 h26 h27 h28 h29 h30)⟩
theorem mo_X12_count {σ : sm_S} {p1 : Int32} {K K' : Int64 → sm_S → Prop} (hK : ∀ r s, K r s → K' r s) (h : mp_X12_count σ p1 K) : mp_X12_count σ p1 K' := by
  unfold mp_X12_count at h ⊢
  exact ⟨fun h1 => mo_X12_count_12 hK (h.1 h1), fun h2 => mo_X12_count_12 hK (h.2 h2)⟩
theorem mo_X12_out_29 {K K' : Int32 → sm_S → Prop} (hK : ∀ r s, K r s → K' r s) {σ : sm_S} {y0 : Int32} (h : mp_X12_out_29 K σ y0) : mp_X12_out_29 K' σ y0 := by
  unfold mp_X12_out_29 at h ⊢
  exact hK _ _ h
theorem mo_X12_out_28 {K K' : Int32 → sm_S → Prop} (hK : ∀ r s, K r s → K' r s) {σ : sm_S} (h : mp_X12_out_28 K σ) : mp_X12_out_28 K' σ := by
  unfold mp_X12_out_28 at h ⊢
  exact mo_X12_out_29 hK h
theorem mo_X12_out {σ : sm_S} {p1 : Int32} {K K' : Int32 → sm_S → Prop} (hK : ∀ r s, K r s → K' r s) (h : mp_X12_out σ p1 K) : mp_X12_out σ p1 K' := by
  unfold mp_X12_out at h ⊢
  exact ⟨fun h1 => mo_X12_out_28 hK (h.1 h1), fun h2 => ⟨fun h3 => mo_X12_out_28 hK ((h.2 h2).1 h3), fun h4 => ⟨fun h5 => mo_X12_out_28 hK (((h.2 h2).2 h4).1 h5), fun h6 => ⟨(((h.2 h2).2 h4).2 h6).1, mo_X12_out_29 hK (((h.2 h2).2 h4).2 h6).2⟩⟩⟩⟩
theorem mo_X12_frame_94 {K K' : Int32 → sm_S → Prop} (hK : ∀ r s, K r s → K' r s) {σ : sm_S} {y0 : Int32} (h : mp_X12_frame_94 K σ y0) : mp_X12_frame_94 K' σ y0 := by
  unfold mp_X12_frame_94 at h ⊢
  exact hK _ _ h
theorem mo_X12_frame_19 {K K' : Int32 → sm_S → Prop} (hK : ∀ r s, K r s → K' r s) {σ : sm_S} (h : mp_X12_frame_19 K σ) : mp_X12_frame_19 K' σ := by
  unfold mp_X12_frame_19 at h ⊢
  exact hK _ _ h
theorem mo_X12_frame {σ : sm_S} {p1 : Int32} {p2 : Int32} {K K' : Int32 → sm_S → Prop} (hK : ∀ r s, K r s → K' r s) (h : mp_X12_frame σ p1 p2 K) : mp_X12_frame σ p1 p2 K' := by
  unfold mp_X12_frame at h ⊢
  exact ⟨fun h1 => mo_X12_frame_19 hK (h.1 h1), fun h2 => ⟨fun h3 => mo_X12_frame_19 hK ((h.2 h2).1 h3), fun h4 => ⟨fun h5 => fun v4 e7 => ⟨fun h8 => ⟨fun h9 => ⟨fun h10 => ⟨fun h11 => mo_X12_frame_94 hK ((((((((h.2 h2).2 h4).1 h5) v4 e7).1 h8).1 h9).1 h10).1 h11), fun h12 => ⟨((((((((h.2 h2).2 h4).1 h5) v4 e7).1 h8).1 h9).1 h10).2 h12).1, ⟨((((((((h.2 h2).2 h4).1 h5) v4 e7).1 h8).1 h9).1 h10).2 h12).2.1, mo_X12_frame_94 hK ((((((((h.2 h2).2 h4).1 h5) v4 e7).1 h8).1 h9).1 h10).2 h12).2.2⟩⟩⟩, fun h17 => ⟨(((((((h.2 h2).2 h4).1 h5) v4 e7).1 h8).1 h9).2 h17).1, mo_X12_frame_94 hK (((((((h.2 h2).2 h4).1 h5) v4 e7).1 h8).1 h9).2 h17).2⟩⟩, fun h20 => ⟨((((((h.2 h2).2 h4).1 h5) v4 e7).1 h8).2 h20).1, mo_X12_frame_94 hK ((((((h.2 h2).2 h4).1 h5) v4 e7).1 h8).2 h20).2⟩⟩, fun h23 => ⟨(((((h.2 h2).2 h4).1 h5) v4 e7).2 h23).1, mo_X12_frame_94 hK (((((h.2 h2).2 h4).1 h5) v4 e7).2 h23).2⟩⟩, fun h26 => mo_X12_frame_19 hK (((h.2 h2).2 h4).2 h26)⟩⟩⟩
theorem mo_X12_placeOfValue_69 {K K' : Int32 → sm_S → Prop} (hK : ∀ r s, K r s → K' r s) {σ : sm_S} {y0 : Int32} (h : mp_X12_placeOfValue_69 K σ y0) : mp_X12_placeOfValue_69 K' σ y0 := by
  unfold mp_X12_placeOfValue_69 at h ⊢
  exact hK _ _ h
theorem mo_X12_placeOfValue_23 {K K' : Int32 → sm_S → Prop} (hK : ∀ r s, K r s → K' r s) {σ : sm_S} (h : mp_X12_placeOfValue_23 K σ) : mp_X12_placeOfValue_23 K' σ := by
  unfold mp_X12_placeOfValue_23 at h ⊢
  exact hK _ _ h
theorem mo_X12_placeOfValue {σ : sm_S} {p1 : Int32} {p2 : Int32} {K K' : Int32 → sm_S → Prop} (hK : ∀ r s, K r s → K' r s) (h : mp_X12_placeOfValue σ p1 p2 K) : mp_X12_placeOfValue σ p1 p2 K' := by
  unfold mp_X12_placeOfValue at h ⊢
  exact ⟨fun h1 => mo_X12_placeOfValue_23 hK (h.1 h1), fun h2 => ⟨fun h3 => mo_X12_placeOfValue_23 hK ((h.2 h2).1 h3), fun h4 => ⟨fun h5 => mo_X12_placeOfValue_23 hK (((h.2 h2).2 h4).1 h5), fun h6 => ⟨fun h7 => fun v5 e9 => ⟨(((((h.2 h2).2 h4).2 h6).1 h7) v5 e9).1, ⟨(((((h.2 h2).2 h4).2 h6).1 h7) v5 e9).2.1, ⟨(((((h.2 h2).2 h4).2 h6).1 h7) v5 e9).2.2.1, ⟨fun h16 => mo_X12_placeOfValue_69 hK ((((((h.2 h2).2 h4).2 h6).1 h7) v5 e9).2.2.2.1 h16), fun h17 => mo_X12_placeOfValue_69 hK ((((((h.2 h2).2 h4).2 h6).1 h7) v5 e9).2.2.2.2 h17)⟩⟩⟩⟩, fun h18 => mo_X12_placeOfValue_23 hK ((((h.2 h2).2 h4).2 h6).2 h18)⟩⟩⟩⟩
theorem mo_X12_value__455 {K K' : Int64 → sm_S → Prop} (hK : ∀ r s, K r s → K' r s) {σ : sm_S} {y0 : Int64} (h : mp_X12_value__455 K σ y0) : mp_X12_value__455 K' σ y0 := by
  unfold mp_X12_value__455 at h ⊢
  exact hK _ _ h
theorem mo_X12_value__373 {K K' : Int64 → sm_S → Prop} (hK : ∀ r s, K r s → K' r s) {σ : sm_S} {x5 : Int32} {x8 : Int32} {y0 : Int32} (h : mp_X12_value__373 K σ x5 x8 y0) : mp_X12_value__373 K' σ x5 x8 y0 := by
  unfold mp_X12_value__373 at h ⊢
  exact ⟨fun h1 => ⟨fun h2 => ⟨fun h3 => mo_X12_value__455 hK (((h.1 h1).1 h2).1 h3), fun h4 => ⟨(((h.1 h1).1 h2).2 h4).1, ⟨(((h.1 h1).1 h2).2 h4).2.1, mo_X12_value__455 hK (((h.1 h1).1 h2).2 h4).2.2⟩⟩⟩, fun h9 => ⟨((h.1 h1).2 h9).1, mo_X12_value__455 hK ((h.1 h1).2 h9).2⟩⟩, fun h12 => ⟨fun h13 => ⟨((h.2 h12).1 h13).1, ⟨fun h16 => mo_X12_value__455 hK (((h.2 h12).1 h13).2.1 h16), fun h17 => mo_X12_value__455 hK (((h.2 h12).1 h13).2.2 h17)⟩⟩, fun h18 => mo_X12_value__455 hK ((h.2 h12).2 h18)⟩⟩
theorem mo_X12_value__357 {K K' : Int64 → sm_S → Prop} (hK : ∀ r s, K r s → K' r s) {σ : sm_S} {y0 : Int64} (h : mp_X12_value__357 K σ y0) : mp_X12_value__357 K' σ y0 := by
  unfold mp_X12_value__357 at h ⊢
  exact hK _ _ h
theorem mo_X12_value__340 {K K' : Int64 → sm_S → Prop} (hK : ∀ r s, K r s → K' r s) {σ : sm_S} {y0 : Int64} (h : mp_X12_value__340 K σ y0) : mp_X12_value__340 K' σ y0 := by
  unfold mp_X12_value__340 at h ⊢
  exact hK _ _ h
theorem mo_X12_value__312 {L119 L119' : sm_S → Int32 → Int32 → Int32 → Int64 → Prop} (hL119 : ∀ z0 z1 z2 z3 z4, L119 z0 z1 z2 z3 z4 → L119' z0 z1 z2 z3 z4) {K K' : Int64 → sm_S → Prop} (hK : ∀ r s, K r s → K' r s) {σ : sm_S} {x5 : Int32} {x8 : Int32} {x9 : Int32} {x10 : Int64} (h : mp_X12_value__312 L119 K σ x5 x8 x9 x10) : mp_X12_value__312 L119' K' σ x5 x8 x9 x10 := by
  unfold mp_X12_value__312 at h ⊢
  exact fun v10 e2 => hL119 _ _ _ _ _ (h v10 e2)
theorem mo_X12_value__310 {L119 L119' : sm_S → Int32 → Int32 → Int32 → Int64 → Prop} (hL119 : ∀ z0 z1 z2 z3 z4, L119 z0 z1 z2 z3 z4 → L119' z0 z1 z2 z3 z4) {K K' : Int64 → sm_S → Prop} (hK : ∀ r s, K r s → K' r s) {σ : sm_S} {x5 : Int32} {x9 : Int32} {x10 : Int64} {y0 : Int32} (h : mp_X12_value__310 L119 K σ x5 x9 x10 y0) : mp_X12_value__310 L119' K' σ x5 x9 x10 y0 := by
  unfold mp_X12_value__310 at h ⊢
  exact mo_X12_value__312 hL119 hK h
theorem mo_X12_value__272 {L119 L119' : sm_S → Int32 → Int32 → Int32 → Int64 → Prop} (hL119 : ∀ z0 z1 z2 z3 z4, L119 z0 z1 z2 z3 z4 → L119' z0 z1 z2 z3 z4) {K K' : Int64 → sm_S → Prop} (hK : ∀ r s, K r s → K' r s) {σ : sm_S} {x5 : Int32} {x8 : Int32} {x10 : Int64} {x12 : Int32} {y0 : Int32} (h : mp_X12_value__272 L119 K σ x5 x8 x10 x12 y0) : mp_X12_value__272 L119' K' σ x5 x8 x10 x12 y0 := by
  unfold mp_X12_value__272 at h ⊢
  exact mo_X12_itemCell (fun r12 σ11 h1 => ⟨fun h2 => ⟨(h1.1 h2).1, mo_X12_value__310 hL119 hK (h1.1 h2).2⟩, fun h5 => ⟨fun h6 => mo_X12_value__310 hL119 hK ((h1.2 h5).1 h6), fun h7 => mo_X12_value__310 hL119 hK ((h1.2 h5).2 h7)⟩⟩) h
theorem mo_X12_value__219 {L119 L119' : sm_S → Int32 → Int32 → Int32 → Int64 → Prop} (hL119 : ∀ z0 z1 z2 z3 z4, L119 z0 z1 z2 z3 z4 → L119' z0 z1 z2 z3 z4) {K K' : Int64 → sm_S → Prop} (hK : ∀ r s, K r s → K' r s) {σ : sm_S} {x5 : Int32} {x8 : Int32} {x10 : Int64} {x12 : Int32} {y0 : Int32} (h : mp_X12_value__219 L119 K σ x5 x8 x10 x12 y0) : mp_X12_value__219 L119' K' σ x5 x8 x10 x12 y0 := by
  unfold mp_X12_value__219 at h ⊢
  exact ⟨h.1, ⟨h.2.1, fun v18 e6 => mo_X12_value__312 hL119 hK (h.2.2 v18 e6)⟩⟩
theorem mo_X12_value__152 {L119 L119' : sm_S → Int32 → Int32 → Int32 → Int64 → Prop} (hL119 : ∀ z0 z1 z2 z3 z4, L119 z0 z1 z2 z3 z4 → L119' z0 z1 z2 z3 z4) {K K' : Int64 → sm_S → Prop} (hK : ∀ r s, K r s → K' r s) {σ : sm_S} (h : mp_X12_value__152 L119 K σ) : mp_X12_value__152 L119' K' σ := by
  unfold mp_X12_value__152 at h ⊢
  exact hK _ _ h
theorem mo_X12_value__119 {K K' : Int64 → sm_S → Prop} (hK : ∀ r s, K r s → K' r s) {n119 : Nat} {σ : sm_S} {x5 : Int32} {x8 : Int32} {x9 : Int32} {x10 : Int64} (h : mp_X12_value__119 K n119 σ x5 x8 x9 x10) : mp_X12_value__119 K' n119 σ x5 x8 x9 x10 := by
  suffices g : ∀ (σ : sm_S) (x5 : Int32) (x8 : Int32) (x9 : Int32) (x10 : Int64), mp_X12_value__119 K n119 σ x5 x8 x9 x10 → mp_X12_value__119 K' n119 σ x5 x8 x9 x10 from g _ _ _ _ _ h
  clear h
  induction n119 with
  | zero => exact fun _ _ _ _ _ h => h.elim
  | succ n119 ih119 =>
    intro σ x5 x8 x9 x10 h
    unfold mp_X12_value__119 at h ⊢
    exact ⟨fun h1 => ⟨fun h2 => ⟨fun h3 => ⟨(((h.1 h1).1 h2).1 h3).1, ⟨fun h6 => mo_X12_value__373 hK ((((h.1 h1).1 h2).1 h3).2.1 h6), fun h7 => mo_X12_value__373 hK ((((h.1 h1).1 h2).1 h3).2.2 h7)⟩⟩, fun h8 => ⟨fun h9 => mo_X12_value__357 hK ((((h.1 h1).1 h2).2 h8).1 h9), fun h10 => mo_X12_value__357 hK ((((h.1 h1).1 h2).2 h8).2 h10)⟩⟩, fun h11 => ⟨fun h12 => mo_X12_value__340 hK (((h.1 h1).2 h11).1 h12), fun h13 => mo_X12_value__340 hK (((h.1 h1).2 h11).2 h13)⟩⟩, fun h14 => fun v26 e16 => ⟨fun h17 => mo_X12_value__152 ih119 hK (((h.2 h14) v26 e16).1 h17), fun h18 => ⟨fun h19 => ⟨((((h.2 h14) v26 e16).2 h18).1 h19).1, ⟨fun h22 => ⟨(((((h.2 h14) v26 e16).2 h18).1 h19).2.1 h22).1, ⟨fun h25 => ⟨((((((h.2 h14) v26 e16).2 h18).1 h19).2.1 h22).2.1 h25).1, ⟨fun h28 => mo_X12_value__272 ih119 hK (((((((h.2 h14) v26 e16).2 h18).1 h19).2.1 h22).2.1 h25).2.1 h28), fun h29 => mo_X12_value__272 ih119 hK (((((((h.2 h14) v26 e16).2 h18).1 h19).2.1 h22).2.1 h25).2.2 h29)⟩⟩, fun h30 => hK _ _ ((((((h.2 h14) v26 e16).2 h18).1 h19).2.1 h22).2.2 h30)⟩⟩, fun h31 => ⟨(((((h.2 h14) v26 e16).2 h18).1 h19).2.2 h31).1, ⟨(((((h.2 h14) v26 e16).2 h18).1 h19).2.2 h31).2.1, ⟨fun h36 => ⟨((((((h.2 h14) v26 e16).2 h18).1 h19).2.2 h31).2.2.1 h36).1, ⟨((((((h.2 h14) v26 e16).2 h18).1 h19).2.2 h31).2.2.1 h36).2.1, ⟨fun h41 => mo_X12_value__219 ih119 hK (((((((h.2 h14) v26 e16).2 h18).1 h19).2.2 h31).2.2.1 h36).2.2.1 h41), fun h42 => mo_X12_value__219 ih119 hK (((((((h.2 h14) v26 e16).2 h18).1 h19).2.2 h31).2.2.1 h36).2.2.2 h42)⟩⟩⟩, fun h43 => hK _ _ ((((((h.2 h14) v26 e16).2 h18).1 h19).2.2 h31).2.2.2 h43)⟩⟩⟩⟩⟩, fun h44 => mo_X12_value__152 ih119 hK ((((h.2 h14) v26 e16).2 h18).2 h44)⟩⟩⟩
theorem mo_X12_value__114 {K K' : Int64 → sm_S → Prop} (hK : ∀ r s, K r s → K' r s) {σ : sm_S} {x3 : Int64} {x5 : Int32} {x8 : Int32} {y0 : Int32} (h : mp_X12_value__114 K σ x3 x5 x8 y0) : mp_X12_value__114 K' σ x3 x5 x8 y0 := by
  unfold mp_X12_value__114 at h ⊢
  exact h.elim (fun n119 h1 => ⟨n119, mo_X12_value__119 hK h1⟩)
theorem mo_X12_value__109 {K K' : Int64 → sm_S → Prop} (hK : ∀ r s, K r s → K' r s) {σ : sm_S} {x3 : Int64} {x5 : Int32} {x8 : Int32} (h : mp_X12_value__109 K σ x3 x5 x8) : mp_X12_value__109 K' σ x3 x5 x8 := by
  unfold mp_X12_value__109 at h ⊢
  exact mo_X12_value__114 hK h
theorem mo_X12_value__92 {K K' : Int64 → sm_S → Prop} (hK : ∀ r s, K r s → K' r s) {σ : sm_S} {x3 : Int64} {x5 : Int32} {x6 : Int32} {x7 : Int32} {y0 : Int32} (h : mp_X12_value__92 K σ x3 x5 x6 x7 y0) : mp_X12_value__92 K' σ x3 x5 x6 x7 y0 := by
  unfold mp_X12_value__92 at h ⊢
  exact ⟨fun h1 => mo_X12_value__109 hK (h.1 h1), fun h2 => ⟨(h.2 h2).1, ⟨fun h5 => mo_X12_value__114 hK ((h.2 h2).2.1 h5), fun h6 => mo_X12_value__109 hK ((h.2 h2).2.2 h6)⟩⟩⟩
theorem mo_X12_value__69 {K K' : Int64 → sm_S → Prop} (hK : ∀ r s, K r s → K' r s) {σ : sm_S} (h : mp_X12_value__69 K σ) : mp_X12_value__69 K' σ := by
  unfold mp_X12_value__69 at h ⊢
  exact hK _ _ h
theorem mo_X12_value__58 {K K' : Int64 → sm_S → Prop} (hK : ∀ r s, K r s → K' r s) {σ : sm_S} {x3 : Int64} {x5 : Int32} {x6 : Int32} {x7 : Int32} (h : mp_X12_value__58 K σ x3 x5 x6 x7) : mp_X12_value__58 K' σ x3 x5 x6 x7 := by
  unfold mp_X12_value__58 at h ⊢
  exact ⟨fun h1 => mo_X12_value__69 hK (h.1 h1), fun h2 => ⟨fun h3 => ⟨fun h4 => ⟨(((h.2 h2).1 h3).1 h4).1, mo_X12_value__92 hK (((h.2 h2).1 h3).1 h4).2⟩, fun h7 => mo_X12_value__92 hK (((h.2 h2).1 h3).2 h7)⟩, fun h8 => mo_X12_value__69 hK ((h.2 h2).2 h8)⟩⟩
theorem mo_X12_value__45 {K K' : Int64 → sm_S → Prop} (hK : ∀ r s, K r s → K' r s) {σ : sm_S} {x3 : Int64} {x5 : Int32} {x6 : Int32} {y0 : Int32} (h : mp_X12_value__45 K σ x3 x5 x6 y0) : mp_X12_value__45 K' σ x3 x5 x6 y0 := by
  unfold mp_X12_value__45 at h ⊢
  exact ⟨fun h1 => mo_X12_value__58 hK (h.1 h1), fun h2 => ⟨fun h3 => mo_X12_value__69 hK ((h.2 h2).1 h3), fun h4 => mo_X12_value__58 hK ((h.2 h2).2 h4)⟩⟩
theorem mo_X12_value__28 {K K' : Int64 → sm_S → Prop} (hK : ∀ r s, K r s → K' r s) {σ : sm_S} {x1 : Int32} {x2 : Int32} {x3 : Int64} {x5 : Int32} {y0 : Int32} (h : mp_X12_value__28 K σ x1 x2 x3 x5 y0) : mp_X12_value__28 K' σ x1 x2 x3 x5 y0 := by
  unfold mp_X12_value__28 at h ⊢
  exact ⟨fun h1 => mo_X12_placeOfValue (fun r52 σ51 h2 => mo_X12_value__45 hK h2) (h.1 h1), fun h3 => mo_X12_value__45 hK (h.2 h3)⟩
theorem mo_X12_value__27 {K K' : Int64 → sm_S → Prop} (hK : ∀ r s, K r s → K' r s) {σ : sm_S} {x1 : Int32} {x2 : Int32} {x3 : Int64} {x5 : Int32} (h : mp_X12_value__27 K σ x1 x2 x3 x5) : mp_X12_value__27 K' σ x1 x2 x3 x5 := by
  unfold mp_X12_value__27 at h ⊢
  exact mo_X12_value__28 hK h
theorem mo_X12_value_ {σ : sm_S} {p1 : Int32} {p2 : Int32} {p3 : Int64} {p4 : Int32} {K K' : Int64 → sm_S → Prop} (hK : ∀ r s, K r s → K' r s) (h : mp_X12_value_ σ p1 p2 p3 p4 K) : mp_X12_value_ σ p1 p2 p3 p4 K' := by
  unfold mp_X12_value_ at h ⊢
  exact ⟨fun h1 => mo_X12_value__27 hK (h.1 h1), fun h2 => ⟨fun h3 => mo_X12_value__27 hK ((h.2 h2).1 h3), fun h4 => ⟨fun h5 => mo_X12_value__27 hK (((h.2 h2).2 h4).1 h5), fun h6 => ⟨fun h7 => mo_X12_value__27 hK ((((h.2 h2).2 h4).2 h6).1 h7), fun h8 => mo_X12_value__28 hK ((((h.2 h2).2 h4).2 h6).2 h8)⟩⟩⟩⟩
theorem mo_X12_same_66 {K K' : Int32 → sm_S → Prop} (hK : ∀ r s, K r s → K' r s) {σ : sm_S} {y0 : Int32} (h : mp_X12_same_66 K σ y0) : mp_X12_same_66 K' σ y0 := by
  unfold mp_X12_same_66 at h ⊢
  exact ⟨h.1, hK _ _ h.2⟩
theorem mo_X12_same_65 {K K' : Int32 → sm_S → Prop} (hK : ∀ r s, K r s → K' r s) {σ : sm_S} (h : mp_X12_same_65 K σ) : mp_X12_same_65 K' σ := by
  unfold mp_X12_same_65 at h ⊢
  exact mo_X12_same_66 hK h
theorem mo_X12_same {σ : sm_S} {p1 : Int32} {p2 : Int32} {K K' : Int32 → sm_S → Prop} (hK : ∀ r s, K r s → K' r s) (h : mp_X12_same σ p1 p2 K) : mp_X12_same σ p1 p2 K' := by
  unfold mp_X12_same at h ⊢
  exact mo_X12_placeOfValue (fun r3 σ2 h1 => mo_X12_placeOfValue (fun r5 σ4 h2 => ⟨fun h3 => mo_X12_same_65 hK (h2.1 h3), fun h4 => ⟨fun h5 => mo_X12_same_65 hK ((h2.2 h4).1 h5), fun h6 => ⟨((h2.2 h4).2 h6).1, ⟨fun h9 => mo_X12_same_65 hK (((h2.2 h4).2 h6).2.1 h9), fun h10 => ⟨(((h2.2 h4).2 h6).2.2 h10).1, ⟨fun h13 => mo_X12_same_65 hK ((((h2.2 h4).2 h6).2.2 h10).2.1 h13), fun h14 => ⟨((((h2.2 h4).2 h6).2.2 h10).2.2 h14).1, ⟨((((h2.2 h4).2 h6).2.2 h10).2.2 h14).2.1, ⟨fun h19 => mo_X12_same_65 hK (((((h2.2 h4).2 h6).2.2 h10).2.2 h14).2.2.1 h19), fun h20 => mo_X12_same_66 hK (((((h2.2 h4).2 h6).2.2 h10).2.2 h14).2.2.2 h20)⟩⟩⟩⟩⟩⟩⟩⟩⟩) h1) h
theorem mo_X12_told_77 {K K' : Int32 → sm_S → Prop} (hK : ∀ r s, K r s → K' r s) {σ : sm_S} {y0 : Int32} (h : mp_X12_told_77 K σ y0) : mp_X12_told_77 K' σ y0 := by
  unfold mp_X12_told_77 at h ⊢
  exact hK _ _ h
theorem mo_X12_told_61 {K K' : Int32 → sm_S → Prop} (hK : ∀ r s, K r s → K' r s) {σ : sm_S} {y0 : Int32} (h : mp_X12_told_61 K σ y0) : mp_X12_told_61 K' σ y0 := by
  unfold mp_X12_told_61 at h ⊢
  exact hK _ _ h
theorem mo_X12_told {σ : sm_S} {p1 : Int32} {K K' : Int32 → sm_S → Prop} (hK : ∀ r s, K r s → K' r s) (h : mp_X12_told σ p1 K) : mp_X12_told σ p1 K' := by
  unfold mp_X12_told at h ⊢
  exact ⟨fun h1 => ⟨fun h2 => hK _ _ ((h.1 h1).1 h2), fun h3 => mo_X12_isDone (fun r5 σ4 h4 => ⟨fun h5 => mo_X12_told_61 hK (h4.1 h5), fun h6 => mo_X12_told_61 hK (h4.2 h6)⟩) ((h.1 h1).2.1 h3), fun h7 => mo_X12_isDone (fun r9 σ8 h8 => ⟨fun h9 => mo_X12_told_77 hK (h8.1 h9), fun h10 => mo_X12_told_77 hK (h8.2 h10)⟩) ((h.1 h1).2.2.1 h7), fun h11 => hK _ _ ((h.1 h1).2.2.2.1 h11), fun h12 => hK _ _ ((h.1 h1).2.2.2.2.1 h12), fun h13 h14 h15 h16 h17 => hK _ _ ((h.1 h1).2.2.2.2.2 h13 h14 h15 h16 h17)⟩, fun h18 => hK _ _ (h.2 h18)⟩
theorem mo_X12_steady {σ : sm_S}  {K K' : Int32 → sm_S → Prop} (hK : ∀ r s, K r s → K' r s) (h : mp_X12_steady σ  K) : mp_X12_steady σ  K' := by
  unfold mp_X12_steady at h ⊢
  exact hK _ _ h
