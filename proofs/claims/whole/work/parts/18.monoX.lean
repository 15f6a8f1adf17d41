theorem mo_X0_inherit_111 {L75 L75' : sm_S → Int32 → Int32 → Int32 → Prop} (hL75 : ∀ z0 z1 z2 z3, L75 z0 z1 z2 z3 → L75' z0 z1 z2 z3) {K K' : sm_S → Prop} (hK : ∀ s, K s → K' s) {σ : sm_S} {x1 : Int32} {x2 : Int32} {x3 : Int32} {y1 : Int32} {y2 : Int32} (h : mp_X0_inherit_111 L75 K σ x1 x2 x3 y1 y2) : mp_X0_inherit_111 L75' K' σ x1 x2 x3 y1 y2 := by
  unfold mp_X0_inherit_111 at h ⊢
  exact ⟨h.1, fun σ2 e4 => ⟨(h.2 σ2 e4).1, fun σ4 e8 => fun v5 e10 => hL75 _ _ _ _ (((h.2 σ2 e4).2 σ4 e8) v5 e10)⟩⟩
theorem mo_X0_inherit_75 {K K' : sm_S → Prop} (hK : ∀ s, K s → K' s) {n75 : Nat} {σ : sm_S} {x1 : Int32} {x2 : Int32} {x3 : Int32} (h : mp_X0_inherit_75 K n75 σ x1 x2 x3) : mp_X0_inherit_75 K' n75 σ x1 x2 x3 := by
  suffices g : ∀ (σ : sm_S) (x1 : Int32) (x2 : Int32) (x3 : Int32), mp_X0_inherit_75 K n75 σ x1 x2 x3 → mp_X0_inherit_75 K' n75 σ x1 x2 x3 from g _ _ _ _ h
  clear h
  induction n75 with
  | zero => exact fun _ _ _ _ h => h.elim
  | succ n75 ih75 =>
    intro σ x1 x2 x3 h
    unfold mp_X0_inherit_75 at h ⊢
    exact ⟨fun h1 => hK _ (h.1 h1), fun h2 => ⟨fun h3 => ⟨((h.2 h2).1 h3).1, mo_X0_inherit_111 ih75 hK ((h.2 h2).1 h3).2⟩, fun h6 => mo_X0_inherit_111 ih75 hK ((h.2 h2).2 h6)⟩⟩
theorem mo_X0_inherit_66 {L30 L30' : sm_S → Int32 → Int32 → Int32 → Prop} (hL30 : ∀ z0 z1 z2 z3, L30 z0 z1 z2 z3 → L30' z0 z1 z2 z3) {K K' : sm_S → Prop} (hK : ∀ s, K s → K' s) {σ : sm_S} {x1 : Int32} {x2 : Int32} {x3 : Int32} {y1 : Int32} {y2 : Int32} (h : mp_X0_inherit_66 L30 K σ x1 x2 x3 y1 y2) : mp_X0_inherit_66 L30' K' σ x1 x2 x3 y1 y2 := by
  unfold mp_X0_inherit_66 at h ⊢
  exact ⟨h.1, fun σ10 e4 => fun v11 e6 => hL30 _ _ _ _ ((h.2 σ10 e4) v11 e6)⟩
theorem mo_X0_inherit_30 {K K' : sm_S → Prop} (hK : ∀ s, K s → K' s) {n30 : Nat} {σ : sm_S} {x1 : Int32} {x2 : Int32} {x3 : Int32} (h : mp_X0_inherit_30 K n30 σ x1 x2 x3) : mp_X0_inherit_30 K' n30 σ x1 x2 x3 := by
  suffices g : ∀ (σ : sm_S) (x1 : Int32) (x2 : Int32) (x3 : Int32), mp_X0_inherit_30 K n30 σ x1 x2 x3 → mp_X0_inherit_30 K' n30 σ x1 x2 x3 from g _ _ _ _ h
  clear h
  induction n30 with
  | zero => exact fun _ _ _ _ h => h.elim
  | succ n30 ih30 =>
    intro σ x1 x2 x3 h
    unfold mp_X0_inherit_30 at h ⊢
    exact ⟨fun h1 => (h.1 h1).elim (fun n75 h2 => ⟨n75, mo_X0_inherit_75 hK h2⟩), fun h3 => ⟨fun h4 => ⟨((h.2 h3).1 h4).1, mo_X0_inherit_66 ih30 hK ((h.2 h3).1 h4).2⟩, fun h7 => mo_X0_inherit_66 ih30 hK ((h.2 h3).2 h7)⟩⟩
theorem mo_X0_inherit_27 {K K' : sm_S → Prop} (hK : ∀ s, K s → K' s) {σ : sm_S} {x1 : Int32} {x2 : Int32} {y1 : Int32} {y2 : Int32} (h : mp_X0_inherit_27 K σ x1 x2 y1 y2) : mp_X0_inherit_27 K' σ x1 x2 y1 y2 := by
  unfold mp_X0_inherit_27 at h ⊢
  exact ⟨h.1, fun σ16 e4 => (h.2 σ16 e4).elim (fun n30 h5 => ⟨n30, mo_X0_inherit_30 hK h5⟩)⟩
theorem mo_X0_inherit {σ : sm_S} {p1 : Int32} {p2 : Int32} {K K' : sm_S → Prop} (hK : ∀ s, K s → K' s) (h : mp_X0_inherit σ p1 p2 K) : mp_X0_inherit σ p1 p2 K' := by
  unfold mp_X0_inherit at h ⊢
  exact ⟨h.1, fun σ18 e4 => ⟨fun h5 => ⟨((h.2 σ18 e4).1 h5).1, mo_X0_inherit_27 hK ((h.2 σ18 e4).1 h5).2⟩, fun h8 => mo_X0_inherit_27 hK ((h.2 σ18 e4).2 h8)⟩⟩
theorem mo_X0_isOrBelow_37 {K K' : Int32 → sm_S → Prop} (hK : ∀ r s, K r s → K' r s) {σ : sm_S} (h : mp_X0_isOrBelow_37 K σ) : mp_X0_isOrBelow_37 K' σ := by
  unfold mp_X0_isOrBelow_37 at h ⊢
  exact hK _ _ h
theorem mo_X0_isOrBelow_5 {K K' : Int32 → sm_S → Prop} (hK : ∀ r s, K r s → K' r s) {n5 : Nat} {σ : sm_S} {x2 : Int32} {x3 : Int32} {x4 : Int32} (h : mp_X0_isOrBelow_5 K n5 σ x2 x3 x4) : mp_X0_isOrBelow_5 K' n5 σ x2 x3 x4 := by
  suffices g : ∀ (σ : sm_S) (x2 : Int32) (x3 : Int32) (x4 : Int32), mp_X0_isOrBelow_5 K n5 σ x2 x3 x4 → mp_X0_isOrBelow_5 K' n5 σ x2 x3 x4 from g _ _ _ _ h
  clear h
  induction n5 with
  | zero => exact fun _ _ _ _ h => h.elim
  | succ n5 ih5 =>
    intro σ x2 x3 x4 h
    unfold mp_X0_isOrBelow_5 at h ⊢
    exact ⟨fun h1 => mo_X0_isOrBelow_37 hK (h.1 h1), fun h2 => ⟨fun h3 => mo_X0_isOrBelow_37 hK ((h.2 h2).1 h3), fun h4 => ⟨fun h5 => ⟨(((h.2 h2).2 h4).1 h5).1, fun v5 e9 => fun v6 e11 => ih5 _ _ _ _ (((((h.2 h2).2 h4).1 h5).2 v5 e9) v6 e11)⟩, fun h12 => hK _ _ (((h.2 h2).2 h4).2 h12)⟩⟩⟩
theorem mo_X0_isOrBelow {σ : sm_S} {p1 : Int32} {p2 : Int32} {K K' : Int32 → sm_S → Prop} (hK : ∀ r s, K r s → K' r s) (h : mp_X0_isOrBelow σ p1 p2 K) : mp_X0_isOrBelow σ p1 p2 K' := by
  unfold mp_X0_isOrBelow at h ⊢
  exact h.elim (fun n5 h1 => ⟨n5, mo_X0_isOrBelow_5 hK h1⟩)
theorem mo_X0_lowestAbove_52 {K K' : Int32 → sm_S → Prop} (hK : ∀ r s, K r s → K' r s) {σ : sm_S} {x3 : Int32} (h : mp_X0_lowestAbove_52 K σ x3) : mp_X0_lowestAbove_52 K' σ x3 := by
  unfold mp_X0_lowestAbove_52 at h ⊢
  exact hK _ _ h
theorem mo_X0_lowestAbove_46 {L8 L8' : sm_S → Int32 → Int32 → Int32 → Prop} (hL8 : ∀ z0 z1 z2 z3, L8 z0 z1 z2 z3 → L8' z0 z1 z2 z3) {K K' : Int32 → sm_S → Prop} (hK : ∀ r s, K r s → K' r s) {σ : sm_S} {x3 : Int32} {x4 : Int32} {x5 : Int32} (h : mp_X0_lowestAbove_46 L8 K σ x3 x4 x5) : mp_X0_lowestAbove_46 L8' K' σ x3 x4 x5 := by
  unfold mp_X0_lowestAbove_46 at h ⊢
  exact fun v1 e2 => hL8 _ _ _ _ (h v1 e2)
theorem mo_X0_lowestAbove_8 {K K' : Int32 → sm_S → Prop} (hK : ∀ r s, K r s → K' r s) {n8 : Nat} {σ : sm_S} {x3 : Int32} {x4 : Int32} {x5 : Int32} (h : mp_X0_lowestAbove_8 K n8 σ x3 x4 x5) : mp_X0_lowestAbove_8 K' n8 σ x3 x4 x5 := by
  suffices g : ∀ (σ : sm_S) (x3 : Int32) (x4 : Int32) (x5 : Int32), mp_X0_lowestAbove_8 K n8 σ x3 x4 x5 → mp_X0_lowestAbove_8 K' n8 σ x3 x4 x5 from g _ _ _ _ h
  clear h
  induction n8 with
  | zero => exact fun _ _ _ _ h => h.elim
  | succ n8 ih8 =>
    intro σ x3 x4 x5 h
    unfold mp_X0_lowestAbove_8 at h ⊢
    exact ⟨fun h1 => mo_X0_lowestAbove_52 hK (h.1 h1), fun h2 => ⟨fun h3 => mo_X0_lowestAbove_52 hK ((h.2 h2).1 h3), fun h4 => ⟨fun h5 => ⟨(((h.2 h2).2 h4).1 h5).1, fun v6 e9 => mo_X0_lowestAbove_46 ih8 hK ((((h.2 h2).2 h4).1 h5).2 v6 e9)⟩, fun h10 => ⟨(((h.2 h2).2 h4).2 h10).1, fun v8 e14 => mo_X0_lowestAbove_46 ih8 hK ((((h.2 h2).2 h4).2 h10).2 v8 e14)⟩⟩⟩⟩
theorem mo_X0_lowestAbove {σ : sm_S} {p1 : Int32} {p2 : Int32} {K K' : Int32 → sm_S → Prop} (hK : ∀ r s, K r s → K' r s) (h : mp_X0_lowestAbove σ p1 p2 K) : mp_X0_lowestAbove σ p1 p2 K' := by
  unfold mp_X0_lowestAbove at h ⊢
  exact h.elim (fun n8 h1 => ⟨n8, mo_X0_lowestAbove_8 hK h1⟩)
theorem mo_X1_rowLength {σ : sm_S} {p1 : Int64} {K K' : Int32 → sm_S → Prop} (hK : ∀ r s, K r s → K' r s) (h : mp_X1_rowLength σ p1 K) : mp_X1_rowLength σ p1 K' := by
  unfold mp_X1_rowLength at h ⊢
  exact hK _ _ h
theorem mo_X1_rowItem {σ : sm_S} {p1 : Int64} {K K' : Int32 → sm_S → Prop} (hK : ∀ r s, K r s → K' r s) (h : mp_X1_rowItem σ p1 K) : mp_X1_rowItem σ p1 K' := by
  unfold mp_X1_rowItem at h ⊢
  exact hK _ _ h
theorem mo_X1_span_25 {K K' : Int32 → sm_S → Prop} (hK : ∀ r s, K r s → K' r s) {σ : sm_S} {y0 : Int32} (h : mp_X1_span_25 K σ y0) : mp_X1_span_25 K' σ y0 := by
  unfold mp_X1_span_25 at h ⊢
  exact hK _ _ h
theorem mo_X1_span {σ : sm_S} {p1 : Int32} {K K' : Int32 → sm_S → Prop} (hK : ∀ r s, K r s → K' r s) (h : mp_X1_span σ p1 K) : mp_X1_span σ p1 K' := by
  unfold mp_X1_span at h ⊢
  exact ⟨fun h1 => ⟨fun h2 => mo_X1_span_25 hK ((h.1 h1).1 h2), fun h3 => mo_X1_span_25 hK ((h.1 h1).2 h3)⟩, fun h4 => mo_X1_span_25 hK (h.2 h4)⟩
theorem mo_X1_cell {σ : sm_S} {p1 : Int32} {p2 : Int32} {K K' : Int64 → sm_S → Prop} (hK : ∀ r s, K r s → K' r s) (h : mp_X1_cell σ p1 p2 K) : mp_X1_cell σ p1 p2 K' := by
  unfold mp_X1_cell at h ⊢
  exact hK _ _ h
theorem mo_X1_kind {σ : sm_S} {p1 : Int64} {K K' : Int32 → sm_S → Prop} (hK : ∀ r s, K r s → K' r s) (h : mp_X1_kind σ p1 K) : mp_X1_kind σ p1 K' := by
  unfold mp_X1_kind at h ⊢
  exact hK _ _ h
theorem mo_X10_roomFor {σ : sm_S} {p1 : Int32} {p2 : Int32} {K K' : Int32 → sm_S → Prop} (hK : ∀ r s, K r s → K' r s) (h : mp_X10_roomFor σ p1 p2 K) : mp_X10_roomFor σ p1 p2 K' := by
  unfold mp_X10_roomFor at h ⊢
  exact hK _ _ h
theorem mo_X1_useHalf {σ : sm_S} {p1 : Int32} {K K' : sm_S → Prop} (hK : ∀ s, K s → K' s) (h : mp_X1_useHalf σ p1 K) : mp_X1_useHalf σ p1 K' := by
  unfold mp_X1_useHalf at h ⊢
  exact fun σ1 e2 => fun σ2 e4 => fun σ3 e6 => fun σ4 e8 => fun σ5 e10 => hK _ (((((h σ1 e2) σ2 e4) σ3 e6) σ4 e8) σ5 e10)
theorem mo_X1_moved {σ : sm_S}  {K K' : Int32 → sm_S → Prop} (hK : ∀ r s, K r s → K' r s) (h : mp_X1_moved σ  K) : mp_X1_moved σ  K' := by
  unfold mp_X1_moved at h ⊢
  exact hK _ _ h
theorem mo_X1_isDone_32 {K K' : Int32 → sm_S → Prop} (hK : ∀ r s, K r s → K' r s) {σ : sm_S} {y0 : Int32} (h : mp_X1_isDone_32 K σ y0) : mp_X1_isDone_32 K' σ y0 := by
  unfold mp_X1_isDone_32 at h ⊢
  exact ⟨h.1, hK _ _ h.2⟩
theorem mo_X1_isDone_31 {K K' : Int32 → sm_S → Prop} (hK : ∀ r s, K r s → K' r s) {σ : sm_S} (h : mp_X1_isDone_31 K σ) : mp_X1_isDone_31 K' σ := by
  unfold mp_X1_isDone_31 at h ⊢
  exact mo_X1_isDone_32 hK h
theorem mo_X1_isDone {σ : sm_S}  {K K' : Int32 → sm_S → Prop} (hK : ∀ r s, K r s → K' r s) (h : mp_X1_isDone σ  K) : mp_X1_isDone σ  K' := by
  unfold mp_X1_isDone at h ⊢
  exact ⟨fun h1 => mo_X1_isDone_31 hK (h.1 h1), fun h2 => mo_X1_moved (fun r4 σ3 h3 => ⟨fun h4 => mo_X1_isDone_31 hK (h3.1 h4), fun h5 => mo_X1_isDone_32 hK (h3.2 h5)⟩) (h.2 h2)⟩
theorem mo_X1_beginStep {σ : sm_S}  {K K' : sm_S → Prop} (hK : ∀ s, K s → K' s) (h : mp_X1_beginStep σ  K) : mp_X1_beginStep σ  K' := by
  unfold mp_X1_beginStep at h ⊢
  exact fun σ1 e2 => hK _ (h σ1 e2)
theorem mo_X1_endStep_32 {K K' : sm_S → Prop} (hK : ∀ s, K s → K' s) {σ : sm_S} {y1 : Int32} (h : mp_X1_endStep_32 K σ y1) : mp_X1_endStep_32 K' σ y1 := by
  unfold mp_X1_endStep_32 at h ⊢
  exact ⟨h.1, fun σ2 e4 => hK _ (h.2 σ2 e4)⟩
theorem mo_X1_endStep_31 {K K' : sm_S → Prop} (hK : ∀ s, K s → K' s) {σ : sm_S} (h : mp_X1_endStep_31 K σ) : mp_X1_endStep_31 K' σ := by
  unfold mp_X1_endStep_31 at h ⊢
  exact mo_X1_endStep_32 hK h
theorem mo_X1_endStep {σ : sm_S}  {K K' : sm_S → Prop} (hK : ∀ s, K s → K' s) (h : mp_X1_endStep σ  K) : mp_X1_endStep σ  K' := by
  unfold mp_X1_endStep at h ⊢
  exact ⟨fun h1 => mo_X1_endStep_31 hK (h.1 h1), fun h2 => ⟨fun h3 => mo_X1_endStep_31 hK ((h.2 h2).1 h3), fun h4 => mo_X1_endStep_32 hK ((h.2 h2).2 h4)⟩⟩
theorem mo_X1_peek_23 {K K' : Int64 → sm_S → Prop} (hK : ∀ r s, K r s → K' r s) {σ : sm_S} {y0 : Int64} (h : mp_X1_peek_23 K σ y0) : mp_X1_peek_23 K' σ y0 := by
  unfold mp_X1_peek_23 at h ⊢
  exact hK _ _ h
theorem mo_X1_peek_22 {K K' : Int64 → sm_S → Prop} (hK : ∀ r s, K r s → K' r s) {σ : sm_S} (h : mp_X1_peek_22 K σ) : mp_X1_peek_22 K' σ := by
  unfold mp_X1_peek_22 at h ⊢
  exact mo_X1_peek_23 hK h
theorem mo_X1_peek {σ : sm_S} {p1 : Int32} {K K' : Int64 → sm_S → Prop} (hK : ∀ r s, K r s → K' r s) (h : mp_X1_peek σ p1 K) : mp_X1_peek σ p1 K' := by
  unfold mp_X1_peek at h ⊢
  exact ⟨fun h1 => mo_X1_peek_22 hK (h.1 h1), fun h2 => ⟨fun h3 => mo_X1_peek_22 hK ((h.2 h2).1 h3), fun h4 => ⟨((h.2 h2).2 h4).1, mo_X1_peek_23 hK ((h.2 h2).2 h4).2⟩⟩⟩
theorem mo_X1_look_33 {K K' : Int64 → sm_S → Prop} (hK : ∀ r s, K r s → K' r s) {σ : sm_S} {y0 : Int64} (h : mp_X1_look_33 K σ y0) : mp_X1_look_33 K' σ y0 := by
  unfold mp_X1_look_33 at h ⊢
  exact hK _ _ h
theorem mo_X1_look_32 {K K' : Int64 → sm_S → Prop} (hK : ∀ r s, K r s → K' r s) {σ : sm_S} (h : mp_X1_look_32 K σ) : mp_X1_look_32 K' σ := by
  unfold mp_X1_look_32 at h ⊢
  exact mo_X1_look_33 hK h
theorem mo_X1_look {σ : sm_S} {p1 : Int32} {K K' : Int64 → sm_S → Prop} (hK : ∀ r s, K r s → K' r s) (h : mp_X1_look σ p1 K) : mp_X1_look σ p1 K' := by
  unfold mp_X1_look at h ⊢
  exact fun σ1 e2 => ⟨fun h3 => mo_X1_look_32 hK ((h σ1 e2).1 h3), fun h4 => ⟨fun h5 => mo_X1_look_32 hK (((h σ1 e2).2 h4).1 h5), fun h6 => ⟨(((h σ1 e2).2 h4).2 h6).1, mo_X1_look_33 hK (((h σ1 e2).2 h4).2 h6).2⟩⟩⟩
theorem mo_X1_put_30 {K K' : sm_S → Prop} (hK : ∀ s, K s → K' s) {σ : sm_S} (h : mp_X1_put_30 K σ) : mp_X1_put_30 K' σ := by
  unfold mp_X1_put_30 at h ⊢
  exact hK _ h
theorem mo_X1_put {σ : sm_S} {p1 : Int32} {p2 : Int64} {K K' : sm_S → Prop} (hK : ∀ s, K s → K' s) (h : mp_X1_put σ p1 p2 K) : mp_X1_put σ p1 p2 K' := by
  unfold mp_X1_put at h ⊢
  exact fun σ1 e2 => ⟨fun h3 => mo_X1_put_30 hK ((h σ1 e2).1 h3), fun h4 => ⟨fun h5 => mo_X1_put_30 hK (((h σ1 e2).2 h4).1 h5), fun h6 => ⟨(((h σ1 e2).2 h4).2 h6).1, fun σ5 e10 => mo_X1_put_30 hK ((((h σ1 e2).2 h4).2 h6).2 σ5 e10)⟩⟩⟩
theorem mo_X1_leadsBack_42 {K K' : Int32 → sm_S → Prop} (hK : ∀ r s, K r s → K' r s) {σ : sm_S} {y0 : Int32} (h : mp_X1_leadsBack_42 K σ y0) : mp_X1_leadsBack_42 K' σ y0 := by
  unfold mp_X1_leadsBack_42 at h ⊢
  exact ⟨h.1, hK _ _ h.2⟩
theorem mo_X1_leadsBack_41 {K K' : Int32 → sm_S → Prop} (hK : ∀ r s, K r s → K' r s) {σ : sm_S} (h : mp_X1_leadsBack_41 K σ) : mp_X1_leadsBack_41 K' σ := by
  unfold mp_X1_leadsBack_41 at h ⊢
  exact mo_X1_leadsBack_42 hK h
theorem mo_X1_leadsBack_37 {K K' : Int32 → sm_S → Prop} (hK : ∀ r s, K r s → K' r s) {σ : sm_S} (h : mp_X1_leadsBack_37 K σ) : mp_X1_leadsBack_37 K' σ := by
  unfold mp_X1_leadsBack_37 at h ⊢
  exact mo_X1_leadsBack_42 hK h
theorem mo_X1_leadsBack {σ : sm_S} {p1 : Int64} {K K' : Int32 → sm_S → Prop} (hK : ∀ r s, K r s → K' r s) (h : mp_X1_leadsBack σ p1 K) : mp_X1_leadsBack σ p1 K' := by
  unfold mp_X1_leadsBack at h ⊢
  exact ⟨fun h1 => mo_X1_leadsBack_41 hK (h.1 h1), fun h2 => ⟨fun h3 => mo_X1_leadsBack_41 hK ((h.2 h2).1 h3), fun h4 => ⟨fun h5 => mo_X1_leadsBack_37 hK (((h.2 h2).2 h4).1 h5), fun h6 => ⟨fun h7 => mo_X1_leadsBack_41 hK ((((h.2 h2).2 h4).2 h6).1 h7), fun h8 => mo_X1_leadsBack_37 hK ((((h.2 h2).2 h4).2 h6).2 h8)⟩⟩⟩⟩
theorem mo_X1_move_181 {L145 L145' : sm_S → Int32 → Int32 → Int32 → Int32 → Int32 → Prop} (hL145 : ∀ z0 z1 z2 z3 z4 z5, L145 z0 z1 z2 z3 z4 z5 → L145' z0 z1 z2 z3 z4 z5) {K K' : Int32 → sm_S → Prop} (hK : ∀ r s, K r s → K' r s) {σ : sm_S} {x1 : Int32} {x4 : Int32} {x5 : Int32} {x6 : Int32} {x7 : Int32} {y1 : Int32} {y2 : Int64} (h : mp_X1_move_181 L145 K σ x1 x4 x5 x6 x7 y1 y2) : mp_X1_move_181 L145' K' σ x1 x4 x5 x6 x7 y1 y2 := by
  unfold mp_X1_move_181 at h ⊢
  exact ⟨h.1, fun σ2 e4 => fun v3 e6 => hL145 _ _ _ _ _ _ ((h.2 σ2 e4) v3 e6)⟩
theorem mo_X1_move_145 {K K' : Int32 → sm_S → Prop} (hK : ∀ r s, K r s → K' r s) {n145 : Nat} {σ : sm_S} {x1 : Int32} {x4 : Int32} {x5 : Int32} {x6 : Int32} {x7 : Int32} (h : mp_X1_move_145 K n145 σ x1 x4 x5 x6 x7) : mp_X1_move_145 K' n145 σ x1 x4 x5 x6 x7 := by
  suffices g : ∀ (σ : sm_S) (x1 : Int32) (x4 : Int32) (x5 : Int32) (x6 : Int32) (x7 : Int32), mp_X1_move_145 K n145 σ x1 x4 x5 x6 x7 → mp_X1_move_145 K' n145 σ x1 x4 x5 x6 x7 from g _ _ _ _ _ _ h
  clear h
  induction n145 with
  | zero => exact fun _ _ _ _ _ _ h => h.elim
  | succ n145 ih145 =>
    intro σ x1 x4 x5 x6 x7 h
    unfold mp_X1_move_145 at h ⊢
    exact ⟨fun h1 => ⟨(h.1 h1).1, fun σ6 e5 => fun σ7 e7 => fun σ8 e9 => hK _ _ ((((h.1 h1).2 σ6 e5) σ7 e7) σ8 e9)⟩, fun h10 => ⟨fun h11 => mo_X1_move_181 ih145 hK ((h.2 h10).1 h11), fun h12 => ⟨((h.2 h10).2 h12).1, mo_X1_move_181 ih145 hK ((h.2 h10).2 h12).2⟩⟩⟩
theorem mo_X1_move_140 {K K' : Int32 → sm_S → Prop} (hK : ∀ r s, K r s → K' r s) {σ : sm_S} {x1 : Int32} {x4 : Int32} {x5 : Int32} {y0 : Int32} (h : mp_X1_move_140 K σ x1 x4 x5 y0) : mp_X1_move_140 K' σ x1 x4 x5 y0 := by
  unfold mp_X1_move_140 at h ⊢
  exact h.elim (fun n145 h1 => ⟨n145, mo_X1_move_145 hK h1⟩)
theorem mo_X1_move_107 {K K' : Int32 → sm_S → Prop} (hK : ∀ r s, K r s → K' r s) {σ : sm_S} (h : mp_X1_move_107 K σ) : mp_X1_move_107 K' σ := by
  unfold mp_X1_move_107 at h ⊢
  exact hK _ _ h
theorem mo_X1_move_74 {K K' : Int32 → sm_S → Prop} (hK : ∀ r s, K r s → K' r s) {σ : sm_S} {x1 : Int32} {x2 : Int32} {x3 : Int32} {y0 : Int32} (h : mp_X1_move_74 K σ x1 x2 x3 y0) : mp_X1_move_74 K' σ x1 x2 x3 y0 := by
  unfold mp_X1_move_74 at h ⊢
  exact fun v11 e2 => ⟨fun h3 => mo_X1_move_107 hK ((h v11 e2).1 h3), fun h4 => ⟨fun h5 => ⟨fun h6 => mo_X1_move_140 hK ((((h v11 e2).2 h4).1 h5).1 h6), fun h7 => ⟨((((h v11 e2).2 h4).1 h5).2 h7).1, ⟨((((h v11 e2).2 h4).1 h5).2 h7).2.1, mo_X1_move_140 hK ((((h v11 e2).2 h4).1 h5).2 h7).2.2⟩⟩⟩, fun h12 => mo_X1_move_107 hK (((h v11 e2).2 h4).2 h12)⟩⟩
theorem mo_X1_move_14 {K K' : Int32 → sm_S → Prop} (hK : ∀ r s, K r s → K' r s) {σ : sm_S} (h : mp_X1_move_14 K σ) : mp_X1_move_14 K' σ := by
  unfold mp_X1_move_14 at h ⊢
  exact hK _ _ h
theorem mo_X1_move {σ : sm_S} {p1 : Int32} {K K' : Int32 → sm_S → Prop} (hK : ∀ r s, K r s → K' r s) (h : mp_X1_move σ p1 K) : mp_X1_move σ p1 K' := by
  unfold mp_X1_move at h ⊢
  exact ⟨fun h1 => mo_X1_move_14 hK (h.1 h1), fun h2 => ⟨fun h3 => fun σ19 e5 => ⟨(((h.2 h2).1 h3) σ19 e5).1, fun v21 e9 => ⟨((((h.2 h2).1 h3) σ19 e5).2 v21 e9).1, fun v23 e13 => ⟨fun h14 => ⟨fun h15 => mo_X1_move_74 hK (((((((h.2 h2).1 h3) σ19 e5).2 v21 e9).2 v23 e13).1 h14).1 h15), fun h16 => ⟨(((((((h.2 h2).1 h3) σ19 e5).2 v21 e9).2 v23 e13).1 h14).2 h16).1, mo_X1_move_74 hK (((((((h.2 h2).1 h3) σ19 e5).2 v21 e9).2 v23 e13).1 h14).2 h16).2⟩⟩, fun h19 => hK _ _ ((((((h.2 h2).1 h3) σ19 e5).2 v21 e9).2 v23 e13).2 h19)⟩⟩⟩, fun h20 => mo_X1_move_14 hK ((h.2 h2).2 h20)⟩⟩
theorem mo_X1_read_31 {K K' : Int64 → sm_S → Prop} (hK : ∀ r s, K r s → K' r s) {σ : sm_S} {x2 : Int64} (h : mp_X1_read_31 K σ x2) : mp_X1_read_31 K' σ x2 := by
  unfold mp_X1_read_31 at h ⊢
  exact hK _ _ h
theorem mo_X1_read {σ : sm_S} {p1 : Int32} {K K' : Int64 → sm_S → Prop} (hK : ∀ r s, K r s → K' r s) (h : mp_X1_read σ p1 K) : mp_X1_read σ p1 K' := by
  unfold mp_X1_read at h ⊢
  exact mo_X1_look (fun r2 σ1 h1 => mo_X1_leadsBack (fun r4 σ3 h2 => ⟨fun h3 => mo_X1_read_31 hK (h2.1 h3), fun h4 => mo_X1_move (fun r7 σ6 h5 => mo_X1_cell (fun r9 σ8 h6 => mo_X1_put (fun σ10 h7 => mo_X1_read_31 hK h7) h6) h5) (h2.2 h4)⟩) h1) h
theorem mo_X1_change {σ : sm_S} {p1 : Int32} {p2 : Int64} {K K' : sm_S → Prop} (hK : ∀ s, K s → K' s) (h : mp_X1_change σ p1 p2 K) : mp_X1_change σ p1 p2 K' := by
  unfold mp_X1_change at h ⊢
  exact mo_X1_read (fun r2 σ1 h1 => mo_X1_put (fun σ3 h2 => hK _ h2) h1) h
theorem mo_X1_settle_33 {K K' : sm_S → Prop} (hK : ∀ s, K s → K' s) {σ : sm_S} (h : mp_X1_settle_33 K σ) : mp_X1_settle_33 K' σ := by
  unfold mp_X1_settle_33 at h ⊢
  exact hK _ h
theorem mo_X1_settle_2 {K K' : sm_S → Prop} (hK : ∀ s, K s → K' s) {n2 : Nat} {σ : sm_S} {x1 : Int32} {x2 : Int32} (h : mp_X1_settle_2 K n2 σ x1 x2) : mp_X1_settle_2 K' n2 σ x1 x2 := by
  suffices g : ∀ (σ : sm_S) (x1 : Int32) (x2 : Int32), mp_X1_settle_2 K n2 σ x1 x2 → mp_X1_settle_2 K' n2 σ x1 x2 from g _ _ _ h
  clear h
  induction n2 with
  | zero => exact fun _ _ _ h => h.elim
  | succ n2 ih2 =>
    intro σ x1 x2 h
    unfold mp_X1_settle_2 at h ⊢
    exact ⟨fun h1 => mo_X1_settle_33 hK (h.1 h1), fun h2 => ⟨fun h3 => mo_X1_settle_33 hK ((h.2 h2).1 h3), fun h4 => mo_X1_read (fun r4 σ3 h5 => fun v5 e7 => ih2 _ _ _ (h5 v5 e7)) ((h.2 h2).2 h4)⟩⟩
theorem mo_X1_settle {σ : sm_S} {p1 : Int32} {K K' : sm_S → Prop} (hK : ∀ s, K s → K' s) (h : mp_X1_settle σ p1 K) : mp_X1_settle σ p1 K' := by
  unfold mp_X1_settle at h ⊢
  exact h.elim (fun n2 h1 => ⟨n2, mo_X1_settle_2 hK h1⟩)
theorem mo_X1_moveOn_73 {K K' : sm_S → Prop} (hK : ∀ s, K s → K' s) {σ : sm_S} (h : mp_X1_moveOn_73 K σ) : mp_X1_moveOn_73 K' σ := by
  unfold mp_X1_moveOn_73 at h ⊢
  exact hK _ h
theorem mo_X1_moveOn_14 {K K' : sm_S → Prop} (hK : ∀ s, K s → K' s) {n14 : Nat} {σ : sm_S} {x1 : Int32} {x2 : Int32} (h : mp_X1_moveOn_14 K n14 σ x1 x2) : mp_X1_moveOn_14 K' n14 σ x1 x2 := by
  suffices g : ∀ (σ : sm_S) (x1 : Int32) (x2 : Int32), mp_X1_moveOn_14 K n14 σ x1 x2 → mp_X1_moveOn_14 K' n14 σ x1 x2 from g _ _ _ h
  clear h
  induction n14 with
  | zero => exact fun _ _ _ h => h.elim
  | succ n14 ih14 =>
    intro σ x1 x2 h
    unfold mp_X1_moveOn_14 at h ⊢
    exact ⟨fun h1 => mo_X1_moveOn_73 hK (h.1 h1), fun h2 => ⟨fun h3 => mo_X1_moveOn_73 hK ((h.2 h2).1 h3), fun h4 => mo_X1_moved (fun r4 σ3 h5 => ⟨fun h6 => mo_X1_moveOn_73 hK (h5.1 h6), fun h7 => mo_X1_read (fun r7 σ6 h8 => fun σ8 e10 => fun v9 e12 => ih14 _ _ _ ((h8 σ8 e10) v9 e12)) (h5.2 h7)⟩) ((h.2 h2).2 h4)⟩⟩
theorem mo_X1_moveOn {σ : sm_S}  {K K' : sm_S → Prop} (hK : ∀ s, K s → K' s) (h : mp_X1_moveOn σ  K) : mp_X1_moveOn σ  K' := by
  unfold mp_X1_moveOn at h ⊢
  exact fun v10 e2 => (h v10 e2).elim (fun n14 h3 => ⟨n14, mo_X1_moveOn_14 hK h3⟩)
theorem mo_X1_make_90 {K K' : Int32 → sm_S → Prop} (hK : ∀ r s, K r s → K' r s) {σ : sm_S} {x1 : Int32} (h : mp_X1_make_90 K σ x1) : mp_X1_make_90 K' σ x1 := by
  unfold mp_X1_make_90 at h ⊢
  exact fun σ1 e2 => mo_X1_moveOn (fun σ2 h3 => fun σ3 e5 => hK _ _ (h3 σ3 e5)) (h σ1 e2)
theorem mo_X1_make_57 {K K' : Int32 → sm_S → Prop} (hK : ∀ r s, K r s → K' r s) {σ : sm_S} {x1 : Int32} {y1 : Int32} (h : mp_X1_make_57 K σ x1 y1) : mp_X1_make_57 K' σ x1 y1 := by
  unfold mp_X1_make_57 at h ⊢
  exact mo_X1_useHalf (fun σ4 h1 => fun σ5 e3 => mo_X1_move (fun r7 σ6 h4 => fun σ8 e6 => mo_X1_settle (fun σ9 h7 => mo_X1_make_90 hK h7) (h4 σ8 e6)) (h1 σ5 e3)) h
theorem mo_X1_make {σ : sm_S} {p1 : Int32} {K K' : Int32 → sm_S → Prop} (hK : ∀ r s, K r s → K' r s) (h : mp_X1_make σ p1 K) : mp_X1_make σ p1 K' := by
  unfold mp_X1_make at h ⊢
  exact mo_X1_isDone (fun r11 σ10 h1 => ⟨fun h2 => mo_X1_make_90 hK (h1.1 h2), fun h3 => mo_X1_moved (fun r14 σ13 h4 => ⟨fun h5 => mo_X1_moved (fun r17 σ16 h6 => ⟨fun h7 => mo_X1_make_90 hK (h6.1 h7), fun h8 => ⟨fun h9 => mo_X1_make_57 hK ((h6.2 h8).1 h9), fun h10 => mo_X1_make_57 hK ((h6.2 h8).2 h10)⟩⟩) (h4.1 h5), fun h11 => hK _ _ (h4.2 h11)⟩) (h1.2 h3)⟩) h
theorem mo_X2_at_26 {K K' : Int32 → sm_S → Prop} (hK : ∀ r s, K r s → K' r s) {σ : sm_S} {y0 : Int32} (h : mp_X2_at_26 K σ y0) : mp_X2_at_26 K' σ y0 := by
  unfold mp_X2_at_26 at h ⊢
  exact hK _ _ h
theorem mo_X2_at_25 {K K' : Int32 → sm_S → Prop} (hK : ∀ r s, K r s → K' r s) {σ : sm_S} (h : mp_X2_at_25 K σ) : mp_X2_at_25 K' σ := by
  unfold mp_X2_at_25 at h ⊢
  exact mo_X2_at_26 hK h
theorem mo_X2_at {σ : sm_S} {p1 : Int32} {K K' : Int32 → sm_S → Prop} (hK : ∀ r s, K r s → K' r s) (h : mp_X2_at σ p1 K) : mp_X2_at σ p1 K' := by
  unfold mp_X2_at at h ⊢
  exact ⟨fun h1 => mo_X2_at_25 hK (h.1 h1), fun h2 => ⟨fun h3 => mo_X2_at_25 hK ((h.2 h2).1 h3), fun h4 => ⟨((h.2 h2).2 h4).1, mo_X2_at_26 hK ((h.2 h2).2 h4).2⟩⟩⟩
theorem mo_X2_pair_44 {K K' : Int32 → sm_S → Prop} (hK : ∀ r s, K r s → K' r s) {σ : sm_S} {y0 : Int32} (h : mp_X2_pair_44 K σ y0) : mp_X2_pair_44 K' σ y0 := by
  unfold mp_X2_pair_44 at h ⊢
  exact hK _ _ h
theorem mo_X2_pair_43 {K K' : Int32 → sm_S → Prop} (hK : ∀ r s, K r s → K' r s) {σ : sm_S} (h : mp_X2_pair_43 K σ) : mp_X2_pair_43 K' σ := by
  unfold mp_X2_pair_43 at h ⊢
  exact mo_X2_pair_44 hK h
theorem mo_X2_pair {σ : sm_S} {p1 : Int32} {K K' : Int32 → sm_S → Prop} (hK : ∀ r s, K r s → K' r s) (h : mp_X2_pair σ p1 K) : mp_X2_pair σ p1 K' := by
  unfold mp_X2_pair at h ⊢
  exact ⟨fun h1 => mo_X2_pair_43 hK (h.1 h1), fun h2 => ⟨fun h3 => mo_X2_pair_43 hK ((h.2 h2).1 h3), fun h4 => ⟨((h.2 h2).2 h4).1, ⟨((h.2 h2).2 h4).2.1, mo_X2_pair_44 hK ((h.2 h2).2 h4).2.2⟩⟩⟩⟩
theorem mo_X2_four {σ : sm_S} {p1 : Int32} {K K' : Int32 → sm_S → Prop} (hK : ∀ r s, K r s → K' r s) (h : mp_X2_four σ p1 K) : mp_X2_four σ p1 K' := by
  unfold mp_X2_four at h ⊢
  exact mo_X2_pair (fun r2 σ1 h1 => mo_X2_pair (fun r4 σ3 h2 => hK _ _ h2) h1) h
theorem mo_X2_beginsAt_41 {K K' : Int32 → sm_S → Prop} (hK : ∀ r s, K r s → K' r s) {σ : sm_S} {y0 : Int32} (h : mp_X2_beginsAt_41 K σ y0) : mp_X2_beginsAt_41 K' σ y0 := by
  unfold mp_X2_beginsAt_41 at h ⊢
  exact ⟨h.1, hK _ _ h.2⟩
theorem mo_X2_beginsAt_40 {K K' : Int32 → sm_S → Prop} (hK : ∀ r s, K r s → K' r s) {σ : sm_S} (h : mp_X2_beginsAt_40 K σ) : mp_X2_beginsAt_40 K' σ := by
  unfold mp_X2_beginsAt_40 at h ⊢
  exact mo_X2_beginsAt_41 hK h
theorem mo_X2_beginsAt {σ : sm_S} {p1 : Int32} {p2 : Int32} {K K' : Int32 → sm_S → Prop} (hK : ∀ r s, K r s → K' r s) (h : mp_X2_beginsAt σ p1 p2 K) : mp_X2_beginsAt σ p1 p2 K' := by
  unfold mp_X2_beginsAt at h ⊢
  exact ⟨fun h1 => mo_X2_beginsAt_40 hK (h.1 h1), fun h2 => ⟨(h.2 h2).1, ⟨fun h5 => mo_X2_beginsAt_40 hK ((h.2 h2).2.1 h5), fun h6 => ⟨((h.2 h2).2.2 h6).1, ⟨((h.2 h2).2.2 h6).2.1, ⟨fun h11 => mo_X2_beginsAt_40 hK (((h.2 h2).2.2 h6).2.2.1 h11), fun h12 => mo_X2_beginsAt_41 hK (((h.2 h2).2.2 h6).2.2.2 h12)⟩⟩⟩⟩⟩⟩
theorem mo_X2_jumpPlace_41 {K K' : Int32 → sm_S → Prop} (hK : ∀ r s, K r s → K' r s) {σ : sm_S} {y0 : Int32} (h : mp_X2_jumpPlace_41 K σ y0) : mp_X2_jumpPlace_41 K' σ y0 := by
  unfold mp_X2_jumpPlace_41 at h ⊢
  exact hK _ _ h
theorem mo_X2_jumpPlace_32 {K K' : Int32 → sm_S → Prop} (hK : ∀ r s, K r s → K' r s) {σ : sm_S} {x1 : Int32} (h : mp_X2_jumpPlace_32 K σ x1) : mp_X2_jumpPlace_32 K' σ x1 := by
  unfold mp_X2_jumpPlace_32 at h ⊢
  exact mo_X2_jumpPlace_41 hK h
theorem mo_X2_jumpPlace_18 {K K' : Int32 → sm_S → Prop} (hK : ∀ r s, K r s → K' r s) {σ : sm_S} (h : mp_X2_jumpPlace_18 K σ) : mp_X2_jumpPlace_18 K' σ := by
  unfold mp_X2_jumpPlace_18 at h ⊢
  exact hK _ _ h
theorem mo_X2_jumpPlace {σ : sm_S} {p1 : Int32} {K K' : Int32 → sm_S → Prop} (hK : ∀ r s, K r s → K' r s) (h : mp_X2_jumpPlace σ p1 K) : mp_X2_jumpPlace σ p1 K' := by
  unfold mp_X2_jumpPlace at h ⊢
  exact mo_X2_at (fun r2 σ1 h1 => ⟨fun h2 => mo_X2_jumpPlace_18 hK (h1.1 h2), fun h3 => ⟨fun h4 => ⟨fun h5 => mo_X2_jumpPlace_32 hK (((h1.2 h3).1 h4).1 h5), fun h6 => ⟨fun h7 => mo_X2_jumpPlace_41 hK ((((h1.2 h3).1 h4).2 h6).1 h7), fun h8 => mo_X2_jumpPlace_32 hK ((((h1.2 h3).1 h4).2 h6).2 h8)⟩⟩, fun h9 => mo_X2_jumpPlace_18 hK ((h1.2 h3).2 h9)⟩⟩) h
theorem mo_X4_sameButFirst_34 {K K' : Int32 → sm_S → Prop} (hK : ∀ r s, K r s → K' r s) {n34 : Nat} {σ : sm_S} {x1 : Int32} {x2 : Int32} {x3 : Int32} (h : mp_X4_sameButFirst_34 K n34 σ x1 x2 x3) : mp_X4_sameButFirst_34 K' n34 σ x1 x2 x3 := by
  suffices g : ∀ (σ : sm_S) (x1 : Int32) (x2 : Int32) (x3 : Int32), mp_X4_sameButFirst_34 K n34 σ x1 x2 x3 → mp_X4_sameButFirst_34 K' n34 σ x1 x2 x3 from g _ _ _ _ h
  clear h
  induction n34 with
  | zero => exact fun _ _ _ _ h => h.elim
  | succ n34 ih34 =>
    intro σ x1 x2 x3 h
    unfold mp_X4_sameButFirst_34 at h ⊢
    exact ⟨h.1, ⟨fun h3 => hK _ _ (h.2.1 h3), fun h4 => ⟨(h.2.2 h4).1, ⟨(h.2.2 h4).2.1, ⟨fun h9 => fun v6 e11 => ih34 _ _ _ _ (((h.2.2 h4).2.2.1 h9) v6 e11), fun h12 => hK _ _ ((h.2.2 h4).2.2.2 h12)⟩⟩⟩⟩⟩
theorem mo_X4_sameButFirst_30 {K K' : Int32 → sm_S → Prop} (hK : ∀ r s, K r s → K' r s) {σ : sm_S} (h : mp_X4_sameButFirst_30 K σ) : mp_X4_sameButFirst_30 K' σ := by
  unfold mp_X4_sameButFirst_30 at h ⊢
  exact hK _ _ h
theorem mo_X4_sameButFirst {σ : sm_S} {p1 : Int32} {p2 : Int32} {K K' : Int32 → sm_S → Prop} (hK : ∀ r s, K r s → K' r s) (h : mp_X4_sameButFirst σ p1 p2 K) : mp_X4_sameButFirst σ p1 p2 K' := by
  unfold mp_X4_sameButFirst at h ⊢
  exact ⟨h.1, ⟨h.2.1, ⟨fun h5 => mo_X4_sameButFirst_30 hK (h.2.2.1 h5), fun h6 => ⟨(h.2.2.2 h6).1, ⟨(h.2.2.2 h6).2.1, ⟨fun h11 => ((h.2.2.2 h6).2.2.1 h11).elim (fun n34 h12 => ⟨n34, mo_X4_sameButFirst_34 hK h12⟩), fun h13 => mo_X4_sameButFirst_30 hK ((h.2.2.2 h6).2.2.2 h13)⟩⟩⟩⟩⟩⟩
theorem mo_X4_addParam {σ : sm_S} {p1 : Int32} {p2 : Int32} {K K' : sm_S → Prop} (hK : ∀ s, K s → K' s) (h : mp_X4_addParam σ p1 p2 K) : mp_X4_addParam σ p1 p2 K' := by
  unfold mp_X4_addParam at h ⊢
  exact ⟨h.1, ⟨h.2.1, fun σ3 e6 => ⟨(h.2.2 σ3 e6).1, ⟨(h.2.2 σ3 e6).2.1, fun σ6 e12 => hK _ ((h.2.2 σ3 e6).2.2 σ6 e12)⟩⟩⟩⟩
theorem mo_X3_inCode_123 {L30 L30' : sm_S → Int32 → Int32 → Int32 → Prop} (hL30 : ∀ z0 z1 z2 z3, L30 z0 z1 z2 z3 → L30' z0 z1 z2 z3) {K K' : Int32 → sm_S → Prop} (hK : ∀ r s, K r s → K' r s) {σ : sm_S} {x1 : Int32} {x2 : Int32} {x3 : Int32} (h : mp_X3_inCode_123 L30 K σ x1 x2 x3) : mp_X3_inCode_123 L30' K' σ x1 x2 x3 := by
  unfold mp_X3_inCode_123 at h ⊢
  exact fun v1 e2 => hL30 _ _ _ _ (h v1 e2)
theorem mo_X3_inCode_84 {L30 L30' : sm_S → Int32 → Int32 → Int32 → Prop} (hL30 : ∀ z0 z1 z2 z3, L30 z0 z1 z2 z3 → L30' z0 z1 z2 z3) {K K' : Int32 → sm_S → Prop} (hK : ∀ r s, K r s → K' r s) {σ : sm_S} {x1 : Int32} {x2 : Int32} {x3 : Int32} (h : mp_X3_inCode_84 L30 K σ x1 x2 x3) : mp_X3_inCode_84 L30' K' σ x1 x2 x3 := by
  unfold mp_X3_inCode_84 at h ⊢
  exact mo_X2_jumpPlace (fun r3 σ2 h1 => ⟨fun h2 => mo_X3_inCode_123 hL30 hK (h1.1 h2), fun h3 => mo_X2_pair (fun r6 σ5 h4 => mo_X2_beginsAt (fun r8 σ7 h5 => ⟨fun h6 => mo_X3_inCode_123 hL30 hK (h5.1 h6), fun h7 => hK _ _ (h5.2 h7)⟩) h4) (h1.2 h3)⟩) h
theorem mo_X3_inCode_30 {K K' : Int32 → sm_S → Prop} (hK : ∀ r s, K r s → K' r s) {n30 : Nat} {σ : sm_S} {x1 : Int32} {x2 : Int32} {x3 : Int32} (h : mp_X3_inCode_30 K n30 σ x1 x2 x3) : mp_X3_inCode_30 K' n30 σ x1 x2 x3 := by
  suffices g : ∀ (σ : sm_S) (x1 : Int32) (x2 : Int32) (x3 : Int32), mp_X3_inCode_30 K n30 σ x1 x2 x3 → mp_X3_inCode_30 K' n30 σ x1 x2 x3 from g _ _ _ _ h
  clear h
  induction n30 with
  | zero => exact fun _ _ _ _ h => h.elim
  | succ n30 ih30 =>
    intro σ x1 x2 x3 h
    unfold mp_X3_inCode_30 at h ⊢
    exact ⟨fun h1 => hK _ _ (h.1 h1), fun h2 => ⟨(h.2 h2).1, ⟨fun h5 => mo_X3_inCode_123 ih30 hK ((h.2 h2).2.1 h5), fun h6 => mo_X2_at (fun r14 σ13 h7 => ⟨fun h8 => mo_X3_inCode_84 ih30 hK (h7.1 h8), fun h9 => mo_X2_at (fun r17 σ16 h10 => ⟨fun h11 => mo_X3_inCode_84 ih30 hK (h10.1 h11), fun h12 => hK _ _ (h10.2 h12)⟩) (h7.2 h9)⟩) ((h.2 h2).2.2 h6)⟩⟩⟩
theorem mo_X3_inCode {σ : sm_S} {p1 : Int32} {K K' : Int32 → sm_S → Prop} (hK : ∀ r s, K r s → K' r s) (h : mp_X3_inCode σ p1 K) : mp_X3_inCode σ p1 K' := by
  unfold mp_X3_inCode at h ⊢
  exact ⟨h.1, ⟨h.2.1, fun v21 e6 => ⟨(h.2.2 v21 e6).1, fun v23 e10 => ((h.2.2 v21 e6).2 v23 e10).elim (fun n30 h11 => ⟨n30, mo_X3_inCode_30 hK h11⟩)⟩⟩⟩
theorem mo_X3_inHandlers_105 {L2 L2' : sm_S → Int32 → Int32 → Prop} (hL2 : ∀ z0 z1 z2, L2 z0 z1 z2 → L2' z0 z1 z2) {K K' : Int32 → sm_S → Prop} (hK : ∀ r s, K r s → K' r s) {σ : sm_S} {x1 : Int32} {x2 : Int32} {x3 : Int32} (h : mp_X3_inHandlers_105 L2 K σ x1 x2 x3) : mp_X3_inHandlers_105 L2' K' σ x1 x2 x3 := by
  unfold mp_X3_inHandlers_105 at h ⊢
  exact mo_X2_pair (fun r2 σ1 h1 => mo_X2_beginsAt (fun r4 σ3 h2 => ⟨fun h3 => fun v6 e5 => hL2 _ _ _ ((h2.1 h3) v6 e5), fun h6 => hK _ _ (h2.2 h6)⟩) h1) h
theorem mo_X3_inHandlers_72 {L2 L2' : sm_S → Int32 → Int32 → Prop} (hL2 : ∀ z0 z1 z2, L2 z0 z1 z2 → L2' z0 z1 z2) {K K' : Int32 → sm_S → Prop} (hK : ∀ r s, K r s → K' r s) {σ : sm_S} {x3 : Int32} (h : mp_X3_inHandlers_72 L2 K σ x3) : mp_X3_inHandlers_72 L2' K' σ x3 := by
  unfold mp_X3_inHandlers_72 at h ⊢
  exact hK _ _ h
theorem mo_X3_inHandlers_2 {K K' : Int32 → sm_S → Prop} (hK : ∀ r s, K r s → K' r s) {n2 : Nat} {σ : sm_S} {x1 : Int32} {x2 : Int32} (h : mp_X3_inHandlers_2 K n2 σ x1 x2) : mp_X3_inHandlers_2 K' n2 σ x1 x2 := by
  suffices g : ∀ (σ : sm_S) (x1 : Int32) (x2 : Int32), mp_X3_inHandlers_2 K n2 σ x1 x2 → mp_X3_inHandlers_2 K' n2 σ x1 x2 from g _ _ _ h
  clear h
  induction n2 with
  | zero => exact fun _ _ _ h => h.elim
  | succ n2 ih2 =>
    intro σ x1 x2 h
    unfold mp_X3_inHandlers_2 at h ⊢
    exact ⟨h.1, ⟨fun h3 => hK _ _ (h.2.1 h3), fun h4 => ⟨(h.2.2 h4).1, fun v10 e8 => mo_X2_pair (fun r12 σ11 h9 => mo_X2_pair (fun r14 σ13 h10 => mo_X2_beginsAt (fun r16 σ15 h11 => ⟨fun h12 => mo_X3_inHandlers_72 ih2 hK (h11.1 h12), fun h13 => ⟨fun h14 => mo_X2_beginsAt (fun r20 σ19 h15 => ⟨fun h16 => mo_X3_inHandlers_105 ih2 hK (h15.1 h16), fun h17 => ⟨(h15.2 h17).1, ⟨fun h20 => mo_X3_inHandlers_105 ih2 hK ((h15.2 h17).2.1 h20), fun h21 => hK _ _ ((h15.2 h17).2.2 h21)⟩⟩⟩) ((h11.2 h13).1 h14), fun h22 => mo_X3_inHandlers_72 ih2 hK ((h11.2 h13).2 h22)⟩⟩) h10) h9) ((h.2.2 h4).2 v10 e8)⟩⟩⟩
theorem mo_X3_inHandlers {σ : sm_S} {p1 : Int32} {K K' : Int32 → sm_S → Prop} (hK : ∀ r s, K r s → K' r s) (h : mp_X3_inHandlers σ p1 K) : mp_X3_inHandlers σ p1 K' := by
  unfold mp_X3_inHandlers at h ⊢
  exact h.elim (fun n2 h1 => ⟨n2, mo_X3_inHandlers_2 hK h1⟩)
theorem mo_X3_slotFits_103 {K K' : Int32 → sm_S → Prop} (hK : ∀ r s, K r s → K' r s) {σ : sm_S} {y0 : Int32} (h : mp_X3_slotFits_103 K σ y0) : mp_X3_slotFits_103 K' σ y0 := by
  unfold mp_X3_slotFits_103 at h ⊢
  exact ⟨h.1, hK _ _ h.2⟩
theorem mo_X3_slotFits_98 {K K' : Int32 → sm_S → Prop} (hK : ∀ r s, K r s → K' r s) {σ : sm_S} (h : mp_X3_slotFits_98 K σ) : mp_X3_slotFits_98 K' σ := by
  unfold mp_X3_slotFits_98 at h ⊢
  exact mo_X3_slotFits_103 hK h
theorem mo_X3_slotFits_77 {K K' : Int32 → sm_S → Prop} (hK : ∀ r s, K r s → K' r s) {σ : sm_S} {x3 : Int32} {y0 : Int32} (h : mp_X3_slotFits_77 K σ x3 y0) : mp_X3_slotFits_77 K' σ x3 y0 := by
  unfold mp_X3_slotFits_77 at h ⊢
  exact ⟨fun h1 => mo_X3_slotFits_98 hK (h.1 h1), fun h2 => mo_X4_sameButFirst (fun r4 σ3 h3 => ⟨fun h4 => mo_X3_slotFits_103 hK (h3.1 h4), fun h5 => mo_X3_slotFits_98 hK (h3.2 h5)⟩) (h.2 h2)⟩
theorem mo_X3_slotFits_39 {K K' : Int32 → sm_S → Prop} (hK : ∀ r s, K r s → K' r s) {σ : sm_S} (h : mp_X3_slotFits_39 K σ) : mp_X3_slotFits_39 K' σ := by
  unfold mp_X3_slotFits_39 at h ⊢
  exact hK _ _ h
theorem mo_X3_slotFits {σ : sm_S} {p1 : Int32} {p2 : Int32} {K K' : Int32 → sm_S → Prop} (hK : ∀ r s, K r s → K' r s) (h : mp_X3_slotFits σ p1 p2 K) : mp_X3_slotFits σ p1 p2 K' := by
  unfold mp_X3_slotFits at h ⊢
  exact ⟨h.1, fun v7 e4 => ⟨fun h5 => mo_X3_slotFits_39 hK ((h.2 v7 e4).1 h5), fun h6 => ⟨((h.2 v7 e4).2 h6).1, ⟨fun h9 => ⟨(((h.2 v7 e4).2 h6).2.1 h9).1, fun v12 e13 => ⟨fun h14 => ⟨(((((h.2 v7 e4).2 h6).2.1 h9).2 v12 e13).1 h14).1, mo_X3_slotFits_77 hK (((((h.2 v7 e4).2 h6).2.1 h9).2 v12 e13).1 h14).2⟩, fun h17 => mo_X3_slotFits_77 hK (((((h.2 v7 e4).2 h6).2.1 h9).2 v12 e13).2 h17)⟩⟩, fun h18 => mo_X3_slotFits_39 hK (((h.2 v7 e4).2 h6).2.2 h18)⟩⟩⟩⟩
theorem mo_X3_inSlots_63 {L2 L2' : sm_S → Int32 → Prop} {L15 L15' : sm_S → Int32 → Int32 → Prop} (hL2 : ∀ z0 z1, L2 z0 z1 → L2' z0 z1) (hL15 : ∀ z0 z1 z2, L15 z0 z1 z2 → L15' z0 z1 z2) {K K' : Int32 → sm_S → Prop} (hK : ∀ r s, K r s → K' r s) {σ : sm_S} {x1 : Int32} {x2 : Int32} (h : mp_X3_inSlots_63 L2 L15 K σ x1 x2) : mp_X3_inSlots_63 L2' L15' K' σ x1 x2 := by
  unfold mp_X3_inSlots_63 at h ⊢
  exact fun v1 e2 => hL15 _ _ _ (h v1 e2)
theorem mo_X3_inSlots_15 {L2 L2' : sm_S → Int32 → Prop} (hL2 : ∀ z0 z1, L2 z0 z1 → L2' z0 z1) {K K' : Int32 → sm_S → Prop} (hK : ∀ r s, K r s → K' r s) {n15 : Nat} {σ : sm_S} {x1 : Int32} {x2 : Int32} (h : mp_X3_inSlots_15 L2 K n15 σ x1 x2) : mp_X3_inSlots_15 L2' K' n15 σ x1 x2 := by
  suffices g : ∀ (σ : sm_S) (x1 : Int32) (x2 : Int32), mp_X3_inSlots_15 L2 K n15 σ x1 x2 → mp_X3_inSlots_15 L2' K' n15 σ x1 x2 from g _ _ _ h
  clear h
  induction n15 with
  | zero => exact fun _ _ _ h => h.elim
  | succ n15 ih15 =>
    intro σ x1 x2 h
    unfold mp_X3_inSlots_15 at h ⊢
    exact ⟨fun h1 => fun v3 e3 => hL2 _ _ ((h.1 h1) v3 e3), fun h4 => ⟨(h.2 h4).1, ⟨fun h7 => mo_X3_inSlots_63 hL2 ih15 hK ((h.2 h4).2.1 h7), fun h8 => mo_X3_slotFits (fun r7 σ6 h9 => ⟨fun h10 => mo_X3_inSlots_63 hL2 ih15 hK (h9.1 h10), fun h11 => ⟨(h9.2 h11).1, hK _ _ (h9.2 h11).2⟩⟩) ((h.2 h4).2.2 h8)⟩⟩⟩
theorem mo_X3_inSlots_2 {K K' : Int32 → sm_S → Prop} (hK : ∀ r s, K r s → K' r s) {n2 : Nat} {σ : sm_S} {x1 : Int32} (h : mp_X3_inSlots_2 K n2 σ x1) : mp_X3_inSlots_2 K' n2 σ x1 := by
  suffices g : ∀ (σ : sm_S) (x1 : Int32), mp_X3_inSlots_2 K n2 σ x1 → mp_X3_inSlots_2 K' n2 σ x1 from g _ _ h
  clear h
  induction n2 with
  | zero => exact fun _ _ h => h.elim
  | succ n2 ih2 =>
    intro σ x1 h
    unfold mp_X3_inSlots_2 at h ⊢
    exact ⟨fun h1 => hK _ _ (h.1 h1), fun h2 => (h.2 h2).elim (fun n15 h3 => ⟨n15, mo_X3_inSlots_15 ih2 hK h3⟩)⟩
theorem mo_X3_inSlots {σ : sm_S}  {K K' : Int32 → sm_S → Prop} (hK : ∀ r s, K r s → K' r s) (h : mp_X3_inSlots σ  K) : mp_X3_inSlots σ  K' := by
  unfold mp_X3_inSlots at h ⊢
  exact h.elim (fun n2 h1 => ⟨n2, mo_X3_inSlots_2 hK h1⟩)
theorem mo_X3_firstWrong_46 {K K' : Int32 → sm_S → Prop} (hK : ∀ r s, K r s → K' r s) {σ : sm_S} {x1 : Int32} (h : mp_X3_firstWrong_46 K σ x1) : mp_X3_firstWrong_46 K' σ x1 := by
  unfold mp_X3_firstWrong_46 at h ⊢
  exact hK _ _ h
theorem mo_X3_firstWrong_40 {L7 L7' : sm_S → Int32 → Int32 → Prop} (hL7 : ∀ z0 z1 z2, L7 z0 z1 z2 → L7' z0 z1 z2) {K K' : Int32 → sm_S → Prop} (hK : ∀ r s, K r s → K' r s) {σ : sm_S} {x1 : Int32} {x2 : Int32} (h : mp_X3_firstWrong_40 L7 K σ x1 x2) : mp_X3_firstWrong_40 L7' K' σ x1 x2 := by
  unfold mp_X3_firstWrong_40 at h ⊢
  exact fun v1 e2 => hL7 _ _ _ (h v1 e2)
theorem mo_X3_firstWrong_7 {K K' : Int32 → sm_S → Prop} (hK : ∀ r s, K r s → K' r s) {n7 : Nat} {σ : sm_S} {x1 : Int32} {x2 : Int32} (h : mp_X3_firstWrong_7 K n7 σ x1 x2) : mp_X3_firstWrong_7 K' n7 σ x1 x2 := by
  suffices g : ∀ (σ : sm_S) (x1 : Int32) (x2 : Int32), mp_X3_firstWrong_7 K n7 σ x1 x2 → mp_X3_firstWrong_7 K' n7 σ x1 x2 from g _ _ _ h
  clear h
  induction n7 with
  | zero => exact fun _ _ _ h => h.elim
  | succ n7 ih7 =>
    intro σ x1 x2 h
    unfold mp_X3_firstWrong_7 at h ⊢
    exact ⟨fun h1 => mo_X3_firstWrong_46 hK (h.1 h1), fun h2 => ⟨fun h3 => mo_X3_firstWrong_46 hK ((h.2 h2).1 h3), fun h4 => mo_X3_inCode (fun r5 σ4 h5 => ⟨fun h6 => mo_X3_firstWrong_40 ih7 hK (h5.1 h6), fun h7 => mo_X3_inHandlers (fun r8 σ7 h8 => mo_X3_firstWrong_40 ih7 hK h8) (h5.2 h7)⟩) ((h.2 h2).2 h4)⟩⟩
theorem mo_X3_firstWrong {σ : sm_S}  {K K' : Int32 → sm_S → Prop} (hK : ∀ r s, K r s → K' r s) (h : mp_X3_firstWrong σ  K) : mp_X3_firstWrong σ  K' := by
  unfold mp_X3_firstWrong at h ⊢
  exact mo_X3_inSlots (fun r10 σ9 h1 => h1.elim (fun n7 h2 => ⟨n7, mo_X3_firstWrong_7 hK h2⟩)) h
theorem mo_X5_add {σ : sm_S} {p1 : Int32} {K K' : Int32 → sm_S → Prop} (hK : ∀ r s, K r s → K' r s) (h : mp_X5_add σ p1 K) : mp_X5_add σ p1 K' := by
  unfold mp_X5_add at h ⊢
  exact ⟨fun h1 => ⟨(h.1 h1).1, fun σ3 e5 => fun σ4 e7 => hK _ _ (((h.1 h1).2 σ3 e5) σ4 e7)⟩, fun h8 => hK _ _ (h.2 h8)⟩
theorem mo_X5_rewind {σ : sm_S}  {K K' : sm_S → Prop} (hK : ∀ s, K s → K' s) (h : mp_X5_rewind σ  K) : mp_X5_rewind σ  K' := by
  unfold mp_X5_rewind at h ⊢
  exact fun σ1 e2 => fun σ2 e4 => hK _ ((h σ1 e2) σ2 e4)
theorem mo_X5_take {σ : sm_S}  {K K' : Int32 → sm_S → Prop} (hK : ∀ r s, K r s → K' r s) (h : mp_X5_take σ  K) : mp_X5_take σ  K' := by
  unfold mp_X5_take at h ⊢
  exact ⟨fun h1 => fun σ2 e3 => ⟨((h.1 h1) σ2 e3).1, hK _ _ ((h.1 h1) σ2 e3).2⟩, fun h6 => hK _ _ (h.2 h6)⟩
theorem mo_X5_give_22 {K K' : sm_S → Prop} (hK : ∀ s, K s → K' s) {σ : sm_S} (h : mp_X5_give_22 K σ) : mp_X5_give_22 K' σ := by
  unfold mp_X5_give_22 at h ⊢
  exact fun σ1 e2 => hK _ (h σ1 e2)
theorem mo_X5_give {σ : sm_S} {p1 : Int32} {K K' : sm_S → Prop} (hK : ∀ s, K s → K' s) (h : mp_X5_give σ p1 K) : mp_X5_give σ p1 K' := by
  unfold mp_X5_give at h ⊢
  exact ⟨fun h1 => mo_X5_give_22 hK (h.1 h1), fun h2 => ⟨(h.2 h2).1, fun σ4 e6 => mo_X5_give_22 hK ((h.2 h2).2 σ4 e6)⟩⟩
theorem mo_X6_number_57 {K K' : Int32 → sm_S → Prop} (hK : ∀ r s, K r s → K' r s) {σ : sm_S} {x4 : Int32} (h : mp_X6_number_57 K σ x4) : mp_X6_number_57 K' σ x4 := by
  unfold mp_X6_number_57 at h ⊢
  exact fun σ1 e2 => hK _ _ (h σ1 e2)
theorem mo_X6_number_47 {K K' : Int32 → sm_S → Prop} (hK : ∀ r s, K r s → K' r s) {σ : sm_S} (h : mp_X6_number_47 K σ) : mp_X6_number_47 K' σ := by
  unfold mp_X6_number_47 at h ⊢
  exact fun σ2 e2 => hK _ _ (h σ2 e2)
theorem mo_X6_number_41 {K K' : Int32 → sm_S → Prop} (hK : ∀ r s, K r s → K' r s) {σ : sm_S} {x3 : Int32} {x4 : Int32} (h : mp_X6_number_41 K σ x3 x4) : mp_X6_number_41 K' σ x3 x4 := by
  unfold mp_X6_number_41 at h ⊢
  exact ⟨fun h1 => mo_X6_number_57 hK (h.1 h1), fun h2 => mo_X6_number_47 hK (h.2 h2)⟩
theorem mo_X6_number {σ : sm_S} {p1 : Int32} {p2 : Int32} {p3 : Int32} {K K' : Int32 → sm_S → Prop} (hK : ∀ r s, K r s → K' r s) (h : mp_X6_number σ p1 p2 p3 K) : mp_X6_number σ p1 p2 p3 K' := by
  unfold mp_X6_number at h ⊢
  exact ⟨fun h1 => mo_X2_at (fun r6 σ5 h2 => ⟨fun h3 => mo_X6_number_47 hK (h2.1 h3), fun h4 => ⟨fun h5 => mo_X6_number_41 hK ((h2.2 h4).1 h5), fun h6 => ⟨fun h7 => mo_X6_number_57 hK (((h2.2 h4).2 h6).1 h7), fun h8 => mo_X6_number_41 hK (((h2.2 h4).2 h6).2 h8)⟩⟩⟩) (h.1 h1), fun h9 => hK _ _ (h.2 h9)⟩
theorem mo_X6_type_50 {K K' : Int32 → sm_S → Prop} (hK : ∀ r s, K r s → K' r s) {σ : sm_S} {x1 : Int32} (h : mp_X6_type_50 K σ x1) : mp_X6_type_50 K' σ x1 := by
  unfold mp_X6_type_50 at h ⊢
  exact mo_X6_number (fun r2 σ1 h1 => hK _ _ h1) h
theorem mo_X6_type {σ : sm_S} {p1 : Int32} {K K' : Int32 → sm_S → Prop} (hK : ∀ r s, K r s → K' r s) (h : mp_X6_type σ p1 K) : mp_X6_type σ p1 K' := by
  unfold mp_X6_type at h ⊢
  exact mo_X2_at (fun r4 σ3 h1 => ⟨fun h2 => mo_X6_type_50 hK (h1.1 h2), fun h3 => ⟨fun h4 => mo_X6_type_50 hK ((h1.2 h3).1 h4), fun h5 => mo_X6_number (fun r8 σ7 h6 => hK _ _ h6) ((h1.2 h3).2 h5)⟩⟩) h
theorem mo_X6_readClass_220 {K K' : sm_S → Prop} (hK : ∀ s, K s → K' s) {σ : sm_S} (h : mp_X6_readClass_220 K σ) : mp_X6_readClass_220 K' σ := by
  unfold mp_X6_readClass_220 at h ⊢
  exact hK _ h
theorem mo_X6_readClass_139 {K K' : sm_S → Prop} (hK : ∀ s, K s → K' s) {n139 : Nat} {σ : sm_S} {x1 : Int32} {x4 : Int32} {x5 : Int32} {x6 : Int32} (h : mp_X6_readClass_139 K n139 σ x1 x4 x5 x6) : mp_X6_readClass_139 K' n139 σ x1 x4 x5 x6 := by
  suffices g : ∀ (σ : sm_S) (x1 : Int32) (x4 : Int32) (x5 : Int32) (x6 : Int32), mp_X6_readClass_139 K n139 σ x1 x4 x5 x6 → mp_X6_readClass_139 K' n139 σ x1 x4 x5 x6 from g _ _ _ _ _ h
  clear h
  induction n139 with
  | zero => exact fun _ _ _ _ _ h => h.elim
  | succ n139 ih139 =>
    intro σ x1 x4 x5 x6 h
    unfold mp_X6_readClass_139 at h ⊢
    exact ⟨fun h1 => mo_X6_readClass_220 hK (h.1 h1), fun h2 => ⟨fun h3 => mo_X6_readClass_220 hK ((h.2 h2).1 h3), fun h4 => mo_X6_number (fun r4 σ3 h5 => ⟨h5.1, fun σ6 e9 => mo_X6_number (fun r8 σ7 h10 => ⟨h10.1, fun σ10 e14 => fun v11 e16 => fun v12 e18 => ih139 _ _ _ _ _ (((h10.2 σ10 e14) v11 e16) v12 e18)⟩) (h5.2 σ6 e9)⟩) ((h.2 h2).2 h4)⟩⟩
theorem mo_X6_readClass_123 {K K' : sm_S → Prop} (hK : ∀ s, K s → K' s) {σ : sm_S} {x1 : Int32} (h : mp_X6_readClass_123 K σ x1) : mp_X6_readClass_123 K' σ x1 := by
  unfold mp_X6_readClass_123 at h ⊢
  exact mo_X6_number (fun r14 σ13 h1 => h1.elim (fun n139 h2 => ⟨n139, mo_X6_readClass_139 hK h2⟩)) h
theorem mo_X6_readClass_63 {K K' : sm_S → Prop} (hK : ∀ s, K s → K' s) {n63 : Nat} {σ : sm_S} {x1 : Int32} {x3 : Int32} {x4 : Int32} (h : mp_X6_readClass_63 K n63 σ x1 x3 x4) : mp_X6_readClass_63 K' n63 σ x1 x3 x4 := by
  suffices g : ∀ (σ : sm_S) (x1 : Int32) (x3 : Int32) (x4 : Int32), mp_X6_readClass_63 K n63 σ x1 x3 x4 → mp_X6_readClass_63 K' n63 σ x1 x3 x4 from g _ _ _ _ h
  clear h
  induction n63 with
  | zero => exact fun _ _ _ _ h => h.elim
  | succ n63 ih63 =>
    intro σ x1 x3 x4 h
    unfold mp_X6_readClass_63 at h ⊢
    exact ⟨fun h1 => mo_X6_readClass_123 hK (h.1 h1), fun h2 => ⟨fun h3 => mo_X6_readClass_123 hK ((h.2 h2).1 h3), fun h4 => ⟨((h.2 h2).2 h4).1, mo_X6_type (fun r19 σ18 h7 => ⟨h7.1, fun σ21 e11 => ⟨(h7.2 σ21 e11).1, ⟨(h7.2 σ21 e11).2.1, fun σ24 e17 => fun v25 e19 => ih63 _ _ _ _ (((h7.2 σ21 e11).2.2 σ24 e17) v25 e19)⟩⟩⟩) ((h.2 h2).2 h4).2⟩⟩⟩
theorem mo_X6_readClass_38 {K K' : sm_S → Prop} (hK : ∀ s, K s → K' s) {σ : sm_S} {x1 : Int32} {y1 : Int32} {y2 : Int32} (h : mp_X6_readClass_38 K σ x1 y1 y2) : mp_X6_readClass_38 K' σ x1 y1 y2 := by
  unfold mp_X6_readClass_38 at h ⊢
  exact mo_X0_inherit (fun σ26 h1 => ⟨h1.1, mo_X6_number (fun r29 σ28 h4 => h4.elim (fun n63 h5 => ⟨n63, mo_X6_readClass_63 hK h5⟩)) h1.2⟩) h
theorem mo_X6_readClass {σ : sm_S} {p1 : Int32} {K K' : sm_S → Prop} (hK : ∀ s, K s → K' s) (h : mp_X6_readClass σ p1 K) : mp_X6_readClass σ p1 K' := by
  unfold mp_X6_readClass at h ⊢
  exact mo_X6_number (fun r31 σ30 h1 => ⟨fun h2 => ⟨fun h3 => mo_X6_readClass_38 hK ((h1.1 h2).1 h3), fun h4 => mo_X6_readClass_38 hK ((h1.1 h2).2 h4)⟩, fun h5 => hK _ (h1.2 h5)⟩) h
theorem mo_X6_readFirst_61 {K K' : sm_S → Prop} (hK : ∀ s, K s → K' s) {σ : sm_S} {x2 : Int32} (h : mp_X6_readFirst_61 K σ x2) : mp_X6_readFirst_61 K' σ x2 := by
  unfold mp_X6_readFirst_61 at h ⊢
  exact fun σ1 e2 => hK _ (h σ1 e2)
theorem mo_X6_readFirst_56 {K K' : sm_S → Prop} (hK : ∀ s, K s → K' s) {σ : sm_S} {x1 : Int32} {x2 : Int32} (h : mp_X6_readFirst_56 K σ x1 x2) : mp_X6_readFirst_56 K' σ x1 x2 := by
  unfold mp_X6_readFirst_56 at h ⊢
  exact fun σ2 e2 => mo_X6_readFirst_61 hK (h σ2 e2)
theorem mo_X6_readFirst {σ : sm_S}  {K K' : sm_S → Prop} (hK : ∀ s, K s → K' s) (h : mp_X6_readFirst σ  K) : mp_X6_readFirst σ  K' := by
  unfold mp_X6_readFirst at h ⊢
  exact fun v3 e2 => mo_X6_number (fun r5 σ4 h3 => ⟨fun h4 => mo_X6_readFirst_61 hK (h3.1 h4), fun h5 => ⟨(h3.2 h5).1, ⟨fun h8 => mo_X6_readFirst_56 hK ((h3.2 h5).2.1 h8), fun h9 => ⟨((h3.2 h5).2.2 h9).1, ⟨fun h12 => mo_X6_readFirst_61 hK (((h3.2 h5).2.2 h9).2.1 h12), fun h13 => mo_X6_readFirst_56 hK (((h3.2 h5).2.2 h9).2.2 h13)⟩⟩⟩⟩⟩) (h v3 e2)
theorem mo_X6_codeLength_32 {K K' : Int32 → sm_S → Prop} (hK : ∀ r s, K r s → K' r s) {σ : sm_S} {x1 : Int32} {x2 : Int32} {y0 : Int32} (h : mp_X6_codeLength_32 K σ x1 x2 y0) : mp_X6_codeLength_32 K' σ x1 x2 y0 := by
  unfold mp_X6_codeLength_32 at h ⊢
  exact mo_X6_number (fun r2 σ1 h1 => hK _ _ h1) h
theorem mo_X6_codeLength_17 {K K' : Int32 → sm_S → Prop} (hK : ∀ r s, K r s → K' r s) {σ : sm_S} {x1 : Int32} {y0 : Int32} (h : mp_X6_codeLength_17 K σ x1 y0) : mp_X6_codeLength_17 K' σ x1 y0 := by
  unfold mp_X6_codeLength_17 at h ⊢
  exact ⟨fun h1 => mo_X6_codeLength_32 hK (h.1 h1), fun h2 => mo_X6_codeLength_32 hK (h.2 h2)⟩
theorem mo_X6_codeLength {σ : sm_S}  {K K' : Int32 → sm_S → Prop} (hK : ∀ r s, K r s → K' r s) (h : mp_X6_codeLength σ  K) : mp_X6_codeLength σ  K' := by
  unfold mp_X6_codeLength at h ⊢
  exact mo_X6_number (fun r5 σ4 h1 => ⟨fun h2 => mo_X6_codeLength_17 hK (h1.1 h2), fun h3 => mo_X6_codeLength_17 hK (h1.2 h3)⟩) h
theorem mo_X6_readSlot_45 {K K' : sm_S → Prop} (hK : ∀ s, K s → K' s) {σ : sm_S} (h : mp_X6_readSlot_45 K σ) : mp_X6_readSlot_45 K' σ := by
  unfold mp_X6_readSlot_45 at h ⊢
  exact hK _ h
theorem mo_X6_readSlot {σ : sm_S} {p1 : Int32} {K K' : sm_S → Prop} (hK : ∀ s, K s → K' s) (h : mp_X6_readSlot σ p1 K) : mp_X6_readSlot σ p1 K' := by
  unfold mp_X6_readSlot at h ⊢
  exact fun v1 e2 => mo_X6_number (fun r3 σ2 h3 => ⟨fun h4 => mo_X6_readSlot_45 hK (h3.1 h4), fun h5 => ⟨(h3.2 h5).1, ⟨fun h8 => mo_X6_readSlot_45 hK ((h3.2 h5).2.1 h8), fun h9 => fun σ7 e11 => mo_X6_readSlot_45 hK (((h3.2 h5).2.2 h9) σ7 e11)⟩⟩⟩) (h v1 e2)
theorem mo_X6_skip_2 {K K' : sm_S → Prop} (hK : ∀ s, K s → K' s) {n2 : Nat} {σ : sm_S} {x1 : Int32} {x2 : Int32} (h : mp_X6_skip_2 K n2 σ x1 x2) : mp_X6_skip_2 K' n2 σ x1 x2 := by
  suffices g : ∀ (σ : sm_S) (x1 : Int32) (x2 : Int32), mp_X6_skip_2 K n2 σ x1 x2 → mp_X6_skip_2 K' n2 σ x1 x2 from g _ _ _ h
  clear h
  induction n2 with
  | zero => exact fun _ _ _ h => h.elim
  | succ n2 ih2 =>
    intro σ x1 x2 h
    unfold mp_X6_skip_2 at h ⊢
    exact ⟨fun h1 => hK _ (h.1 h1), fun h2 => mo_X6_number (fun r3 σ2 h3 => fun v4 e5 => ih2 _ _ _ (h3 v4 e5)) (h.2 h2)⟩
theorem mo_X6_skip {σ : sm_S} {p1 : Int32} {K K' : sm_S → Prop} (hK : ∀ s, K s → K' s) (h : mp_X6_skip σ p1 K) : mp_X6_skip σ p1 K' := by
  unfold mp_X6_skip at h ⊢
  exact h.elim (fun n2 h1 => ⟨n2, mo_X6_skip_2 hK h1⟩)
theorem mo_X6_readOperands_289 {K K' : sm_S → Prop} (hK : ∀ s, K s → K' s) {σ : sm_S} (h : mp_X6_readOperands_289 K σ) : mp_X6_readOperands_289 K' σ := by
  unfold mp_X6_readOperands_289 at h ⊢
  exact hK _ h
theorem mo_X6_readOperands {σ : sm_S} {p1 : Int32} {p2 : Int32} {K K' : sm_S → Prop} (hK : ∀ s, K s → K' s) (h : mp_X6_readOperands σ p1 p2 K) : mp_X6_readOperands σ p1 p2 K' := by
  unfold mp_X6_readOperands at h ⊢
  exact ⟨fun h1 => mo_X6_number (fun r3 σ2 h2 => mo_X6_readOperands_289 hK h2) (h.1 h1), fun h3 => mo_X6_number (fun r6 σ5 h4 => mo_X6_readOperands_289 hK h4) (h.2.1 h3), fun h5 => ⟨(h.2.2.1 h5).1, mo_X6_skip (fun σ9 h8 => mo_X6_readOperands_289 hK h8) (h.2.2.1 h5).2⟩, fun h9 => ⟨(h.2.2.2.1 h9).1, mo_X6_skip (fun σ12 h12 => mo_X6_readOperands_289 hK h12) (h.2.2.2.1 h9).2⟩, fun h13 => ⟨(h.2.2.2.2.1 h13).1, mo_X6_skip (fun σ15 h16 => mo_X6_readOperands_289 hK h16) (h.2.2.2.2.1 h13).2⟩, fun h17 => ⟨(h.2.2.2.2.2.1 h17).1, mo_X6_skip (fun σ18 h20 => mo_X6_readOperands_289 hK h20) (h.2.2.2.2.2.1 h17).2⟩, fun h21 => ⟨(h.2.2.2.2.2.2.1 h21).1, mo_X6_skip (fun σ21 h24 => mo_X6_readOperands_289 hK h24) (h.2.2.2.2.2.2.1 h21).2⟩, fun h25 => ⟨(h.2.2.2.2.2.2.2.1 h25).1, mo_X6_skip (fun σ24 h28 => mo_X6_readOperands_289 hK h28) (h.2.2.2.2.2.2.2.1 h25).2⟩, fun h29 => ⟨(h.2.2.2.2.2.2.2.2.1 h29).1, mo_X6_skip (fun σ27 h32 => mo_X6_readOperands_289 hK h32) (h.2.2.2.2.2.2.2.2.1 h29).2⟩, fun h33 => ⟨(h.2.2.2.2.2.2.2.2.2.1 h33).1, mo_X6_skip (fun σ30 h36 => mo_X6_readOperands_289 hK h36) (h.2.2.2.2.2.2.2.2.2.1 h33).2⟩, fun h37 => ⟨(h.2.2.2.2.2.2.2.2.2.2.1 h37).1, mo_X6_skip (fun σ33 h40 => mo_X6_readOperands_289 hK h40) (h.2.2.2.2.2.2.2.2.2.2.1 h37).2⟩, fun h41 => ⟨(h.2.2.2.2.2.2.2.2.2.2.2.1 h41).1, mo_X6_skip (fun σ36 h44 => mo_X6_readOperands_289 hK h44) (h.2.2.2.2.2.2.2.2.2.2.2.1 h41).2⟩, fun h45 => ⟨(h.2.2.2.2.2.2.2.2.2.2.2.2.1 h45).1, mo_X6_skip (fun σ39 h48 => mo_X6_readOperands_289 hK h48) (h.2.2.2.2.2.2.2.2.2.2.2.2.1 h45).2⟩, fun h49 => ⟨(h.2.2.2.2.2.2.2.2.2.2.2.2.2.1 h49).1, mo_X6_skip (fun σ42 h52 => mo_X6_readOperands_289 hK h52) (h.2.2.2.2.2.2.2.2.2.2.2.2.2.1 h49).2⟩, fun h53 => ⟨(h.2.2.2.2.2.2.2.2.2.2.2.2.2.2.1 h53).1, mo_X6_skip (fun σ45 h56 => mo_X6_readOperands_289 hK h56) (h.2.2.2.2.2.2.2.2.2.2.2.2.2.2.1 h53).2⟩, fun h57 => ⟨(h.2.2.2.2.2.2.2.2.2.2.2.2.2.2.2.1 h57).1, mo_X6_skip (fun σ48 h60 => mo_X6_readOperands_289 hK h60) (h.2.2.2.2.2.2.2.2.2.2.2.2.2.2.2.1 h57).2⟩, fun h61 => ⟨(h.2.2.2.2.2.2.2.2.2.2.2.2.2.2.2.2.1 h61).1, mo_X6_skip (fun σ51 h64 => mo_X6_readOperands_289 hK h64) (h.2.2.2.2.2.2.2.2.2.2.2.2.2.2.2.2.1 h61).2⟩, fun h65 => mo_X6_number (fun r54 σ53 h66 => mo_X6_skip (fun σ55 h67 => mo_X6_readOperands_289 hK h67) h66) (h.2.2.2.2.2.2.2.2.2.2.2.2.2.2.2.2.2.1 h65), fun h68 => mo_X6_number (fun r58 σ57 h69 => mo_X6_skip (fun σ59 h70 => mo_X6_readOperands_289 hK h70) h69) (h.2.2.2.2.2.2.2.2.2.2.2.2.2.2.2.2.2.2.1 h68), fun h71 => ⟨(h.2.2.2.2.2.2.2.2.2.2.2.2.2.2.2.2.2.2.2.1 h71).1, mo_X6_skip (fun σ62 h74 => mo_X6_readOperands_289 hK h74) (h.2.2.2.2.2.2.2.2.2.2.2.2.2.2.2.2.2.2.2.1 h71).2⟩, fun h75 => ⟨(h.2.2.2.2.2.2.2.2.2.2.2.2.2.2.2.2.2.2.2.2.1 h75).1, mo_X6_skip (fun σ65 h78 => mo_X6_readOperands_289 hK h78) (h.2.2.2.2.2.2.2.2.2.2.2.2.2.2.2.2.2.2.2.2.1 h75).2⟩, fun h79 => ⟨(h.2.2.2.2.2.2.2.2.2.2.2.2.2.2.2.2.2.2.2.2.2.1 h79).1, mo_X6_skip (fun σ68 h82 => mo_X6_readOperands_289 hK h82) (h.2.2.2.2.2.2.2.2.2.2.2.2.2.2.2.2.2.2.2.2.2.1 h79).2⟩, fun h83 => ⟨(h.2.2.2.2.2.2.2.2.2.2.2.2.2.2.2.2.2.2.2.2.2.2.1 h83).1, mo_X6_skip (fun σ71 h86 => mo_X6_readOperands_289 hK h86) (h.2.2.2.2.2.2.2.2.2.2.2.2.2.2.2.2.2.2.2.2.2.2.1 h83).2⟩, fun h87 => ⟨(h.2.2.2.2.2.2.2.2.2.2.2.2.2.2.2.2.2.2.2.2.2.2.2.1 h87).1, mo_X6_skip (fun σ74 h90 => mo_X6_readOperands_289 hK h90) (h.2.2.2.2.2.2.2.2.2.2.2.2.2.2.2.2.2.2.2.2.2.2.2.1 h87).2⟩, fun h91 => mo_X6_number (fun r77 σ76 h92 => mo_X6_readOperands_289 hK h92) (h.2.2.2.2.2.2.2.2.2.2.2.2.2.2.2.2.2.2.2.2.2.2.2.2.1 h91), fun h93 => mo_X6_number (fun r80 σ79 h94 => ⟨h94.1, mo_X6_number (fun r83 σ82 h97 => mo_X6_readOperands_289 hK h97) h94.2⟩) (h.2.2.2.2.2.2.2.2.2.2.2.2.2.2.2.2.2.2.2.2.2.2.2.2.2.1 h93), fun h98 => mo_X6_number (fun r86 σ85 h99 => ⟨h99.1, mo_X6_number (fun r89 σ88 h102 => mo_X6_readOperands_289 hK h102) h99.2⟩) (h.2.2.2.2.2.2.2.2.2.2.2.2.2.2.2.2.2.2.2.2.2.2.2.2.2.2.1 h98), fun h103 => mo_X6_number (fun r92 σ91 h104 => mo_X6_readOperands_289 hK h104) (h.2.2.2.2.2.2.2.2.2.2.2.2.2.2.2.2.2.2.2.2.2.2.2.2.2.2.2.1 h103), fun h105 => mo_X6_number (fun r95 σ94 h106 => mo_X6_readOperands_289 hK h106) (h.2.2.2.2.2.2.2.2.2.2.2.2.2.2.2.2.2.2.2.2.2.2.2.2.2.2.2.2.1 h105), fun h107 => mo_X6_number (fun r98 σ97 h108 => mo_X6_readOperands_289 hK h108) (h.2.2.2.2.2.2.2.2.2.2.2.2.2.2.2.2.2.2.2.2.2.2.2.2.2.2.2.2.2.1 h107), fun h109 => ⟨(h.2.2.2.2.2.2.2.2.2.2.2.2.2.2.2.2.2.2.2.2.2.2.2.2.2.2.2.2.2.2.1 h109).1, mo_X6_skip (fun σ101 h112 => mo_X6_readOperands_289 hK h112) (h.2.2.2.2.2.2.2.2.2.2.2.2.2.2.2.2.2.2.2.2.2.2.2.2.2.2.2.2.2.2.1 h109).2⟩, fun h113 => ⟨(h.2.2.2.2.2.2.2.2.2.2.2.2.2.2.2.2.2.2.2.2.2.2.2.2.2.2.2.2.2.2.2.1 h113).1, mo_X6_skip (fun σ104 h116 => mo_X6_readOperands_289 hK h116) (h.2.2.2.2.2.2.2.2.2.2.2.2.2.2.2.2.2.2.2.2.2.2.2.2.2.2.2.2.2.2.2.1 h113).2⟩, fun h117 => ⟨(h.2.2.2.2.2.2.2.2.2.2.2.2.2.2.2.2.2.2.2.2.2.2.2.2.2.2.2.2.2.2.2.2.1 h117).1, mo_X6_skip (fun σ107 h120 => mo_X6_readOperands_289 hK h120) (h.2.2.2.2.2.2.2.2.2.2.2.2.2.2.2.2.2.2.2.2.2.2.2.2.2.2.2.2.2.2.2.2.1 h117).2⟩, fun h121 => ⟨(h.2.2.2.2.2.2.2.2.2.2.2.2.2.2.2.2.2.2.2.2.2.2.2.2.2.2.2.2.2.2.2.2.2.1 h121).1, mo_X6_skip (fun σ110 h124 => mo_X6_readOperands_289 hK h124) (h.2.2.2.2.2.2.2.2.2.2.2.2.2.2.2.2.2.2.2.2.2.2.2.2.2.2.2.2.2.2.2.2.2.1 h121).2⟩, fun h125 => mo_X6_number (fun r113 σ112 h126 => mo_X6_readSlot (fun σ114 h127 => mo_X6_readOperands_289 hK h127) h126) (h.2.2.2.2.2.2.2.2.2.2.2.2.2.2.2.2.2.2.2.2.2.2.2.2.2.2.2.2.2.2.2.2.2.2.1 h125), fun h128 h129 h130 h131 h132 h133 h134 h135 h136 h137 h138 h139 h140 h141 h142 h143 h144 h145 h146 h147 h148 h149 h150 h151 h152 h153 h154 h155 h156 h157 h158 h159 h160 h161 h162 => ⟨(h.2.2.2.2.2.2.2.2.2.2.2.2.2.2.2.2.2.2.2.2.2.2.2.2.2.2.2.2.2.2.2.2.2.2.2 h128 h129 h130 h131 h132 h133 h134 h135 h136 h137 h138 h139 h140 h141 h142 h143 h144 h145 h146 h147 h148 h149 h150 h151 h152 h153 h154 h155 h156 h157 h158 h159 h160 h161 h162).1, mo_X6_skip (fun σ116 h165 => mo_X6_readOperands_289 hK h165) (h.2.2.2.2.2.2.2.2.2.2.2.2.2.2.2.2.2.2.2.2.2.2.2.2.2.2.2.2.2.2.2.2.2.2.2 h128 h129 h130 h131 h132 h133 h134 h135 h136 h137 h138 h139 h140 h141 h142 h143 h144 h145 h146 h147 h148 h149 h150 h151 h152 h153 h154 h155 h156 h157 h158 h159 h160 h161 h162).2⟩⟩
theorem mo_X6_readCode_136 {K K' : sm_S → Prop} (hK : ∀ s, K s → K' s) {σ : sm_S} (h : mp_X6_readCode_136 K σ) : mp_X6_readCode_136 K' σ := by
  unfold mp_X6_readCode_136 at h ⊢
  exact hK _ h
theorem mo_X6_readCode_130 {L17 L17' : sm_S → Int32 → Int32 → Int32 → Prop} (hL17 : ∀ z0 z1 z2 z3, L17 z0 z1 z2 z3 → L17' z0 z1 z2 z3) {K K' : sm_S → Prop} (hK : ∀ s, K s → K' s) {σ : sm_S} {x1 : Int32} {x2 : Int32} {x3 : Int32} (h : mp_X6_readCode_130 L17 K σ x1 x2 x3) : mp_X6_readCode_130 L17' K' σ x1 x2 x3 := by
  unfold mp_X6_readCode_130 at h ⊢
  exact fun v1 e2 => hL17 _ _ _ _ (h v1 e2)
theorem mo_X6_readCode_83 {L17 L17' : sm_S → Int32 → Int32 → Int32 → Prop} (hL17 : ∀ z0 z1 z2 z3, L17 z0 z1 z2 z3 → L17' z0 z1 z2 z3) {K K' : sm_S → Prop} (hK : ∀ s, K s → K' s) {σ : sm_S} {x1 : Int32} {x2 : Int32} {x3 : Int32} {x4 : Int32} {x5 : Int32} (h : mp_X6_readCode_83 L17 K σ x1 x2 x3 x4 x5) : mp_X6_readCode_83 L17' K' σ x1 x2 x3 x4 x5 := by
  unfold mp_X6_readCode_83 at h ⊢
  exact ⟨fun h1 => mo_X6_readCode_130 hL17 hK (h.1 h1), fun h2 => ⟨(h.2 h2).1, fun σ4 e6 => fun σ5 e8 => ⟨(((h.2 h2).2 σ4 e6) σ5 e8).1, mo_X6_readOperands (fun σ7 h11 => mo_X6_readCode_130 hL17 hK h11) (((h.2 h2).2 σ4 e6) σ5 e8).2⟩⟩⟩
theorem mo_X6_readCode_17 {K K' : sm_S → Prop} (hK : ∀ s, K s → K' s) {n17 : Nat} {σ : sm_S} {x1 : Int32} {x2 : Int32} {x3 : Int32} (h : mp_X6_readCode_17 K n17 σ x1 x2 x3) : mp_X6_readCode_17 K' n17 σ x1 x2 x3 := by
  suffices g : ∀ (σ : sm_S) (x1 : Int32) (x2 : Int32) (x3 : Int32), mp_X6_readCode_17 K n17 σ x1 x2 x3 → mp_X6_readCode_17 K' n17 σ x1 x2 x3 from g _ _ _ _ h
  clear h
  induction n17 with
  | zero => exact fun _ _ _ _ h => h.elim
  | succ n17 ih17 =>
    intro σ x1 x2 x3 h
    unfold mp_X6_readCode_17 at h ⊢
    exact ⟨fun h1 => mo_X6_readCode_136 hK (h.1 h1), fun h2 => ⟨fun h3 => mo_X6_readCode_136 hK ((h.2 h2).1 h3), fun h4 => ⟨fun h5 => mo_X6_readCode_136 hK (((h.2 h2).2 h4).1 h5), fun h6 => fun v11 e8 => mo_X6_number (fun r13 σ12 h9 => ⟨fun h10 => mo_X6_readCode_83 ih17 hK (h9.1 h10), fun h11 => ⟨(h9.2 h11).1, ⟨fun h14 => mo_X6_readCode_83 ih17 hK ((h9.2 h11).2.1 h14), fun h15 => fun σ17 e17 => mo_X6_readCode_83 ih17 hK (((h9.2 h11).2.2 h15) σ17 e17)⟩⟩⟩) ((((h.2 h2).2 h4).2 h6) v11 e8)⟩⟩⟩
theorem mo_X6_readCode {σ : sm_S} {p1 : Int32} {K K' : sm_S → Prop} (hK : ∀ s, K s → K' s) (h : mp_X6_readCode σ p1 K) : mp_X6_readCode σ p1 K' := by
  unfold mp_X6_readCode at h ⊢
  exact ⟨h.1, fun v19 e4 => (h.2 v19 e4).elim (fun n17 h5 => ⟨n17, mo_X6_readCode_17 hK h5⟩)⟩
theorem mo_X6_readMethod_233 {K K' : sm_S → Prop} (hK : ∀ s, K s → K' s) {n233 : Nat} {σ : sm_S} {x1 : Int32} {x4 : Int32} (h : mp_X6_readMethod_233 K n233 σ x1 x4) : mp_X6_readMethod_233 K' n233 σ x1 x4 := by
  suffices g : ∀ (σ : sm_S) (x1 : Int32) (x4 : Int32), mp_X6_readMethod_233 K n233 σ x1 x4 → mp_X6_readMethod_233 K' n233 σ x1 x4 from g _ _ _ h
  clear h
  induction n233 with
  | zero => exact fun _ _ _ h => h.elim
  | succ n233 ih233 =>
    intro σ x1 x4 h
    unfold mp_X6_readMethod_233 at h ⊢
    exact ⟨h.1, ⟨fun h3 => hK _ (h.2.1 h3), fun h4 => mo_X6_skip (fun σ3 h5 => mo_X6_number (fun r5 σ4 h6 => mo_X6_skip (fun σ6 h7 => fun v7 e9 => ih233 _ _ _ (h7 v7 e9)) h6) h5) (h.2.2 h4)⟩⟩
theorem mo_X6_readMethod_101 {K K' : sm_S → Prop} (hK : ∀ s, K s → K' s) {σ : sm_S} {x1 : Int32} (h : mp_X6_readMethod_101 K σ x1) : mp_X6_readMethod_101 K' σ x1 := by
  unfold mp_X6_readMethod_101 at h ⊢
  exact mo_X6_type (fun r9 σ8 h1 => ⟨h1.1, fun σ11 e5 => ⟨(h1.2 σ11 e5).1, mo_X6_number (fun r14 σ13 h8 => ⟨h8.1, fun σ16 e12 => ⟨(h8.2 σ16 e12).1, mo_X6_number (fun r19 σ18 h15 => ⟨h15.1, fun σ21 e19 => mo_X6_codeLength (fun r23 σ22 h20 => ⟨h20.1, fun σ25 e24 => ⟨(h20.2 σ25 e24).1, fun σ27 e28 => mo_X6_readCode (fun σ28 h29 => mo_X6_number (fun r30 σ29 h30 => ⟨h30.1, fun σ32 e34 => ⟨(h30.2 σ32 e34).1, fun σ34 e38 => ((h30.2 σ32 e34).2 σ34 e38).elim (fun n233 h39 => ⟨n233, mo_X6_readMethod_233 hK h39⟩)⟩⟩) h29) ((h20.2 σ25 e24).2 σ27 e28)⟩⟩) (h15.2 σ21 e19)⟩) (h8.2 σ16 e12).2⟩⟩) (h1.2 σ11 e5).2⟩⟩) h
theorem mo_X6_readMethod_68 {K K' : sm_S → Prop} (hK : ∀ s, K s → K' s) {n68 : Nat} {σ : sm_S} {x1 : Int32} {x3 : Int32} {x4 : Int32} (h : mp_X6_readMethod_68 K n68 σ x1 x3 x4) : mp_X6_readMethod_68 K' n68 σ x1 x3 x4 := by
  suffices g : ∀ (σ : sm_S) (x1 : Int32) (x3 : Int32) (x4 : Int32), mp_X6_readMethod_68 K n68 σ x1 x3 x4 → mp_X6_readMethod_68 K' n68 σ x1 x3 x4 from g _ _ _ _ h
  clear h
  induction n68 with
  | zero => exact fun _ _ _ _ h => h.elim
  | succ n68 ih68 =>
    intro σ x1 x3 x4 h
    unfold mp_X6_readMethod_68 at h ⊢
    exact ⟨fun h1 => mo_X6_readMethod_101 hK (h.1 h1), fun h2 => ⟨fun h3 => mo_X6_readMethod_101 hK ((h.2 h2).1 h3), fun h4 => mo_X6_type (fun r38 σ37 h5 => mo_X4_addParam (fun σ39 h6 => fun v40 e8 => ih68 _ _ _ _ (h6 v40 e8)) h5) ((h.2 h2).2 h4)⟩⟩
theorem mo_X6_readMethod_56 {K K' : sm_S → Prop} (hK : ∀ s, K s → K' s) {σ : sm_S} {x1 : Int32} (h : mp_X6_readMethod_56 K σ x1) : mp_X6_readMethod_56 K' σ x1 := by
  unfold mp_X6_readMethod_56 at h ⊢
  exact mo_X6_number (fun r42 σ41 h1 => h1.elim (fun n68 h2 => ⟨n68, mo_X6_readMethod_68 hK h2⟩)) h
theorem mo_X6_readMethod {σ : sm_S} {p1 : Int32} {K K' : sm_S → Prop} (hK : ∀ s, K s → K' s) (h : mp_X6_readMethod σ p1 K) : mp_X6_readMethod σ p1 K' := by
  unfold mp_X6_readMethod at h ⊢
  exact mo_X6_number (fun r44 σ43 h1 => ⟨h1.1, fun σ46 e5 => ⟨(h1.2 σ46 e5).1, fun σ48 e9 => ⟨fun h10 => mo_X6_readMethod_56 hK (((h1.2 σ46 e5).2 σ48 e9).1 h10), fun h11 => mo_X4_addParam (fun σ50 h12 => mo_X6_readMethod_56 hK h12) (((h1.2 σ46 e5).2 σ48 e9).2 h11)⟩⟩⟩) h
theorem mo_X6_firstWrong_175 {K K' : Int32 → sm_S → Prop} (hK : ∀ r s, K r s → K' r s) {σ : sm_S} (h : mp_X6_firstWrong_175 K σ) : mp_X6_firstWrong_175 K' σ := by
  unfold mp_X6_firstWrong_175 at h ⊢
  exact hK _ _ h
theorem mo_X6_firstWrong_141 {K K' : Int32 → sm_S → Prop} (hK : ∀ r s, K r s → K' r s) {σ : sm_S} (h : mp_X6_firstWrong_141 K σ) : mp_X6_firstWrong_141 K' σ := by
  unfold mp_X6_firstWrong_141 at h ⊢
  exact mo_X6_readFirst (fun σ1 h1 => ⟨fun h2 => mo_X6_firstWrong_175 hK (h1.1 h2), fun h3 => ⟨fun h4 => mo_X6_firstWrong_175 hK ((h1.2 h3).1 h4), fun h5 => fun σ4 e7 => mo_X6_firstWrong_175 hK (((h1.2 h3).2 h5) σ4 e7)⟩⟩) h
theorem mo_X6_firstWrong_111 {K K' : Int32 → sm_S → Prop} (hK : ∀ r s, K r s → K' r s) {n111 : Nat} {σ : sm_S} {x1 : Int32} (h : mp_X6_firstWrong_111 K n111 σ x1) : mp_X6_firstWrong_111 K' n111 σ x1 := by
  suffices g : ∀ (σ : sm_S) (x1 : Int32), mp_X6_firstWrong_111 K n111 σ x1 → mp_X6_firstWrong_111 K' n111 σ x1 from g _ _ h
  clear h
  induction n111 with
  | zero => exact fun _ _ h => h.elim
  | succ n111 ih111 =>
    intro σ x1 h
    unfold mp_X6_firstWrong_111 at h ⊢
    exact ⟨fun h1 => mo_X6_firstWrong_141 hK (h.1 h1), fun h2 => ⟨fun h3 => mo_X6_firstWrong_141 hK ((h.2 h2).1 h3), fun h4 => mo_X6_readMethod (fun σ7 h5 => fun v8 e7 => ih111 _ _ (h5 v8 e7)) ((h.2 h2).2 h4)⟩⟩
theorem mo_X6_firstWrong_59 {K K' : Int32 → sm_S → Prop} (hK : ∀ r s, K r s → K' r s) {n59 : Nat} {σ : sm_S} {x1 : Int32} (h : mp_X6_firstWrong_59 K n59 σ x1) : mp_X6_firstWrong_59 K' n59 σ x1 := by
  suffices g : ∀ (σ : sm_S) (x1 : Int32), mp_X6_firstWrong_59 K n59 σ x1 → mp_X6_firstWrong_59 K' n59 σ x1 from g _ _ h
  clear h
  induction n59 with
  | zero => exact fun _ _ h => h.elim
  | succ n59 ih59 =>
    intro σ x1 h
    unfold mp_X6_firstWrong_59 at h ⊢
    exact ⟨fun h1 => mo_X6_number (fun r11 σ10 h2 => fun σ12 e4 => (h2 σ12 e4).elim (fun n111 h5 => ⟨n111, mo_X6_firstWrong_111 hK h5⟩)) (h.1 h1), fun h6 => mo_X6_number (fun r14 σ13 h7 => ⟨h7.1, fun σ16 e11 => fun v17 e13 => ih59 _ _ ((h7.2 σ16 e11) v17 e13)⟩) (h.2 h6)⟩
theorem mo_X6_firstWrong_57 {K K' : Int32 → sm_S → Prop} (hK : ∀ r s, K r s → K' r s) {σ : sm_S} (h : mp_X6_firstWrong_57 K σ) : mp_X6_firstWrong_57 K' σ := by
  unfold mp_X6_firstWrong_57 at h ⊢
  exact h.elim (fun n59 h1 => ⟨n59, mo_X6_firstWrong_59 hK h1⟩)
theorem mo_X6_firstWrong_27 {K K' : Int32 → sm_S → Prop} (hK : ∀ r s, K r s → K' r s) {n27 : Nat} {σ : sm_S} {x1 : Int32} (h : mp_X6_firstWrong_27 K n27 σ x1) : mp_X6_firstWrong_27 K' n27 σ x1 := by
  suffices g : ∀ (σ : sm_S) (x1 : Int32), mp_X6_firstWrong_27 K n27 σ x1 → mp_X6_firstWrong_27 K' n27 σ x1 from g _ _ h
  clear h
  induction n27 with
  | zero => exact fun _ _ h => h.elim
  | succ n27 ih27 =>
    intro σ x1 h
    unfold mp_X6_firstWrong_27 at h ⊢
    exact ⟨fun h1 => mo_X6_firstWrong_57 hK (h.1 h1), fun h2 => ⟨fun h3 => mo_X6_firstWrong_57 hK ((h.2 h2).1 h3), fun h4 => mo_X6_readClass (fun σ20 h5 => fun v21 e7 => ih27 _ _ (h5 v21 e7)) ((h.2 h2).2 h4)⟩⟩
theorem mo_X6_firstWrong {σ : sm_S}  {K K' : Int32 → sm_S → Prop} (hK : ∀ r s, K r s → K' r s) (h : mp_X6_firstWrong σ  K) : mp_X6_firstWrong σ  K' := by
  unfold mp_X6_firstWrong at h ⊢
  exact fun σ22 e2 => fun σ23 e4 => mo_X6_number (fun r25 σ24 h5 => fun σ26 e7 => (h5 σ26 e7).elim (fun n27 h8 => ⟨n27, mo_X6_firstWrong_27 hK h8⟩)) ((h σ22 e2) σ23 e4)
theorem mo_X7_slot {σ : sm_S} {p1 : Int32} {K K' : Int32 → sm_S → Prop} (hK : ∀ r s, K r s → K' r s) (h : mp_X7_slot σ p1 K) : mp_X7_slot σ p1 K' := by
  unfold mp_X7_slot at h ⊢
  exact ⟨h.1, hK _ _ h.2⟩
theorem mo_X7_enter_178 {K K' : Int32 → sm_S → Prop} (hK : ∀ r s, K r s → K' r s) {σ : sm_S} {x2 : Int32} (h : mp_X7_enter_178 K σ x2) : mp_X7_enter_178 K' σ x2 := by
  unfold mp_X7_enter_178 at h ⊢
  exact fun σ1 e2 => fun σ2 e4 => hK _ _ ((h σ1 e2) σ2 e4)
theorem mo_X7_enter_141 {L91 L91' : sm_S → Int32 → Int32 → Int32 → Int32 → Prop} (hL91 : ∀ z0 z1 z2 z3 z4, L91 z0 z1 z2 z3 z4 → L91' z0 z1 z2 z3 z4) {K K' : Int32 → sm_S → Prop} (hK : ∀ r s, K r s → K' r s) {σ : sm_S} {x1 : Int32} {x2 : Int32} {x3 : Int32} {x4 : Int32} {y1 : Int32} {y2 : Int64} (h : mp_X7_enter_141 L91 K σ x1 x2 x3 x4 y1 y2) : mp_X7_enter_141 L91' K' σ x1 x2 x3 x4 y1 y2 := by
  unfold mp_X7_enter_141 at h ⊢
  exact mo_X1_put (fun σ3 h1 => fun v4 e3 => hL91 _ _ _ _ _ (h1 v4 e3)) h
theorem mo_X7_enter_91 {K K' : Int32 → sm_S → Prop} (hK : ∀ r s, K r s → K' r s) {n91 : Nat} {σ : sm_S} {x1 : Int32} {x2 : Int32} {x3 : Int32} {x4 : Int32} (h : mp_X7_enter_91 K n91 σ x1 x2 x3 x4) : mp_X7_enter_91 K' n91 σ x1 x2 x3 x4 := by
  suffices g : ∀ (σ : sm_S) (x1 : Int32) (x2 : Int32) (x3 : Int32) (x4 : Int32), mp_X7_enter_91 K n91 σ x1 x2 x3 x4 → mp_X7_enter_91 K' n91 σ x1 x2 x3 x4 from g _ _ _ _ _ h
  clear h
  induction n91 with
  | zero => exact fun _ _ _ _ _ h => h.elim
  | succ n91 ih91 =>
    intro σ x1 x2 x3 x4 h
    unfold mp_X7_enter_91 at h ⊢
    exact ⟨fun h1 => ⟨fun h2 => mo_X7_enter_178 hK ((h.1 h1).1 h2), fun h3 => mo_X1_put (fun σ7 h4 => mo_X7_enter_178 hK h4) ((h.1 h1).2 h3)⟩, fun h5 => ⟨(h.2 h5).1, ⟨fun h8 => mo_X7_enter_141 ih91 hK ((h.2 h5).2.1 h8), fun h9 => mo_X7_slot (fun r11 σ10 h10 => mo_X1_look (fun r13 σ12 h11 => mo_X7_enter_141 ih91 hK h11) h10) ((h.2 h5).2.2 h9)⟩⟩⟩
theorem mo_X7_enter {σ : sm_S} {p1 : Int32} {K K' : Int32 → sm_S → Prop} (hK : ∀ r s, K r s → K' r s) (h : mp_X7_enter σ p1 K) : mp_X7_enter σ p1 K' := by
  unfold mp_X7_enter at h ⊢
  exact mo_X1_make (fun r15 σ14 h1 => ⟨fun h2 => ⟨(h1.1 h2).1, fun v18 e6 => mo_X1_cell (fun r20 σ19 h7 => mo_X1_put (fun σ21 h8 => mo_X1_put (fun σ22 h9 => mo_X1_put (fun σ23 h10 => mo_X1_cell (fun r25 σ24 h11 => mo_X1_put (fun σ26 h12 => h12.elim (fun n91 h13 => ⟨n91, mo_X7_enter_91 hK h13⟩)) h11) h10) h9) h8) h7) ((h1.1 h2).2 v18 e6)⟩, fun h14 => hK _ _ (h1.2 h14)⟩) h
theorem mo_X7_begin {σ : sm_S}  {K K' : sm_S → Prop} (hK : ∀ s, K s → K' s) (h : mp_X7_begin σ  K) : mp_X7_begin σ  K' := by
  unfold mp_X7_begin at h ⊢
  exact fun σ1 e2 => fun σ2 e4 => fun σ3 e6 => fun σ4 e8 => mo_X7_enter (fun r6 σ5 h9 => hK _ h9) ((((h σ1 e2) σ2 e4) σ3 e6) σ4 e8)
theorem mo_X7_leaveTop {σ : sm_S}  {K K' : Int32 → sm_S → Prop} (hK : ∀ r s, K r s → K' r s) (h : mp_X7_leaveTop σ  K) : mp_X7_leaveTop σ  K' := by
  unfold mp_X7_leaveTop at h ⊢
  exact mo_X1_look (fun r2 σ1 h1 => fun σ3 e3 => fun σ4 e5 => ⟨fun h6 => mo_X1_settle (fun σ6 h7 => hK _ _ h7) (((h1 σ3 e3) σ4 e5).1 h6), fun h8 => hK _ _ (((h1 σ3 e3) σ4 e5).2 h8)⟩) h
theorem mo_X7_loadTop {σ : sm_S}  {K K' : sm_S → Prop} (hK : ∀ s, K s → K' s) (h : mp_X7_loadTop σ  K) : mp_X7_loadTop σ  K' := by
  unfold mp_X7_loadTop at h ⊢
  exact mo_X1_look (fun r2 σ1 h1 => fun σ3 e3 => mo_X1_look (fun r5 σ4 h4 => fun σ6 e6 => mo_X1_look (fun r8 σ7 h7 => fun σ9 e9 => hK _ (h7 σ9 e9)) (h4 σ6 e6)) (h1 σ3 e3)) h
theorem mo_X7_fly_215 {K K' : sm_S → Prop} (hK : ∀ s, K s → K' s) {σ : sm_S} (h : mp_X7_fly_215 K σ) : mp_X7_fly_215 K' σ := by
  unfold mp_X7_fly_215 at h ⊢
  exact hK _ h
theorem mo_X7_fly_197 {L22 L22' : sm_S → Int32 → Int32 → Prop} (hL22 : ∀ z0 z1 z2, L22 z0 z1 z2 → L22' z0 z1 z2) {K K' : sm_S → Prop} (hK : ∀ s, K s → K' s) {σ : sm_S} {x1 : Int32} {x2 : Int32} (h : mp_X7_fly_197 L22 K σ x1 x2) : mp_X7_fly_197 L22' K' σ x1 x2 := by
  unfold mp_X7_fly_197 at h ⊢
  exact fun v1 e2 => hL22 _ _ _ (h v1 e2)
theorem mo_X7_fly_93 {L22 L22' : sm_S → Int32 → Int32 → Prop} (hL22 : ∀ z0 z1 z2, L22 z0 z1 z2 → L22' z0 z1 z2) {K K' : sm_S → Prop} (hK : ∀ s, K s → K' s) {σ : sm_S} {x1 : Int32} {x2 : Int32} {x3 : Int32} {y0 : Int32} (h : mp_X7_fly_93 L22 K σ x1 x2 x3 y0) : mp_X7_fly_93 L22' K' σ x1 x2 x3 y0 := by
  unfold mp_X7_fly_93 at h ⊢
  exact ⟨fun h1 => mo_X7_fly_197 hL22 hK (h.1 h1), fun h2 => mo_X2_at (fun r4 σ3 h3 => mo_X0_isOrBelow (fun r6 σ5 h4 => ⟨fun h5 => mo_X7_fly_197 hL22 hK (h4.1 h5), fun h6 => mo_X7_slot (fun r9 σ8 h7 => mo_X1_cell (fun r11 σ10 h8 => mo_X1_put (fun σ12 h9 => mo_X2_pair (fun r14 σ13 h10 => mo_X1_put (fun σ15 h11 => mo_X1_put (fun σ16 h12 => fun σ17 e14 => hK _ (h12 σ17 e14)) h11) h10) h9) h8) h7) (h4.2 h6)⟩) h3) (h.2 h2)⟩
theorem mo_X7_fly_92 {L22 L22' : sm_S → Int32 → Int32 → Prop} (hL22 : ∀ z0 z1 z2, L22 z0 z1 z2 → L22' z0 z1 z2) {K K' : sm_S → Prop} (hK : ∀ s, K s → K' s) {σ : sm_S} {x1 : Int32} {x2 : Int32} {x3 : Int32} (h : mp_X7_fly_92 L22 K σ x1 x2 x3) : mp_X7_fly_92 L22' K' σ x1 x2 x3 := by
  unfold mp_X7_fly_92 at h ⊢
  exact mo_X7_fly_93 hL22 hK h
theorem mo_X7_fly_22 {K K' : sm_S → Prop} (hK : ∀ s, K s → K' s) {n22 : Nat} {σ : sm_S} {x1 : Int32} {x2 : Int32} (h : mp_X7_fly_22 K n22 σ x1 x2) : mp_X7_fly_22 K' n22 σ x1 x2 := by
  suffices g : ∀ (σ : sm_S) (x1 : Int32) (x2 : Int32), mp_X7_fly_22 K n22 σ x1 x2 → mp_X7_fly_22 K' n22 σ x1 x2 from g _ _ _ h
  clear h
  induction n22 with
  | zero => exact fun _ _ _ h => h.elim
  | succ n22 ih22 =>
    intro σ x1 x2 h
    unfold mp_X7_fly_22 at h ⊢
    exact ⟨h.1, ⟨fun h3 => mo_X7_leaveTop (fun r21 σ20 h4 => ⟨fun h5 => mo_X7_fly_215 hK (h4.1 h5), fun h6 => fun σ23 e8 => mo_X7_fly_215 hK ((h4.2 h6) σ23 e8)⟩) (h.2.1 h3), fun h9 => ⟨(h.2.2 h9).1, fun v25 e13 => mo_X2_pair (fun r27 σ26 h14 => ⟨fun h15 => mo_X7_fly_92 ih22 hK (h14.1 h15), fun h16 => mo_X2_pair (fun r30 σ29 h17 => ⟨fun h18 => mo_X7_fly_92 ih22 hK (h17.1 h18), fun h19 => mo_X7_fly_93 ih22 hK (h17.2 h19)⟩) (h14.2 h16)⟩) ((h.2.2 h9).2 v25 e13)⟩⟩⟩
theorem mo_X7_fly {σ : sm_S}  {K K' : sm_S → Prop} (hK : ∀ s, K s → K' s) (h : mp_X7_fly σ  K) : mp_X7_fly σ  K' := by
  unfold mp_X7_fly at h ⊢
  exact mo_X7_loadTop (fun σ32 h1 => mo_X1_look (fun r34 σ33 h2 => h2.elim (fun n22 h3 => ⟨n22, mo_X7_fly_22 hK h3⟩)) h1) h
theorem mo_X7_holds_101 {K K' : Int32 → sm_S → Prop} (hK : ∀ r s, K r s → K' r s) {σ : sm_S} {y0 : Int32} (h : mp_X7_holds_101 K σ y0) : mp_X7_holds_101 K' σ y0 := by
  unfold mp_X7_holds_101 at h ⊢
  exact ⟨h.1, hK _ _ h.2⟩
theorem mo_X7_holds_90 {K K' : Int32 → sm_S → Prop} (hK : ∀ r s, K r s → K' r s) {σ : sm_S} {y0 : Int32} (h : mp_X7_holds_90 K σ y0) : mp_X7_holds_90 K' σ y0 := by
  unfold mp_X7_holds_90 at h ⊢
  exact ⟨h.1, hK _ _ h.2⟩
theorem mo_X7_holds_79 {K K' : Int32 → sm_S → Prop} (hK : ∀ r s, K r s → K' r s) {σ : sm_S} {y0 : Int32} (h : mp_X7_holds_79 K σ y0) : mp_X7_holds_79 K' σ y0 := by
  unfold mp_X7_holds_79 at h ⊢
  exact ⟨h.1, hK _ _ h.2⟩
theorem mo_X7_holds_68 {K K' : Int32 → sm_S → Prop} (hK : ∀ r s, K r s → K' r s) {σ : sm_S} {y0 : Int32} (h : mp_X7_holds_68 K σ y0) : mp_X7_holds_68 K' σ y0 := by
  unfold mp_X7_holds_68 at h ⊢
  exact ⟨h.1, hK _ _ h.2⟩
theorem mo_X7_holds_57 {K K' : Int32 → sm_S → Prop} (hK : ∀ r s, K r s → K' r s) {σ : sm_S} {y0 : Int32} (h : mp_X7_holds_57 K σ y0) : mp_X7_holds_57 K' σ y0 := by
  unfold mp_X7_holds_57 at h ⊢
  exact ⟨h.1, hK _ _ h.2⟩
theorem mo_X7_holds_46 {K K' : Int32 → sm_S → Prop} (hK : ∀ r s, K r s → K' r s) {σ : sm_S} {y0 : Int32} (h : mp_X7_holds_46 K σ y0) : mp_X7_holds_46 K' σ y0 := by
  unfold mp_X7_holds_46 at h ⊢
  exact ⟨h.1, hK _ _ h.2⟩
theorem mo_X7_holds {σ : sm_S} {p1 : Int32} {p2 : Int32} {p3 : Int32} {K K' : Int32 → sm_S → Prop} (hK : ∀ r s, K r s → K' r s) (h : mp_X7_holds σ p1 p2 p3 K) : mp_X7_holds σ p1 p2 p3 K' := by
  unfold mp_X7_holds at h ⊢
  exact ⟨fun h1 => ⟨fun h2 => mo_X7_holds_46 hK ((h.1 h1).1 h2), fun h3 => mo_X7_holds_46 hK ((h.1 h1).2 h3)⟩, fun h4 => ⟨fun h5 => mo_X7_holds_57 hK ((h.2.1 h4).1 h5), fun h6 => mo_X7_holds_57 hK ((h.2.1 h4).2 h6)⟩, fun h7 => ⟨fun h8 => mo_X7_holds_68 hK ((h.2.2.1 h7).1 h8), fun h9 => mo_X7_holds_68 hK ((h.2.2.1 h7).2 h9)⟩, fun h10 => ⟨fun h11 => mo_X7_holds_79 hK ((h.2.2.2.1 h10).1 h11), fun h12 => mo_X7_holds_79 hK ((h.2.2.2.1 h10).2 h12)⟩, fun h13 => ⟨fun h14 => mo_X7_holds_90 hK ((h.2.2.2.2.1 h13).1 h14), fun h15 => mo_X7_holds_90 hK ((h.2.2.2.2.1 h13).2 h15)⟩, fun h16 h17 h18 h19 h20 => ⟨fun h21 => mo_X7_holds_101 hK ((h.2.2.2.2.2 h16 h17 h18 h19 h20).1 h21), fun h22 => mo_X7_holds_101 hK ((h.2.2.2.2.2 h16 h17 h18 h19 h20).2 h22)⟩⟩
theorem mo_X7_operand {σ : sm_S} {p1 : Int32} {K K' : Int32 → sm_S → Prop} (hK : ∀ r s, K r s → K' r s) (h : mp_X7_operand σ p1 K) : mp_X7_operand σ p1 K' := by
  unfold mp_X7_operand at h ⊢
  exact ⟨h.1, mo_X2_at (fun r3 σ2 h3 => hK _ _ h3) h.2⟩
theorem mo_X7_pop {σ : sm_S}  {K K' : Int64 → sm_S → Prop} (hK : ∀ r s, K r s → K' r s) (h : mp_X7_pop σ  K) : mp_X7_pop σ  K' := by
  unfold mp_X7_pop at h ⊢
  exact fun σ1 e2 => mo_X7_slot (fun r3 σ2 h3 => mo_X1_look (fun r5 σ4 h4 => hK _ _ h4) h3) (h σ1 e2)
theorem mo_X7_jump_205 {K K' : Int32 → sm_S → Prop} (hK : ∀ r s, K r s → K' r s) {σ : sm_S} (h : mp_X7_jump_205 K σ) : mp_X7_jump_205 K' σ := by
  unfold mp_X7_jump_205 at h ⊢
  exact hK _ _ h
theorem mo_X7_jump_166 {K K' : Int32 → sm_S → Prop} (hK : ∀ r s, K r s → K' r s) {σ : sm_S} {x2 : Int32} (h : mp_X7_jump_166 K σ x2) : mp_X7_jump_166 K' σ x2 := by
  unfold mp_X7_jump_166 at h ⊢
  exact ⟨fun h1 => mo_X7_jump_205 hK (h.1 h1), fun h2 => ⟨(h.2 h2).1, mo_X2_jumpPlace (fun r4 σ3 h5 => mo_X2_pair (fun r6 σ5 h6 => fun σ7 e8 => mo_X7_jump_205 hK (h6 σ7 e8)) h5) (h.2 h2).2⟩⟩
theorem mo_X7_jump_160 {K K' : Int32 → sm_S → Prop} (hK : ∀ r s, K r s → K' r s) {σ : sm_S} {y0 : Int32} (h : mp_X7_jump_160 K σ y0) : mp_X7_jump_160 K' σ y0 := by
  unfold mp_X7_jump_160 at h ⊢
  exact mo_X7_jump_166 hK h
theorem mo_X7_jump_139 {K K' : Int32 → sm_S → Prop} (hK : ∀ r s, K r s → K' r s) {σ : sm_S} {y0 : Int32} (h : mp_X7_jump_139 K σ y0) : mp_X7_jump_139 K' σ y0 := by
  unfold mp_X7_jump_139 at h ⊢
  exact mo_X7_jump_166 hK h
theorem mo_X7_jump_118 {K K' : Int32 → sm_S → Prop} (hK : ∀ r s, K r s → K' r s) {σ : sm_S} {y0 : Int32} (h : mp_X7_jump_118 K σ y0) : mp_X7_jump_118 K' σ y0 := by
  unfold mp_X7_jump_118 at h ⊢
  exact mo_X7_jump_166 hK h
theorem mo_X7_jump_98 {K K' : Int32 → sm_S → Prop} (hK : ∀ r s, K r s → K' r s) {σ : sm_S} {y0 : Int32} (h : mp_X7_jump_98 K σ y0) : mp_X7_jump_98 K' σ y0 := by
  unfold mp_X7_jump_98 at h ⊢
  exact mo_X7_jump_166 hK h
theorem mo_X7_jump {σ : sm_S} {p1 : Int32} {K K' : Int32 → sm_S → Prop} (hK : ∀ r s, K r s → K' r s) (h : mp_X7_jump σ p1 K) : mp_X7_jump σ p1 K' := by
  unfold mp_X7_jump at h ⊢
  exact ⟨fun h1 => mo_X7_operand (fun r10 σ9 h2 => mo_X7_pop (fun r12 σ11 h3 => mo_X7_holds (fun r14 σ13 h4 => mo_X7_jump_166 hK h4) h3) h2) (h.1 h1), fun h5 => mo_X7_pop (fun r17 σ16 h6 => mo_X7_operand (fun r19 σ18 h7 => mo_X7_pop (fun r21 σ20 h8 => mo_X7_holds (fun r23 σ22 h9 => mo_X7_jump_166 hK h9) h8) h7) h6) (h.2.1 h5), fun h10 => mo_X7_pop (fun r26 σ25 h11 => ⟨fun h12 => mo_X7_jump_98 hK (h11.1 h12), fun h13 => mo_X7_jump_98 hK (h11.2 h13)⟩) (h.2.2.1 h10), fun h14 => mo_X7_pop (fun r30 σ29 h15 => ⟨fun h16 => mo_X7_jump_118 hK (h15.1 h16), fun h17 => mo_X7_jump_118 hK (h15.2 h17)⟩) (h.2.2.2.1 h14), fun h18 => mo_X7_pop (fun r34 σ33 h19 => mo_X7_pop (fun r36 σ35 h20 => ⟨fun h21 => mo_X7_jump_139 hK (h20.1 h21), fun h22 => mo_X7_jump_139 hK (h20.2 h22)⟩) h19) (h.2.2.2.2.1 h18), fun h23 => mo_X7_pop (fun r40 σ39 h24 => mo_X7_pop (fun r42 σ41 h25 => ⟨fun h26 => mo_X7_jump_160 hK (h25.1 h26), fun h27 => mo_X7_jump_160 hK (h25.2 h27)⟩) h24) (h.2.2.2.2.2.1 h23), fun h28 h29 h30 h31 h32 h33 => mo_X7_jump_166 hK (h.2.2.2.2.2.2 h28 h29 h30 h31 h32 h33)⟩
theorem mo_X7_below {σ : sm_S} {p1 : Int32} {K K' : Int64 → sm_S → Prop} (hK : ∀ r s, K r s → K' r s) (h : mp_X7_below σ p1 K) : mp_X7_below σ p1 K' := by
  unfold mp_X7_below at h ⊢
  exact mo_X7_slot (fun r2 σ1 h1 => mo_X1_look (fun r4 σ3 h2 => hK _ _ h2) h1) h
theorem mo_X7_push {σ : sm_S} {p1 : Int64} {K K' : Int32 → sm_S → Prop} (hK : ∀ r s, K r s → K' r s) (h : mp_X7_push σ p1 K) : mp_X7_push σ p1 K' := by
  unfold mp_X7_push at h ⊢
  exact mo_X7_slot (fun r2 σ1 h1 => mo_X1_put (fun σ3 h2 => fun σ4 e4 => hK _ _ (h2 σ4 e4)) h1) h
theorem mo_X7_giveBack_27 {K K' : sm_S → Prop} (hK : ∀ s, K s → K' s) {σ : sm_S} (h : mp_X7_giveBack_27 K σ) : mp_X7_giveBack_27 K' σ := by
  unfold mp_X7_giveBack_27 at h ⊢
  exact mo_X7_operand (fun r2 σ1 h1 => ⟨h1.1, mo_X1_put (fun σ4 h4 => mo_X1_put (fun σ5 h5 => hK _ h5) h4) h1.2⟩) h
theorem mo_X7_giveBack {σ : sm_S} {p1 : Int32} {p2 : Int64} {K K' : sm_S → Prop} (hK : ∀ s, K s → K' s) (h : mp_X7_giveBack σ p1 p2 K) : mp_X7_giveBack σ p1 p2 K' := by
  unfold mp_X7_giveBack at h ⊢
  exact mo_X7_leaveTop (fun r7 σ6 h1 => ⟨fun h2 => mo_X7_loadTop (fun σ9 h3 => ⟨fun h4 => mo_X7_giveBack_27 hK (h3.1 h4), fun h5 => mo_X7_push (fun r12 σ11 h6 => mo_X7_giveBack_27 hK h6) (h3.2 h5)⟩) (h1.1 h2), fun h7 => fun σ13 e9 => hK _ ((h1.2 h7) σ13 e9)⟩) h
theorem mo_X7_pushInt {σ : sm_S} {p1 : Int32} {K K' : Int32 → sm_S → Prop} (hK : ∀ r s, K r s → K' r s) (h : mp_X7_pushInt σ p1 K) : mp_X7_pushInt σ p1 K' := by
  unfold mp_X7_pushInt at h ⊢
  exact mo_X1_cell (fun r2 σ1 h1 => mo_X7_push (fun r4 σ3 h2 => hK _ _ h2) h1) h
theorem mo_X7_leaveOrPort_83 {K K' : Int32 → sm_S → Prop} (hK : ∀ r s, K r s → K' r s) {σ : sm_S} {y0 : Int32} (h : mp_X7_leaveOrPort_83 K σ y0) : mp_X7_leaveOrPort_83 K' σ y0 := by
  unfold mp_X7_leaveOrPort_83 at h ⊢
  exact hK _ _ h
theorem mo_X7_leaveOrPort {σ : sm_S} {p1 : Int32} {K K' : Int32 → sm_S → Prop} (hK : ∀ r s, K r s → K' r s) (h : mp_X7_leaveOrPort σ p1 K) : mp_X7_leaveOrPort σ p1 K' := by
  unfold mp_X7_leaveOrPort at h ⊢
  exact ⟨fun h1 => mo_X7_giveBack (fun σ2 h2 => hK _ _ h2) (h.1 h1), fun h3 => mo_X7_below (fun r5 σ4 h4 => mo_X7_giveBack (fun σ6 h5 => hK _ _ h5) h4) (h.2.1 h3), fun h6 => mo_X7_below (fun r9 σ8 h7 => fun σ10 e9 => ⟨fun h10 => mo_X7_leaveOrPort_83 hK ((h7 σ10 e9).1 h10), fun h11 => mo_X7_leaveOrPort_83 hK ((h7 σ10 e9).2 h11)⟩) (h.2.2.1 h6), fun h12 => mo_X5_take (fun r14 σ13 h13 => mo_X7_pushInt (fun r16 σ15 h14 => hK _ _ h14) h13) (h.2.2.2.1 h12), fun h15 h16 h17 h18 => mo_X7_pop (fun r18 σ17 h19 => mo_X5_give (fun σ19 h20 => hK _ _ h20) h19) (h.2.2.2.2 h15 h16 h17 h18)⟩
theorem mo_X7_moveValues {σ : sm_S} {p1 : Int32} {K K' : Int32 → sm_S → Prop} (hK : ∀ r s, K r s → K' r s) (h : mp_X7_moveValues σ p1 K) : mp_X7_moveValues σ p1 K' := by
  unfold mp_X7_moveValues at h ⊢
  exact mo_X7_operand (fun r2 σ1 h1 => fun v3 e3 => ⟨fun h4 => ⟨((h1 v3 e3).1 h4).1, mo_X2_four (fun r7 σ6 h7 => mo_X7_pushInt (fun r9 σ8 h8 => hK _ _ h8) h7) ((h1 v3 e3).1 h4).2⟩, fun h9 => mo_X7_push (fun r12 σ11 h10 => hK _ _ h10) ((h1 v3 e3).2.1 h9), fun h11 => mo_X1_look (fun r15 σ14 h12 => mo_X7_push (fun r17 σ16 h13 => hK _ _ h13) h12) ((h1 v3 e3).2.2.1 h11), fun h14 => mo_X7_pop (fun r20 σ19 h15 => mo_X1_put (fun σ21 h16 => hK _ _ h16) h15) ((h1 v3 e3).2.2.2.1 h14), fun h17 => fun σ23 e19 => hK _ _ (((h1 v3 e3).2.2.2.2.1 h17) σ23 e19), fun h20 => mo_X7_below (fun r26 σ25 h21 => mo_X7_push (fun r28 σ27 h22 => hK _ _ h22) h21) ((h1 v3 e3).2.2.2.2.2.1 h20), fun h23 h24 h25 h26 h27 h28 => mo_X7_pop (fun r30 σ29 h29 => mo_X7_pop (fun r32 σ31 h30 => mo_X7_push (fun r34 σ33 h31 => mo_X7_push (fun r36 σ35 h32 => hK _ _ h32) h31) h30) h29) ((h1 v3 e3).2.2.2.2.2.2 h23 h24 h25 h26 h27 h28)⟩) h
theorem mo_X7_makeObject_103 {K K' : Int32 → sm_S → Prop} (hK : ∀ r s, K r s → K' r s) {σ : sm_S} {x3 : Int32} (h : mp_X7_makeObject_103 K σ x3) : mp_X7_makeObject_103 K' σ x3 := by
  unfold mp_X7_makeObject_103 at h ⊢
  exact hK _ _ h
theorem mo_X7_makeObject_94 {L41 L41' : sm_S → Int32 → Int32 → Int32 → Int32 → Prop} (hL41 : ∀ z0 z1 z2 z3 z4, L41 z0 z1 z2 z3 z4 → L41' z0 z1 z2 z3 z4) {K K' : Int32 → sm_S → Prop} (hK : ∀ r s, K r s → K' r s) {σ : sm_S} {x1 : Int32} {x2 : Int32} {x3 : Int32} {x4 : Int32} {y1 : Int32} {y2 : Int64} (h : mp_X7_makeObject_94 L41 K σ x1 x2 x3 x4 y1 y2) : mp_X7_makeObject_94 L41' K' σ x1 x2 x3 x4 y1 y2 := by
  unfold mp_X7_makeObject_94 at h ⊢
  exact mo_X1_put (fun σ1 h1 => fun v2 e3 => hL41 _ _ _ _ _ (h1 v2 e3)) h
theorem mo_X7_makeObject_70 {L41 L41' : sm_S → Int32 → Int32 → Int32 → Int32 → Prop} (hL41 : ∀ z0 z1 z2 z3 z4, L41 z0 z1 z2 z3 z4 → L41' z0 z1 z2 z3 z4) {K K' : Int32 → sm_S → Prop} (hK : ∀ r s, K r s → K' r s) {σ : sm_S} {x1 : Int32} {x2 : Int32} {x3 : Int32} {x4 : Int32} {y0 : Int32} (h : mp_X7_makeObject_70 L41 K σ x1 x2 x3 x4 y0) : mp_X7_makeObject_70 L41' K' σ x1 x2 x3 x4 y0 := by
  unfold mp_X7_makeObject_70 at h ⊢
  exact ⟨fun h1 => mo_X7_makeObject_94 hL41 hK (h.1 h1), fun h2 => mo_X7_makeObject_94 hL41 hK (h.2 h2)⟩
theorem mo_X7_makeObject_41 {K K' : Int32 → sm_S → Prop} (hK : ∀ r s, K r s → K' r s) {n41 : Nat} {σ : sm_S} {x1 : Int32} {x2 : Int32} {x3 : Int32} {x4 : Int32} (h : mp_X7_makeObject_41 K n41 σ x1 x2 x3 x4) : mp_X7_makeObject_41 K' n41 σ x1 x2 x3 x4 := by
  suffices g : ∀ (σ : sm_S) (x1 : Int32) (x2 : Int32) (x3 : Int32) (x4 : Int32), mp_X7_makeObject_41 K n41 σ x1 x2 x3 x4 → mp_X7_makeObject_41 K' n41 σ x1 x2 x3 x4 from g _ _ _ _ _ h
  clear h
  induction n41 with
  | zero => exact fun _ _ _ _ _ h => h.elim
  | succ n41 ih41 =>
    intro σ x1 x2 x3 x4 h
    unfold mp_X7_makeObject_41 at h ⊢
    exact ⟨fun h1 => mo_X7_makeObject_103 hK (h.1 h1), fun h2 => ⟨(h.2 h2).1, ⟨fun h5 => mo_X7_makeObject_70 ih41 hK ((h.2 h2).2.1 h5), fun h6 => mo_X7_makeObject_70 ih41 hK ((h.2 h2).2.2 h6)⟩⟩⟩
theorem mo_X7_makeObject {σ : sm_S} {p1 : Int32} {K K' : Int32 → sm_S → Prop} (hK : ∀ r s, K r s → K' r s) (h : mp_X7_makeObject σ p1 K) : mp_X7_makeObject σ p1 K' := by
  unfold mp_X7_makeObject at h ⊢
  exact ⟨h.1, fun v8 e4 => mo_X1_make (fun r10 σ9 h5 => ⟨fun h6 => mo_X7_makeObject_103 hK (h5.1 h6), fun h7 => mo_X1_cell (fun r13 σ12 h8 => mo_X1_put (fun σ14 h9 => h9.elim (fun n41 h10 => ⟨n41, mo_X7_makeObject_41 hK h10⟩)) h8) (h5.2 h7)⟩) (h.2 v8 e4)⟩
theorem mo_X7_raise_33 {K K' : Int32 → sm_S → Prop} (hK : ∀ r s, K r s → K' r s) {σ : sm_S} {y0 : Int32} (h : mp_X7_raise_33 K σ y0) : mp_X7_raise_33 K' σ y0 := by
  unfold mp_X7_raise_33 at h ⊢
  exact hK _ _ h
theorem mo_X7_raise {σ : sm_S} {p1 : Int32} {K K' : Int32 → sm_S → Prop} (hK : ∀ r s, K r s → K' r s) (h : mp_X7_raise σ p1 K) : mp_X7_raise σ p1 K' := by
  unfold mp_X7_raise at h ⊢
  exact ⟨h.1, mo_X7_makeObject (fun r3 σ2 h3 => fun σ4 e5 => ⟨fun h6 => mo_X7_raise_33 hK ((h3 σ4 e5).1 h6), fun h7 => mo_X7_raise_33 hK ((h3 σ4 e5).2 h7)⟩) h.2⟩
theorem mo_X7_combine {σ : sm_S} {p1 : Int32} {p2 : Int32} {p3 : Int32} {K K' : Int32 → sm_S → Prop} (hK : ∀ r s, K r s → K' r s) (h : mp_X7_combine σ p1 p2 p3 K) : mp_X7_combine σ p1 p2 p3 K' := by
  unfold mp_X7_combine at h ⊢
  exact ⟨fun h1 => hK _ _ (h.1 h1), fun h2 => hK _ _ (h.2.1 h2), fun h3 => hK _ _ (h.2.2.1 h3), fun h4 => hK _ _ (h.2.2.2.1 h4), fun h5 => hK _ _ (h.2.2.2.2.1 h5), fun h6 => hK _ _ (h.2.2.2.2.2.1 h6), fun h7 => hK _ _ (h.2.2.2.2.2.2.1 h7), fun h8 => hK _ _ (h.2.2.2.2.2.2.2.1 h8), fun h9 => hK _ _ (h.2.2.2.2.2.2.2.2.1 h9), fun h10 => hK _ _ (h.2.2.2.2.2.2.2.2.2.1 h10), fun h11 h12 h13 h14 h15 h16 h17 h18 h19 h20 => hK _ _ (h.2.2.2.2.2.2.2.2.2.2 h11 h12 h13 h14 h15 h16 h17 h18 h19 h20)⟩
theorem mo_X7_reckon_96 {K K' : Int32 → sm_S → Prop} (hK : ∀ r s, K r s → K' r s) {σ : sm_S} {y1 : Int32} (h : mp_X7_reckon_96 K σ y1) : mp_X7_reckon_96 K' σ y1 := by
  unfold mp_X7_reckon_96 at h ⊢
  exact mo_X7_pushInt (fun r2 σ1 h1 => hK _ _ h1) h
theorem mo_X7_reckon_48 {K K' : Int32 → sm_S → Prop} (hK : ∀ r s, K r s → K' r s) {σ : sm_S} {x1 : Int32} {x2 : Int32} (h : mp_X7_reckon_48 K σ x1 x2) : mp_X7_reckon_48 K' σ x1 x2 := by
  unfold mp_X7_reckon_48 at h ⊢
  exact mo_X7_below (fun r4 σ3 h1 => fun σ5 e3 => ⟨fun h4 => ⟨fun h5 => mo_X7_combine (fun r9 σ8 h6 => mo_X7_reckon_96 hK h6) (((h1 σ5 e3).1 h4).1 h5), fun h7 => ⟨(((h1 σ5 e3).1 h4).2 h7).1, mo_X7_reckon_96 hK (((h1 σ5 e3).1 h4).2 h7).2⟩⟩, fun h10 => ⟨((h1 σ5 e3).2 h10).1, mo_X7_reckon_96 hK ((h1 σ5 e3).2 h10).2⟩⟩) h
theorem mo_X7_reckon_42 {K K' : Int32 → sm_S → Prop} (hK : ∀ r s, K r s → K' r s) {σ : sm_S} {x1 : Int32} {x2 : Int32} (h : mp_X7_reckon_42 K σ x1 x2) : mp_X7_reckon_42 K' σ x1 x2 := by
  unfold mp_X7_reckon_42 at h ⊢
  exact ⟨fun h1 => mo_X7_reckon_48 hK (h.1 h1), fun h2 => hK _ _ (h.2 h2)⟩
theorem mo_X7_reckon {σ : sm_S} {p1 : Int32} {K K' : Int32 → sm_S → Prop} (hK : ∀ r s, K r s → K' r s) (h : mp_X7_reckon σ p1 K) : mp_X7_reckon σ p1 K' := by
  unfold mp_X7_reckon at h ⊢
  exact mo_X7_below (fun r14 σ13 h1 => ⟨fun h2 => ⟨fun h3 => mo_X7_reckon_42 hK ((h1.1 h2).1 h3), fun h4 => ⟨fun h5 => mo_X7_reckon_48 hK (((h1.1 h2).2 h4).1 h5), fun h6 => mo_X7_reckon_42 hK (((h1.1 h2).2 h4).2 h6)⟩⟩, fun h7 => fun σ18 e9 => mo_X7_pushInt (fun r20 σ19 h10 => hK _ _ h10) ((h1.2 h7) σ18 e9)⟩) h
theorem mo_X7_send {σ : sm_S}  {K K' : Int32 → sm_S → Prop} (hK : ∀ r s, K r s → K' r s) (h : mp_X7_send σ  K) : mp_X7_send σ  K' := by
  unfold mp_X7_send at h ⊢
  exact mo_X7_operand (fun r2 σ1 h1 => mo_X7_operand (fun r4 σ3 h2 => ⟨h2.1, fun v6 e6 => ⟨(h2.2 v6 e6).1, mo_X7_below (fun r9 σ8 h9 => ⟨fun h10 => mo_X1_look (fun r12 σ11 h11 => ⟨h11.1, mo_X7_enter (fun r15 σ14 h14 => hK _ _ h14) h11.2⟩) (h9.1 h10), fun h15 => hK _ _ (h9.2 h15)⟩) (h2.2 v6 e6).2⟩⟩) h1) h
theorem mo_X7_isA_43 {K K' : Int32 → sm_S → Prop} (hK : ∀ r s, K r s → K' r s) {σ : sm_S} {y0 : Int32} (h : mp_X7_isA_43 K σ y0) : mp_X7_isA_43 K' σ y0 := by
  unfold mp_X7_isA_43 at h ⊢
  exact ⟨h.1, hK _ _ h.2⟩
theorem mo_X7_isA_42 {K K' : Int32 → sm_S → Prop} (hK : ∀ r s, K r s → K' r s) {σ : sm_S} (h : mp_X7_isA_42 K σ) : mp_X7_isA_42 K' σ := by
  unfold mp_X7_isA_42 at h ⊢
  exact mo_X7_isA_43 hK h
theorem mo_X7_isA_16 {K K' : Int32 → sm_S → Prop} (hK : ∀ r s, K r s → K' r s) {σ : sm_S} {x2 : Int32} {y0 : Int64} (h : mp_X7_isA_16 K σ x2 y0) : mp_X7_isA_16 K' σ x2 y0 := by
  unfold mp_X7_isA_16 at h ⊢
  exact mo_X1_kind (fun r3 σ2 h1 => ⟨fun h2 => mo_X7_isA_42 hK (h1.1 h2), fun h3 => mo_X0_isOrBelow (fun r6 σ5 h4 => ⟨fun h5 => mo_X7_isA_42 hK (h4.1 h5), fun h6 => mo_X7_isA_43 hK (h4.2 h6)⟩) (h1.2 h3)⟩) h
theorem mo_X7_isA {σ : sm_S} {p1 : Int32} {p2 : Int32} {K K' : Int32 → sm_S → Prop} (hK : ∀ r s, K r s → K' r s) (h : mp_X7_isA σ p1 p2 K) : mp_X7_isA σ p1 p2 K' := by
  unfold mp_X7_isA at h ⊢
  exact ⟨fun h1 => mo_X1_look (fun r10 σ9 h2 => mo_X7_isA_16 hK h2) (h.1 h1), fun h3 => mo_X7_isA_16 hK (h.2 h3)⟩
theorem mo_X7_useObject_202 {K K' : Int32 → sm_S → Prop} (hK : ∀ r s, K r s → K' r s) {σ : sm_S} {y0 : Int32} (h : mp_X7_useObject_202 K σ y0) : mp_X7_useObject_202 K' σ y0 := by
  unfold mp_X7_useObject_202 at h ⊢
  exact hK _ _ h
theorem mo_X7_useObject_197 {K K' : Int32 → sm_S → Prop} (hK : ∀ r s, K r s → K' r s) {σ : sm_S} (h : mp_X7_useObject_197 K σ) : mp_X7_useObject_197 K' σ := by
  unfold mp_X7_useObject_197 at h ⊢
  exact mo_X7_useObject_202 hK h
theorem mo_X7_useObject_176 {K K' : Int32 → sm_S → Prop} (hK : ∀ r s, K r s → K' r s) {σ : sm_S} {y1 : Int32} (h : mp_X7_useObject_176 K σ y1) : mp_X7_useObject_176 K' σ y1 := by
  unfold mp_X7_useObject_176 at h ⊢
  exact mo_X7_pushInt (fun r2 σ1 h1 => hK _ _ h1) h
theorem mo_X7_useObject_47 {K K' : Int32 → sm_S → Prop} (hK : ∀ r s, K r s → K' r s) {σ : sm_S} {x1 : Int32} {y1 : Int32} (h : mp_X7_useObject_47 K σ x1 y1) : mp_X7_useObject_47 K' σ x1 y1 := by
  unfold mp_X7_useObject_47 at h ⊢
  exact mo_X7_below (fun r4 σ3 h1 => mo_X7_operand (fun r6 σ5 h2 => fun v7 e4 => ⟨fun h5 => ⟨fun h6 => fun σ10 e8 => mo_X1_read (fun r12 σ11 h9 => mo_X7_push (fun r14 σ13 h10 => hK _ _ h10) h9) ((((h2 v7 e4).1 h5).1 h6) σ10 e8), fun h11 => hK _ _ (((h2 v7 e4).1 h5).2 h11)⟩, fun h12 => ⟨fun h13 => mo_X7_pop (fun r18 σ17 h14 => mo_X1_change (fun σ19 h15 => fun σ20 e17 => hK _ _ (h15 σ20 e17)) h14) (((h2 v7 e4).2.1 h12).1 h13), fun h18 => hK _ _ (((h2 v7 e4).2.1 h12).2 h18)⟩, fun h19 => fun σ22 e21 => mo_X7_operand (fun r24 σ23 h22 => mo_X7_isA (fun r26 σ25 h23 => ⟨fun h24 => mo_X7_useObject_176 hK (h23.1 h24), fun h25 => mo_X7_useObject_176 hK (h23.2 h25)⟩) h22) (((h2 v7 e4).2.2.1 h19) σ22 e21), fun h26 h27 h28 => ⟨fun h29 => mo_X7_useObject_197 hK (((h2 v7 e4).2.2.2 h26 h27 h28).1 h29), fun h30 => mo_X7_operand (fun r30 σ29 h31 => mo_X7_isA (fun r32 σ31 h32 => ⟨fun h33 => mo_X7_useObject_202 hK (h32.1 h33), fun h34 => mo_X7_useObject_197 hK (h32.2 h34)⟩) h31) (((h2 v7 e4).2.2.2 h26 h27 h28).2 h30)⟩⟩) h1) h
theorem mo_X7_useObject_34 {K K' : Int32 → sm_S → Prop} (hK : ∀ r s, K r s → K' r s) {σ : sm_S} {y0 : Int32} (h : mp_X7_useObject_34 K σ y0) : mp_X7_useObject_34 K' σ y0 := by
  unfold mp_X7_useObject_34 at h ⊢
  exact hK _ _ h
theorem mo_X7_useObject {σ : sm_S} {p1 : Int32} {K K' : Int32 → sm_S → Prop} (hK : ∀ r s, K r s → K' r s) (h : mp_X7_useObject σ p1 K) : mp_X7_useObject σ p1 K' := by
  unfold mp_X7_useObject at h ⊢
  exact ⟨fun h1 => ⟨fun h2 => mo_X7_useObject_47 hK ((h.1 h1).1 h2), fun h3 => mo_X7_useObject_47 hK ((h.1 h1).2 h3)⟩, fun h4 => mo_X7_operand (fun r37 σ36 h5 => mo_X7_makeObject (fun r39 σ38 h6 => ⟨fun h7 => mo_X1_cell (fun r42 σ41 h8 => mo_X7_push (fun r44 σ43 h9 => mo_X7_useObject_34 hK h9) h8) (h6.1 h7), fun h10 => mo_X7_useObject_34 hK (h6.2 h10)⟩) h5) (h.2 h4)⟩
theorem mo_X7_find_26 {K K' : Int32 → sm_S → Prop} (hK : ∀ r s, K r s → K' r s) {n26 : Nat} {σ : sm_S} {x3 : Int32} {x4 : Int32} {x5 : Int32} (h : mp_X7_find_26 K n26 σ x3 x4 x5) : mp_X7_find_26 K' n26 σ x3 x4 x5 := by
  suffices g : ∀ (σ : sm_S) (x3 : Int32) (x4 : Int32) (x5 : Int32), mp_X7_find_26 K n26 σ x3 x4 x5 → mp_X7_find_26 K' n26 σ x3 x4 x5 from g _ _ _ _ h
  clear h
  induction n26 with
  | zero => exact fun _ _ _ _ h => h.elim
  | succ n26 ih26 =>
    intro σ x3 x4 x5 h
    unfold mp_X7_find_26 at h ⊢
    exact ⟨fun h1 => hK _ _ (h.1 h1), fun h2 => ⟨(h.2 h2).1, fun v2 e6 => mo_X1_read (fun r4 σ3 h7 => ⟨fun h8 => ⟨(h7.1 h8).1, fun v6 e12 => fun v7 e14 => ih26 _ _ _ _ (((h7.1 h8).2 v6 e12) v7 e14)⟩, fun h15 => fun σ9 e17 => hK _ _ ((h7.2 h15) σ9 e17)⟩) ((h.2 h2).2 v2 e6)⟩⟩
theorem mo_X7_find {σ : sm_S} {p1 : Int32} {p2 : Int32} {K K' : Int32 → sm_S → Prop} (hK : ∀ r s, K r s → K' r s) (h : mp_X7_find σ p1 p2 K) : mp_X7_find σ p1 p2 K' := by
  unfold mp_X7_find at h ⊢
  exact fun σ11 e2 => mo_X1_look (fun r13 σ12 h3 => mo_X1_rowLength (fun r15 σ14 h4 => mo_X1_span (fun r17 σ16 h5 => h5.elim (fun n26 h6 => ⟨n26, mo_X7_find_26 hK h6⟩)) h4) h3) (h σ11 e2)
theorem mo_X7_fetch_61 {K K' : Int32 → sm_S → Prop} (hK : ∀ r s, K r s → K' r s) {σ : sm_S} {y1 : Int64} (h : mp_X7_fetch_61 K σ y1) : mp_X7_fetch_61 K' σ y1 := by
  unfold mp_X7_fetch_61 at h ⊢
  exact mo_X7_push (fun r2 σ1 h1 => hK _ _ h1) h
theorem mo_X7_fetch_28 {K K' : Int32 → sm_S → Prop} (hK : ∀ r s, K r s → K' r s) {σ : sm_S} {x3 : Int32} {y0 : Int64} (h : mp_X7_fetch_28 K σ x3 y0) : mp_X7_fetch_28 K' σ x3 y0 := by
  unfold mp_X7_fetch_28 at h ⊢
  exact fun σ3 e2 => ⟨fun h3 => mo_X7_fetch_61 hK ((h σ3 e2).1 h3), fun h4 => mo_X1_read (fun r6 σ5 h5 => mo_X7_fetch_61 hK h5) ((h σ3 e2).2 h4)⟩
theorem mo_X7_fetch {σ : sm_S} {p1 : Int32} {p2 : Int32} {K K' : Int32 → sm_S → Prop} (hK : ∀ r s, K r s → K' r s) (h : mp_X7_fetch σ p1 p2 K) : mp_X7_fetch σ p1 p2 K' := by
  unfold mp_X7_fetch at h ⊢
  exact mo_X7_find (fun r8 σ7 h1 => mo_X1_look (fun r10 σ9 h2 => mo_X1_rowItem (fun r12 σ11 h3 => ⟨fun h4 => mo_X7_fetch_28 hK (h3.1 h4), fun h5 => mo_X7_fetch_28 hK (h3.2 h5)⟩) h2) h1) h
theorem mo_X7_fill_12 {K K' : sm_S → Prop} (hK : ∀ s, K s → K' s) {n12 : Nat} {σ : sm_S} {x1 : Int32} {x4 : Int64} {x6 : Int32} (h : mp_X7_fill_12 K n12 σ x1 x4 x6) : mp_X7_fill_12 K' n12 σ x1 x4 x6 := by
  suffices g : ∀ (σ : sm_S) (x1 : Int32) (x4 : Int64) (x6 : Int32), mp_X7_fill_12 K n12 σ x1 x4 x6 → mp_X7_fill_12 K' n12 σ x1 x4 x6 from g _ _ _ _ h
  clear h
  induction n12 with
  | zero => exact fun _ _ _ _ h => h.elim
  | succ n12 ih12 =>
    intro σ x1 x4 x6 h
    unfold mp_X7_fill_12 at h ⊢
    exact ⟨fun h1 => hK _ (h.1 h1), fun h2 => mo_X1_put (fun σ2 h3 => fun v3 e5 => ih12 _ _ _ _ (h3 v3 e5)) (h.2 h2)⟩
theorem mo_X7_fill {σ : sm_S} {p1 : Int32} {p2 : Int64} {p3 : Int64} {K K' : sm_S → Prop} (hK : ∀ s, K s → K' s) (h : mp_X7_fill σ p1 p2 p3 K) : mp_X7_fill σ p1 p2 p3 K' := by
  unfold mp_X7_fill at h ⊢
  exact mo_X1_put (fun σ4 h1 => h1.elim (fun n12 h2 => ⟨n12, mo_X7_fill_12 hK h2⟩)) h
theorem mo_X7_makeRow_73 {K K' : Int32 → sm_S → Prop} (hK : ∀ r s, K r s → K' r s) {σ : sm_S} {x3 : Int32} {y1 : Int32} {y2 : Int64} {y3 : Int64} (h : mp_X7_makeRow_73 K σ x3 y1 y2 y3) : mp_X7_makeRow_73 K' σ x3 y1 y2 y3 := by
  unfold mp_X7_makeRow_73 at h ⊢
  exact mo_X7_fill (fun σ1 h1 => fun σ2 e3 => mo_X1_cell (fun r4 σ3 h4 => mo_X7_push (fun r6 σ5 h5 => hK _ _ h5) h4) (h1 σ2 e3)) h
theorem mo_X7_makeRow_47 {K K' : Int32 → sm_S → Prop} (hK : ∀ r s, K r s → K' r s) {σ : sm_S} {x1 : Int32} {x2 : Int32} {x3 : Int32} {y0 : Int32} (h : mp_X7_makeRow_47 K σ x1 x2 x3 y0) : mp_X7_makeRow_47 K' σ x1 x2 x3 y0 := by
  unfold mp_X7_makeRow_47 at h ⊢
  exact mo_X1_cell (fun r8 σ7 h1 => ⟨fun h2 => mo_X7_makeRow_73 hK (h1.1 h2), fun h3 => mo_X7_makeRow_73 hK (h1.2 h3)⟩) h
theorem mo_X7_makeRow_46 {K K' : Int32 → sm_S → Prop} (hK : ∀ r s, K r s → K' r s) {σ : sm_S} {x1 : Int32} {x2 : Int32} {x3 : Int32} (h : mp_X7_makeRow_46 K σ x1 x2 x3) : mp_X7_makeRow_46 K' σ x1 x2 x3 := by
  unfold mp_X7_makeRow_46 at h ⊢
  exact mo_X7_makeRow_47 hK h
theorem mo_X7_makeRow_11 {K K' : Int32 → sm_S → Prop} (hK : ∀ r s, K r s → K' r s) {σ : sm_S} (h : mp_X7_makeRow_11 K σ) : mp_X7_makeRow_11 K' σ := by
  unfold mp_X7_makeRow_11 at h ⊢
  exact hK _ _ h
theorem mo_X7_makeRow {σ : sm_S} {p1 : Int32} {p2 : Int32} {K K' : Int32 → sm_S → Prop} (hK : ∀ r s, K r s → K' r s) (h : mp_X7_makeRow σ p1 p2 K) : mp_X7_makeRow σ p1 p2 K' := by
  unfold mp_X7_makeRow at h ⊢
  exact ⟨fun h1 => mo_X7_makeRow_11 hK (h.1 h1), fun h2 => ⟨fun h3 => mo_X1_make (fun r13 σ12 h4 => ⟨fun h5 => ⟨fun h6 => mo_X7_makeRow_46 hK ((h4.1 h5).1 h6), fun h7 => mo_X1_span (fun r17 σ16 h8 => ⟨fun h9 => mo_X7_makeRow_46 hK (h8.1 h9), fun h10 => mo_X7_makeRow_47 hK (h8.2 h10)⟩) ((h4.1 h5).2 h7)⟩, fun h11 => hK _ _ (h4.2 h11)⟩) ((h.2 h2).1 h3), fun h12 => mo_X7_makeRow_11 hK ((h.2 h2).2 h12)⟩⟩
theorem mo_X7_store_116 {K K' : Int32 → sm_S → Prop} (hK : ∀ r s, K r s → K' r s) {σ : sm_S} {x2 : Int32} {x4 : Int32} {x5 : Int32} {y1 : Int32} {y2 : Int64} {y3 : Int64} (h : mp_X7_store_116 K σ x2 x4 x5 y1 y2 y3) : mp_X7_store_116 K' σ x2 x4 x5 y1 y2 y3 := by
  unfold mp_X7_store_116 at h ⊢
  exact mo_X7_fill (fun σ1 h1 => mo_X7_find (fun r3 σ2 h2 => mo_X1_cell (fun r5 σ4 h3 => mo_X1_put (fun σ6 h4 => hK _ _ h4) h3) h2) h1) h
theorem mo_X7_store_94 {K K' : Int32 → sm_S → Prop} (hK : ∀ r s, K r s → K' r s) {σ : sm_S} {x2 : Int32} {x4 : Int32} {x5 : Int32} {y0 : Int32} (h : mp_X7_store_94 K σ x2 x4 x5 y0) : mp_X7_store_94 K' σ x2 x4 x5 y0 := by
  unfold mp_X7_store_94 at h ⊢
  exact mo_X1_cell (fun r8 σ7 h1 => ⟨fun h2 => mo_X7_store_116 hK (h1.1 h2), fun h3 => mo_X7_store_116 hK (h1.2 h3)⟩) h
theorem mo_X7_store_93 {K K' : Int32 → sm_S → Prop} (hK : ∀ r s, K r s → K' r s) {σ : sm_S} {x2 : Int32} {x4 : Int32} {x5 : Int32} (h : mp_X7_store_93 K σ x2 x4 x5) : mp_X7_store_93 K' σ x2 x4 x5 := by
  unfold mp_X7_store_93 at h ⊢
  exact mo_X7_store_94 hK h
theorem mo_X7_store {σ : sm_S} {p1 : Int32} {p2 : Int32} {K K' : Int32 → sm_S → Prop} (hK : ∀ r s, K r s → K' r s) (h : mp_X7_store σ p1 p2 K) : mp_X7_store σ p1 p2 K' := by
  unfold mp_X7_store at h ⊢
  exact mo_X7_find (fun r11 σ10 h1 => ⟨fun h2 => mo_X1_make (fun r14 σ13 h3 => ⟨fun h4 => mo_X7_below (fun r17 σ16 h5 => ⟨fun h6 => mo_X7_store_93 hK (h5.1 h6), fun h7 => mo_X1_look (fun r20 σ19 h8 => mo_X1_rowItem (fun r22 σ21 h9 => ⟨fun h10 => mo_X7_store_93 hK (h9.1 h10), fun h11 => mo_X7_store_94 hK (h9.2 h11)⟩) h8) (h5.2 h7)⟩) (h3.1 h4), fun h12 => hK _ _ (h3.2 h12)⟩) (h1.1 h2), fun h13 => mo_X7_pop (fun r25 σ24 h14 => mo_X1_change (fun σ26 h15 => fun σ27 e17 => hK _ _ (h15 σ27 e17)) h14) (h1.2 h13)⟩) h
theorem mo_X7_useRow_140 {K K' : Int32 → sm_S → Prop} (hK : ∀ r s, K r s → K' r s) {σ : sm_S} {y0 : Int32} (h : mp_X7_useRow_140 K σ y0) : mp_X7_useRow_140 K' σ y0 := by
  unfold mp_X7_useRow_140 at h ⊢
  exact hK _ _ h
theorem mo_X7_useRow_115 {K K' : Int32 → sm_S → Prop} (hK : ∀ r s, K r s → K' r s) {σ : sm_S} (h : mp_X7_useRow_115 K σ) : mp_X7_useRow_115 K' σ := by
  unfold mp_X7_useRow_115 at h ⊢
  exact hK _ _ h
theorem mo_X7_useRow_43 {K K' : Int32 → sm_S → Prop} (hK : ∀ r s, K r s → K' r s) {σ : sm_S} {x1 : Int32} {y0 : Int32} (h : mp_X7_useRow_43 K σ x1 y0) : mp_X7_useRow_43 K' σ x1 y0 := by
  unfold mp_X7_useRow_43 at h ⊢
  exact mo_X7_below (fun r2 σ1 h1 => ⟨fun h2 => mo_X1_look (fun r5 σ4 h3 => mo_X1_rowLength (fun r7 σ6 h4 => ⟨fun h5 => mo_X7_below (fun r10 σ9 h6 => ⟨fun h7 => mo_X7_useRow_115 hK (h6.1 h7), fun h8 => ⟨fun h9 => ⟨fun h10 => mo_X7_store (fun r15 σ14 h11 => mo_X7_useRow_140 hK h11) (((h6.2 h8).1 h9).1 h10), fun h12 => mo_X7_fetch (fun r17 σ16 h13 => mo_X7_useRow_140 hK h13) (((h6.2 h8).1 h9).2 h12)⟩, fun h14 => mo_X7_useRow_115 hK ((h6.2 h8).2 h14)⟩⟩) (h4.1 h5), fun h15 => fun σ18 e17 => mo_X7_pushInt (fun r20 σ19 h18 => hK _ _ h18) ((h4.2 h15) σ18 e17)⟩) h3) (h1.1 h2), fun h19 => hK _ _ (h1.2 h19)⟩) h
theorem mo_X7_useRow {σ : sm_S} {p1 : Int32} {K K' : Int32 → sm_S → Prop} (hK : ∀ r s, K r s → K' r s) (h : mp_X7_useRow σ p1 K) : mp_X7_useRow σ p1 K' := by
  unfold mp_X7_useRow at h ⊢
  exact ⟨fun h1 => ⟨fun h2 => ⟨fun h3 => mo_X7_useRow_43 hK (((h.1 h1).1 h2).1 h3), fun h4 => mo_X7_useRow_43 hK (((h.1 h1).1 h2).2 h4)⟩, fun h5 => mo_X7_useRow_43 hK ((h.1 h1).2 h5)⟩, fun h6 => mo_X7_operand (fun r25 σ24 h7 => mo_X7_below (fun r27 σ26 h8 => mo_X7_makeRow (fun r29 σ28 h9 => hK _ _ h9) h8) h7) (h.2 h6)⟩
theorem mo_X7_step_224 {K K' : Int32 → sm_S → Prop} (hK : ∀ r s, K r s → K' r s) {σ : sm_S} {x1 : Int32} (h : mp_X7_step_224 K σ x1) : mp_X7_step_224 K' σ x1 := by
  unfold mp_X7_step_224 at h ⊢
  exact mo_X1_endStep (fun σ1 h1 => ⟨fun h2 => fun σ3 e4 => hK _ _ ((h1.1 h2) σ3 e4), fun h5 => fun σ4 e7 => hK _ _ ((h1.2 h5) σ4 e7)⟩) h
theorem mo_X7_step_164 {K K' : Int32 → sm_S → Prop} (hK : ∀ r s, K r s → K' r s) {σ : sm_S} {x1 : Int32} (h : mp_X7_step_164 K σ x1) : mp_X7_step_164 K' σ x1 := by
  unfold mp_X7_step_164 at h ⊢
  exact ⟨fun h1 => ⟨fun h2 => mo_X7_step_224 hK ((h.1 h1).1 h2), fun h3 => mo_X7_raise (fun r8 σ7 h4 => mo_X7_step_224 hK h4) ((h.1 h1).2 h3)⟩, fun h5 => mo_X1_put (fun σ9 h6 => mo_X1_put (fun σ10 h7 => mo_X7_step_224 hK h7) h6) (h.2 h5)⟩
theorem mo_X7_step_154 {K K' : Int32 → sm_S → Prop} (hK : ∀ r s, K r s → K' r s) {σ : sm_S} {y0 : Int32} (h : mp_X7_step_154 K σ y0) : mp_X7_step_154 K' σ y0 := by
  unfold mp_X7_step_154 at h ⊢
  exact mo_X7_step_164 hK h
theorem mo_X7_step {σ : sm_S}  {K K' : Int32 → sm_S → Prop} (hK : ∀ r s, K r s → K' r s) (h : mp_X7_step σ  K) : mp_X7_step σ  K' := by
  unfold mp_X7_step at h ⊢
  exact mo_X1_beginStep (fun σ11 h1 => fun v12 e3 => ⟨fun h4 => mo_X7_loadTop (fun σ14 h5 => mo_X7_operand (fun r16 σ15 h6 => ⟨h6.1, fun σ18 e10 => ⟨fun h11 => ⟨fun h12 => ⟨fun h13 => ⟨fun h14 => ⟨fun h15 => ⟨fun h16 => mo_X7_leaveOrPort (fun r26 σ25 h17 => mo_X7_step_164 hK h17) (((((((h6.2 σ18 e10).1 h11).1 h12).1 h13).1 h14).1 h15).1 h16), fun h18 => ⟨fun h19 => mo_X7_send (fun r29 σ28 h20 => mo_X7_step_154 hK h20) ((((((((h6.2 σ18 e10).1 h11).1 h12).1 h13).1 h14).1 h15).2 h18).1 h19), fun h21 => mo_X7_operand (fun r31 σ30 h22 => mo_X7_enter (fun r33 σ32 h23 => mo_X7_step_154 hK h23) h22) ((((((((h6.2 σ18 e10).1 h11).1 h12).1 h13).1 h14).1 h15).2 h18).2 h21)⟩⟩, fun h24 => mo_X7_useRow (fun r35 σ34 h25 => mo_X7_step_164 hK h25) ((((((h6.2 σ18 e10).1 h11).1 h12).1 h13).1 h14).2 h24)⟩, fun h26 => mo_X7_useObject (fun r37 σ36 h27 => mo_X7_step_164 hK h27) (((((h6.2 σ18 e10).1 h11).1 h12).1 h13).2 h26)⟩, fun h28 => mo_X7_jump (fun r39 σ38 h29 => mo_X7_step_164 hK h29) ((((h6.2 σ18 e10).1 h11).1 h12).2 h28)⟩, fun h30 => mo_X7_reckon (fun r41 σ40 h31 => mo_X7_step_164 hK h31) (((h6.2 σ18 e10).1 h11).2 h30)⟩, fun h32 => mo_X7_moveValues (fun r43 σ42 h33 => mo_X7_step_164 hK h33) ((h6.2 σ18 e10).2 h32)⟩⟩) h5) ((h1 v12 e3).1 h4), fun h34 => mo_X7_fly (fun σ44 h35 => mo_X7_step_224 hK h35) ((h1 v12 e3).2 h34)⟩) h
theorem mo_X8_isClass_16 {K K' : Int32 → sm_S → Prop} (hK : ∀ r s, K r s → K' r s) {σ : sm_S} {y0 : Int32} (h : mp_X8_isClass_16 K σ y0) : mp_X8_isClass_16 K' σ y0 := by
  unfold mp_X8_isClass_16 at h ⊢
  exact ⟨h.1, hK _ _ h.2⟩
theorem mo_X8_isClass_15 {K K' : Int32 → sm_S → Prop} (hK : ∀ r s, K r s → K' r s) {σ : sm_S} (h : mp_X8_isClass_15 K σ) : mp_X8_isClass_15 K' σ := by
  unfold mp_X8_isClass_15 at h ⊢
  exact mo_X8_isClass_16 hK h
theorem mo_X8_isClass {σ : sm_S} {p1 : Int32} {K K' : Int32 → sm_S → Prop} (hK : ∀ r s, K r s → K' r s) (h : mp_X8_isClass σ p1 K) : mp_X8_isClass σ p1 K' := by
  unfold mp_X8_isClass at h ⊢
  exact ⟨fun h1 => mo_X8_isClass_15 hK (h.1 h1), fun h2 => ⟨fun h3 => mo_X8_isClass_15 hK ((h.2 h2).1 h3), fun h4 => mo_X8_isClass_16 hK ((h.2 h2).2 h4)⟩⟩
theorem mo_X8_isReference_15 {K K' : Int32 → sm_S → Prop} (hK : ∀ r s, K r s → K' r s) {σ : sm_S} {y0 : Int32} (h : mp_X8_isReference_15 K σ y0) : mp_X8_isReference_15 K' σ y0 := by
  unfold mp_X8_isReference_15 at h ⊢
  exact ⟨h.1, hK _ _ h.2⟩
theorem mo_X8_isReference_14 {K K' : Int32 → sm_S → Prop} (hK : ∀ r s, K r s → K' r s) {σ : sm_S} (h : mp_X8_isReference_14 K σ) : mp_X8_isReference_14 K' σ := by
  unfold mp_X8_isReference_14 at h ⊢
  exact mo_X8_isReference_15 hK h
theorem mo_X8_isReference {σ : sm_S} {p1 : Int32} {K K' : Int32 → sm_S → Prop} (hK : ∀ r s, K r s → K' r s) (h : mp_X8_isReference σ p1 K) : mp_X8_isReference σ p1 K' := by
  unfold mp_X8_isReference at h ⊢
  exact ⟨fun h1 => mo_X8_isReference_14 hK (h.1 h1), fun h2 => ⟨fun h3 => mo_X8_isReference_14 hK ((h.2 h2).1 h3), fun h4 => mo_X8_isReference_15 hK ((h.2 h2).2 h4)⟩⟩
theorem mo_X8_meet_85 {K K' : Int32 → sm_S → Prop} (hK : ∀ r s, K r s → K' r s) {σ : sm_S} {y0 : Int32} (h : mp_X8_meet_85 K σ y0) : mp_X8_meet_85 K' σ y0 := by
  unfold mp_X8_meet_85 at h ⊢
  exact hK _ _ h
theorem mo_X8_meet_71 {K K' : Int32 → sm_S → Prop} (hK : ∀ r s, K r s → K' r s) {σ : sm_S} {y0 : Int32} (h : mp_X8_meet_71 K σ y0) : mp_X8_meet_71 K' σ y0 := by
  unfold mp_X8_meet_71 at h ⊢
  exact ⟨fun h1 => mo_X8_meet_85 hK (h.1 h1), fun h2 => mo_X8_meet_85 hK (h.2 h2)⟩
theorem mo_X8_meet_70 {K K' : Int32 → sm_S → Prop} (hK : ∀ r s, K r s → K' r s) {σ : sm_S} (h : mp_X8_meet_70 K σ) : mp_X8_meet_70 K' σ := by
  unfold mp_X8_meet_70 at h ⊢
  exact mo_X8_meet_71 hK h
theorem mo_X8_meet_21 {K K' : Int32 → sm_S → Prop} (hK : ∀ r s, K r s → K' r s) {σ : sm_S} (h : mp_X8_meet_21 K σ) : mp_X8_meet_21 K' σ := by
  unfold mp_X8_meet_21 at h ⊢
  exact hK _ _ h
theorem mo_X8_meet {σ : sm_S} {p1 : Int32} {p2 : Int32} {K K' : Int32 → sm_S → Prop} (hK : ∀ r s, K r s → K' r s) (h : mp_X8_meet σ p1 p2 K) : mp_X8_meet σ p1 p2 K' := by
  unfold mp_X8_meet at h ⊢
  exact ⟨fun h1 => mo_X8_isReference (fun r4 σ3 h2 => ⟨fun h3 => mo_X8_meet_21 hK (h2.1 h3), fun h4 => mo_X8_isReference (fun r7 σ6 h5 => ⟨fun h6 => ⟨fun h7 => ⟨fun h8 => mo_X8_isClass (fun r12 σ11 h9 => ⟨fun h10 => mo_X8_meet_70 hK (h9.1 h10), fun h11 => mo_X8_isClass (fun r15 σ14 h12 => ⟨fun h13 => mo_X8_meet_70 hK (h12.1 h13), fun h14 => mo_X0_lowestAbove (fun r18 σ17 h15 => mo_X8_meet_71 hK h15) (h12.2 h14)⟩) (h9.2 h11)⟩) (((h5.1 h6).1 h7).1 h8), fun h16 => hK _ _ (((h5.1 h6).1 h7).2 h16)⟩, fun h17 => hK _ _ ((h5.1 h6).2 h17)⟩, fun h18 => mo_X8_meet_21 hK (h5.2 h18)⟩) (h2.2 h4)⟩) (h.1 h1), fun h19 => hK _ _ (h.2 h19)⟩
theorem mo_X8_come_c35_191 {K K' : sm_S → Prop} (hK : ∀ s, K s → K' s) {σ : sm_S} (h : mp_X8_come_c35_191 K σ) : mp_X8_come_c35_191 K' σ := by
  unfold mp_X8_come_c35_191 at h ⊢
  exact hK _ h
theorem mo_X8_come_c35_144 {L56 L56' : sm_S → Int32 → Int32 → Int32 → Int32 → Int32 → Prop} (hL56 : ∀ z0 z1 z2 z3 z4 z5, L56 z0 z1 z2 z3 z4 z5 → L56' z0 z1 z2 z3 z4 z5) {K K' : sm_S → Prop} (hK : ∀ s, K s → K' s) {σ : sm_S} {x1 : Int32} {x3 : Int32} {x4 : Int32} {x6 : Int32} {x8 : Int32} {y0 : Int32} (h : mp_X8_come_c35_144 L56 K σ x1 x3 x4 x6 x8 y0) : mp_X8_come_c35_144 L56' K' σ x1 x3 x4 x6 x8 y0 := by
  unfold mp_X8_come_c35_144 at h ⊢
  exact ⟨h.1, fun σ2 e4 => fun v3 e6 => hL56 _ _ _ _ _ _ ((h.2 σ2 e4) v3 e6)⟩
theorem mo_X8_come_c35_139 {L56 L56' : sm_S → Int32 → Int32 → Int32 → Int32 → Int32 → Prop} (hL56 : ∀ z0 z1 z2 z3 z4 z5, L56 z0 z1 z2 z3 z4 z5 → L56' z0 z1 z2 z3 z4 z5) {K K' : sm_S → Prop} (hK : ∀ s, K s → K' s) {σ : sm_S} {x1 : Int32} {x3 : Int32} {x4 : Int32} {x6 : Int32} {x8 : Int32} (h : mp_X8_come_c35_139 L56 K σ x1 x3 x4 x6 x8) : mp_X8_come_c35_139 L56' K' σ x1 x3 x4 x6 x8 := by
  unfold mp_X8_come_c35_139 at h ⊢
  exact mo_X8_come_c35_144 hL56 hK h
theorem mo_X8_come_c35_127 {L56 L56' : sm_S → Int32 → Int32 → Int32 → Int32 → Int32 → Prop} (hL56 : ∀ z0 z1 z2 z3 z4 z5, L56 z0 z1 z2 z3 z4 z5 → L56' z0 z1 z2 z3 z4 z5) {K K' : sm_S → Prop} (hK : ∀ s, K s → K' s) {σ : sm_S} {x1 : Int32} {x3 : Int32} {x4 : Int32} {x5 : Int32} {x6 : Int32} {x7 : Int32} {x8 : Int32} (h : mp_X8_come_c35_127 L56 K σ x1 x3 x4 x5 x6 x7 x8) : mp_X8_come_c35_127 L56' K' σ x1 x3 x4 x5 x6 x7 x8 := by
  unfold mp_X8_come_c35_127 at h ⊢
  exact ⟨fun h1 => mo_X8_come_c35_139 hL56 hK (h.1 h1), fun h2 => ⟨fun h3 => mo_X8_come_c35_144 hL56 hK ((h.2 h2).1 h3), fun h4 => mo_X8_come_c35_139 hL56 hK ((h.2 h2).2 h4)⟩⟩
theorem mo_X8_come_c35_103 {L56 L56' : sm_S → Int32 → Int32 → Int32 → Int32 → Int32 → Prop} (hL56 : ∀ z0 z1 z2 z3 z4 z5, L56 z0 z1 z2 z3 z4 z5 → L56' z0 z1 z2 z3 z4 z5) {K K' : sm_S → Prop} (hK : ∀ s, K s → K' s) {σ : sm_S} {x1 : Int32} {x3 : Int32} {x4 : Int32} {x5 : Int32} {x6 : Int32} {x7 : Int32} {y0 : Int32} (h : mp_X8_come_c35_103 L56 K σ x1 x3 x4 x5 x6 x7 y0) : mp_X8_come_c35_103 L56' K' σ x1 x3 x4 x5 x6 x7 y0 := by
  unfold mp_X8_come_c35_103 at h ⊢
  exact ⟨fun h1 => mo_X8_come_c35_127 hL56 hK (h.1 h1), fun h2 => ⟨fun h3 => mo_X8_come_c35_127 hL56 hK ((h.2 h2).1 h3), fun h4 => fun σ8 e6 => hK _ (((h.2 h2).2 h4) σ8 e6)⟩⟩
theorem mo_X8_come_c35_56 {K K' : sm_S → Prop} (hK : ∀ s, K s → K' s) {n56 : Nat} {σ : sm_S} {x1 : Int32} {x3 : Int32} {x4 : Int32} {x5 : Int32} {x6 : Int32} (h : mp_X8_come_c35_56 K n56 σ x1 x3 x4 x5 x6) : mp_X8_come_c35_56 K' n56 σ x1 x3 x4 x5 x6 := by
  suffices g : ∀ (σ : sm_S) (x1 : Int32) (x3 : Int32) (x4 : Int32) (x5 : Int32) (x6 : Int32), mp_X8_come_c35_56 K n56 σ x1 x3 x4 x5 x6 → mp_X8_come_c35_56 K' n56 σ x1 x3 x4 x5 x6 from g _ _ _ _ _ _ h
  clear h
  induction n56 with
  | zero => exact fun _ _ _ _ _ _ h => h.elim
  | succ n56 ih56 =>
    intro σ x1 x3 x4 x5 x6 h
    unfold mp_X8_come_c35_56 at h ⊢
    exact ⟨fun h1 => ⟨fun h2 => mo_X8_come_c35_191 hK ((h.1 h1).1 h2), fun h3 => ⟨((h.1 h1).2 h3).1, fun σ12 e7 => fun σ13 e9 => mo_X8_come_c35_191 hK ((((h.1 h1).2 h3).2 σ12 e7) σ13 e9)⟩⟩, fun h10 => ⟨(h.2 h10).1, fun v15 e14 => ⟨fun h15 => ⟨(((h.2 h10).2 v15 e14).1 h15).1, mo_X8_meet (fun r19 σ18 h18 => mo_X8_come_c35_103 ih56 hK h18) (((h.2 h10).2 v15 e14).1 h15).2⟩, fun h19 => ⟨(((h.2 h10).2 v15 e14).2 h19).1, mo_X8_come_c35_103 ih56 hK (((h.2 h10).2 v15 e14).2 h19).2⟩⟩⟩⟩
theorem mo_X8_come_c35_53 {K K' : sm_S → Prop} (hK : ∀ s, K s → K' s) {σ : sm_S} {x1 : Int32} {x3 : Int32} {x4 : Int32} {x5 : Int32} (h : mp_X8_come_c35_53 K σ x1 x3 x4 x5) : mp_X8_come_c35_53 K' σ x1 x3 x4 x5 := by
  unfold mp_X8_come_c35_53 at h ⊢
  exact h.elim (fun n56 h1 => ⟨n56, mo_X8_come_c35_56 hK h1⟩)
theorem mo_X8_come_c35_15 {K K' : sm_S → Prop} (hK : ∀ s, K s → K' s) {σ : sm_S} {x1 : Int32} {x3 : Int32} {y0 : Int32} (h : mp_X8_come_c35_15 K σ x1 x3 y0) : mp_X8_come_c35_15 K' σ x1 x3 y0 := by
  unfold mp_X8_come_c35_15 at h ⊢
  exact ⟨fun h1 => ⟨(h.1 h1).1, ⟨fun h4 => mo_X8_come_c35_53 hK ((h.1 h1).2.1 h4), fun h5 => fun σ24 e7 => hK _ (((h.1 h1).2.2 h5) σ24 e7)⟩⟩, fun h8 => ⟨(h.2 h8).1, fun σ26 e12 => mo_X8_come_c35_53 hK ((h.2 h8).2 σ26 e12)⟩⟩
theorem mo_X8_come_c35 {σ : sm_S} {p1 : Int32} {p3 : Int32} {K K' : sm_S → Prop} (hK : ∀ s, K s → K' s) (h : mp_X8_come_c35 σ p1 p3 K) : mp_X8_come_c35 σ p1 p3 K' := by
  unfold mp_X8_come_c35 at h ⊢
  exact ⟨h.1, ⟨fun h3 => mo_X8_come_c35_15 hK (h.2.1 h3), fun h4 => mo_X8_come_c35_15 hK (h.2.2 h4)⟩⟩
theorem mo_X8_come_c36_191 {K K' : sm_S → Prop} (hK : ∀ s, K s → K' s) {σ : sm_S} (h : mp_X8_come_c36_191 K σ) : mp_X8_come_c36_191 K' σ := by
  unfold mp_X8_come_c36_191 at h ⊢
  exact hK _ h
theorem mo_X8_come_c36_144 {L56 L56' : sm_S → Int32 → Int32 → Int32 → Int32 → Int32 → Prop} (hL56 : ∀ z0 z1 z2 z3 z4 z5, L56 z0 z1 z2 z3 z4 z5 → L56' z0 z1 z2 z3 z4 z5) {K K' : sm_S → Prop} (hK : ∀ s, K s → K' s) {σ : sm_S} {x1 : Int32} {x3 : Int32} {x4 : Int32} {x6 : Int32} {x8 : Int32} {y0 : Int32} (h : mp_X8_come_c36_144 L56 K σ x1 x3 x4 x6 x8 y0) : mp_X8_come_c36_144 L56' K' σ x1 x3 x4 x6 x8 y0 := by
  unfold mp_X8_come_c36_144 at h ⊢
  exact ⟨h.1, fun σ2 e4 => fun v3 e6 => hL56 _ _ _ _ _ _ ((h.2 σ2 e4) v3 e6)⟩
theorem mo_X8_come_c36_139 {L56 L56' : sm_S → Int32 → Int32 → Int32 → Int32 → Int32 → Prop} (hL56 : ∀ z0 z1 z2 z3 z4 z5, L56 z0 z1 z2 z3 z4 z5 → L56' z0 z1 z2 z3 z4 z5) {K K' : sm_S → Prop} (hK : ∀ s, K s → K' s) {σ : sm_S} {x1 : Int32} {x3 : Int32} {x4 : Int32} {x6 : Int32} {x8 : Int32} (h : mp_X8_come_c36_139 L56 K σ x1 x3 x4 x6 x8) : mp_X8_come_c36_139 L56' K' σ x1 x3 x4 x6 x8 := by
  unfold mp_X8_come_c36_139 at h ⊢
  exact mo_X8_come_c36_144 hL56 hK h
theorem mo_X8_come_c36_127 {L56 L56' : sm_S → Int32 → Int32 → Int32 → Int32 → Int32 → Prop} (hL56 : ∀ z0 z1 z2 z3 z4 z5, L56 z0 z1 z2 z3 z4 z5 → L56' z0 z1 z2 z3 z4 z5) {K K' : sm_S → Prop} (hK : ∀ s, K s → K' s) {σ : sm_S} {x1 : Int32} {x3 : Int32} {x4 : Int32} {x5 : Int32} {x6 : Int32} {x7 : Int32} {x8 : Int32} (h : mp_X8_come_c36_127 L56 K σ x1 x3 x4 x5 x6 x7 x8) : mp_X8_come_c36_127 L56' K' σ x1 x3 x4 x5 x6 x7 x8 := by
  unfold mp_X8_come_c36_127 at h ⊢
  exact ⟨fun h1 => mo_X8_come_c36_139 hL56 hK (h.1 h1), fun h2 => ⟨fun h3 => mo_X8_come_c36_144 hL56 hK ((h.2 h2).1 h3), fun h4 => mo_X8_come_c36_139 hL56 hK ((h.2 h2).2 h4)⟩⟩
theorem mo_X8_come_c36_103 {L56 L56' : sm_S → Int32 → Int32 → Int32 → Int32 → Int32 → Prop} (hL56 : ∀ z0 z1 z2 z3 z4 z5, L56 z0 z1 z2 z3 z4 z5 → L56' z0 z1 z2 z3 z4 z5) {K K' : sm_S → Prop} (hK : ∀ s, K s → K' s) {σ : sm_S} {x1 : Int32} {x3 : Int32} {x4 : Int32} {x5 : Int32} {x6 : Int32} {x7 : Int32} {y0 : Int32} (h : mp_X8_come_c36_103 L56 K σ x1 x3 x4 x5 x6 x7 y0) : mp_X8_come_c36_103 L56' K' σ x1 x3 x4 x5 x6 x7 y0 := by
  unfold mp_X8_come_c36_103 at h ⊢
  exact ⟨fun h1 => mo_X8_come_c36_127 hL56 hK (h.1 h1), fun h2 => ⟨fun h3 => mo_X8_come_c36_127 hL56 hK ((h.2 h2).1 h3), fun h4 => fun σ8 e6 => hK _ (((h.2 h2).2 h4) σ8 e6)⟩⟩
theorem mo_X8_come_c36_56 {K K' : sm_S → Prop} (hK : ∀ s, K s → K' s) {n56 : Nat} {σ : sm_S} {x1 : Int32} {x3 : Int32} {x4 : Int32} {x5 : Int32} {x6 : Int32} (h : mp_X8_come_c36_56 K n56 σ x1 x3 x4 x5 x6) : mp_X8_come_c36_56 K' n56 σ x1 x3 x4 x5 x6 := by
  suffices g : ∀ (σ : sm_S) (x1 : Int32) (x3 : Int32) (x4 : Int32) (x5 : Int32) (x6 : Int32), mp_X8_come_c36_56 K n56 σ x1 x3 x4 x5 x6 → mp_X8_come_c36_56 K' n56 σ x1 x3 x4 x5 x6 from g _ _ _ _ _ _ h
  clear h
  induction n56 with
  | zero => exact fun _ _ _ _ _ _ h => h.elim
  | succ n56 ih56 =>
    intro σ x1 x3 x4 x5 x6 h
    unfold mp_X8_come_c36_56 at h ⊢
    exact ⟨fun h1 => ⟨fun h2 => mo_X8_come_c36_191 hK ((h.1 h1).1 h2), fun h3 => ⟨((h.1 h1).2 h3).1, fun σ12 e7 => fun σ13 e9 => mo_X8_come_c36_191 hK ((((h.1 h1).2 h3).2 σ12 e7) σ13 e9)⟩⟩, fun h10 => ⟨(h.2 h10).1, fun v15 e14 => ⟨fun h15 => ⟨(((h.2 h10).2 v15 e14).1 h15).1, mo_X8_meet (fun r19 σ18 h18 => mo_X8_come_c36_103 ih56 hK h18) (((h.2 h10).2 v15 e14).1 h15).2⟩, fun h19 => ⟨(((h.2 h10).2 v15 e14).2 h19).1, mo_X8_come_c36_103 ih56 hK (((h.2 h10).2 v15 e14).2 h19).2⟩⟩⟩⟩
theorem mo_X8_come_c36_53 {K K' : sm_S → Prop} (hK : ∀ s, K s → K' s) {σ : sm_S} {x1 : Int32} {x3 : Int32} {x4 : Int32} {x5 : Int32} (h : mp_X8_come_c36_53 K σ x1 x3 x4 x5) : mp_X8_come_c36_53 K' σ x1 x3 x4 x5 := by
  unfold mp_X8_come_c36_53 at h ⊢
  exact h.elim (fun n56 h1 => ⟨n56, mo_X8_come_c36_56 hK h1⟩)
theorem mo_X8_come_c36_15 {K K' : sm_S → Prop} (hK : ∀ s, K s → K' s) {σ : sm_S} {x1 : Int32} {x3 : Int32} {y0 : Int32} (h : mp_X8_come_c36_15 K σ x1 x3 y0) : mp_X8_come_c36_15 K' σ x1 x3 y0 := by
  unfold mp_X8_come_c36_15 at h ⊢
  exact ⟨fun h1 => ⟨(h.1 h1).1, ⟨fun h4 => mo_X8_come_c36_53 hK ((h.1 h1).2.1 h4), fun h5 => fun σ24 e7 => hK _ (((h.1 h1).2.2 h5) σ24 e7)⟩⟩, fun h8 => ⟨(h.2 h8).1, fun σ26 e12 => mo_X8_come_c36_53 hK ((h.2 h8).2 σ26 e12)⟩⟩
theorem mo_X8_come_c36 {σ : sm_S} {p1 : Int32} {p3 : Int32} {K K' : sm_S → Prop} (hK : ∀ s, K s → K' s) (h : mp_X8_come_c36 σ p1 p3 K) : mp_X8_come_c36 σ p1 p3 K' := by
  unfold mp_X8_come_c36 at h ⊢
  exact ⟨h.1, ⟨fun h3 => mo_X8_come_c36_15 hK (h.2.1 h3), fun h4 => mo_X8_come_c36_15 hK (h.2.2 h4)⟩⟩
theorem mo_X8_firstMarked_31 {K K' : Int32 → sm_S → Prop} (hK : ∀ r s, K r s → K' r s) {n31 : Nat} {σ : sm_S} {x1 : Int32} {x2 : Int32} (h : mp_X8_firstMarked_31 K n31 σ x1 x2) : mp_X8_firstMarked_31 K' n31 σ x1 x2 := by
  suffices g : ∀ (σ : sm_S) (x1 : Int32) (x2 : Int32), mp_X8_firstMarked_31 K n31 σ x1 x2 → mp_X8_firstMarked_31 K' n31 σ x1 x2 from g _ _ _ h
  clear h
  induction n31 with
  | zero => exact fun _ _ _ h => h.elim
  | succ n31 ih31 =>
    intro σ x1 x2 h
    unfold mp_X8_firstMarked_31 at h ⊢
    exact ⟨fun h1 => hK _ _ (h.1 h1), fun h2 => ⟨(h.2 h2).1, ⟨fun h5 => fun v4 e7 => ih31 _ _ _ (((h.2 h2).2.1 h5) v4 e7), fun h8 => fun σ5 e10 => hK _ _ (((h.2 h2).2.2 h8) σ5 e10)⟩⟩⟩
theorem mo_X8_firstMarked {σ : sm_S}  {K K' : Int32 → sm_S → Prop} (hK : ∀ r s, K r s → K' r s) (h : mp_X8_firstMarked σ  K) : mp_X8_firstMarked σ  K' := by
  unfold mp_X8_firstMarked at h ⊢
  exact ⟨h.1, ⟨h.2.1, fun v8 e6 => fun v9 e8 => ((h.2.2 v8 e6) v9 e8).elim (fun n31 h9 => ⟨n31, mo_X8_firstMarked_31 hK h9⟩)⟩⟩
theorem mo_X8_push {σ : sm_S} {p1 : Int32} {K K' : sm_S → Prop} (hK : ∀ s, K s → K' s) (h : mp_X8_push σ p1 K) : mp_X8_push σ p1 K' := by
  unfold mp_X8_push at h ⊢
  exact ⟨h.1, ⟨fun h3 => ⟨(h.2.1 h3).1, fun σ4 e7 => fun σ5 e9 => hK _ (((h.2.1 h3).2 σ4 e7) σ5 e9)⟩, fun h10 => fun σ6 e12 => hK _ ((h.2.2 h10) σ6 e12)⟩⟩
theorem mo_X8_take {σ : sm_S}  {K K' : Int32 → sm_S → Prop} (hK : ∀ r s, K r s → K' r s) (h : mp_X8_take σ  K) : mp_X8_take σ  K' := by
  unfold mp_X8_take at h ⊢
  exact ⟨fun h1 => fun σ2 e3 => ⟨((h.1 h1) σ2 e3).1, hK _ _ ((h.1 h1) σ2 e3).2⟩, fun h6 => fun σ4 e8 => hK _ _ ((h.2 h6) σ4 e8)⟩
theorem mo_X8_takeFor_91 {K K' : sm_S → Prop} (hK : ∀ s, K s → K' s) {σ : sm_S} {y1 : Int32} (h : mp_X8_takeFor_91 K σ y1) : mp_X8_takeFor_91 K' σ y1 := by
  unfold mp_X8_takeFor_91 at h ⊢
  exact ⟨h.1, fun σ2 e4 => hK _ (h.2 σ2 e4)⟩
theorem mo_X8_takeFor_90 {K K' : sm_S → Prop} (hK : ∀ s, K s → K' s) {σ : sm_S} (h : mp_X8_takeFor_90 K σ) : mp_X8_takeFor_90 K' σ := by
  unfold mp_X8_takeFor_90 at h ⊢
  exact mo_X8_takeFor_91 hK h
theorem mo_X8_takeFor_86 {K K' : sm_S → Prop} (hK : ∀ s, K s → K' s) {σ : sm_S} (h : mp_X8_takeFor_86 K σ) : mp_X8_takeFor_86 K' σ := by
  unfold mp_X8_takeFor_86 at h ⊢
  exact mo_X8_takeFor_91 hK h
theorem mo_X8_takeFor_62 {K K' : sm_S → Prop} (hK : ∀ s, K s → K' s) {σ : sm_S} {x1 : Int32} {x2 : Int32} {x3 : Int32} {y0 : Int32} (h : mp_X8_takeFor_62 K σ x1 x2 x3 y0) : mp_X8_takeFor_62 K' σ x1 x2 x3 y0 := by
  unfold mp_X8_takeFor_62 at h ⊢
  exact ⟨fun h1 => mo_X8_takeFor_90 hK (h.1 h1), fun h2 => ⟨fun h3 => mo_X8_takeFor_86 hK ((h.2 h2).1 h3), fun h4 => ⟨fun h5 => mo_X8_takeFor_86 hK (((h.2 h2).2 h4).1 h5), fun h6 => ⟨fun h7 => mo_X8_takeFor_90 hK ((((h.2 h2).2 h4).2 h6).1 h7), fun h8 => mo_X8_takeFor_86 hK ((((h.2 h2).2 h4).2 h6).2 h8)⟩⟩⟩⟩
theorem mo_X8_takeFor_61 {K K' : sm_S → Prop} (hK : ∀ s, K s → K' s) {σ : sm_S} {x1 : Int32} {x2 : Int32} {x3 : Int32} (h : mp_X8_takeFor_61 K σ x1 x2 x3) : mp_X8_takeFor_61 K' σ x1 x2 x3 := by
  unfold mp_X8_takeFor_61 at h ⊢
  exact mo_X8_takeFor_62 hK h
theorem mo_X8_takeFor_40 {K K' : sm_S → Prop} (hK : ∀ s, K s → K' s) {σ : sm_S} {x1 : Int32} {x2 : Int32} {y0 : Int32} (h : mp_X8_takeFor_40 K σ x1 x2 y0) : mp_X8_takeFor_40 K' σ x1 x2 y0 := by
  unfold mp_X8_takeFor_40 at h ⊢
  exact ⟨fun h1 => mo_X8_takeFor_61 hK (h.1 h1), fun h2 => ⟨fun h3 => mo_X8_takeFor_61 hK ((h.2 h2).1 h3), fun h4 => ⟨fun h5 => mo_X8_takeFor_61 hK (((h.2 h2).2 h4).1 h5), fun h6 => mo_X8_takeFor_62 hK (((h.2 h2).2 h4).2 h6)⟩⟩⟩
theorem mo_X8_takeFor_39 {K K' : sm_S → Prop} (hK : ∀ s, K s → K' s) {σ : sm_S} {x1 : Int32} {x2 : Int32} (h : mp_X8_takeFor_39 K σ x1 x2) : mp_X8_takeFor_39 K' σ x1 x2 := by
  unfold mp_X8_takeFor_39 at h ⊢
  exact mo_X8_takeFor_40 hK h
theorem mo_X8_takeFor {σ : sm_S} {p1 : Int32} {K K' : sm_S → Prop} (hK : ∀ s, K s → K' s) (h : mp_X8_takeFor σ p1 K) : mp_X8_takeFor σ p1 K' := by
  unfold mp_X8_takeFor at h ⊢
  exact mo_X8_take (fun r11 σ10 h1 => mo_X8_isClass (fun r13 σ12 h2 => ⟨fun h3 => mo_X8_takeFor_39 hK (h2.1 h3), fun h4 => mo_X8_isClass (fun r16 σ15 h5 => ⟨fun h6 => mo_X8_takeFor_39 hK (h5.1 h6), fun h7 => mo_X0_isOrBelow (fun r19 σ18 h8 => ⟨fun h9 => mo_X8_takeFor_39 hK (h8.1 h9), fun h10 => mo_X8_takeFor_40 hK (h8.2 h10)⟩) (h5.2 h7)⟩) (h2.2 h4)⟩) h1) h
theorem mo_X8_applyCall_83 {K K' : sm_S → Prop} (hK : ∀ s, K s → K' s) {σ : sm_S} (h : mp_X8_applyCall_83 K σ) : mp_X8_applyCall_83 K' σ := by
  unfold mp_X8_applyCall_83 at h ⊢
  exact hK _ h
theorem mo_X8_applyCall_46 {L12 L12' : sm_S → Int32 → Int32 → Int32 → Prop} (hL12 : ∀ z0 z1 z2 z3, L12 z0 z1 z2 z3 → L12' z0 z1 z2 z3) {K K' : sm_S → Prop} (hK : ∀ s, K s → K' s) {σ : sm_S} {x1 : Int32} {x2 : Int32} {x3 : Int32} {y1 : Int32} (h : mp_X8_applyCall_46 L12 K σ x1 x2 x3 y1) : mp_X8_applyCall_46 L12' K' σ x1 x2 x3 y1 := by
  unfold mp_X8_applyCall_46 at h ⊢
  exact mo_X8_takeFor (fun σ1 h1 => fun v2 e3 => hL12 _ _ _ _ (h1 v2 e3)) h
theorem mo_X8_applyCall_32 {L12 L12' : sm_S → Int32 → Int32 → Int32 → Prop} (hL12 : ∀ z0 z1 z2 z3, L12 z0 z1 z2 z3 → L12' z0 z1 z2 z3) {K K' : sm_S → Prop} (hK : ∀ s, K s → K' s) {σ : sm_S} {x1 : Int32} {x2 : Int32} {x3 : Int32} (h : mp_X8_applyCall_32 L12 K σ x1 x2 x3) : mp_X8_applyCall_32 L12' K' σ x1 x2 x3 := by
  unfold mp_X8_applyCall_32 at h ⊢
  exact ⟨h.1, mo_X8_applyCall_46 hL12 hK h.2⟩
theorem mo_X8_applyCall_12 {K K' : sm_S → Prop} (hK : ∀ s, K s → K' s) {n12 : Nat} {σ : sm_S} {x1 : Int32} {x2 : Int32} {x3 : Int32} (h : mp_X8_applyCall_12 K n12 σ x1 x2 x3) : mp_X8_applyCall_12 K' n12 σ x1 x2 x3 := by
  suffices g : ∀ (σ : sm_S) (x1 : Int32) (x2 : Int32) (x3 : Int32), mp_X8_applyCall_12 K n12 σ x1 x2 x3 → mp_X8_applyCall_12 K' n12 σ x1 x2 x3 from g _ _ _ _ h
  clear h
  induction n12 with
  | zero => exact fun _ _ _ _ h => h.elim
  | succ n12 ih12 =>
    intro σ x1 x2 x3 h
    unfold mp_X8_applyCall_12 at h ⊢
    exact ⟨fun h1 => ⟨(h.1 h1).1, ⟨fun h4 => mo_X8_applyCall_83 hK ((h.1 h1).2.1 h4), fun h5 => ⟨((h.1 h1).2.2 h5).1, mo_X8_push (fun σ8 h8 => mo_X8_applyCall_83 hK h8) ((h.1 h1).2.2 h5).2⟩⟩⟩, fun h9 => ⟨fun h10 => mo_X8_applyCall_32 ih12 hK ((h.2 h9).1 h10), fun h11 => ⟨fun h12 => mo_X8_applyCall_32 ih12 hK (((h.2 h9).2 h11).1 h12), fun h13 => mo_X8_applyCall_46 ih12 hK (((h.2 h9).2 h11).2 h13)⟩⟩⟩
theorem mo_X8_applyCall {σ : sm_S} {p1 : Int32} {p2 : Int32} {K K' : sm_S → Prop} (hK : ∀ s, K s → K' s) (h : mp_X8_applyCall σ p1 p2 K) : mp_X8_applyCall σ p1 p2 K' := by
  unfold mp_X8_applyCall at h ⊢
  exact ⟨h.1, fun v12 e4 => (h.2 v12 e4).elim (fun n12 h5 => ⟨n12, mo_X8_applyCall_12 hK h5⟩)⟩
theorem mo_X8_applyEnd_158 {K K' : sm_S → Prop} (hK : ∀ s, K s → K' s) {σ : sm_S} (h : mp_X8_applyEnd_158 K σ) : mp_X8_applyEnd_158 K' σ := by
  unfold mp_X8_applyEnd_158 at h ⊢
  exact hK _ h
theorem mo_X8_applyEnd_139 {K K' : sm_S → Prop} (hK : ∀ s, K s → K' s) {σ : sm_S} {y1 : Int32} (h : mp_X8_applyEnd_139 K σ y1) : mp_X8_applyEnd_139 K' σ y1 := by
  unfold mp_X8_applyEnd_139 at h ⊢
  exact ⟨h.1, fun σ2 e4 => mo_X8_applyEnd_158 hK (h.2 σ2 e4)⟩
theorem mo_X8_applyEnd_138 {K K' : sm_S → Prop} (hK : ∀ s, K s → K' s) {σ : sm_S} (h : mp_X8_applyEnd_138 K σ) : mp_X8_applyEnd_138 K' σ := by
  unfold mp_X8_applyEnd_138 at h ⊢
  exact mo_X8_applyEnd_139 hK h
theorem mo_X8_applyEnd_134 {K K' : sm_S → Prop} (hK : ∀ s, K s → K' s) {σ : sm_S} (h : mp_X8_applyEnd_134 K σ) : mp_X8_applyEnd_134 K' σ := by
  unfold mp_X8_applyEnd_134 at h ⊢
  exact mo_X8_applyEnd_139 hK h
theorem mo_X8_applyEnd_86 {K K' : sm_S → Prop} (hK : ∀ s, K s → K' s) {σ : sm_S} {y1 : Int32} (h : mp_X8_applyEnd_86 K σ y1) : mp_X8_applyEnd_86 K' σ y1 := by
  unfold mp_X8_applyEnd_86 at h ⊢
  exact ⟨h.1, fun σ4 e4 => ⟨(h.2 σ4 e4).1, mo_X8_takeFor (fun σ6 h7 => mo_X8_applyEnd_158 hK h7) (h.2 σ4 e4).2⟩⟩
theorem mo_X8_applyEnd_56 {K K' : sm_S → Prop} (hK : ∀ s, K s → K' s) {σ : sm_S} {y1 : Int32} (h : mp_X8_applyEnd_56 K σ y1) : mp_X8_applyEnd_56 K' σ y1 := by
  unfold mp_X8_applyEnd_56 at h ⊢
  exact ⟨h.1, fun σ8 e4 => mo_X8_applyEnd_158 hK (h.2 σ8 e4)⟩
theorem mo_X8_applyEnd {σ : sm_S} {p1 : Int32} {K K' : sm_S → Prop} (hK : ∀ s, K s → K' s) (h : mp_X8_applyEnd σ p1 K) : mp_X8_applyEnd σ p1 K' := by
  unfold mp_X8_applyEnd at h ⊢
  exact ⟨fun h1 => ⟨(h.1 h1).1, ⟨fun h4 => mo_X8_applyEnd_56 hK ((h.1 h1).2.1 h4), fun h5 => mo_X8_applyEnd_56 hK ((h.1 h1).2.2 h5)⟩⟩, fun h6 => ⟨(h.2.1 h6).1, ⟨fun h9 => mo_X8_applyEnd_86 hK ((h.2.1 h6).2.1 h9), fun h10 => mo_X8_applyEnd_86 hK ((h.2.1 h6).2.2 h10)⟩⟩, fun h11 => mo_X8_take (fun r17 σ16 h12 => ⟨fun h13 => mo_X8_applyEnd_138 hK (h12.1 h13), fun h14 => mo_X8_isClass (fun r20 σ19 h15 => ⟨fun h16 => mo_X8_applyEnd_134 hK (h15.1 h16), fun h17 => ⟨fun h18 => mo_X8_applyEnd_138 hK ((h15.2 h17).1 h18), fun h19 => mo_X8_applyEnd_134 hK ((h15.2 h17).2 h19)⟩⟩) (h12.2 h14)⟩) (h.2.2.1 h11), fun h20 => mo_X8_push (fun σ24 h21 => mo_X8_applyEnd_158 hK h21) (h.2.2.2.1 h20), fun h22 h23 h24 h25 => mo_X8_takeFor (fun σ25 h26 => mo_X8_applyEnd_158 hK h26) (h.2.2.2.2 h22 h23 h24 h25)⟩
theorem mo_X8_takeReference_22 {K K' : sm_S → Prop} (hK : ∀ s, K s → K' s) {σ : sm_S} {y1 : Int32} (h : mp_X8_takeReference_22 K σ y1) : mp_X8_takeReference_22 K' σ y1 := by
  unfold mp_X8_takeReference_22 at h ⊢
  exact ⟨h.1, fun σ2 e4 => hK _ (h.2 σ2 e4)⟩
theorem mo_X8_takeReference_21 {K K' : sm_S → Prop} (hK : ∀ s, K s → K' s) {σ : sm_S} (h : mp_X8_takeReference_21 K σ) : mp_X8_takeReference_21 K' σ := by
  unfold mp_X8_takeReference_21 at h ⊢
  exact mo_X8_takeReference_22 hK h
theorem mo_X8_takeReference {σ : sm_S}  {K K' : sm_S → Prop} (hK : ∀ s, K s → K' s) (h : mp_X8_takeReference σ  K) : mp_X8_takeReference σ  K' := by
  unfold mp_X8_takeReference at h ⊢
  exact mo_X8_take (fun r4 σ3 h1 => ⟨fun h2 => mo_X8_takeReference_21 hK (h1.1 h2), fun h3 => ⟨fun h4 => mo_X8_takeReference_21 hK ((h1.2 h3).1 h4), fun h5 => mo_X8_takeReference_22 hK ((h1.2 h3).2 h5)⟩⟩) h
theorem mo_X8_applyJump_79 {K K' : sm_S → Prop} (hK : ∀ s, K s → K' s) {σ : sm_S} (h : mp_X8_applyJump_79 K σ) : mp_X8_applyJump_79 K' σ := by
  unfold mp_X8_applyJump_79 at h ⊢
  exact hK _ h
theorem mo_X8_applyJump {σ : sm_S} {p1 : Int32} {K K' : sm_S → Prop} (hK : ∀ s, K s → K' s) (h : mp_X8_applyJump σ p1 K) : mp_X8_applyJump σ p1 K' := by
  unfold mp_X8_applyJump at h ⊢
  exact ⟨fun h1 => mo_X8_takeFor (fun σ2 h2 => mo_X8_applyJump_79 hK h2) (h.1 h1), fun h3 => mo_X8_takeFor (fun σ4 h4 => mo_X8_takeFor (fun σ5 h5 => mo_X8_applyJump_79 hK h5) h4) (h.2.1 h3), fun h6 => mo_X8_takeReference (fun σ7 h7 => mo_X8_applyJump_79 hK h7) (h.2.2.1 h6), fun h8 => mo_X8_takeReference (fun σ9 h9 => mo_X8_applyJump_79 hK h9) (h.2.2.2.1 h8), fun h10 => mo_X8_takeReference (fun σ11 h11 => mo_X8_takeReference (fun σ12 h12 => mo_X8_applyJump_79 hK h12) h11) (h.2.2.2.2.1 h10), fun h13 => mo_X8_takeReference (fun σ14 h14 => mo_X8_takeReference (fun σ15 h15 => mo_X8_applyJump_79 hK h15) h14) (h.2.2.2.2.2.1 h13), fun h16 h17 h18 h19 h20 h21 => mo_X8_applyJump_79 hK (h.2.2.2.2.2.2 h16 h17 h18 h19 h20 h21)⟩
theorem mo_X8_applyMove_153 {K K' : sm_S → Prop} (hK : ∀ s, K s → K' s) {σ : sm_S} (h : mp_X8_applyMove_153 K σ) : mp_X8_applyMove_153 K' σ := by
  unfold mp_X8_applyMove_153 at h ⊢
  exact hK _ h
theorem mo_X8_applyMove_74 {K K' : sm_S → Prop} (hK : ∀ s, K s → K' s) {σ : sm_S} {x2 : Int32} {y1 : Int32} (h : mp_X8_applyMove_74 K σ x2 y1) : mp_X8_applyMove_74 K' σ x2 y1 := by
  unfold mp_X8_applyMove_74 at h ⊢
  exact ⟨h.1, fun σ2 e4 => ⟨(h.2 σ2 e4).1, mo_X8_push (fun σ4 h7 => mo_X8_applyMove_153 hK h7) (h.2 σ2 e4).2⟩⟩
theorem mo_X8_applyMove {σ : sm_S} {p1 : Int32} {p2 : Int32} {K K' : sm_S → Prop} (hK : ∀ s, K s → K' s) (h : mp_X8_applyMove σ p1 p2 K) : mp_X8_applyMove σ p1 p2 K' := by
  unfold mp_X8_applyMove at h ⊢
  exact ⟨fun h1 => mo_X8_push (fun σ6 h2 => mo_X8_applyMove_153 hK h2) (h.1 h1), fun h3 => mo_X8_push (fun σ8 h4 => mo_X8_applyMove_153 hK h4) (h.2.1 h3), fun h5 => ⟨(h.2.2.1 h5).1, ⟨fun h8 => mo_X8_applyMove_74 hK ((h.2.2.1 h5).2.1 h8), fun h9 => mo_X8_applyMove_74 hK ((h.2.2.1 h5).2.2 h9)⟩⟩, fun h10 => mo_X8_take (fun r14 σ13 h11 => ⟨h11.1, fun σ16 e15 => mo_X8_applyMove_153 hK (h11.2 σ16 e15)⟩) (h.2.2.2.1 h10), fun h16 => mo_X8_take (fun r19 σ18 h17 => mo_X8_applyMove_153 hK h17) (h.2.2.2.2.1 h16), fun h18 => mo_X8_take (fun r22 σ21 h19 => mo_X8_push (fun σ23 h20 => mo_X8_push (fun σ24 h21 => mo_X8_applyMove_153 hK h21) h20) h19) (h.2.2.2.2.2.1 h18), fun h22 h23 h24 h25 h26 h27 => mo_X8_take (fun r26 σ25 h28 => mo_X8_take (fun r28 σ27 h29 => mo_X8_push (fun σ29 h30 => mo_X8_push (fun σ30 h31 => mo_X8_applyMove_153 hK h31) h30) h29) h28) (h.2.2.2.2.2.2 h22 h23 h24 h25 h26 h27)⟩
theorem mo_X8_applyObject_121 {K K' : sm_S → Prop} (hK : ∀ s, K s → K' s) {σ : sm_S} (h : mp_X8_applyObject_121 K σ) : mp_X8_applyObject_121 K' σ := by
  unfold mp_X8_applyObject_121 at h ⊢
  exact hK _ h
theorem mo_X8_applyObject {σ : sm_S} {p1 : Int32} {p2 : Int32} {p3 : Int32} {K K' : sm_S → Prop} (hK : ∀ s, K s → K' s) (h : mp_X8_applyObject σ p1 p2 p3 K) : mp_X8_applyObject σ p1 p2 p3 K' := by
  unfold mp_X8_applyObject at h ⊢
  exact ⟨fun h1 => mo_X8_push (fun σ2 h2 => mo_X8_applyObject_121 hK h2) (h.1 h1), fun h3 => mo_X8_takeFor (fun σ4 h4 => ⟨h4.1, mo_X8_push (fun σ6 h7 => mo_X8_applyObject_121 hK h7) h4.2⟩) (h.2.1 h3), fun h8 => ⟨(h.2.2.1 h8).1, mo_X8_takeFor (fun σ9 h11 => mo_X8_takeFor (fun σ10 h12 => mo_X8_applyObject_121 hK h12) h11) (h.2.2.1 h8).2⟩, fun h13 => mo_X8_takeReference (fun σ12 h14 => mo_X8_push (fun σ13 h15 => mo_X8_applyObject_121 hK h15) h14) (h.2.2.2.1 h13), fun h16 h17 h18 h19 => mo_X8_takeReference (fun σ14 h20 => mo_X8_push (fun σ15 h21 => mo_X8_applyObject_121 hK h21) h20) (h.2.2.2.2 h16 h17 h18 h19)⟩
theorem mo_X8_takeRow_30 {K K' : Int32 → sm_S → Prop} (hK : ∀ r s, K r s → K' r s) {σ : sm_S} {x1 : Int32} {y1 : Int32} (h : mp_X8_takeRow_30 K σ x1 y1) : mp_X8_takeRow_30 K' σ x1 y1 := by
  unfold mp_X8_takeRow_30 at h ⊢
  exact ⟨h.1, fun σ2 e4 => hK _ _ (h.2 σ2 e4)⟩
theorem mo_X8_takeRow_29 {K K' : Int32 → sm_S → Prop} (hK : ∀ r s, K r s → K' r s) {σ : sm_S} {x1 : Int32} (h : mp_X8_takeRow_29 K σ x1) : mp_X8_takeRow_29 K' σ x1 := by
  unfold mp_X8_takeRow_29 at h ⊢
  exact mo_X8_takeRow_30 hK h
theorem mo_X8_takeRow {σ : sm_S}  {K K' : Int32 → sm_S → Prop} (hK : ∀ r s, K r s → K' r s) (h : mp_X8_takeRow σ  K) : mp_X8_takeRow σ  K' := by
  unfold mp_X8_takeRow at h ⊢
  exact mo_X8_take (fun r4 σ3 h1 => ⟨fun h2 => mo_X8_takeRow_29 hK (h1.1 h2), fun h3 => ⟨fun h4 => mo_X8_takeRow_29 hK ((h1.2 h3).1 h4), fun h5 => ⟨fun h6 => mo_X8_takeRow_29 hK (((h1.2 h3).2 h5).1 h6), fun h7 => mo_X8_takeRow_30 hK (((h1.2 h3).2 h5).2 h7)⟩⟩⟩) h
theorem mo_X8_applyRow_86 {K K' : sm_S → Prop} (hK : ∀ s, K s → K' s) {σ : sm_S} (h : mp_X8_applyRow_86 K σ) : mp_X8_applyRow_86 K' σ := by
  unfold mp_X8_applyRow_86 at h ⊢
  exact hK _ h
theorem mo_X8_applyRow_83 {K K' : sm_S → Prop} (hK : ∀ s, K s → K' s) {σ : sm_S} {y1 : Int32} (h : mp_X8_applyRow_83 K σ y1) : mp_X8_applyRow_83 K' σ y1 := by
  unfold mp_X8_applyRow_83 at h ⊢
  exact mo_X8_push (fun σ1 h1 => mo_X8_applyRow_86 hK h1) h
theorem mo_X8_applyRow {σ : sm_S} {p1 : Int32} {p2 : Int32} {K K' : sm_S → Prop} (hK : ∀ s, K s → K' s) (h : mp_X8_applyRow σ p1 p2 K) : mp_X8_applyRow σ p1 p2 K' := by
  unfold mp_X8_applyRow at h ⊢
  exact ⟨fun h1 => mo_X8_takeFor (fun σ3 h2 => mo_X8_push (fun σ4 h3 => mo_X8_applyRow_86 hK h3) h2) (h.1 h1), fun h4 => mo_X8_takeRow (fun r7 σ6 h5 => mo_X8_push (fun σ8 h6 => mo_X8_applyRow_86 hK h6) h5) (h.2.1 h4), fun h7 h8 => mo_X8_takeFor (fun σ9 h9 => mo_X8_takeRow (fun r11 σ10 h10 => ⟨fun h11 => mo_X8_applyRow_83 hK (h10.1 h11), fun h12 => mo_X8_applyRow_83 hK (h10.2 h12)⟩) h9) (h.2.2 h7 h8)⟩
theorem mo_X8_applyTo_52 {K K' : sm_S → Prop} (hK : ∀ s, K s → K' s) {σ : sm_S} (h : mp_X8_applyTo_52 K σ) : mp_X8_applyTo_52 K' σ := by
  unfold mp_X8_applyTo_52 at h ⊢
  exact mo_X8_takeFor (fun σ1 h1 => mo_X8_takeRow (fun r3 σ2 h2 => hK _ h2) h1) h
theorem mo_X8_applyTo_29 {K K' : sm_S → Prop} (hK : ∀ s, K s → K' s) {σ : sm_S} {y0 : Int32} (h : mp_X8_applyTo_29 K σ y0) : mp_X8_applyTo_29 K' σ y0 := by
  unfold mp_X8_applyTo_29 at h ⊢
  exact ⟨fun h1 => mo_X8_takeFor (fun σ5 h2 => mo_X8_applyTo_52 hK h2) (h.1 h1), fun h3 => mo_X8_take (fun r7 σ6 h4 => mo_X8_applyTo_52 hK h4) (h.2 h3)⟩
theorem mo_X8_applyTo {σ : sm_S}  {K K' : sm_S → Prop} (hK : ∀ s, K s → K' s) (h : mp_X8_applyTo σ  K) : mp_X8_applyTo σ  K' := by
  unfold mp_X8_applyTo at h ⊢
  exact ⟨fun h1 => mo_X8_applyTo_29 hK (h.1 h1), fun h2 => ⟨(h.2 h2).1, mo_X8_applyTo_29 hK (h.2 h2).2⟩⟩
theorem mo_X8_apply_212 {K K' : sm_S → Prop} (hK : ∀ s, K s → K' s) {σ : sm_S} (h : mp_X8_apply_212 K σ) : mp_X8_apply_212 K' σ := by
  unfold mp_X8_apply_212 at h ⊢
  exact hK _ h
theorem mo_X8_apply_201 {K K' : sm_S → Prop} (hK : ∀ s, K s → K' s) {σ : sm_S} {y1 : Int32} {y2 : Int32} (h : mp_X8_apply_201 K σ y1 y2) : mp_X8_apply_201 K' σ y1 y2 := by
  unfold mp_X8_apply_201 at h ⊢
  exact mo_X8_applyCall (fun σ1 h1 => mo_X8_apply_212 hK h1) h
theorem mo_X8_apply_190 {K K' : sm_S → Prop} (hK : ∀ s, K s → K' s) {σ : sm_S} {x1 : Int32} {x3 : Int32} {y1 : Int32} (h : mp_X8_apply_190 K σ x1 x3 y1) : mp_X8_apply_190 K' σ x1 x3 y1 := by
  unfold mp_X8_apply_190 at h ⊢
  exact ⟨fun h1 => mo_X8_apply_201 hK (h.1 h1), fun h2 => mo_X8_apply_201 hK (h.2 h2)⟩
theorem mo_X8_apply_46 {K K' : sm_S → Prop} (hK : ∀ s, K s → K' s) {σ : sm_S} (h : mp_X8_apply_46 K σ) : mp_X8_apply_46 K' σ := by
  unfold mp_X8_apply_46 at h ⊢
  exact mo_X8_push (fun σ3 h1 => mo_X8_apply_212 hK h1) h
theorem mo_X8_apply {σ : sm_S} {p1 : Int32} {p2 : Int32} {K K' : sm_S → Prop} (hK : ∀ s, K s → K' s) (h : mp_X8_apply σ p1 p2 K) : mp_X8_apply σ p1 p2 K' := by
  unfold mp_X8_apply at h ⊢
  exact ⟨fun h1 => ⟨fun h2 => ⟨fun h3 => ⟨fun h4 => ⟨fun h5 => ⟨fun h6 => ⟨fun h7 => mo_X8_applyEnd (fun σ11 h8 => mo_X8_apply_212 hK h8) (((((((h.1 h1).1 h2).1 h3).1 h4).1 h5).1 h6).1 h7), fun h9 => mo_X2_at (fun r13 σ12 h10 => ⟨fun h11 => mo_X2_at (fun r16 σ15 h12 => ⟨h12.1, mo_X8_apply_190 hK h12.2⟩) (h10.1 h11), fun h15 => mo_X8_apply_190 hK (h10.2 h15)⟩) (((((((h.1 h1).1 h2).1 h3).1 h4).1 h5).1 h6).2 h9)⟩, fun h16 => mo_X8_applyTo (fun σ18 h17 => mo_X8_apply_212 hK h17) ((((((h.1 h1).1 h2).1 h3).1 h4).1 h5).2 h16)⟩, fun h18 => mo_X2_at (fun r20 σ19 h19 => mo_X8_applyRow (fun σ21 h20 => mo_X8_apply_212 hK h20) h19) (((((h.1 h1).1 h2).1 h3).1 h4).2 h18)⟩, fun h21 => mo_X2_at (fun r23 σ22 h22 => mo_X2_at (fun r25 σ24 h23 => mo_X8_applyObject (fun σ26 h24 => mo_X8_apply_212 hK h24) h23) h22) ((((h.1 h1).1 h2).1 h3).2 h21)⟩, fun h25 => mo_X8_applyJump (fun σ27 h26 => mo_X8_apply_212 hK h26) (((h.1 h1).1 h2).2 h25)⟩, fun h27 => mo_X8_takeFor (fun σ28 h28 => ⟨fun h29 => mo_X8_apply_46 hK (h28.1 h29), fun h30 => mo_X8_takeFor (fun σ30 h31 => mo_X8_apply_46 hK h31) (h28.2 h30)⟩) ((h.1 h1).2 h27)⟩, fun h32 => mo_X2_at (fun r32 σ31 h33 => mo_X8_applyMove (fun σ33 h34 => mo_X8_apply_212 hK h34) h33) (h.2 h32)⟩
theorem mo_X8_comeToHandlers_187 {K K' : sm_S → Prop} (hK : ∀ s, K s → K' s) {σ : sm_S} (h : mp_X8_comeToHandlers_187 K σ) : mp_X8_comeToHandlers_187 K' σ := by
  unfold mp_X8_comeToHandlers_187 at h ⊢
  exact hK _ h
theorem mo_X8_comeToHandlers_181 {L17 L17' : sm_S → Int32 → Int32 → Int32 → Prop} (hL17 : ∀ z0 z1 z2 z3, L17 z0 z1 z2 z3 → L17' z0 z1 z2 z3) {K K' : sm_S → Prop} (hK : ∀ s, K s → K' s) {σ : sm_S} {x1 : Int32} {x2 : Int32} {x3 : Int32} (h : mp_X8_comeToHandlers_181 L17 K σ x1 x2 x3) : mp_X8_comeToHandlers_181 L17' K' σ x1 x2 x3 := by
  unfold mp_X8_comeToHandlers_181 at h ⊢
  exact fun v1 e2 => hL17 _ _ _ _ (h v1 e2)
theorem mo_X8_comeToHandlers_17 {K K' : sm_S → Prop} (hK : ∀ s, K s → K' s) {n17 : Nat} {σ : sm_S} {x1 : Int32} {x2 : Int32} {x3 : Int32} (h : mp_X8_comeToHandlers_17 K n17 σ x1 x2 x3) : mp_X8_comeToHandlers_17 K' n17 σ x1 x2 x3 := by
  suffices g : ∀ (σ : sm_S) (x1 : Int32) (x2 : Int32) (x3 : Int32), mp_X8_comeToHandlers_17 K n17 σ x1 x2 x3 → mp_X8_comeToHandlers_17 K' n17 σ x1 x2 x3 from g _ _ _ _ h
  clear h
  induction n17 with
  | zero => exact fun _ _ _ _ h => h.elim
  | succ n17 ih17 =>
    intro σ x1 x2 x3 h
    unfold mp_X8_comeToHandlers_17 at h ⊢
    exact ⟨h.1, ⟨fun h3 => mo_X8_comeToHandlers_187 hK (h.2.1 h3), fun h4 => ⟨fun h5 => mo_X8_comeToHandlers_187 hK ((h.2.2 h4).1 h5), fun h6 => ⟨((h.2.2 h4).2 h6).1, fun v6 e10 => mo_X2_pair (fun r8 σ7 h11 => ⟨fun h12 => mo_X8_comeToHandlers_181 ih17 hK (h11.1 h12), fun h13 => mo_X2_pair (fun r11 σ10 h14 => ⟨fun h15 => mo_X8_comeToHandlers_181 ih17 hK (h14.1 h15), fun h16 => ⟨(h14.2 h16).1, ⟨fun h19 => ⟨((h14.2 h16).2.1 h19).1, ⟨((h14.2 h16).2.1 h19).2.1, ⟨((h14.2 h16).2.1 h19).2.2.1, ⟨((h14.2 h16).2.1 h19).2.2.2.1, ⟨((h14.2 h16).2.1 h19).2.2.2.2.1, fun σ15 e31 => mo_X2_at (fun r23 σ22 h32 => ⟨h32.1, fun σ25 e36 => ⟨(h32.2 σ25 e36).1, mo_X2_pair (fun r28 σ27 h39 => mo_X8_come_c36 (fun σ29 h40 => mo_X8_comeToHandlers_181 ih17 hK h40) h39) (h32.2 σ25 e36).2⟩⟩) (((h14.2 h16).2.1 h19).2.2.2.2.2 σ15 e31)⟩⟩⟩⟩⟩, fun h41 => fun σ30 e43 => hK _ (((h14.2 h16).2.2 h41) σ30 e43)⟩⟩⟩) (h11.2 h13)⟩) (((h.2.2 h4).2 h6).2 v6 e10)⟩⟩⟩⟩
theorem mo_X8_comeToHandlers {σ : sm_S} {p1 : Int32} {K K' : sm_S → Prop} (hK : ∀ s, K s → K' s) (h : mp_X8_comeToHandlers σ p1 K) : mp_X8_comeToHandlers σ p1 K' := by
  unfold mp_X8_comeToHandlers at h ⊢
  exact ⟨h.1, fun v32 e4 => (h.2 v32 e4).elim (fun n17 h5 => ⟨n17, mo_X8_comeToHandlers_17 hK h5⟩)⟩
theorem mo_X8_lookAt_244 {K K' : sm_S → Prop} (hK : ∀ s, K s → K' s) {σ : sm_S} (h : mp_X8_lookAt_244 K σ) : mp_X8_lookAt_244 K' σ := by
  unfold mp_X8_lookAt_244 at h ⊢
  exact hK _ h
theorem mo_X8_lookAt_186 {K K' : sm_S → Prop} (hK : ∀ s, K s → K' s) {σ : sm_S} {x1 : Int32} (h : mp_X8_lookAt_186 K σ x1) : mp_X8_lookAt_186 K' σ x1 := by
  unfold mp_X8_lookAt_186 at h ⊢
  exact mo_X2_jumpPlace (fun r2 σ1 h1 => ⟨fun h2 => mo_X8_lookAt_244 hK (h1.1 h2), fun h3 => ⟨fun h4 => mo_X8_lookAt_244 hK ((h1.2 h3).1 h4), fun h5 => ⟨((h1.2 h3).2 h5).1, mo_X2_pair (fun r7 σ6 h8 => mo_X8_come_c35 (fun σ8 h9 => mo_X8_lookAt_244 hK h9) h8) ((h1.2 h3).2 h5).2⟩⟩⟩) h
theorem mo_X8_lookAt_168 {K K' : sm_S → Prop} (hK : ∀ s, K s → K' s) {σ : sm_S} {x1 : Int32} {x3 : Int32} {x4 : Int32} (h : mp_X8_lookAt_168 K σ x1 x3 x4) : mp_X8_lookAt_168 K' σ x1 x3 x4 := by
  unfold mp_X8_lookAt_168 at h ⊢
  exact ⟨fun h1 => mo_X8_lookAt_186 hK (h.1 h1), fun h2 => mo_X8_come_c35 (fun σ10 h3 => mo_X8_lookAt_186 hK h3) (h.2 h2)⟩
theorem mo_X8_lookAt_162 {K K' : sm_S → Prop} (hK : ∀ s, K s → K' s) {σ : sm_S} {x1 : Int32} (h : mp_X8_lookAt_162 K σ x1) : mp_X8_lookAt_162 K' σ x1 := by
  unfold mp_X8_lookAt_162 at h ⊢
  exact fun σ11 e2 => hK _ (h σ11 e2)
theorem mo_X8_lookAt_111 {K K' : sm_S → Prop} (hK : ∀ s, K s → K' s) {σ : sm_S} {x1 : Int32} {x2 : Int32} {y0 : Int32} (h : mp_X8_lookAt_111 K σ x1 x2 y0) : mp_X8_lookAt_111 K' σ x1 x2 y0 := by
  unfold mp_X8_lookAt_111 at h ⊢
  exact ⟨h.1, fun v13 e4 => ⟨fun h5 => mo_X8_lookAt_162 hK ((h.2 v13 e4).1 h5), fun h6 => ⟨fun h7 => mo_X8_lookAt_168 hK (((h.2 v13 e4).2 h6).1 h7), fun h8 => ⟨(((h.2 v13 e4).2 h6).2 h8).1, ⟨(((h.2 v13 e4).2 h6).2 h8).2.1, ⟨fun h13 => mo_X8_lookAt_168 hK ((((h.2 v13 e4).2 h6).2 h8).2.2.1 h13), fun h14 => mo_X8_lookAt_162 hK ((((h.2 v13 e4).2 h6).2 h8).2.2.2 h14)⟩⟩⟩⟩⟩⟩
theorem mo_X8_lookAt_110 {K K' : sm_S → Prop} (hK : ∀ s, K s → K' s) {σ : sm_S} {x1 : Int32} {x2 : Int32} (h : mp_X8_lookAt_110 K σ x1 x2) : mp_X8_lookAt_110 K' σ x1 x2 := by
  unfold mp_X8_lookAt_110 at h ⊢
  exact mo_X8_lookAt_111 hK h
theorem mo_X8_lookAt_12 {K K' : sm_S → Prop} (hK : ∀ s, K s → K' s) {n12 : Nat} {σ : sm_S} {x1 : Int32} {x2 : Int32} (h : mp_X8_lookAt_12 K n12 σ x1 x2) : mp_X8_lookAt_12 K' n12 σ x1 x2 := by
  suffices g : ∀ (σ : sm_S) (x1 : Int32) (x2 : Int32), mp_X8_lookAt_12 K n12 σ x1 x2 → mp_X8_lookAt_12 K' n12 σ x1 x2 from g _ _ _ h
  clear h
  induction n12 with
  | zero => exact fun _ _ _ h => h.elim
  | succ n12 ih12 =>
    intro σ x1 x2 h
    unfold mp_X8_lookAt_12 at h ⊢
    exact ⟨fun h1 => mo_X8_comeToHandlers (fun σ20 h2 => ⟨fun h3 => mo_X2_at (fun r23 σ22 h4 => fun σ24 e6 => mo_X8_apply (fun σ25 h7 => ⟨fun h8 => mo_X8_lookAt_110 hK (h7.1 h8), fun h9 => ⟨fun h10 => mo_X8_lookAt_110 hK ((h7.2 h9).1 h10), fun h11 => ⟨fun h12 => mo_X8_lookAt_110 hK (((h7.2 h9).2 h11).1 h12), fun h13 => ⟨fun h14 => mo_X8_lookAt_110 hK ((((h7.2 h9).2 h11).2 h13).1 h14), fun h15 => mo_X8_lookAt_111 hK ((((h7.2 h9).2 h11).2 h13).2 h15)⟩⟩⟩⟩) (h4 σ24 e6)) (h2.1 h3), fun h16 => hK _ (h2.2 h16)⟩) (h.1 h1), fun h17 => ⟨(h.2 h17).1, ⟨(h.2 h17).2.1, fun σ32 e23 => fun v33 e25 => ih12 _ _ _ (((h.2 h17).2.2 σ32 e23) v33 e25)⟩⟩⟩
theorem mo_X8_lookAt {σ : sm_S} {p1 : Int32} {K K' : sm_S → Prop} (hK : ∀ s, K s → K' s) (h : mp_X8_lookAt σ p1 K) : mp_X8_lookAt σ p1 K' := by
  unfold mp_X8_lookAt at h ⊢
  exact ⟨h.1, fun σ35 e4 => (h.2 σ35 e4).elim (fun n12 h5 => ⟨n12, mo_X8_lookAt_12 hK h5⟩)⟩
theorem mo_X8_verifyMethod_148 {K K' : sm_S → Prop} (hK : ∀ s, K s → K' s) {σ : sm_S} (h : mp_X8_verifyMethod_148 K σ) : mp_X8_verifyMethod_148 K' σ := by
  unfold mp_X8_verifyMethod_148 at h ⊢
  exact hK _ h
theorem mo_X8_verifyMethod_105 {K K' : sm_S → Prop} (hK : ∀ s, K s → K' s) {n105 : Nat} {σ : sm_S} {x2 : Int32} (h : mp_X8_verifyMethod_105 K n105 σ x2) : mp_X8_verifyMethod_105 K' n105 σ x2 := by
  suffices g : ∀ (σ : sm_S) (x2 : Int32), mp_X8_verifyMethod_105 K n105 σ x2 → mp_X8_verifyMethod_105 K' n105 σ x2 from g _ _ h
  clear h
  induction n105 with
  | zero => exact fun _ _ h => h.elim
  | succ n105 ih105 =>
    intro σ x2 h
    unfold mp_X8_verifyMethod_105 at h ⊢
    exact ⟨fun h1 => mo_X8_verifyMethod_148 hK (h.1 h1), fun h2 => ⟨fun h3 => mo_X8_verifyMethod_148 hK ((h.2 h2).1 h3), fun h4 => mo_X8_firstMarked (fun r4 σ3 h5 => ⟨fun h6 => ⟨(h5.1 h6).1, fun σ7 e10 => mo_X8_lookAt (fun σ8 h11 => fun v9 e13 => ih105 _ _ (h11 v9 e13)) ((h5.1 h6).2 σ7 e10)⟩, fun h14 => hK _ (h5.2 h14)⟩) ((h.2 h2).2 h4)⟩⟩
theorem mo_X8_verifyMethod_65 {L20 L20' : sm_S → Int32 → Int32 → Prop} (hL20 : ∀ z0 z1 z2, L20 z0 z1 z2 → L20' z0 z1 z2) {K K' : sm_S → Prop} (hK : ∀ s, K s → K' s) {σ : sm_S} {x1 : Int32} {x2 : Int32} {y1 : Int32} {y2 : Int32} (h : mp_X8_verifyMethod_65 L20 K σ x1 x2 y1 y2) : mp_X8_verifyMethod_65 L20' K' σ x1 x2 y1 y2 := by
  unfold mp_X8_verifyMethod_65 at h ⊢
  exact ⟨h.1, fun σ11 e4 => fun v12 e6 => hL20 _ _ _ ((h.2 σ11 e4) v12 e6)⟩
theorem mo_X8_verifyMethod_20 {K K' : sm_S → Prop} (hK : ∀ s, K s → K' s) {n20 : Nat} {σ : sm_S} {x1 : Int32} {x2 : Int32} (h : mp_X8_verifyMethod_20 K n20 σ x1 x2) : mp_X8_verifyMethod_20 K' n20 σ x1 x2 := by
  suffices g : ∀ (σ : sm_S) (x1 : Int32) (x2 : Int32), mp_X8_verifyMethod_20 K n20 σ x1 x2 → mp_X8_verifyMethod_20 K' n20 σ x1 x2 from g _ _ _ h
  clear h
  induction n20 with
  | zero => exact fun _ _ _ h => h.elim
  | succ n20 ih20 =>
    intro σ x1 x2 h
    unfold mp_X8_verifyMethod_20 at h ⊢
    exact ⟨fun h1 => ⟨(h.1 h1).1, fun σ15 e5 => ⟨((h.1 h1).2 σ15 e5).1, mo_X8_come_c35 (fun σ17 h8 => h8.elim (fun n105 h9 => ⟨n105, mo_X8_verifyMethod_105 hK h9⟩)) ((h.1 h1).2 σ15 e5).2⟩⟩, fun h10 => ⟨(h.2 h10).1, ⟨fun h13 => mo_X8_verifyMethod_65 ih20 hK ((h.2 h10).2.1 h13), fun h14 => ⟨((h.2 h10).2.2 h14).1, mo_X8_verifyMethod_65 ih20 hK ((h.2 h10).2.2 h14).2⟩⟩⟩⟩
theorem mo_X8_verifyMethod {σ : sm_S} {p1 : Int32} {K K' : sm_S → Prop} (hK : ∀ s, K s → K' s) (h : mp_X8_verifyMethod σ p1 K) : mp_X8_verifyMethod σ p1 K' := by
  unfold mp_X8_verifyMethod at h ⊢
  exact fun σ21 e2 => ⟨(h σ21 e2).1, fun σ23 e6 => ((h σ21 e2).2 σ23 e6).elim (fun n20 h7 => ⟨n20, mo_X8_verifyMethod_20 hK h7⟩)⟩
theorem mo_X8_found_159 {K K' : Int32 → sm_S → Prop} (hK : ∀ r s, K r s → K' r s) {σ : sm_S} {y0 : Int32} (h : mp_X8_found_159 K σ y0) : mp_X8_found_159 K' σ y0 := by
  unfold mp_X8_found_159 at h ⊢
  exact hK _ _ h
theorem mo_X8_found_132 {K K' : Int32 → sm_S → Prop} (hK : ∀ r s, K r s → K' r s) {σ : sm_S} {x4 : Int32} {x5 : Int32} {x7 : Int32} {y0 : Int32} (h : mp_X8_found_132 K σ x4 x5 x7 y0) : mp_X8_found_132 K' σ x4 x5 x7 y0 := by
  unfold mp_X8_found_132 at h ⊢
  exact ⟨fun h1 => mo_X8_found_159 hK (h.1 h1), fun h2 => ⟨(h.2 h2).1, mo_X8_found_159 hK (h.2 h2).2⟩⟩
theorem mo_X8_found_131 {K K' : Int32 → sm_S → Prop} (hK : ∀ r s, K r s → K' r s) {σ : sm_S} {x4 : Int32} {x5 : Int32} {x7 : Int32} (h : mp_X8_found_131 K σ x4 x5 x7) : mp_X8_found_131 K' σ x4 x5 x7 := by
  unfold mp_X8_found_131 at h ⊢
  exact mo_X8_found_132 hK h
theorem mo_X8_found_115 {K K' : Int32 → sm_S → Prop} (hK : ∀ r s, K r s → K' r s) {σ : sm_S} {x4 : Int32} {x5 : Int32} {x7 : Int32} {x8 : Int32} (h : mp_X8_found_115 K σ x4 x5 x7 x8) : mp_X8_found_115 K' σ x4 x5 x7 x8 := by
  unfold mp_X8_found_115 at h ⊢
  exact ⟨fun h1 => mo_X8_found_131 hK (h.1 h1), fun h2 => ⟨fun h3 => mo_X8_found_131 hK ((h.2 h2).1 h3), fun h4 => mo_X8_found_132 hK ((h.2 h2).2 h4)⟩⟩
theorem mo_X8_found_103 {K K' : Int32 → sm_S → Prop} (hK : ∀ r s, K r s → K' r s) {σ : sm_S} {x3 : Int32} {x4 : Int32} {x5 : Int32} {x7 : Int32} {y0 : Int32} (h : mp_X8_found_103 K σ x3 x4 x5 x7 y0) : mp_X8_found_103 K' σ x3 x4 x5 x7 y0 := by
  unfold mp_X8_found_103 at h ⊢
  exact ⟨fun h1 => mo_X8_found_115 hK (h.1 h1), fun h2 => ⟨fun h3 => mo_X8_found_131 hK ((h.2 h2).1 h3), fun h4 => mo_X8_found_115 hK ((h.2 h2).2 h4)⟩⟩
theorem mo_X8_found_82 {K K' : Int32 → sm_S → Prop} (hK : ∀ r s, K r s → K' r s) {σ : sm_S} {x1 : Int32} {x3 : Int32} {x4 : Int32} {x5 : Int32} {x6 : Int32} {y0 : Int32} (h : mp_X8_found_82 K σ x1 x3 x4 x5 x6 y0) : mp_X8_found_82 K' σ x1 x3 x4 x5 x6 y0 := by
  unfold mp_X8_found_82 at h ⊢
  exact ⟨fun h1 => mo_X8_found_103 hK (h.1 h1), fun h2 => ⟨(h.2 h2).1, mo_X8_found_103 hK (h.2 h2).2⟩⟩
theorem mo_X8_found_61 {K K' : Int32 → sm_S → Prop} (hK : ∀ r s, K r s → K' r s) {σ : sm_S} {x6 : Int32} (h : mp_X8_found_61 K σ x6) : mp_X8_found_61 K' σ x6 := by
  unfold mp_X8_found_61 at h ⊢
  exact hK _ _ h
theorem mo_X8_found_27 {K K' : Int32 → sm_S → Prop} (hK : ∀ r s, K r s → K' r s) {σ : sm_S} (h : mp_X8_found_27 K σ) : mp_X8_found_27 K' σ := by
  unfold mp_X8_found_27 at h ⊢
  exact hK _ _ h
theorem mo_X8_found {σ : sm_S} {p1 : Int32} {p2 : Int32} {p3 : Int32} {p4 : Int32} {K K' : Int32 → sm_S → Prop} (hK : ∀ r s, K r s → K' r s) (h : mp_X8_found σ p1 p2 p3 p4 K) : mp_X8_found σ p1 p2 p3 p4 K' := by
  unfold mp_X8_found at h ⊢
  exact ⟨fun h1 => mo_X8_found_27 hK (h.1 h1), fun h2 => ⟨fun h3 => mo_X8_found_27 hK ((h.2 h2).1 h3), fun h4 => mo_X2_beginsAt (fun r12 σ11 h5 => ⟨fun h6 => ⟨(h5.1 h6).1, fun v15 e10 => ⟨((h5.1 h6).2 v15 e10).1, fun v17 e14 => ⟨fun h15 => mo_X8_found_61 hK ((((h5.1 h6).2 v15 e10).2 v17 e14).1 h15), fun h16 => ⟨fun h17 => ⟨fun h18 => ⟨((((((h5.1 h6).2 v15 e10).2 v17 e14).2 h16).1 h17).1 h18).1, mo_X8_found_82 hK ((((((h5.1 h6).2 v15 e10).2 v17 e14).2 h16).1 h17).1 h18).2⟩, fun h21 => mo_X8_found_82 hK ((((((h5.1 h6).2 v15 e10).2 v17 e14).2 h16).1 h17).2 h21)⟩, fun h22 => mo_X8_found_61 hK (((((h5.1 h6).2 v15 e10).2 v17 e14).2 h16).2 h22)⟩⟩⟩⟩, fun h23 => mo_X8_found_27 hK (h5.2 h23)⟩) ((h.2 h2).2 h4)⟩⟩
theorem mo_X9_target_30 {K K' : Int32 → sm_S → Prop} (hK : ∀ r s, K r s → K' r s) {σ : sm_S} {y0 : Int32} (h : mp_X9_target_30 K σ y0) : mp_X9_target_30 K' σ y0 := by
  unfold mp_X9_target_30 at h ⊢
  exact hK _ _ h
theorem mo_X9_target {σ : sm_S} {p1 : Int64} {K K' : Int32 → sm_S → Prop} (hK : ∀ r s, K r s → K' r s) (h : mp_X9_target σ p1 K) : mp_X9_target σ p1 K' := by
  unfold mp_X9_target at h ⊢
  exact mo_X1_peek (fun r2 σ1 h1 => mo_X1_kind (fun r4 σ3 h2 => ⟨fun h3 => mo_X9_target_30 hK (h2.1 h3), fun h4 => mo_X9_target_30 hK (h2.2 h4)⟩) h1) h
theorem mo_X9_frameAt_48 {K K' : Int32 → sm_S → Prop} (hK : ∀ r s, K r s → K' r s) {σ : sm_S} {x2 : Int32} (h : mp_X9_frameAt_48 K σ x2) : mp_X9_frameAt_48 K' σ x2 := by
  unfold mp_X9_frameAt_48 at h ⊢
  exact hK _ _ h
theorem mo_X9_frameAt_18 {K K' : Int32 → sm_S → Prop} (hK : ∀ r s, K r s → K' r s) {n18 : Nat} {σ : sm_S} {x1 : Int32} {x2 : Int32} {x3 : Int32} (h : mp_X9_frameAt_18 K n18 σ x1 x2 x3) : mp_X9_frameAt_18 K' n18 σ x1 x2 x3 := by
  suffices g : ∀ (σ : sm_S) (x1 : Int32) (x2 : Int32) (x3 : Int32), mp_X9_frameAt_18 K n18 σ x1 x2 x3 → mp_X9_frameAt_18 K' n18 σ x1 x2 x3 from g _ _ _ _ h
  clear h
  induction n18 with
  | zero => exact fun _ _ _ _ h => h.elim
  | succ n18 ih18 =>
    intro σ x1 x2 x3 h
    unfold mp_X9_frameAt_18 at h ⊢
    exact ⟨fun h1 => mo_X9_frameAt_48 hK (h.1 h1), fun h2 => ⟨fun h3 => mo_X9_frameAt_48 hK ((h.2 h2).1 h3), fun h4 => mo_X1_peek (fun r4 σ3 h5 => mo_X9_target (fun r6 σ5 h6 => fun v7 e8 => ih18 _ _ _ _ (h6 v7 e8)) h5) ((h.2 h2).2 h4)⟩⟩
theorem mo_X9_frameAt_15 {K K' : Int32 → sm_S → Prop} (hK : ∀ r s, K r s → K' r s) {σ : sm_S} {x1 : Int32} {y0 : Int32} (h : mp_X9_frameAt_15 K σ x1 y0) : mp_X9_frameAt_15 K' σ x1 y0 := by
  unfold mp_X9_frameAt_15 at h ⊢
  exact h.elim (fun n18 h1 => ⟨n18, mo_X9_frameAt_18 hK h1⟩)
theorem mo_X9_frameAt {σ : sm_S} {p1 : Int32} {K K' : Int32 → sm_S → Prop} (hK : ∀ r s, K r s → K' r s) (h : mp_X9_frameAt σ p1 K) : mp_X9_frameAt σ p1 K' := by
  unfold mp_X9_frameAt at h ⊢
  exact ⟨fun h1 => mo_X9_frameAt_15 hK (h.1 h1), fun h2 => mo_X9_frameAt_15 hK (h.2 h2)⟩
theorem mo_X9_ofFrame {σ : sm_S} {p1 : Int32} {p2 : Int32} {K K' : Int32 → sm_S → Prop} (hK : ∀ r s, K r s → K' r s) (h : mp_X9_ofFrame σ p1 p2 K) : mp_X9_ofFrame σ p1 p2 K' := by
  unfold mp_X9_ofFrame at h ⊢
  exact mo_X1_peek (fun r2 σ1 h1 => ⟨fun h2 => hK _ _ (h1.1 h2), fun h3 => mo_X1_peek (fun r6 σ5 h4 => hK _ _ h4) (h1.2.1 h3), fun h5 => mo_X1_peek (fun r9 σ8 h6 => hK _ _ h6) (h1.2.2.1 h5), fun h7 => ⟨(h1.2.2.2.1 h7).1, hK _ _ (h1.2.2.2.1 h7).2⟩, fun h10 h11 h12 h13 => hK _ _ (h1.2.2.2.2 h10 h11 h12 h13)⟩) h
theorem mo_X9_ofPlace_53 {K K' : Int64 → sm_S → Prop} (hK : ∀ r s, K r s → K' r s) {σ : sm_S} {y0 : Int64} (h : mp_X9_ofPlace_53 K σ y0) : mp_X9_ofPlace_53 K' σ y0 := by
  unfold mp_X9_ofPlace_53 at h ⊢
  exact hK _ _ h
theorem mo_X9_ofPlace_30 {K K' : Int64 → sm_S → Prop} (hK : ∀ r s, K r s → K' r s) {σ : sm_S} {x1 : Int32} {x2 : Int32} {y0 : Int32} (h : mp_X9_ofPlace_30 K σ x1 x2 y0) : mp_X9_ofPlace_30 K' σ x1 x2 y0 := by
  unfold mp_X9_ofPlace_30 at h ⊢
  exact ⟨fun h1 => mo_X9_ofPlace_53 hK (h.1 h1), fun h2 => mo_X1_peek (fun r3 σ2 h3 => mo_X9_ofPlace_53 hK h3) (h.2 h2)⟩
theorem mo_X9_ofPlace_29 {K K' : Int64 → sm_S → Prop} (hK : ∀ r s, K r s → K' r s) {σ : sm_S} {x1 : Int32} {x2 : Int32} (h : mp_X9_ofPlace_29 K σ x1 x2) : mp_X9_ofPlace_29 K' σ x1 x2 := by
  unfold mp_X9_ofPlace_29 at h ⊢
  exact mo_X9_ofPlace_30 hK h
theorem mo_X9_ofPlace {σ : sm_S} {p1 : Int32} {p2 : Int32} {K K' : Int64 → sm_S → Prop} (hK : ∀ r s, K r s → K' r s) (h : mp_X9_ofPlace σ p1 p2 K) : mp_X9_ofPlace σ p1 p2 K' := by
  unfold mp_X9_ofPlace at h ⊢
  exact ⟨fun h1 => mo_X9_ofPlace_29 hK (h.1 h1), fun h2 => ⟨fun h3 => mo_X9_ofPlace_29 hK ((h.2 h2).1 h3), fun h4 => mo_X9_ofFrame (fun r7 σ6 h5 => mo_X9_ofFrame (fun r9 σ8 h6 => ⟨fun h7 => mo_X9_ofPlace_29 hK (h6.1 h7), fun h8 => mo_X9_ofPlace_30 hK (h6.2 h8)⟩) h5) ((h.2 h2).2 h4)⟩⟩
theorem mo_X9_flying_31 {K K' : Int64 → sm_S → Prop} (hK : ∀ r s, K r s → K' r s) {σ : sm_S} {y0 : Int64} (h : mp_X9_flying_31 K σ y0) : mp_X9_flying_31 K' σ y0 := by
  unfold mp_X9_flying_31 at h ⊢
  exact hK _ _ h
theorem mo_X9_flying_28 {K K' : Int64 → sm_S → Prop} (hK : ∀ r s, K r s → K' r s) {σ : sm_S} (h : mp_X9_flying_28 K σ) : mp_X9_flying_28 K' σ := by
  unfold mp_X9_flying_28 at h ⊢
  exact mo_X9_flying_31 hK h
theorem mo_X9_flying {σ : sm_S} {p1 : Int32} {K K' : Int64 → sm_S → Prop} (hK : ∀ r s, K r s → K' r s) (h : mp_X9_flying σ p1 K) : mp_X9_flying σ p1 K' := by
  unfold mp_X9_flying at h ⊢
  exact ⟨fun h1 => mo_X9_flying_28 hK (h.1 h1), fun h2 => ⟨fun h3 => mo_X9_flying_28 hK ((h.2 h2).1 h3), fun h4 => mo_X1_cell (fun r4 σ3 h5 => mo_X9_flying_31 hK h5) ((h.2 h2).2 h4)⟩⟩
theorem mo_X9_item_64 {L16 L16' : sm_S → Int64 → Int32 → Int32 → Int32 → Prop} (hL16 : ∀ z0 z1 z2 z3 z4, L16 z0 z1 z2 z3 z4 → L16' z0 z1 z2 z3 z4) {K K' : Int64 → sm_S → Prop} (hK : ∀ r s, K r s → K' r s) {σ : sm_S} {y0 : Int64} (h : mp_X9_item_64 L16 K σ y0) : mp_X9_item_64 L16' K' σ y0 := by
  unfold mp_X9_item_64 at h ⊢
  exact hK _ _ h
theorem mo_X9_item_16 {K K' : Int64 → sm_S → Prop} (hK : ∀ r s, K r s → K' r s) {n16 : Nat} {σ : sm_S} {x2 : Int64} {x5 : Int32} {x6 : Int32} {x7 : Int32} (h : mp_X9_item_16 K n16 σ x2 x5 x6 x7) : mp_X9_item_16 K' n16 σ x2 x5 x6 x7 := by
  suffices g : ∀ (σ : sm_S) (x2 : Int64) (x5 : Int32) (x6 : Int32) (x7 : Int32), mp_X9_item_16 K n16 σ x2 x5 x6 x7 → mp_X9_item_16 K' n16 σ x2 x5 x6 x7 from g _ _ _ _ _ h
  clear h
  induction n16 with
  | zero => exact fun _ _ _ _ _ h => h.elim
  | succ n16 ih16 =>
    intro σ x2 x5 x6 x7 h
    unfold mp_X9_item_16 at h ⊢
    exact ⟨fun h1 => mo_X1_peek (fun r3 σ2 h2 => hK _ _ h2) (h.1 h1), fun h3 => ⟨(h.2 h3).1, mo_X1_peek (fun r5 σ4 h6 => mo_X9_target (fun r7 σ6 h7 => ⟨fun h8 => ⟨(h7.1 h8).1, fun v9 e12 => fun v10 e14 => ih16 _ _ _ _ _ (((h7.1 h8).2 v9 e12) v10 e14)⟩, fun h15 => mo_X1_rowItem (fun r13 σ12 h16 => ⟨fun h17 => mo_X9_item_64 ih16 hK (h16.1 h17), fun h18 => mo_X9_item_64 ih16 hK (h16.2 h18)⟩) (h7.2 h15)⟩) h6) (h.2 h3).2⟩⟩
theorem mo_X9_item {σ : sm_S} {p1 : Int32} {p2 : Int64} {p3 : Int32} {K K' : Int64 → sm_S → Prop} (hK : ∀ r s, K r s → K' r s) (h : mp_X9_item σ p1 p2 p3 K) : mp_X9_item σ p1 p2 p3 K' := by
  unfold mp_X9_item at h ⊢
  exact mo_X1_rowLength (fun r17 σ16 h1 => mo_X1_span (fun r19 σ18 h2 => h2.elim (fun n16 h3 => ⟨n16, mo_X9_item_16 hK h3⟩)) h1) h
theorem mo_X9_part_106 {K K' : Int64 → sm_S → Prop} (hK : ∀ r s, K r s → K' r s) {σ : sm_S} {y0 : Int64} (h : mp_X9_part_106 K σ y0) : mp_X9_part_106 K' σ y0 := by
  unfold mp_X9_part_106 at h ⊢
  exact hK _ _ h
theorem mo_X9_part_81 {K K' : Int64 → sm_S → Prop} (hK : ∀ r s, K r s → K' r s) {σ : sm_S} {y0 : Int64} (h : mp_X9_part_81 K σ y0) : mp_X9_part_81 K' σ y0 := by
  unfold mp_X9_part_81 at h ⊢
  exact hK _ _ h
theorem mo_X9_part_16 {K K' : Int64 → sm_S → Prop} (hK : ∀ r s, K r s → K' r s) {σ : sm_S} (h : mp_X9_part_16 K σ) : mp_X9_part_16 K' σ := by
  unfold mp_X9_part_16 at h ⊢
  exact hK _ _ h
theorem mo_X9_part {σ : sm_S} {p1 : Int64} {p2 : Int32} {K K' : Int64 → sm_S → Prop} (hK : ∀ r s, K r s → K' r s) (h : mp_X9_part σ p1 p2 K) : mp_X9_part σ p1 p2 K' := by
  unfold mp_X9_part at h ⊢
  exact mo_X1_kind (fun r2 σ1 h1 => ⟨fun h2 => mo_X9_part_16 hK (h1.1 h2), fun h3 => ⟨fun h4 => mo_X9_target (fun r6 σ5 h5 => mo_X1_peek (fun r8 σ7 h6 => mo_X1_kind (fun r10 σ9 h7 => ⟨fun h8 => mo_X1_rowLength (fun r13 σ12 h9 => ⟨fun h10 => mo_X9_part_106 hK (h9.1 h10), fun h11 => mo_X9_item (fun r16 σ15 h12 => mo_X9_part_106 hK h12) (h9.2 h11)⟩) (h7.1 h8), fun h13 => ⟨(h7.2 h13).1, ⟨fun h16 => mo_X9_part_81 hK ((h7.2 h13).2.1 h16), fun h17 => mo_X1_peek (fun r20 σ19 h18 => mo_X9_part_81 hK h18) ((h7.2 h13).2.2 h17)⟩⟩⟩) h6) h5) ((h1.2 h3).1 h4), fun h19 => mo_X9_part_16 hK ((h1.2 h3).2 h19)⟩⟩) h
theorem mo_X9_along_65 {K K' : Int64 → sm_S → Prop} (hK : ∀ r s, K r s → K' r s) {σ : sm_S} {x5 : Int64} (h : mp_X9_along_65 K σ x5) : mp_X9_along_65 K' σ x5 := by
  unfold mp_X9_along_65 at h ⊢
  exact hK _ _ h
theorem mo_X9_along_9 {K K' : Int64 → sm_S → Prop} (hK : ∀ r s, K r s → K' r s) {n9 : Nat} {σ : sm_S} {x5 : Int64} {x7 : Int64} {x9 : Int32} (h : mp_X9_along_9 K n9 σ x5 x7 x9) : mp_X9_along_9 K' n9 σ x5 x7 x9 := by
  suffices g : ∀ (σ : sm_S) (x5 : Int64) (x7 : Int64) (x9 : Int32), mp_X9_along_9 K n9 σ x5 x7 x9 → mp_X9_along_9 K' n9 σ x5 x7 x9 from g _ _ _ _ h
  clear h
  induction n9 with
  | zero => exact fun _ _ _ _ h => h.elim
  | succ n9 ih9 =>
    intro σ x5 x7 x9 h
    unfold mp_X9_along_9 at h ⊢
    exact ⟨fun h1 => mo_X9_along_65 hK (h.1 h1), fun h2 => ⟨fun h3 => mo_X9_along_65 hK ((h.2 h2).1 h3), fun h4 => fun v3 e6 => ⟨fun h7 => mo_X9_part (fun r6 σ5 h8 => fun v7 e10 => fun v8 e12 => ih9 _ _ _ _ ((h8 v7 e10) v8 e12)) ((((h.2 h2).2 h4) v3 e6).1 h7), fun h13 => hK _ _ ((((h.2 h2).2 h4) v3 e6).2 h13)⟩⟩⟩
theorem mo_X9_along {σ : sm_S} {p1 : Int64} {p2 : Int64} {K K' : Int64 → sm_S → Prop} (hK : ∀ r s, K r s → K' r s) (h : mp_X9_along σ p1 p2 K) : mp_X9_along σ p1 p2 K' := by
  unfold mp_X9_along at h ⊢
  exact h.elim (fun n9 h1 => ⟨n9, mo_X9_along_9 hK h1⟩)
theorem mo_X9_ask_148 {K K' : Int64 → sm_S → Prop} (hK : ∀ r s, K r s → K' r s) {σ : sm_S} {y0 : Int64} (h : mp_X9_ask_148 K σ y0) : mp_X9_ask_148 K' σ y0 := by
  unfold mp_X9_ask_148 at h ⊢
  exact hK _ _ h
theorem mo_X9_ask_121 {K K' : Int64 → sm_S → Prop} (hK : ∀ r s, K r s → K' r s) {σ : sm_S} {x3 : Int32} {x4 : Int64} {y0 : Int32} (h : mp_X9_ask_121 K σ x3 x4 y0) : mp_X9_ask_121 K' σ x3 x4 y0 := by
  unfold mp_X9_ask_121 at h ⊢
  exact ⟨fun h1 => ⟨fun h2 => mo_X9_ask_148 hK ((h.1 h1).1 h2), fun h3 => mo_X1_rowLength (fun r4 σ3 h4 => mo_X9_ask_148 hK h4) ((h.1 h1).2 h3)⟩, fun h5 => mo_X9_ask_148 hK (h.2 h5)⟩
theorem mo_X9_ask_107 {K K' : Int64 → sm_S → Prop} (hK : ∀ r s, K r s → K' r s) {σ : sm_S} {y0 : Int64} (h : mp_X9_ask_107 K σ y0) : mp_X9_ask_107 K' σ y0 := by
  unfold mp_X9_ask_107 at h ⊢
  exact hK _ _ h
theorem mo_X9_ask_49 {K K' : Int64 → sm_S → Prop} (hK : ∀ r s, K r s → K' r s) {σ : sm_S} {y0 : Int64} (h : mp_X9_ask_49 K σ y0) : mp_X9_ask_49 K' σ y0 := by
  unfold mp_X9_ask_49 at h ⊢
  exact hK _ _ h
theorem mo_X9_ask_31 {K K' : Int64 → sm_S → Prop} (hK : ∀ r s, K r s → K' r s) {σ : sm_S} {y0 : Int64} (h : mp_X9_ask_31 K σ y0) : mp_X9_ask_31 K' σ y0 := by
  unfold mp_X9_ask_31 at h ⊢
  exact hK _ _ h
theorem mo_X9_ask {σ : sm_S} {p1 : Int64} {p2 : Int32} {K K' : Int64 → sm_S → Prop} (hK : ∀ r s, K r s → K' r s) (h : mp_X9_ask σ p1 p2 K) : mp_X9_ask σ p1 p2 K' := by
  unfold mp_X9_ask at h ⊢
  exact ⟨fun h1 => mo_X1_kind (fun r7 σ6 h2 => ⟨fun h3 => ⟨fun h4 => mo_X9_target (fun r11 σ10 h5 => mo_X1_peek (fun r13 σ12 h6 => mo_X1_kind (fun r15 σ14 h7 => ⟨fun h8 => mo_X1_rowItem (fun r18 σ17 h9 => ⟨fun h10 => mo_X9_ask_121 hK (h9.1 h10), fun h11 => mo_X9_ask_121 hK (h9.2 h11)⟩) (h7.1 h8), fun h12 => ⟨fun h13 => ⟨fun h14 => ⟨(((h7.2 h12).1 h13).1 h14).1, mo_X9_ask_107 hK (((h7.2 h12).1 h13).1 h14).2⟩, fun h17 => mo_X9_ask_107 hK (((h7.2 h12).1 h13).2 h17)⟩, fun h18 => mo_X9_ask_107 hK ((h7.2 h12).2 h18)⟩⟩) h6) h5) ((h2.1 h3).1 h4), fun h19 => ⟨fun h20 => mo_X9_ask_49 hK (((h2.1 h3).2 h19).1 h20), fun h21 => mo_X9_ask_49 hK (((h2.1 h3).2 h19).2 h21)⟩⟩, fun h22 => ⟨fun h23 => mo_X9_ask_31 hK ((h2.2 h22).1 h23), fun h24 => mo_X9_ask_31 hK ((h2.2 h22).2 h24)⟩⟩) (h.1 h1), fun h25 => hK _ _ (h.2 h25)⟩
theorem mo_X9_alike_46 {K K' : Int32 → sm_S → Prop} (hK : ∀ r s, K r s → K' r s) {σ : sm_S} {y0 : Int32} (h : mp_X9_alike_46 K σ y0) : mp_X9_alike_46 K' σ y0 := by
  unfold mp_X9_alike_46 at h ⊢
  exact ⟨h.1, hK _ _ h.2⟩
theorem mo_X9_alike_45 {K K' : Int32 → sm_S → Prop} (hK : ∀ r s, K r s → K' r s) {σ : sm_S} (h : mp_X9_alike_45 K σ) : mp_X9_alike_45 K' σ := by
  unfold mp_X9_alike_45 at h ⊢
  exact mo_X9_alike_46 hK h
theorem mo_X9_alike_21 {K K' : Int32 → sm_S → Prop} (hK : ∀ r s, K r s → K' r s) {σ : sm_S} {x1 : Int64} {x3 : Int64} {y0 : Int32} (h : mp_X9_alike_21 K σ x1 x3 y0) : mp_X9_alike_21 K' σ x1 x3 y0 := by
  unfold mp_X9_alike_21 at h ⊢
  exact ⟨fun h1 => mo_X9_alike_45 hK (h.1 h1), fun h2 => mo_X9_target (fun r4 σ3 h3 => mo_X9_target (fun r6 σ5 h4 => ⟨fun h5 => mo_X9_alike_45 hK (h4.1 h5), fun h6 => mo_X9_alike_46 hK (h4.2 h6)⟩) h3) (h.2 h2)⟩
theorem mo_X9_alike_20 {K K' : Int32 → sm_S → Prop} (hK : ∀ r s, K r s → K' r s) {σ : sm_S} {x1 : Int64} {x3 : Int64} (h : mp_X9_alike_20 K σ x1 x3) : mp_X9_alike_20 K' σ x1 x3 := by
  unfold mp_X9_alike_20 at h ⊢
  exact mo_X9_alike_21 hK h
theorem mo_X9_alike {σ : sm_S} {p1 : Int64} {p2 : Int64} {K K' : Int32 → sm_S → Prop} (hK : ∀ r s, K r s → K' r s) (h : mp_X9_alike σ p1 p2 K) : mp_X9_alike σ p1 p2 K' := by
  unfold mp_X9_alike at h ⊢
  exact mo_X1_kind (fun r9 σ8 h1 => ⟨fun h2 => mo_X9_alike_20 hK (h1.1 h2), fun h3 => mo_X1_kind (fun r12 σ11 h4 => ⟨fun h5 => mo_X9_alike_20 hK (h4.1 h5), fun h6 => mo_X9_alike_21 hK (h4.2 h6)⟩) (h1.2 h3)⟩) h
theorem mo_X10_tapeNumber_3 {K K' : sm_S → Prop} (hK : ∀ s, K s → K' s) {n3 : Nat} {σ : sm_S} {x1 : Int32} {x2 : Int32} (h : mp_X10_tapeNumber_3 K n3 σ x1 x2) : mp_X10_tapeNumber_3 K' n3 σ x1 x2 := by
  suffices g : ∀ (σ : sm_S) (x1 : Int32) (x2 : Int32), mp_X10_tapeNumber_3 K n3 σ x1 x2 → mp_X10_tapeNumber_3 K' n3 σ x1 x2 from g _ _ _ h
  clear h
  induction n3 with
  | zero => exact fun _ _ _ h => h.elim
  | succ n3 ih3 =>
    intro σ x1 x2 h
    unfold mp_X10_tapeNumber_3 at h ⊢
    exact ⟨fun h1 => hK _ (h.1 h1), fun h2 => ⟨(h.2 h2).1, fun σ3 e6 => fun σ4 e8 => fun v5 e10 => ih3 _ _ _ ((((h.2 h2).2 σ3 e6) σ4 e8) v5 e10)⟩⟩
theorem mo_X10_tapeNumber {σ : sm_S} {p1 : Int32} {K K' : sm_S → Prop} (hK : ∀ s, K s → K' s) (h : mp_X10_tapeNumber σ p1 K) : mp_X10_tapeNumber σ p1 K' := by
  unfold mp_X10_tapeNumber at h ⊢
  exact h.elim (fun n3 h1 => ⟨n3, mo_X10_tapeNumber_3 hK h1⟩)
theorem mo_X10_input {σ : sm_S} {p1 : Int32} {K K' : Int32 → sm_S → Prop} (hK : ∀ r s, K r s → K' r s) (h : mp_X10_input σ p1 K) : mp_X10_input σ p1 K' := by
  unfold mp_X10_input at h ⊢
  exact mo_X5_add (fun r2 σ1 h1 => hK _ _ h1) h
theorem mo_X10_clear {σ : sm_S}  {K K' : sm_S → Prop} (hK : ∀ s, K s → K' s) (h : mp_X10_clear σ  K) : mp_X10_clear σ  K' := by
  unfold mp_X10_clear at h ⊢
  exact fun σ1 e2 => hK _ (h σ1 e2)
theorem mo_X10_run_63 {K K' : Int32 → sm_S → Prop} (hK : ∀ r s, K r s → K' r s) {σ : sm_S} {x2 : Int32} (h : mp_X10_run_63 K σ x2) : mp_X10_run_63 K' σ x2 := by
  unfold mp_X10_run_63 at h ⊢
  exact hK _ _ h
theorem mo_X10_run_57 {L28 L28' : sm_S → Int32 → Int32 → Int32 → Prop} (hL28 : ∀ z0 z1 z2 z3, L28 z0 z1 z2 z3 → L28' z0 z1 z2 z3) {K K' : Int32 → sm_S → Prop} (hK : ∀ r s, K r s → K' r s) {σ : sm_S} {x1 : Int32} {x2 : Int32} {x3 : Int32} (h : mp_X10_run_57 L28 K σ x1 x2 x3) : mp_X10_run_57 L28' K' σ x1 x2 x3 := by
  unfold mp_X10_run_57 at h ⊢
  exact fun v1 e2 => hL28 _ _ _ _ (h v1 e2)
theorem mo_X10_run_28 {K K' : Int32 → sm_S → Prop} (hK : ∀ r s, K r s → K' r s) {n28 : Nat} {σ : sm_S} {x1 : Int32} {x2 : Int32} {x3 : Int32} (h : mp_X10_run_28 K n28 σ x1 x2 x3) : mp_X10_run_28 K' n28 σ x1 x2 x3 := by
  suffices g : ∀ (σ : sm_S) (x1 : Int32) (x2 : Int32) (x3 : Int32), mp_X10_run_28 K n28 σ x1 x2 x3 → mp_X10_run_28 K' n28 σ x1 x2 x3 from g _ _ _ _ h
  clear h
  induction n28 with
  | zero => exact fun _ _ _ _ h => h.elim
  | succ n28 ih28 =>
    intro σ x1 x2 x3 h
    unfold mp_X10_run_28 at h ⊢
    exact ⟨fun h1 => mo_X10_run_63 hK (h.1 h1), fun h2 => ⟨fun h3 => mo_X10_run_63 hK ((h.2 h2).1 h3), fun h4 => mo_X7_step (fun r5 σ4 h5 => ⟨fun h6 => mo_X10_run_57 ih28 hK (h5.1 h6), fun h7 => fun v7 e9 => mo_X10_run_57 ih28 hK ((h5.2 h7) v7 e9)⟩) ((h.2 h2).2 h4)⟩⟩
theorem mo_X10_run_22 {K K' : Int32 → sm_S → Prop} (hK : ∀ r s, K r s → K' r s) {σ : sm_S} (h : mp_X10_run_22 K σ) : mp_X10_run_22 K' σ := by
  unfold mp_X10_run_22 at h ⊢
  exact hK _ _ h
theorem mo_X10_run {σ : sm_S} {p1 : Int32} {K K' : Int32 → sm_S → Prop} (hK : ∀ r s, K r s → K' r s) (h : mp_X10_run σ p1 K) : mp_X10_run σ p1 K' := by
  unfold mp_X10_run at h ⊢
  exact ⟨fun h1 => mo_X10_run_22 hK (h.1 h1), fun h2 => ⟨fun h3 => mo_X10_run_22 hK ((h.2 h2).1 h3), fun h4 => ⟨fun h5 => (((h.2 h2).2 h4).1 h5).elim (fun n28 h6 => ⟨n28, mo_X10_run_28 hK h6⟩), fun h7 => mo_X10_run_22 hK (((h.2 h2).2 h4).2 h7)⟩⟩⟩
theorem mo_X10_state {σ : sm_S}  {K K' : Int32 → sm_S → Prop} (hK : ∀ r s, K r s → K' r s) (h : mp_X10_state σ  K) : mp_X10_state σ  K' := by
  unfold mp_X10_state at h ⊢
  exact hK _ _ h
theorem mo_X10_count_191 {K K' : Int64 → sm_S → Prop} (hK : ∀ r s, K r s → K' r s) {σ : sm_S} {y0 : Int64} (h : mp_X10_count_191 K σ y0) : mp_X10_count_191 K' σ y0 := by
  unfold mp_X10_count_191 at h ⊢
  exact hK _ _ h
theorem mo_X10_count_168 {K K' : Int64 → sm_S → Prop} (hK : ∀ r s, K r s → K' r s) {σ : sm_S} {y0 : Int64} (h : mp_X10_count_168 K σ y0) : mp_X10_count_168 K' σ y0 := by
  unfold mp_X10_count_168 at h ⊢
  exact hK _ _ h
theorem mo_X10_count_145 {K K' : Int64 → sm_S → Prop} (hK : ∀ r s, K r s → K' r s) {σ : sm_S} {y0 : Int64} (h : mp_X10_count_145 K σ y0) : mp_X10_count_145 K' σ y0 := by
  unfold mp_X10_count_145 at h ⊢
  exact hK _ _ h
theorem mo_X10_count_144 {K K' : Int64 → sm_S → Prop} (hK : ∀ r s, K r s → K' r s) {σ : sm_S} (h : mp_X10_count_144 K σ) : mp_X10_count_144 K' σ := by
  unfold mp_X10_count_144 at h ⊢
  exact mo_X10_count_145 hK h
theorem mo_X10_count_125 {K K' : Int64 → sm_S → Prop} (hK : ∀ r s, K r s → K' r s) {σ : sm_S} {y0 : Int64} (h : mp_X10_count_125 K σ y0) : mp_X10_count_125 K' σ y0 := by
  unfold mp_X10_count_125 at h ⊢
  exact hK _ _ h
theorem mo_X10_count_108 {K K' : Int64 → sm_S → Prop} (hK : ∀ r s, K r s → K' r s) {σ : sm_S} {y0 : Int64} (h : mp_X10_count_108 K σ y0) : mp_X10_count_108 K' σ y0 := by
  unfold mp_X10_count_108 at h ⊢
  exact hK _ _ h
theorem mo_X10_count_92 {K K' : Int64 → sm_S → Prop} (hK : ∀ r s, K r s → K' r s) {σ : sm_S} {y0 : Int64} (h : mp_X10_count_92 K σ y0) : mp_X10_count_92 K' σ y0 := by
  unfold mp_X10_count_92 at h ⊢
  exact hK _ _ h
theorem mo_X10_count_75 {K K' : Int64 → sm_S → Prop} (hK : ∀ r s, K r s → K' r s) {σ : sm_S} {y0 : Int64} (h : mp_X10_count_75 K σ y0) : mp_X10_count_75 K' σ y0 := by
  unfold mp_X10_count_75 at h ⊢
  exact hK _ _ h
theorem mo_X10_count_15 {K K' : Int64 → sm_S → Prop} (hK : ∀ r s, K r s → K' r s) {σ : sm_S} {x1 : Int32} {y0 : Int32} (h : mp_X10_count_15 K σ x1 y0) : mp_X10_count_15 K' σ x1 y0 := by
  unfold mp_X10_count_15 at h ⊢
  exact ⟨fun h1 => ⟨fun h2 => mo_X10_count_75 hK ((h.1 h1).1 h2), fun h3 => mo_X10_count_75 hK ((h.1 h1).2 h3)⟩, fun h4 => ⟨fun h5 => mo_X10_count_92 hK ((h.2.1 h4).1 h5), fun h6 => mo_X10_count_92 hK ((h.2.1 h4).2 h6)⟩, fun h7 => ⟨fun h8 => mo_X10_count_108 hK ((h.2.2.1 h7).1 h8), fun h9 => mo_X10_count_108 hK ((h.2.2.1 h7).2 h9)⟩, fun h10 => ⟨fun h11 => mo_X10_count_125 hK ((h.2.2.2.1 h10).1 h11), fun h12 => mo_X10_count_125 hK ((h.2.2.2.1 h10).2 h12)⟩, fun h13 => ⟨fun h14 => mo_X10_count_144 hK ((h.2.2.2.2.1 h13).1 h14), fun h15 => ⟨fun h16 => mo_X10_count_144 hK (((h.2.2.2.2.1 h13).2 h15).1 h16), fun h17 => mo_X10_count_145 hK (((h.2.2.2.2.1 h13).2 h15).2 h17)⟩⟩, fun h18 => ⟨fun h19 => mo_X10_count_168 hK ((h.2.2.2.2.2.1 h18).1 h19), fun h20 => mo_X10_count_168 hK ((h.2.2.2.2.2.1 h18).2 h20)⟩, fun h21 => ⟨fun h22 => mo_X10_count_191 hK ((h.2.2.2.2.2.2.1 h21).1 h22), fun h23 => mo_X10_count_191 hK ((h.2.2.2.2.2.2.1 h21).2 h23)⟩, fun h24 h25 h26 h27 h28 h29 h30 => hK _ _ (h.2.2.2.2.2.2.2 h24 h25 h26 h27 h28 h29 h30)⟩
theorem mo_X10_count {σ : sm_S} {p1 : Int32} {K K' : Int64 → sm_S → Prop} (hK : ∀ r s, K r s → K' r s) (h : mp_X10_count σ p1 K) : mp_X10_count σ p1 K' := by
  unfold mp_X10_count at h ⊢
  exact ⟨fun h1 => mo_X10_count_15 hK (h.1 h1), fun h2 => mo_X10_count_15 hK (h.2 h2)⟩
theorem mo_X10_out_57 {K K' : Int32 → sm_S → Prop} (hK : ∀ r s, K r s → K' r s) {σ : sm_S} {y0 : Int32} (h : mp_X10_out_57 K σ y0) : mp_X10_out_57 K' σ y0 := by
  unfold mp_X10_out_57 at h ⊢
  exact hK _ _ h
theorem mo_X10_out_39 {K K' : Int32 → sm_S → Prop} (hK : ∀ r s, K r s → K' r s) {σ : sm_S} {x1 : Int32} {y0 : Int32} (h : mp_X10_out_39 K σ x1 y0) : mp_X10_out_39 K' σ x1 y0 := by
  unfold mp_X10_out_39 at h ⊢
  exact ⟨fun h1 => mo_X10_out_57 hK (h.1 h1), fun h2 => ⟨(h.2 h2).1, mo_X10_out_57 hK (h.2 h2).2⟩⟩
theorem mo_X10_out_38 {K K' : Int32 → sm_S → Prop} (hK : ∀ r s, K r s → K' r s) {σ : sm_S} {x1 : Int32} (h : mp_X10_out_38 K σ x1) : mp_X10_out_38 K' σ x1 := by
  unfold mp_X10_out_38 at h ⊢
  exact mo_X10_out_39 hK h
theorem mo_X10_out {σ : sm_S} {p1 : Int32} {K K' : Int32 → sm_S → Prop} (hK : ∀ r s, K r s → K' r s) (h : mp_X10_out σ p1 K) : mp_X10_out σ p1 K' := by
  unfold mp_X10_out at h ⊢
  exact ⟨fun h1 => mo_X10_out_38 hK (h.1 h1), fun h2 => ⟨fun h3 => mo_X10_out_38 hK ((h.2 h2).1 h3), fun h4 => ⟨fun h5 => mo_X10_out_38 hK (((h.2 h2).2 h4).1 h5), fun h6 => ⟨fun h7 => mo_X10_out_38 hK ((((h.2 h2).2 h4).2 h6).1 h7), fun h8 => mo_X10_out_39 hK ((((h.2 h2).2 h4).2 h6).2 h8)⟩⟩⟩⟩
theorem mo_X10_frame_40 {K K' : Int32 → sm_S → Prop} (hK : ∀ r s, K r s → K' r s) {σ : sm_S} {y0 : Int32} (h : mp_X10_frame_40 K σ y0) : mp_X10_frame_40 K' σ y0 := by
  unfold mp_X10_frame_40 at h ⊢
  exact hK _ _ h
theorem mo_X10_frame_22 {K K' : Int32 → sm_S → Prop} (hK : ∀ r s, K r s → K' r s) {σ : sm_S} {x2 : Int32} {y0 : Int32} (h : mp_X10_frame_22 K σ x2 y0) : mp_X10_frame_22 K' σ x2 y0 := by
  unfold mp_X10_frame_22 at h ⊢
  exact ⟨fun h1 => mo_X9_ofFrame (fun r3 σ2 h2 => mo_X10_frame_40 hK h2) (h.1 h1), fun h3 => mo_X10_frame_40 hK (h.2 h3)⟩
theorem mo_X10_frame {σ : sm_S} {p1 : Int32} {p2 : Int32} {K K' : Int32 → sm_S → Prop} (hK : ∀ r s, K r s → K' r s) (h : mp_X10_frame σ p1 p2 K) : mp_X10_frame σ p1 p2 K' := by
  unfold mp_X10_frame at h ⊢
  exact ⟨fun h1 => mo_X9_frameAt (fun r6 σ5 h2 => mo_X10_frame_22 hK h2) (h.1 h1), fun h3 => mo_X10_frame_22 hK (h.2 h3)⟩
theorem mo_X10_value_57 {K K' : Int64 → sm_S → Prop} (hK : ∀ r s, K r s → K' r s) {σ : sm_S} {x3 : Int64} {x5 : Int32} {y0 : Int64} (h : mp_X10_value_57 K σ x3 x5 y0) : mp_X10_value_57 K' σ x3 x5 y0 := by
  unfold mp_X10_value_57 at h ⊢
  exact mo_X9_along (fun r2 σ1 h1 => mo_X9_ask (fun r4 σ3 h2 => hK _ _ h2) h1) h
theorem mo_X10_value_21 {K K' : Int64 → sm_S → Prop} (hK : ∀ r s, K r s → K' r s) {σ : sm_S} (h : mp_X10_value_21 K σ) : mp_X10_value_21 K' σ := by
  unfold mp_X10_value_21 at h ⊢
  exact hK _ _ h
theorem mo_X10_value {σ : sm_S} {p1 : Int32} {p2 : Int32} {p3 : Int64} {p4 : Int32} {K K' : Int64 → sm_S → Prop} (hK : ∀ r s, K r s → K' r s) (h : mp_X10_value σ p1 p2 p3 p4 K) : mp_X10_value σ p1 p2 p3 p4 K' := by
  unfold mp_X10_value at h ⊢
  exact ⟨fun h1 => mo_X10_value_21 hK (h.1 h1), fun h2 => ⟨fun h3 => mo_X10_value_21 hK ((h.2 h2).1 h3), fun h4 => ⟨fun h5 => ⟨fun h6 => mo_X9_frameAt (fun r10 σ9 h7 => mo_X9_ofPlace (fun r12 σ11 h8 => mo_X10_value_57 hK h8) h7) ((((h.2 h2).2 h4).1 h5).1 h6), fun h9 => mo_X9_flying (fun r14 σ13 h10 => mo_X10_value_57 hK h10) ((((h.2 h2).2 h4).1 h5).2 h9)⟩, fun h11 => mo_X10_value_21 hK (((h.2 h2).2 h4).2 h11)⟩⟩⟩
theorem mo_X10_same {σ : sm_S} {p1 : Int32} {p2 : Int32} {K K' : Int32 → sm_S → Prop} (hK : ∀ r s, K r s → K' r s) (h : mp_X10_same σ p1 p2 K) : mp_X10_same σ p1 p2 K' := by
  unfold mp_X10_same at h ⊢
  exact ⟨fun h1 => mo_X9_frameAt (fun r3 σ2 h2 => mo_X9_ofPlace (fun r5 σ4 h3 => mo_X9_ofPlace (fun r7 σ6 h4 => mo_X9_alike (fun r9 σ8 h5 => ⟨h5.1, hK _ _ h5.2⟩) h4) h3) h2) (h.1 h1), fun h8 => hK _ _ (h.2 h8)⟩
theorem mo_X10_told_93 {K K' : Int32 → sm_S → Prop} (hK : ∀ r s, K r s → K' r s) {σ : sm_S} {y0 : Int32} (h : mp_X10_told_93 K σ y0) : mp_X10_told_93 K' σ y0 := by
  unfold mp_X10_told_93 at h ⊢
  exact hK _ _ h
theorem mo_X10_told_71 {K K' : Int32 → sm_S → Prop} (hK : ∀ r s, K r s → K' r s) {σ : sm_S} {y0 : Int32} (h : mp_X10_told_71 K σ y0) : mp_X10_told_71 K' σ y0 := by
  unfold mp_X10_told_71 at h ⊢
  exact hK _ _ h
theorem mo_X10_told {σ : sm_S} {p1 : Int32} {K K' : Int32 → sm_S → Prop} (hK : ∀ r s, K r s → K' r s) (h : mp_X10_told σ p1 K) : mp_X10_told σ p1 K' := by
  unfold mp_X10_told at h ⊢
  exact ⟨fun h1 => ⟨fun h2 => hK _ _ ((h.1 h1).1 h2), fun h3 => mo_X1_isDone (fun r5 σ4 h4 => ⟨fun h5 => mo_X10_told_71 hK (h4.1 h5), fun h6 => mo_X10_told_71 hK (h4.2 h6)⟩) ((h.1 h1).2.1 h3), fun h7 => mo_X1_isDone (fun r9 σ8 h8 => ⟨fun h9 => mo_X10_told_93 hK (h8.1 h9), fun h10 => mo_X1_moved (fun r12 σ11 h11 => mo_X10_told_93 hK h11) (h8.2 h10)⟩) ((h.1 h1).2.2.1 h7), fun h12 => hK _ _ ((h.1 h1).2.2.2.1 h12), fun h13 => hK _ _ ((h.1 h1).2.2.2.2.1 h13), fun h14 h15 h16 h17 h18 => hK _ _ ((h.1 h1).2.2.2.2.2 h14 h15 h16 h17 h18)⟩, fun h19 => hK _ _ (h.2 h19)⟩
theorem mo_X10_steady_25 {K K' : Int32 → sm_S → Prop} (hK : ∀ r s, K r s → K' r s) {σ : sm_S} {y0 : Int32} (h : mp_X10_steady_25 K σ y0) : mp_X10_steady_25 K' σ y0 := by
  unfold mp_X10_steady_25 at h ⊢
  exact ⟨h.1, hK _ _ h.2⟩
theorem mo_X10_steady_20 {K K' : Int32 → sm_S → Prop} (hK : ∀ r s, K r s → K' r s) {σ : sm_S} (h : mp_X10_steady_20 K σ) : mp_X10_steady_20 K' σ := by
  unfold mp_X10_steady_20 at h ⊢
  exact mo_X10_steady_25 hK h
theorem mo_X10_steady {σ : sm_S}  {K K' : Int32 → sm_S → Prop} (hK : ∀ r s, K r s → K' r s) (h : mp_X10_steady σ  K) : mp_X10_steady σ  K' := by
  unfold mp_X10_steady at h ⊢
  exact ⟨fun h1 => mo_X10_steady_20 hK (h.1 h1), fun h2 => ⟨fun h3 => mo_X10_steady_25 hK ((h.2 h2).1 h3), fun h4 => mo_X10_steady_20 hK ((h.2 h2).2 h4)⟩⟩
theorem mo_X10_stands_23 {K K' : Int32 → sm_S → Prop} (hK : ∀ r s, K r s → K' r s) {σ : sm_S} {y0 : Int32} (h : mp_X10_stands_23 K σ y0) : mp_X10_stands_23 K' σ y0 := by
  unfold mp_X10_stands_23 at h ⊢
  exact hK _ _ h
theorem mo_X10_stands {σ : sm_S} {p1 : Int32} {p2 : Int32} {p3 : Int32} {p4 : Int32} {K K' : Int32 → sm_S → Prop} (hK : ∀ r s, K r s → K' r s) (h : mp_X10_stands σ p1 p2 p3 p4 K) : mp_X10_stands σ p1 p2 p3 p4 K' := by
  unfold mp_X10_stands at h ⊢
  exact ⟨fun h1 => mo_X10_stands_23 hK (h.1 h1), fun h2 => mo_X8_found (fun r3 σ2 h3 => mo_X10_stands_23 hK h3) (h.2 h2)⟩
theorem mo_X1_open_70 {mc ms : Nat} {K K' : sm_S → Prop} (hK : ∀ s, K s → K' s) {σ : sm_S} (h : mp_X1_open_70 mc ms K σ) : mp_X1_open_70 mc ms K' σ := by
  unfold mp_X1_open_70 at h ⊢
  exact fun σ1 e2 => fun σ2 e4 => fun σ3 e6 => fun σ4 e8 => mo_X1_useHalf (fun σ5 h9 => hK _ h9) ((((h σ1 e2) σ2 e4) σ3 e6) σ4 e8)
theorem mo_X1_open {mc ms : Nat} {σ : sm_S} {p1 : Int32} {p2 : Int32} {K K' : sm_S → Prop} (hK : ∀ s, K s → K' s) (h : mp_X1_open mc ms σ p1 p2 K) : mp_X1_open mc ms σ p1 p2 K' := by
  unfold mp_X1_open at h ⊢
  exact fun σ6 e2 => fun σ7 e4 => ⟨((h σ6 e2) σ7 e4).1, fun σ8 e8 => ⟨fun h9 => mo_X1_open_70 hK ((((h σ6 e2) σ7 e4).2 σ8 e8).1 h9), fun h10 => mo_X10_roomFor (fun r11 σ10 h11 => ⟨h11.1, ⟨h11.2.1, ⟨h11.2.2.1, ⟨h11.2.2.2.1, fun σ16 e21 => mo_X1_open_70 hK (h11.2.2.2.2 σ16 e21)⟩⟩⟩⟩) ((((h σ6 e2) σ7 e4).2 σ8 e8).2 h10)⟩⟩
theorem mo_X2_take_46 {mc ms : Nat} {K K' : sm_S → Prop} (hK : ∀ s, K s → K' s) {n46 : Nat} {σ : sm_S} {x2 : Int32} {x3 : Int32} (h : mp_X2_take_46 mc ms K n46 σ x2 x3) : mp_X2_take_46 mc ms K' n46 σ x2 x3 := by
  suffices g : ∀ (σ : sm_S) (x2 : Int32) (x3 : Int32), mp_X2_take_46 mc ms K n46 σ x2 x3 → mp_X2_take_46 mc ms K' n46 σ x2 x3 from g _ _ _ h
  clear h
  induction n46 with
  | zero => exact fun _ _ _ h => h.elim
  | succ n46 ih46 =>
    intro σ x2 x3 h
    unfold mp_X2_take_46 at h ⊢
    exact ⟨fun h1 => fun σ2 e3 => fun σ3 e5 => hK _ (((h.1 h1) σ2 e3) σ3 e5), fun h6 => ⟨(h.2 h6).1, fun σ5 e10 => fun v6 e12 => ih46 _ _ _ (((h.2 h6).2 σ5 e10) v6 e12)⟩⟩
theorem mo_X2_take_33 {mc ms : Nat} {K K' : sm_S → Prop} (hK : ∀ s, K s → K' s) {σ : sm_S} {x2 : Int32} (h : mp_X2_take_33 mc ms K σ x2) : mp_X2_take_33 mc ms K' σ x2 := by
  unfold mp_X2_take_33 at h ⊢
  exact ⟨h.1, ⟨h.2.1, ⟨h.2.2.1, ⟨h.2.2.2.1, ⟨h.2.2.2.2.1, ⟨h.2.2.2.2.2.1, fun σ7 e14 => (h.2.2.2.2.2.2 σ7 e14).elim (fun n46 h15 => ⟨n46, mo_X2_take_46 hK h15⟩)⟩⟩⟩⟩⟩⟩
theorem mo_X2_take {mc ms : Nat} {σ : sm_S} {p2 : Int32} {K K' : sm_S → Prop} (hK : ∀ s, K s → K' s) (h : mp_X2_take mc ms σ p2 K) : mp_X2_take mc ms σ p2 K' := by
  unfold mp_X2_take at h ⊢
  exact ⟨fun h1 => mo_X2_take_33 hK (h.1 h1), fun h2 => mo_X10_roomFor (fun r16 σ15 h3 => ⟨h3.1, ⟨h3.2.1, ⟨h3.2.2.1, ⟨h3.2.2.2.1, fun σ21 e13 => ⟨(h3.2.2.2.2 σ21 e13).1, ⟨(h3.2.2.2.2 σ21 e13).2.1, ⟨(h3.2.2.2.2 σ21 e13).2.2.1, ⟨(h3.2.2.2.2 σ21 e13).2.2.2.1, fun σ27 e23 => mo_X2_take_33 hK ((h3.2.2.2.2 σ21 e13).2.2.2.2 σ27 e23)⟩⟩⟩⟩⟩⟩⟩⟩) (h.2 h2)⟩
theorem mo_X8_firstBad_125 {mc ms : Nat} {K K' : Int32 → sm_S → Prop} (hK : ∀ r s, K r s → K' r s) {σ : sm_S} (h : mp_X8_firstBad_125 mc ms K σ) : mp_X8_firstBad_125 mc ms K' σ := by
  unfold mp_X8_firstBad_125 at h ⊢
  exact hK _ _ h
theorem mo_X8_firstBad_95 {mc ms : Nat} {K K' : Int32 → sm_S → Prop} (hK : ∀ r s, K r s → K' r s) {n95 : Nat} {σ : sm_S} {x1 : Int32} (h : mp_X8_firstBad_95 mc ms K n95 σ x1) : mp_X8_firstBad_95 mc ms K' n95 σ x1 := by
  suffices g : ∀ (σ : sm_S) (x1 : Int32), mp_X8_firstBad_95 mc ms K n95 σ x1 → mp_X8_firstBad_95 mc ms K' n95 σ x1 from g _ _ h
  clear h
  induction n95 with
  | zero => exact fun _ _ h => h.elim
  | succ n95 ih95 =>
    intro σ x1 h
    unfold mp_X8_firstBad_95 at h ⊢
    exact ⟨fun h1 => mo_X8_firstBad_125 hK (h.1 h1), fun h2 => ⟨fun h3 => mo_X8_firstBad_125 hK ((h.2 h2).1 h3), fun h4 => mo_X8_verifyMethod (fun σ3 h5 => fun v4 e7 => ih95 _ _ (h5 v4 e7)) ((h.2 h2).2 h4)⟩⟩
theorem mo_X8_firstBad_57 {mc ms : Nat} {K K' : Int32 → sm_S → Prop} (hK : ∀ r s, K r s → K' r s) {n57 : Nat} {σ : sm_S} {x1 : Int32} (h : mp_X8_firstBad_57 mc ms K n57 σ x1) : mp_X8_firstBad_57 mc ms K' n57 σ x1 := by
  suffices g : ∀ (σ : sm_S) (x1 : Int32), mp_X8_firstBad_57 mc ms K n57 σ x1 → mp_X8_firstBad_57 mc ms K' n57 σ x1 from g _ _ h
  clear h
  induction n57 with
  | zero => exact fun _ _ h => h.elim
  | succ n57 ih57 =>
    intro σ x1 h
    unfold mp_X8_firstBad_57 at h ⊢
    exact ⟨fun h1 => fun σ6 e3 => ((h.1 h1) σ6 e3).elim (fun n95 h4 => ⟨n95, mo_X8_firstBad_95 hK h4⟩), fun h5 => ⟨(h.2 h5).1, fun σ8 e9 => ⟨((h.2 h5).2 σ8 e9).1, fun σ10 e13 => fun v11 e15 => ih57 _ _ ((((h.2 h5).2 σ8 e9).2 σ10 e13) v11 e15)⟩⟩⟩
theorem mo_X8_firstBad_55 {mc ms : Nat} {K K' : Int32 → sm_S → Prop} (hK : ∀ r s, K r s → K' r s) {σ : sm_S} (h : mp_X8_firstBad_55 mc ms K σ) : mp_X8_firstBad_55 mc ms K' σ := by
  unfold mp_X8_firstBad_55 at h ⊢
  exact h.elim (fun n57 h1 => ⟨n57, mo_X8_firstBad_57 hK h1⟩)
theorem mo_X8_firstBad {mc ms : Nat} {σ : sm_S}  {K K' : Int32 → sm_S → Prop} (hK : ∀ r s, K r s → K' r s) (h : mp_X8_firstBad mc ms σ  K) : mp_X8_firstBad mc ms σ  K' := by
  unfold mp_X8_firstBad at h ⊢
  exact ⟨fun h1 => mo_X8_firstBad_55 hK (h.1 h1), fun h2 => mo_X10_roomFor (fun r14 σ13 h3 => ⟨h3.1, ⟨h3.2.1, ⟨h3.2.2.1, ⟨h3.2.2.2.1, fun σ19 e13 => ⟨(h3.2.2.2.2 σ19 e13).1, ⟨(h3.2.2.2.2 σ19 e13).2.1, ⟨(h3.2.2.2.2 σ19 e13).2.2.1, ⟨(h3.2.2.2.2 σ19 e13).2.2.2.1, fun σ25 e23 => fun v27 e25 => ⟨(((h3.2.2.2.2 σ19 e13).2.2.2.2 σ25 e23) v27 e25).1, ⟨(((h3.2.2.2.2 σ19 e13).2.2.2.2 σ25 e23) v27 e25).2.1, ⟨(((h3.2.2.2.2 σ19 e13).2.2.2.2 σ25 e23) v27 e25).2.2.1, ⟨(((h3.2.2.2.2 σ19 e13).2.2.2.2 σ25 e23) v27 e25).2.2.2.1, fun σ32 e35 => mo_X8_firstBad_55 hK ((((h3.2.2.2.2 σ19 e13).2.2.2.2 σ25 e23) v27 e25).2.2.2.2 σ32 e35)⟩⟩⟩⟩⟩⟩⟩⟩⟩⟩⟩⟩) (h.2 h2)⟩
theorem mo_X10_feed_57 {mc ms : Nat} {K K' : Int32 → sm_S → Prop} (hK : ∀ r s, K r s → K' r s) {σ : sm_S} {x1 : Int32} {x2 : Int32} {x3 : Int32} {x4 : Int32} {x5 : Int32} (h : mp_X10_feed_57 mc ms K σ x1 x2 x3 x4 x5) : mp_X10_feed_57 mc ms K' σ x1 x2 x3 x4 x5 := by
  unfold mp_X10_feed_57 at h ⊢
  exact mo_X10_tapeNumber (fun σ1 h1 => mo_X10_tapeNumber (fun σ2 h2 => mo_X10_tapeNumber (fun σ3 h3 => mo_X10_tapeNumber (fun σ4 h4 => mo_X10_tapeNumber (fun σ5 h5 => hK _ _ h5) h4) h3) h2) h1) h
theorem mo_X10_feed {mc ms : Nat} {σ : sm_S} {p1 : Int32} {p2 : Int32} {p3 : Int32} {p4 : Int32} {p5 : Int32} {K K' : Int32 → sm_S → Prop} (hK : ∀ r s, K r s → K' r s) (h : mp_X10_feed mc ms σ p1 p2 p3 p4 p5 K) : mp_X10_feed mc ms σ p1 p2 p3 p4 p5 K' := by
  unfold mp_X10_feed at h ⊢
  exact ⟨fun h1 => ⟨fun h2 => mo_X10_feed_57 hK ((h.1 h1).1 h2), fun h3 => mo_X10_roomFor (fun r9 σ8 h4 => ⟨h4.1, ⟨h4.2.1, ⟨h4.2.2.1, fun σ13 e12 => mo_X10_feed_57 hK (h4.2.2.2 σ13 e12)⟩⟩⟩) ((h.1 h1).2 h3)⟩, fun h13 => hK _ _ (h.2 h13)⟩
theorem mo_X10_start {mc ms : Nat} {σ : sm_S} {p1 : Int32} {p2 : Int32} {K K' : Int32 → sm_S → Prop} (hK : ∀ r s, K r s → K' r s) (h : mp_X10_start mc ms σ p1 p2 K) : mp_X10_start mc ms σ p1 p2 K' := by
  unfold mp_X10_start at h ⊢
  exact ⟨fun h1 => mo_X1_open (fun σ2 h2 => mo_X5_rewind (fun σ4 h3 => mo_X7_begin (fun σ5 h4 => hK _ _ h4) h3) h2) (h.1 h1), fun h5 => hK _ _ (h.2 h5)⟩
theorem mo_X10_end_67 {mc1 ms1 mc2 ms2 : Nat} {K K' : Int32 → sm_S → Prop} (hK : ∀ r s, K r s → K' r s) {σ : sm_S} {x3 : Int32} (h : mp_X10_end_67 mc1 ms1 mc2 ms2 K σ x3) : mp_X10_end_67 mc1 ms1 mc2 ms2 K' σ x3 := by
  unfold mp_X10_end_67 at h ⊢
  exact ⟨fun h1 => mo_X8_firstBad (fun r4 σ2 h2 => ⟨fun h3 => fun σ6 e5 => hK _ _ ((h2.1 h3) σ6 e5), fun h6 => hK _ _ (h2.2 h6)⟩) (h.1 h1), fun h7 => hK _ _ (h.2 h7)⟩
theorem mo_X10_end_19 {mc1 ms1 mc2 ms2 : Nat} {K K' : Int32 → sm_S → Prop} (hK : ∀ r s, K r s → K' r s) {σ : sm_S} (h : mp_X10_end_19 mc1 ms1 mc2 ms2 K σ) : mp_X10_end_19 mc1 ms1 mc2 ms2 K' σ := by
  unfold mp_X10_end_19 at h ⊢
  exact hK _ _ h
theorem mo_X10_end {mc1 ms1 mc2 ms2 : Nat} {σ : sm_S} {p1 : Int32} {K K' : Int32 → sm_S → Prop} (hK : ∀ r s, K r s → K' r s) (h : mp_X10_end mc1 ms1 mc2 ms2 σ p1 K) : mp_X10_end mc1 ms1 mc2 ms2 σ p1 K' := by
  unfold mp_X10_end at h ⊢
  exact fun v7 e2 => fun σ8 e4 => ⟨fun h5 => mo_X10_end_19 hK (((h v7 e2) σ8 e4).1 h5), fun h6 => ⟨fun h7 => fun σ11 e9 => fun σ12 e11 => mo_X2_take (fun σ13 h12 => mo_X6_firstWrong (fun r16 σ15 h13 => ⟨fun h14 => mo_X10_end_67 hK (h13.1 h14), fun h15 => mo_X3_firstWrong (fun r19 σ18 h16 => mo_X10_end_67 hK h16) (h13.2 h15)⟩) h12) ((((((h v7 e2) σ8 e4).2 h6).1 h7) σ11 e9) σ12 e11), fun h17 => mo_X10_end_19 hK ((((h v7 e2) σ8 e4).2 h6).2 h17)⟩⟩
