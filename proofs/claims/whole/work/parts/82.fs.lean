/-! ===== feed and start once more, no run, no image ===== -/
theorem j_feed2 {σ μ : sm_S} {mc ms : Nat} (hT : iv_tape σ μ) (hmc : 1 ≤ mc) (hms : ∀ t : Nat, σ.1 35 = nI t → σ.2.2.1 36 < t + 20 → t + 20 ≤ 8000 → max (t + 20) (2 * σ.2.2.1 36) ≤ ms) (a b c d e : Int32) {K : Int32 → sm_S → Int32 → sm_S → Prop} (h0 : ∀ t : Nat, t ≤ 8000 → σ.1 35 = nI t → ¬ t + 20 ≤ 8000 → K (-2) σ (-2) μ)
    (h1 : ∀ (t n : Nat) (f g : Nat → Int32), σ.1 35 = nI t → t + 20 ≤ 8000 → (n = σ.2.2.1 36 ∧ t + 20 ≤ σ.2.2.1 36 ∨ σ.2.2.1 36 < t + 20 ∧ n = max (t + 20) (2 * σ.2.2.1 36)) → n ≤ 16000 → iv_tape (sm_i (sm_x σ 36 n f) 35 (nI (t + 20))) (sm_i (sm_r μ 2 g) 0 (nI (t + 20))) → K (nI (t + 20)) (sm_i (sm_x σ 36 n f) 35 (nI (t + 20))) (nI (t + 20)) (sm_i (sm_r μ 2 g) 0 (nI (t + 20)))) :
    mp_X10_feed mc ms σ a b c d e (fun r σ' => mp_X12_feed μ a b c d e (fun r' μ' => K r σ' r' μ')) := by
  obtain ⟨t, ht, hs, hm, hl, hl2, hml, heq, hfit⟩ := hT
  refine w_feed a b c d e hs ht hl hl2 hfit hmc (hms t hs) (fun hf => ?_) (fun n f h20 hn hc => ?_)
  · exact w_mfeed a b c d e hm ht hml (fun _ => h0 t ht hs (by omega)) (fun h => absurd h (by omega))
  · refine w_mfeed a b c d e hm ht hml (fun h => absurd h20 (by omega)) (fun _ => ?_)
    have hn2 : n ≤ 16000 := by
      rcases hc with ⟨q, -⟩ | ⟨q1, q2, -⟩
      · omega
      · omega
    have hold : ∀ j : Nat, j < σ.2.2.1 36 → f j = σ.2.2.2.1 36 j := by
      intro j hj
      rcases hc with ⟨-, q⟩ | ⟨-, -, q⟩
      · rw [q]
      · rw [q, cp_in (by omega) hj]
    have hff : ∀ j : Nat, j < n → fits .byte (.int (f j)) = true := by
      intro j hj
      rcases Nat.lt_or_ge j (σ.2.2.1 36) with z | z
      · rw [hold j z]; exact hfit j z
      · rcases hc with ⟨q, -⟩ | ⟨-, -, q⟩
        · omega
        · rw [q, cp_out (by omega) z]; rfl
    refine h1 t n _ _ hs h20 ?_ hn2 ?_
    · rcases hc with ⟨q, -⟩ | ⟨q1, q2, -⟩
      · exact Or.inl ⟨q, by omega⟩
      · exact Or.inr ⟨q1, q2⟩
    · refine ⟨t + 20, h20, rfl, rfl, ?_, ?_, hml, fun j hj => ?_, fun j hj => ?_⟩
      · show t + 20 ≤ va_up σ.2.2.1 36 n 36
        rw [va_up_self]; exact hn
      · show va_up σ.2.2.1 36 n 36 ≤ 16000
        rw [va_up_self]; exact hn2
      · show va_up σ.2.2.2.1 36 (tp_row f t 20 (tp_B a b c d e)) 36 j &&& 255 = va_up μ.2.2.2.1 2 (tp_row (μ.2.2.2.1 2) t 20 (tp_U a b c d e)) 2 j
        rw [va_up_self, va_up_self]
        rcases Nat.lt_or_ge j t with z | z
        · rw [tp_out (Or.inl z), tp_out (Or.inl z), hold j (by omega)]
          exact heq j z
        · rw [tp_in z hj, tp_in z hj]
          exact tp_BU a b c d e (j - t)
      · have hj : j < va_up σ.2.2.1 36 n 36 := hj
        rw [va_up_self] at hj
        show fits .byte (.int (va_up σ.2.2.2.1 36 (tp_row f t 20 (tp_B a b c d e)) 36 j)) = true
        rw [va_up_self]
        by_cases z : t ≤ j ∧ j < t + 20
        · rw [tp_in z.1 z.2]; exact tp_fit _ _
        · rw [tp_out (by omega)]; exact hff j hj
section
variable {σ μ : sm_S} {T : Nat → Nat → Nat} {b : Nat → Nat} {H Y : Nat → Nat → Nat} {h k : Nat} {K : jk}
theorem j_start2 {mc i : Nat} {inF : Nat → Int32} (p q : Int32) (hw : wf T b) (imx : imX σ T b) (imm : imM μ T b) (ln : lnR μ) (h36 : ¬ σ.1 36 = 0) (i4 : μ.1 4 = 1) (hl : σ.2.2.1 17 ≤ 480258) (hmc : 1 ≤ mc) (q18 : σ.1 18 = nI i) (q30 : σ.2.2.1 30 = 1000) (q31 : σ.2.2.1 31 = 1000) (qin : ∀ j : Nat, j < i → σ.2.2.2.1 30 j = inF j) (q19 : μ.1 19 = nI i) (q38 : μ.2.2.1 38 = 1000) (q39 : μ.2.2.1 39 = 1000) (qim : ∀ j : Nat, j < i → μ.2.2.2.1 38 j = inF j) : ∃ h, h ≤ 60000 ∧ ∀ (ms : Nat) (KK : Int32 → sm_S → Int32 → sm_S → Prop), (σ.2.2.1 17 < 4 * h + 129 → max (4 * h + 129) (2 * σ.2.2.1 17) ≤ ms) → (∀ σ' μ' k, XA σ' T b h k (h * k / (k + 1)) (a0 T) i inF 0 0 inF 0 → MA μ' T b k (h * k / (k + 1)) (a0 T) i inF 0 0 inF 0 1 → rsS σ σ' → rsM μ μ' → grw (4 * h + 129) (σ.2.2.1 17) (σ'.2.2.1 17) → 4 * h + 129 ≤ σ'.2.2.1 17 → KK 1 σ' 1 μ') → mp_X10_start mc ms σ p q (fun r σ' => mp_X12_start μ p q (fun r' μ' => KK r σ' r' μ')) := by
  obtain ⟨h, h1, h2, h3, h4, h5, h6⟩ := clp (lo := 1024) (hi := 60000) (by decide) (by decide) p
  obtain ⟨k, k1, k2, k3, k4, k5, k6⟩ := clp (lo := 1) (hi := 64) (by decide) (by decide) q
  have h3 : (if 1024 < (if p < 60000 then p else 60000) then (if p < 60000 then p else 60000) else 1024) = nI h := h3
  have k3 : (if 1 < (if q < 64 then q else 64) then (if q < 64 then q else 64) else 1) = nI k := k3
  refine ⟨h, h2, fun ms KK hms hK => ?_⟩
  unfold mp_X10_start
  refine ⟨fun _ => ?_, fun z => absurd z h36⟩
  rw [h3, k3]
  refine w_open h1 h2 k1 k2 (by omega) hmc hms (fun s o => ?_)
  have pg := o.2.2.2.2.2.1
  have hl2 : s.2.2.1 17 < 2 ^ 30 := by
    rcases pg with e | e
    · omega
    · omega
  refine x_beg hw imx h1 h2 k1 k2 o hl2 q18 q30 q31 qin (fun σ' X rx l17 => ?_)
  have n4 : ¬ μ.1 4 = 0 := by rw [i4]; decide
  have fin : mp_X12_start_60 (fun r' μ' => KK 1 σ' r' μ') μ (nI h) (nI k) := m_s60 hw imm ln h1 h2 k1 k2 i4 q19 q38 q39 qim (fun μ2 M rm => hK σ' μ2 k X M rx rm (by rw [l17]; exact pg) (by rw [l17]; exact o.2.2.2.2.2.2))
  have s37 : mp_X12_start_37 (fun r' μ' => KK 1 σ' r' μ') μ q (nI h) := by
    unfold mp_X12_start_37
    refine ⟨fun z => ⟨fun z2 => ?_, fun z2 => ?_⟩, fun z => ?_⟩
    · have e : q = nI k := k4 z z2
      rw [e]; exact fin
    · have e : (64 : Int32) = nI k := k5 z z2
      rw [e]; exact fin
    · have e : (1 : Int32) = nI k := k6 z
      have f2 := fin
      rw [← e] at f2
      exact f2
  unfold mp_X12_start
  refine ⟨fun _ => ⟨fun z => ⟨fun z2 => ?_, fun z2 => ?_⟩, fun z => ?_⟩, fun z => absurd z n4⟩
  · have e : p = nI h := h4 z z2
    rw [e]; exact s37
  · have e : (60000 : Int32) = nI h := h5 z z2
    rw [e]; exact s37
  · have e : (1024 : Int32) = nI h := h6 z
    rw [e]; exact s37
end
section
variable {σ μ : sm_S}
/-- no run: both sides say so -/
theorem z_run {KK : Int32 → sm_S → Int32 → sm_S → Prop} (p : Int32) (e1 : σ.1 22 = 0) (e2 : μ.1 17 = 0) (hK : KK (-1) σ (-1) μ) : mp_X10_run σ p (fun r σ' => mp_X12_run μ p (fun r' μ' => KK r σ' r' μ')) := by
  have ref : mp_X12_run μ p (fun r' μ' => KK (-1) σ r' μ') := by
    unfold mp_X12_run mp_X12_run_19
    exact ⟨fun _ => hK, fun _ => ⟨fun _ => hK, fun _ => ⟨fun z => absurd (e2.symm.trans z) (by decide), fun _ => hK⟩⟩⟩
  unfold mp_X10_run mp_X10_run_22
  exact ⟨fun _ => ref, fun _ => ⟨fun _ => ref, fun _ => ⟨fun z => absurd (e1.symm.trans z) (by decide), fun _ => ref⟩⟩⟩
theorem z_frame {KK : Int32 → sm_S → Int32 → sm_S → Prop} (p q : Int32) (e1 : σ.1 22 = 0) (e2 : μ.1 17 = 0) (hK : KK (-1) σ (-1) μ) : mp_X10_frame σ p q (fun r σ' => mp_X12_frame μ p q (fun r' μ' => KK r σ' r' μ')) := by
  have ref : mp_X12_frame μ p q (fun r' μ' => KK (-1) σ r' μ') := by
    unfold mp_X12_frame mp_X12_frame_19
    exact ⟨fun _ => hK, fun z => absurd e2 z⟩
  unfold mp_X10_frame mp_X10_frame_22 mp_X10_frame_40
  exact ⟨fun z => absurd e1 z, fun _ => ⟨fun z => absurd rfl z, fun _ => ref⟩⟩
theorem z_value {KK : Int64 → sm_S → Int64 → sm_S → Prop} (p q : Int32) (t : Int64) (e : Int32) (e1 : σ.1 22 = 0) (e2 : μ.1 17 = 0) (hK : KK (-1) σ (-1) μ) : mp_X10_value σ p q t e (fun r σ' => mp_X12_value_ μ p q t e (fun r' μ' => KK r σ' r' μ')) := by
  have b27 : mp_X12_value__27 (fun r' μ' => KK (-1) σ r' μ') μ p q t e := by
    unfold mp_X12_value__27 mp_X12_value__28 mp_X12_value__45 mp_X12_value__69 mp_X12_placeOfValue mp_X12_placeOfValue_23
    exact ⟨fun _ => ⟨fun _ => ⟨fun z => absurd rfl z, fun _ => ⟨fun _ => hK, fun z => absurd rfl z⟩⟩, fun z => absurd e2 z⟩, fun z => absurd rfl z⟩
  have ref : mp_X12_value_ μ p q t e (fun r' μ' => KK (-1) σ r' μ') := by
    unfold mp_X12_value_
    exact ⟨fun _ => b27, fun _ => ⟨fun _ => b27, fun _ => ⟨fun _ => b27, fun z => absurd (by rw [e2]; decide) z⟩⟩⟩
  unfold mp_X10_value mp_X10_value_21
  exact ⟨fun _ => ref, fun z => absurd e1 z⟩
theorem z_same {KK : Int32 → sm_S → Int32 → sm_S → Prop} (p q : Int32) (e1 : σ.1 22 = 0) (e2 : μ.1 17 = 0) (hK : KK 0 σ 0 μ) : mp_X10_same σ p q (fun r σ' => mp_X12_same μ p q (fun r' μ' => KK r σ' r' μ')) := by
  have ref : mp_X12_same μ p q (fun r' μ' => KK 0 σ r' μ') := by
    unfold mp_X12_same mp_X12_same_65 mp_X12_same_66 mp_X12_placeOfValue mp_X12_placeOfValue_23
    exact ⟨fun _ => ⟨fun _ => ⟨fun _ => ⟨sm_z0, hK⟩, fun z => absurd rfl z⟩, fun z => absurd e2 z⟩, fun z => absurd e2 z⟩
  unfold mp_X10_same
  exact ⟨fun z => absurd e1 z, fun _ => ref⟩
theorem z_told {KK : Int32 → sm_S → Int32 → sm_S → Prop} (p : Int32) (e1 : σ.1 22 = 0) (e2 : μ.1 17 = 0) (hK : KK (-1) σ (-1) μ) : mp_X10_told σ p (fun r σ' => mp_X12_told μ p (fun r' μ' => KK r σ' r' μ')) := by
  have ref : mp_X12_told μ p (fun r' μ' => KK (-1) σ r' μ') := by
    unfold mp_X12_told
    exact ⟨fun z => absurd e2 z, fun _ => hK⟩
  unfold mp_X10_told
  exact ⟨fun z => absurd e1 z, fun _ => ref⟩
/-- no image -/
theorem z_start {mc ms : Nat} {KK : Int32 → sm_S → Int32 → sm_S → Prop} (p q : Int32) (e1 : σ.1 36 = 0) (e2 : μ.1 4 = 0) (hK : KK 0 σ 0 μ) : mp_X10_start mc ms σ p q (fun r σ' => mp_X12_start μ p q (fun r' μ' => KK r σ' r' μ')) := by
  have ref : mp_X12_start μ p q (fun r' μ' => KK 0 σ r' μ') := by
    unfold mp_X12_start
    exact ⟨fun z => absurd e2 z, fun _ => hK⟩
  unfold mp_X10_start
  exact ⟨fun z => absurd e1 z, fun _ => ref⟩
theorem z_stands {KK : Int32 → sm_S → Int32 → sm_S → Prop} (p1 p2 p3 p4 : Int32) (e1 : σ.1 36 = 0) (e2 : μ.1 4 = 0) (hK : KK (-1) σ (-1) μ) : mp_X10_stands σ p1 p2 p3 p4 (fun r σ' => mp_X12_stands μ p1 p2 p3 p4 (fun r' μ' => KK r σ' r' μ')) := by
  have ref : mp_X12_stands μ p1 p2 p3 p4 (fun r' μ' => KK (-1) σ r' μ') := by
    unfold mp_X12_stands mp_X12_stands_41
    exact ⟨fun _ => hK, fun z => absurd e2 z⟩
  unfold mp_X10_stands mp_X10_stands_23
  exact ⟨fun _ => ref, fun z => absurd e1 z⟩
end
