theorem f_hand : pr_fact_hand Inv := by
  intro g σ hI
  show wpb_X8_hand _ _ _
  unfold wpb_X8_hand
  obtain ⟨h1, h2, h3, h4, h5, h6, h7, h8, h9, h10, h11, h12, h13⟩ := id hI
  obtain ⟨b1, b2, b3, b4, b5, b6⟩ := id h5
  have h70 : σ 521 0 0 < (7 : Int32) ↔ g 0 < 7 := by rw [b3]; exact nI_ltI (a := g 0) (b := 7) (by omega) (by omega)
  have h71 : σ 585 0 0 = (7 : Int32) ↔ g 0 = 7 := by rw [b4]; exact nI_eq (a := g 0) (b := 7) (by omega) (by omega)
  refine ⟨fun c1 => ?_, fun c1 => ?_⟩
  · have hlt := h70.mp c1
    refine ⟨by rw [b3]; exact vp_in_nI hlt (by omega), by rw [b3]; exact nI_clamp (by omega), fun σ2 e2 σ3 e3 => ?_⟩
    have r2 : σ2 521 0 0 = nI (g 0) := by rw [e2]; simp [pr_mkH, b3]
    rw [r2, nI_1] at e3
    have s3 : σ3 585 0 0 = nI (g 0) := by rw [e3, up_tag (by decide), e2]; simp [pr_mkH, b4]
    show wpb_X9_hand _ _ _
    unfold wpb_X9_hand
    refine ⟨fun _ σ4 e4 => ?_, fun c2 => absurd c2 (by rw [s3]; exact fun q => absurd ((nI_eq (a := g 0) (b := 7) (by omega) (by omega)).mp q) (by omega))⟩
    rw [s3, nI_1] at e4
    refine ⟨by rw [e4, up_eq, e3, up_eq], ?_⟩
    have ha : ag [0, 1, 2, 521, 585] σ σ4 := by
      rw [e4, e3, e2]
      refine ag_up (ag_up ?_ _ _ _ _ (by decide)) _ _ _ _ (by decide)
      intro t ht
      funext i j
      have : ¬ t < 3 := fun q => ht (by simp; omega)
      simp [pr_mkH, this]
    have gn : ∀ x, x ≠ 0 → pr_g g 0 x = g x := fun x hx => pr_gn g hx
    have g6 : I_sit (pr_g g 0) σ4 := by have := h6.cg ha; simpa only [I_sit, gn 1 (by decide)] using this
    have g7 : I_pic (pr_g g 0) σ4 := by have := h7.cg ha; simpa only [I_pic, gn 1 (by decide), gn 2 (by decide)] using this
    have g8 : I_trc (pr_g g 0) σ4 := by have := h8.cg ha; simpa only [I_trc, gn 2 (by decide)] using this
    have g9 : I_came (pr_g g 0) σ4 := by have := h9.cg ha; simpa only [I_came, gn 2 (by decide)] using this
    have g10 : I_part (pr_g g 0) σ4 := by have := h10.cg ha; simpa only [I_part, gn 2 (by decide)] using this
    have g11 : I_str (pr_g g 0) σ4 := by have := h11.cg ha; simpa only [I_str, gn 2 (by decide)] using this
    have g13 : I_sits (pr_g g 0) σ4 := by have := h13.cg ha; simpa only [I_sits, gn 2 (by decide)] using this
    refine ⟨h1.cg ha, h2.cg ha, h3.cg ha, h4.cg ha, ?_, g6, g7, g8, g9, g10, g11, h12.cg ha, g13⟩
    refine ⟨by rw [pr_g0]; omega, by rw [pr_g0]; omega, by rw [pr_g0, e4, up_tag (by decide), e3, up_eq], by rw [pr_g0, e4, up_eq], fun i hi => ?_, fun i hi hi7 => ?_⟩
    · rw [pr_g0] at hi
      have u : ∀ t, t ≠ 521 → t ≠ 585 → ∀ j, σ4 t j = σ2 t j := fun t q1 q2 j => by
        rw [e4, e3]
        funext k
        simp [pr_up, q1, q2]
      rw [u 0 (by decide) (by decide), u 1 (by decide) (by decide), u 2 (by decide) (by decide), u 1046 (by decide) (by decide), u 1044 (by decide) (by decide), u 1045 (by decide) (by decide), e2]
      by_cases e : i = g 0
      · subst e
        obtain ⟨x1, x2, x3⟩ := b6 (g 0) (Nat.le_refl _) hlt
        simp only [pr_mkH, x1, x2, x3]
        simp
        exact ⟨0, by omega, rfl⟩
      · obtain ⟨x1, x2, x3, x4⟩ := b5 i (by omega)
        simp only [pr_mkH, e]
        simp
        exact ⟨x1, x2, x3, x4⟩
    · rw [pr_g0] at hi
      have u : ∀ t, t ≠ 521 → t ≠ 585 → ∀ j, σ4 t j = σ2 t j := fun t q1 q2 j => by
        rw [e4, e3]
        funext k
        simp [pr_up, q1, q2]
      rw [u 1046 (by decide) (by decide), u 1044 (by decide) (by decide), u 1045 (by decide) (by decide), e2]
      simp only [pr_mkH]
      simp
      exact b6 i (by omega) hi7
  · show wpb_X9_hand _ _ _
    unfold wpb_X9_hand
    have h7' : g 0 = 7 := by
      have : ¬ g 0 < 7 := fun q => c1 (h70.mpr q)
      omega
    exact ⟨fun c2 => absurd (h71.mpr h7') c2, fun _ => ⟨rfl, hI⟩⟩
theorem hand_pos {g : Nat → Nat} {σ : pr_Sg} {n : Nat} {Q : Option (Nat × Nat) → pr_Sg → Prop} (h5 : I_hand g σ) (hn : n < g 0) (h : Q (some (n, 0)) σ) : wpb_X8_handAt g σ (nI n) Q := by
  unfold wpb_X8_handAt
  have := at_pos (M := 7) (G := g 0) (A := Q none σ) (B := Q (some ((nI n).toNatClampNeg, 0)) σ) h5.2.2.1 rfl h5.2.1 (by omega) hn (by rw [nI_clamp (by have := h5.2.1; omega)]; exact h)
  exact this
theorem hand_neg {g : Nat → Nat} {σ : pr_Sg} {a : Int32} {Q : Option (Nat × Nat) → pr_Sg → Prop} (h5 : I_hand g σ) (hn : ∀ n, n < g 0 → a ≠ nI n) (h : Q none σ) : wpb_X8_handAt g σ a Q := at_neg (M := 7) (G := g 0) (A := Q none σ) (B := Q (some (a.toNatClampNeg, 0)) σ) h5.2.2.1 (by have := h5.2.1; omega) hn h
theorem ihand_pos {g : Nat → Nat} {σ : pr_Sg} {n N : Nat} {Q : Int32 → pr_Sg → Prop} (h5 : σ 585 0 0 = nI N) (hN : N ≤ 7) (hn : n < N) (h : Q 1 σ) : wpb_X9_isHand g σ (nI n) Q := by
  unfold wpb_X9_isHand
  show wpb_X9_in _ _ _ _ _ _
  rw [h5]
  exact ic_pos (by omega) hn h
theorem ihand_neg {g : Nat → Nat} {σ : pr_Sg} {a : Int32} {N : Nat} {Q : Int32 → pr_Sg → Prop} (h5 : σ 585 0 0 = nI N) (hN : N ≤ 7) (hn : ∀ n, n < N → a ≠ nI n) (h : Q 0 σ) : wpb_X9_isHand g σ a Q := by
  unfold wpb_X9_isHand
  show wpb_X9_in _ _ _ _ _ _
  rw [h5]
  exact ic_neg (by omega) hn h
theorem pic_pos {g : Nat → Nat} {σ : pr_Sg} {n : Nat} {Q : Option (Nat × Nat) → pr_Sg → Prop} (h5 : I_pic g σ) (hn : n < g 2) (h : Q (some (n, 0)) σ) : wpb_X8_pictureAt g σ (nI n) Q := by
  unfold wpb_X8_pictureAt
  have := at_pos (M := 40) (G := g 2) (A := Q none σ) (B := Q (some ((nI n).toNatClampNeg, 0)) σ) h5.2.1 rfl h5.1 (by omega) hn (by rw [nI_clamp (by have := h5.1; omega)]; exact h)
  exact this
theorem pic_neg {g : Nat → Nat} {σ : pr_Sg} {a : Int32} {Q : Option (Nat × Nat) → pr_Sg → Prop} (h5 : I_pic g σ) (hn : ∀ n, n < g 2 → a ≠ nI n) (h : Q none σ) : wpb_X8_pictureAt g σ a Q := at_neg (M := 40) (G := g 2) (A := Q none σ) (B := Q (some (a.toNatClampNeg, 0)) σ) h5.2.1 (by have := h5.1; omega) hn h
theorem ipic_pos {g : Nat → Nat} {σ : pr_Sg} {n N : Nat} {Q : Int32 → pr_Sg → Prop} (h5 : σ 601 0 0 = nI N) (hN : N ≤ 40) (hn : n < N) (h : Q 1 σ) : wpb_X9_isPicture g σ (nI n) Q := by
  unfold wpb_X9_isPicture
  show wpb_X9_in _ _ _ _ _ _
  rw [h5]
  exact ic_pos (by omega) hn h
theorem ipic_neg {g : Nat → Nat} {σ : pr_Sg} {a : Int32} {N : Nat} {Q : Int32 → pr_Sg → Prop} (h5 : σ 601 0 0 = nI N) (hN : N ≤ 40) (hn : ∀ n, n < N → a ≠ nI n) (h : Q 0 σ) : wpb_X9_isPicture g σ a Q := by
  unfold wpb_X9_isPicture
  show wpb_X9_in _ _ _ _ _ _
  rw [h5]
  exact ic_neg (by omega) hn h
theorem sit_pos {g : Nat → Nat} {σ : pr_Sg} {n : Nat} {Q : Option (Nat × Nat) → pr_Sg → Prop} (h5 : I_sit g σ) (hn : n < g 1) (h : Q (some (n, 0)) σ) : wpb_X8_sitterAt g σ (nI n) Q := by
  unfold wpb_X8_sitterAt
  have := at_pos (M := 20) (G := g 1) (A := Q none σ) (B := Q (some ((nI n).toNatClampNeg, 0)) σ) h5.2.1 rfl h5.1 (by omega) hn (by rw [nI_clamp (by have := h5.1; omega)]; exact h)
  exact this
theorem sit_neg {g : Nat → Nat} {σ : pr_Sg} {a : Int32} {Q : Option (Nat × Nat) → pr_Sg → Prop} (h5 : I_sit g σ) (hn : ∀ n, n < g 1 → a ≠ nI n) (h : Q none σ) : wpb_X8_sitterAt g σ a Q := at_neg (M := 20) (G := g 1) (A := Q none σ) (B := Q (some (a.toNatClampNeg, 0)) σ) h5.2.1 (by have := h5.1; omega) hn h
theorem isit_pos {g : Nat → Nat} {σ : pr_Sg} {n N : Nat} {Q : Int32 → pr_Sg → Prop} (h5 : σ 589 0 0 = nI N) (hN : N ≤ 20) (hn : n < N) (h : Q 1 σ) : wpb_X9_isSitter g σ (nI n) Q := by
  unfold wpb_X9_isSitter
  show wpb_X9_in _ _ _ _ _ _
  rw [h5]
  exact ic_pos (by omega) hn h
theorem isit_neg {g : Nat → Nat} {σ : pr_Sg} {a : Int32} {N : Nat} {Q : Int32 → pr_Sg → Prop} (h5 : σ 589 0 0 = nI N) (hN : N ≤ 20) (hn : ∀ n, n < N → a ≠ nI n) (h : Q 0 σ) : wpb_X9_isSitter g σ a Q := by
  unfold wpb_X9_isSitter
  show wpb_X9_in _ _ _ _ _ _
  rw [h5]
  exact ic_neg (by omega) hn h
theorem f_habit : pr_fact_habit Inv := by
  intro g σ a1 a2 hI
  show wpb_X8_habit _ _ _ _ _
  unfold wpb_X8_habit
  obtain ⟨h1, h2, h3, h4, h5, h6, h7, h8, h9, h10, h11, h12, h13⟩ := id hI
  obtain ⟨b1, b2, b3, b4, b5, b6⟩ := id h5
  rcases ix a1 (g 0) with ⟨n, hn, rfl⟩ | hn
  · refine hand_pos h5 hn (o_s ?_)
    rcases ix a2 10000 with ⟨m, hm, rfl⟩ | hm
    · refine w_pos 9999 rfl (by omega) hm (y_t (fun σ4 e4 => ?_))
      have s4 : σ4 585 0 0 = nI (g 0) := by rw [e4, up_tag (by decide)]; exact b4
      show wpb_X9_habit _ _ _ _ _
      unfold wpb_X9_habit
      refine ihand_pos s4 b2 hn (z_t ?_)
      refine in_pos 9999 rfl (by omega) hm (y_t ⟨vp_in_nI (by omega) (by omega), fun σ5 e5 => ⟨rfl, ?_⟩⟩)
      rw [nI_clamp (by omega)] at e5
      have ha : ag [0, 1046] σ σ5 := by rw [e5, e4]; exact ag_up (ag_up ag_rf _ _ _ _ (by decide)) _ _ _ _ (by decide)
      refine ⟨h1.cg ha, h2.cg ha, h3.cg ha, h4.cg ha, ?_, h6.cg ha, h7.cg ha, h8.cg ha, h9.cg ha, h10.cg ha, h11.cg ha, h12.cg ha, h13.cg ha⟩
      have u : ∀ t, t ≠ 0 → t ≠ 1046 → σ5 t = σ t := fun t q1 q2 => ha t (by simp [q1, q2])
      have u0 : ∀ i, σ5 0 i 0 = if i = n then nI m else σ 0 i 0 := fun i => by rw [e5, up_tag (by decide), e4, up_if]; simp
      have u1 : ∀ i, σ5 1046 0 i = if i = n then nI m else σ 1046 0 i := fun i => by rw [e5, up_if, e4, up_tag (by decide)]; simp
      refine ⟨b1, b2, by rw [u 521 (by decide) (by decide)]; exact b3, by rw [u 585 (by decide) (by decide)]; exact b4, fun i hi => ?_, fun i hi hi7 => ?_⟩
      · rw [u0, u1, u 1 (by decide) (by decide), u 2 (by decide) (by decide), u 1044 (by decide) (by decide), u 1045 (by decide) (by decide)]
        obtain ⟨x1, x2⟩ := b5 i hi
        by_cases e : i = n
        · simp only [e, if_true]
          subst e
          exact ⟨trivial, x2.1, x2.2.1, x2.2.2.1, Or.inr ⟨m, hm, rfl⟩⟩
        · simp only [e, if_false]
          exact ⟨x1, x2⟩
      · rw [u1, u 1044 (by decide) (by decide), u 1045 (by decide) (by decide), if_neg (by omega)]
        exact b6 i hi hi7
    · refine w_neg 9999 rfl (by omega) hm (y_f ?_)
      show wpb_X9_habit _ _ _ _ _
      unfold wpb_X9_habit
      refine ihand_pos b4 b2 hn (z_t ?_)
      exact in_neg 9999 rfl (by omega) hm (y_f ⟨rfl, hI⟩)
  · refine hand_neg h5 hn (o_n ?_)
    show wpb_X9_habit _ _ _ _ _
    unfold wpb_X9_habit
    exact ihand_neg b4 b2 hn (z_f ⟨rfl, hI⟩)
theorem f_trace : pr_fact_trace Inv := by
  intro g σ a1 a2 hI
  show wpb_X8_trace _ _ _ _ _
  unfold wpb_X8_trace
  obtain ⟨h1, h2, h3, h4, h5, h6, h7, h8, h9, h10, h11, h12, h13⟩ := id hI
  have b2 := h7.1
  have b4 := h7.2.2.1
  rcases ix a1 (g 2) with ⟨n, hn, rfl⟩ | hn
  · refine pic_pos h7 hn (o_s ?_)
    rcases ix a2 65536 with ⟨m, hm, rfl⟩ | hm
    · refine w_pos 65535 rfl (by omega) hm (y_t (fun σ4 e4 => ?_))
      have s4 : σ4 601 0 0 = nI (g 2) := by rw [e4, up_tag (by decide)]; exact b4
      show wpb_X9_trace _ _ _ _ _
      unfold wpb_X9_trace
      refine ipic_pos s4 b2 hn (z_t ?_)
      refine in_pos 65535 rfl (by omega) hm (y_t ⟨vp_in_nI (by omega) (by omega), fun σ5 e5 => ⟨rfl, ?_⟩⟩)
      rw [nI_clamp (by omega)] at e5
      have ha : ag [201, 1055] σ σ5 := by rw [e5, e4]; exact ag_up (ag_up ag_rf _ _ _ _ (by decide)) _ _ _ _ (by decide)
      refine ⟨h1.cg ha, h2.cg ha, h3.cg ha, h4.cg ha, h5.cg ha, h6.cg ha, h7.cg ha, ?_, h9.cg ha, h10.cg ha, h11.cg ha, h12.cg ha, h13.cg ha⟩
      intro p hp
      have u0 : σ5 201 p 0 = if p = n then nI m else σ 201 p 0 := by rw [e5, up_tag (by decide), e4, up_if]; simp
      have u1 : σ5 1055 0 p = if p = n then nI m else σ 1055 0 p := by rw [e5, up_if, e4, up_tag (by decide)]; simp
      rw [u0, u1]
      by_cases e : p = n
      · simp only [e, if_true, true_and]
        exact Or.inr ⟨m, hm, rfl⟩
      · simp only [e, if_false]
        exact h8 p hp
    · refine w_neg 65535 rfl (by omega) hm (y_f ?_)
      show wpb_X9_trace _ _ _ _ _
      unfold wpb_X9_trace
      refine ipic_pos b4 b2 hn (z_t ?_)
      exact in_neg 65535 rfl (by omega) hm (y_f ⟨rfl, hI⟩)
  · refine pic_neg h7 hn (o_n ?_)
    show wpb_X9_trace _ _ _ _ _
    unfold wpb_X9_trace
    exact ipic_neg b4 b2 hn (z_f ⟨rfl, hI⟩)
theorem f_due : pr_fact_due Inv := by
  intro g σ a1 hI
  show wpb_X8_due _ _ _ _
  unfold wpb_X8_due
  obtain ⟨h1, h2, h3, h4, h5, h6, h7, h8, h9, h10, h11, h12, h13⟩ := id hI
  have b2 := h6.1
  have b4 := h6.2.2.1
  rcases ix a1 (g 1) with ⟨n, hn, rfl⟩ | hn
  · refine sit_pos h6 hn (o_s ?_)
    show wpb_X9_due _ _ _ _
    unfold wpb_X9_due
    refine isit_pos b4 b2 hn (z_t ⟨vp_in_nI (by omega) (by omega), ?_, hI⟩)
    rw [nI_clamp (by omega)]
    exact (h6.2.2.2.1 n hn).2.2
  · refine sit_neg h6 hn (o_n ?_)
    show wpb_X9_due _ _ _ _
    unfold wpb_X9_due
    exact isit_neg b4 b2 hn (z_f ⟨rfl, hI⟩)
theorem f_pay : pr_fact_pay Inv := by
  intro g σ a1 a2 hI
  show wpb_X8_pay _ _ _ _ _
  unfold wpb_X8_pay
  obtain ⟨h1, h2, h3, h4, h5, h6, h7, h8, h9, h10, h11, h12, h13⟩ := id hI
  have b2 := h6.1
  have b4 := h6.2.2.1
  rcases ix a1 (g 1) with ⟨n, hn, rfl⟩ | hn
  · refine sit_pos h6 hn (o_s ?_)
    have hd := (h6.2.2.2.1 n hn).2.2
    have hv : vp_in (nI n) 20 := vp_in_nI (by omega) (by omega)
    have hc : (nI n).toNatClampNeg = n := nI_clamp (by omega)
    refine ⟨fun c1 => ?_, fun c1 => ⟨fun c2 σ4 e4 σ5 e5 => ?_, fun c2 => ?_⟩⟩
    · show wpb_X9_pay _ _ _ _ _
      unfold wpb_X9_pay
      refine isit_pos b4 b2 hn (z_t ⟨hv, ?_⟩)
      exact ⟨fun _ => y_f ⟨rfl, hI⟩, fun q => absurd c1 q⟩
    · have s5 : σ5 589 0 0 = nI (g 1) := by rw [e5, up_tag (by decide), e4, up_tag (by decide)]; exact b4
      have s6 : σ5 1049 0 n = σ 1049 0 n := by rw [e5, up_tag (by decide), e4, up_tag (by decide)]
      have r4 : σ4 526 0 0 = σ 526 0 0 := by rw [e4, up_tag (by decide)]
      show wpb_X9_pay _ _ _ _ _
      unfold wpb_X9_pay
      rw [r4] at e5
      refine isit_pos s5 b2 hn (z_t ⟨hv, ?_⟩)
      rw [hc]
      refine ⟨fun q => absurd q c1, fun _ => ⟨fun q => ?_, fun _ => y_t ⟨hv, hv, fun σ6 e6 σ7 e7 => ⟨hv, ?_⟩⟩⟩⟩
      · exfalso
        rw [s6, ← hd] at q
        rw [Int32.lt_iff_toInt_lt] at q
        rw [Int32.le_iff_toInt_le] at c2
        omega
      · rw [s6] at e6
        have r6 : σ6 611 0 0 = σ 611 0 0 := by rw [e6, up_tag (by decide), e5, up_tag (by decide), e4, up_tag (by decide)]
        rw [r6] at e7
        have t1 : σ5 386 n 0 = σ 386 n 0 - a2 := by rw [e5, up_tag (by decide), e4, up_eq]
        have t2 : σ7 1049 0 n = σ 1049 0 n - a2 := by rw [e7, up_tag (by decide), e6, up_eq]
        refine ⟨by rw [t1, t2, hd], ?_⟩
        have ha : ag [386, 526, 1049, 611] σ σ7 := by rw [e7, e6, e5, e4]; exact ag_up (ag_up (ag_up (ag_up ag_rf _ _ _ _ (by decide)) _ _ _ _ (by decide)) _ _ _ _ (by decide)) _ _ _ _ (by decide)
        have u : ∀ t, t ∉ ([386, 526, 1049, 611] : List Nat) → σ7 t = σ t := fun t q => ha t q
        refine ⟨h1.cg ha, ?_, h3.cg ha, h4.cg ha, h5.cg ha, ?_, h7.cg ha, h8.cg ha, h9.cg ha, h10.cg ha, h11.cg ha, h12.cg ha, h13.cg ha⟩
        · obtain ⟨x0, x1, x2, x3, x4⟩ := h2
          refine ⟨by rw [u 528 (by decide)]; exact x0, by rw [u 528 (by decide), u 609 (by decide)]; exact x1, by rw [u 525 (by decide), u 610 (by decide)]; exact x2, ?_, by rw [u 527 (by decide), u 612 (by decide)]; exact x4⟩
          have t3 : σ7 526 0 0 = σ 526 0 0 + a2 := by rw [e7, up_tag (by decide), e6, up_tag (by decide), e5, up_eq]
          have t4 : σ7 611 0 0 = σ 611 0 0 + a2 := by rw [e7, up_eq]
          rw [t3, t4, x3]
        · obtain ⟨x1, x2, x3, x4, x5⟩ := id h6
          refine ⟨x1, by rw [u 522 (by decide)]; exact x2, by rw [u 589 (by decide)]; exact x3, fun i hi => ?_, fun i hi hi2 => ?_⟩
          · obtain ⟨y1, y2, y3⟩ := x4 i hi
            refine ⟨by rw [u 384 (by decide), u 1047 (by decide)]; exact y1, by rw [u 385 (by decide), u 1048 (by decide)]; exact y2, ?_⟩
            have v1 : σ7 386 i 0 = if i = n then σ 386 n 0 - a2 else σ 386 i 0 := by rw [e7, up_tag (by decide), e6, up_tag (by decide), e5, up_tag (by decide), e4, up_if]; simp
            have v2 : σ7 1049 0 i = if i = n then σ 1049 0 n - a2 else σ 1049 0 i := by rw [e7, up_tag (by decide), e6, up_if, e5, up_tag (by decide), e4, up_tag (by decide)]; simp
            rw [v1, v2, hd, y3]
          · have v2 : σ7 1049 0 i = if i = n then σ 1049 0 n - a2 else σ 1049 0 i := by rw [e7, up_tag (by decide), e6, up_if, e5, up_tag (by decide), e4, up_tag (by decide)]; simp
            rw [v2, if_neg (by omega)]
            exact x5 i hi hi2
    · show wpb_X9_pay _ _ _ _ _
      unfold wpb_X9_pay
      refine isit_pos b4 b2 hn (z_t ⟨hv, ?_⟩)
      rw [hc]
      refine ⟨fun q => absurd q c1, fun _ => ⟨fun _ => y_f ⟨rfl, hI⟩, fun q => ?_⟩⟩
      exfalso
      rw [hd] at c2
      rw [Int32.lt_iff_toInt_lt] at q
      rw [Int32.le_iff_toInt_le] at c2
      omega
  · refine sit_neg h6 hn (o_n ?_)
    show wpb_X9_pay _ _ _ _ _
    unfold wpb_X9_pay
    exact isit_neg b4 b2 hn (z_f ⟨rfl, hI⟩)
