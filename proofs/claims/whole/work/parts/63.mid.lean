theorem part_pos {g : Nat → Nat} {σ : pr_Sg} {n k : Nat} {Q : Option (Nat × Nat) → pr_Sg → Prop} (h5 : I_pic g σ) (hn : n < g 2) (hk : k < 5) (h : Q (some (n, k)) σ) : wpb_X8_partAt g σ (nI n) (nI k) Q := by
  unfold wpb_X8_partAt
  refine pic_pos h5 hn (o_s ?_)
  refine w_pos 4 rfl (by omega) hk (z_t ⟨vp_in_nI hk (by omega), ?_⟩)
  rw [nI_clamp (by omega)]
  exact h
theorem part_neg1 {g : Nat → Nat} {σ : pr_Sg} {a b : Int32} {Q : Option (Nat × Nat) → pr_Sg → Prop} (h5 : I_pic g σ) (hn : ∀ n, n < g 2 → a ≠ nI n) (h : Q none σ) : wpb_X8_partAt g σ a b Q := by
  unfold wpb_X8_partAt
  exact pic_neg h5 hn (o_n h)
theorem part_neg2 {g : Nat → Nat} {σ : pr_Sg} {n : Nat} {b : Int32} {Q : Option (Nat × Nat) → pr_Sg → Prop} (h5 : I_pic g σ) (hn : n < g 2) (hk : ∀ k, k < 5 → b ≠ nI k) (h : Q none σ) : wpb_X8_partAt g σ (nI n) b Q := by
  unfold wpb_X8_partAt
  refine pic_pos h5 hn (o_s ?_)
  exact w_neg 4 rfl (by omega) hk (z_f h)
theorem f_strokes : pr_fact_strokes Inv := by
  intro g σ a1 a2 a3 hI
  show wpb_X8_strokes _ _ _ _ _ _
  unfold wpb_X8_strokes
  obtain ⟨h1, h2, h3, h4, h5, h6, h7, h8, h9, h10, h11, h12, h13⟩ := id hI
  have b2 := h7.1
  have b4 := h7.2.2.1
  rcases ix a1 (g 2) with ⟨n, hn, rfl⟩ | hn
  · rcases ix a2 5 with ⟨k, hk, rfl⟩ | hk
    · refine part_pos h7 hn hk (o_s2 ?_)
      rcases ix a3 10000 with ⟨m, hm, rfl⟩ | hm
      · refine w_pos 9999 rfl (by omega) hm (y_t (fun σ4 e4 => ?_))
        have s4 : σ4 601 0 0 = nI (g 2) := by rw [e4, up_tag (by decide)]; exact b4
        show wpb_X9_strokes _ _ _ _ _ _
        unfold wpb_X9_strokes
        refine ipic_pos s4 b2 hn (z_t ?_)
        refine in_pos 4 rfl (by omega) hk (z_t ?_)
        refine in_pos 9999 rfl (by omega) hm (y_t ⟨vp_in_nI (by omega) (by omega), vp_in_nI hk (by omega), fun σ5 e5 => ⟨rfl, ?_⟩⟩)
        rw [nI_clamp (by omega), nI_clamp (by omega)] at e5
        have ha : ag [132, 1068] σ σ5 := by rw [e5, e4]; exact ag_up (ag_up ag_rf _ _ _ _ (by decide)) _ _ _ _ (by decide)
        refine ⟨h1.cg ha, h2.cg ha, h3.cg ha, h4.cg ha, h5.cg ha, h6.cg ha, h7.cg ha, h8.cg ha, h9.cg ha, h10.cg ha, ?_, h12.cg ha, h13.cg ha⟩
        intro p hp q hq
        have u0 : σ5 132 p q = if p = n ∧ q = k then nI m else σ 132 p q := by rw [e5, up_tag (by decide), e4, up_if]
        have u1 : σ5 1068 p q = if p = n ∧ q = k then nI m else σ 1068 p q := by rw [e5, up_if, e4, up_tag (by decide)]
        rw [u0, u1]
        by_cases e : p = n ∧ q = k
        · rw [if_pos e, if_pos e]
          exact ⟨rfl, Or.inr ⟨m, hm, rfl⟩⟩
        · rw [if_neg e, if_neg e]
          exact h11 p hp q hq
      · refine w_neg 9999 rfl (by omega) hm (y_f ?_)
        show wpb_X9_strokes _ _ _ _ _ _
        unfold wpb_X9_strokes
        refine ipic_pos b4 b2 hn (z_t ?_)
        refine in_pos 4 rfl (by omega) hk (z_t ?_)
        exact in_neg 9999 rfl (by omega) hm (y_f ⟨rfl, hI⟩)
    · refine part_neg2 h7 hn hk (o_n2 ?_)
      show wpb_X9_strokes _ _ _ _ _ _
      unfold wpb_X9_strokes
      refine ipic_pos b4 b2 hn (z_t ?_)
      exact in_neg 4 rfl (by omega) hk (z_f ⟨rfl, hI⟩)
  · refine part_neg1 h7 hn (o_n2 ?_)
    show wpb_X9_strokes _ _ _ _ _ _
    unfold wpb_X9_strokes
    exact ipic_neg b4 b2 hn (z_f ⟨rfl, hI⟩)
theorem f_sitter : pr_fact_sitter Inv := by
  intro g σ a1 a2 hI
  show wpb_X8_sitter _ _ _ _ _
  unfold wpb_X8_sitter
  obtain ⟨h1, h2, h3, h4, h5, h6, h7, h8, h9, h10, h11, h12, h13⟩ := id hI
  obtain ⟨b1, b3, b4, b5, b6⟩ := id h6
  rcases ix a1 6 with ⟨x, hx, rfl⟩ | hx
  · rcases ix a2 6 with ⟨y, hy, rfl⟩ | hy
    · by_cases hxy : x ≤ y
      · refine w_pos y rfl (by omega) (by omega) (z_t ?_)
        refine w_pos 5 rfl (by omega) hy (z_t ?_)
        have h20 : σ 522 0 0 < (20 : Int32) ↔ g 1 < 20 := by rw [b3]; exact nI_ltI (a := g 1) (b := 20) (by omega) (by omega)
        have h21 : σ 589 0 0 = (20 : Int32) ↔ g 1 = 20 := by rw [b4]; exact nI_eq (a := g 1) (b := 20) (by omega) (by omega)
        have hM : ∀ {Q : Int32 → pr_Sg → Prop} {τ : pr_Sg} {g' : Nat → Nat}, Q 1 τ → wpb_X9_in g' τ (nI y) (nI x) (5 : Int32) Q := fun {Q τ g'} q => ⟨fun c => absurd c (nI_nlt hxy (by omega)), fun _ => ⟨fun c => absurd c (nI_nlt (a := 5) (b := y) (by omega) (by omega)), fun _ => q⟩⟩
        refine ⟨fun c1 => ?_, fun c1 => ?_⟩
        · have hlt := h20.mp c1
          refine ⟨by rw [b3]; exact vp_in_nI hlt (by omega), by rw [b3]; exact nI_clamp (by omega), fun σ6 e6 σ7 e7 => ?_⟩
          have r6 : σ6 522 0 0 = nI (g 1) := by rw [e6]; simp [pr_mkS, b3]
          rw [r6, nI_1] at e7
          have s7 : σ7 589 0 0 = nI (g 1) := by rw [e7, up_tag (by decide), e6]; simp [pr_mkS, b4]
          show wpb_X9_sitter _ _ _ _ _
          unfold wpb_X9_sitter
          refine in_pos 5 rfl (by omega) hx (z_t (hM (z_t ⟨fun _ => ?_, fun c2 => absurd c2 (by rw [s7]; exact fun q => absurd ((nI_eq (a := g 1) (b := 20) (by omega) (by omega)).mp q) (by omega))⟩)))
          have hv : vp_in (nI (g 1)) 20 := vp_in_nI hlt (by omega)
          refine ⟨by rw [s7]; exact hv, fun σ8 e8 => ?_⟩
          rw [s7, nI_clamp (by omega)] at e8
          have s8 : σ8 589 0 0 = nI (g 1) := by rw [e8, up_tag (by decide)]; exact s7
          refine ⟨by rw [s8]; exact hv, fun σ9 e9 => ?_⟩
          rw [s8, nI_clamp (by omega)] at e9
          have s9 : σ9 589 0 0 = nI (g 1) := by rw [e9, up_tag (by decide)]; exact s8
          refine fun σ10 e10 => ⟨by rw [e10, up_eq, e7, up_eq, s9, nI_1], ?_⟩
          rw [s9, nI_1] at e10
          have ha : ag [384, 385, 386, 522, 589, 1047, 1048] σ σ10 := by
            rw [e10, e9, e8, e7, e6]
            refine ag_up (ag_up (ag_up (ag_up ?_ _ _ _ _ (by decide)) _ _ _ _ (by decide)) _ _ _ _ (by decide)) _ _ _ _ (by decide)
            intro t ht
            funext i j
            have : ¬ (384 ≤ t ∧ t < 387) := fun q => ht (by simp; omega)
            simp [pr_mkS, this]
          have gn : ∀ x, x ≠ 1 → pr_g g 1 x = g x := fun x hx => pr_gn g hx
          have g5 : I_hand (pr_g g 1) σ10 := by have := h5.cg ha; simpa only [I_hand, gn 0 (by decide)] using this
          have g7 : I_pic (pr_g g 1) σ10 := by
            obtain ⟨x1, x2, x3, x4⟩ := h7.cg ha
            refine ⟨by rw [gn 2 (by decide)]; exact x1, by rw [gn 2 (by decide)]; exact x2, by rw [gn 2 (by decide)]; exact x3, fun p hp => ?_⟩
            rw [gn 2 (by decide)] at hp
            obtain ⟨y1, ⟨s, hs, y2⟩, y3⟩ := x4 p hp
            exact ⟨y1, ⟨s, by rw [pr_g0]; omega, y2⟩, y3⟩
          have g8 : I_trc (pr_g g 1) σ10 := by have := h8.cg ha; simpa only [I_trc, gn 2 (by decide)] using this
          have g9 : I_came (pr_g g 1) σ10 := by have := h9.cg ha; simpa only [I_came, gn 2 (by decide)] using this
          have g10 : I_part (pr_g g 1) σ10 := by have := h10.cg ha; simpa only [I_part, gn 2 (by decide)] using this
          have g11 : I_str (pr_g g 1) σ10 := by have := h11.cg ha; simpa only [I_str, gn 2 (by decide)] using this
          have g13 : I_sits (pr_g g 1) σ10 := by have := h13.cg ha; simpa only [I_sits, gn 2 (by decide)] using this
          refine ⟨h1.cg ha, h2.cg ha, h3.cg ha, h4.cg ha, g5, ?_, g7, g8, g9, g10, g11, h12.cg ha, g13⟩
          have v0 : ∀ t, t = 384 ∨ t = 385 ∨ t = 386 → ∀ i, σ10 t i 0 = σ6 t i 0 := fun t ht i => by
            rw [e10, up_tag (by omega), e9, up_tag (by omega), e8, up_tag (by omega), e7, up_tag (by omega)]
          have v1 : ∀ i, σ10 1047 0 i = if i = g 1 then nI x else σ 1047 0 i := fun i => by
            rw [e10, up_tag (by decide), e9, up_tag (by decide), e8, up_if, e7, up_tag (by decide), e6]
            simp [pr_mkS]
          have v2 : ∀ i, σ10 1048 0 i = if i = g 1 then nI y else σ 1048 0 i := fun i => by
            rw [e10, up_tag (by decide), e9, up_if, e8, up_tag (by decide), e7, up_tag (by decide), e6]
            simp [pr_mkS]
          have v3 : ∀ i, σ10 1049 0 i = σ 1049 0 i := fun i => by rw [ha 1049 (by decide)]
          refine ⟨by rw [pr_g0]; omega, by rw [pr_g0, e10, up_tag (by decide), e9, up_tag (by decide), e8, up_tag (by decide), e7, up_eq], by rw [pr_g0, e10, up_eq], fun i hi => ?_, fun i hi hi2 => ?_⟩
          · rw [pr_g0] at hi
            rw [v0 384 (by omega), v0 385 (by omega), v0 386 (by omega), v1, v2, v3, e6]
            by_cases e : i = g 1
            · subst e
              simp [pr_mkS, b6 (g 1) (Nat.le_refl _) hlt]
            · simp [pr_mkS, e]
              exact b5 i (by omega)
          · rw [pr_g0] at hi
            rw [v3]
            exact b6 i (by omega) hi2
        · show wpb_X9_sitter _ _ _ _ _
          unfold wpb_X9_sitter
          have h20' : g 1 = 20 := by
            have : ¬ g 1 < 20 := fun q => c1 (h20.mpr q)
            omega
          exact in_pos 5 rfl (by omega) hx (z_t (hM (z_t ⟨fun c2 => absurd (h21.mpr h20') c2, fun _ => ⟨rfl, hI⟩⟩)))
      · refine ⟨fun c => absurd c (nI_pos (by omega)), fun _ => ⟨fun _ => z_f ?_, fun c => absurd (nI_lt (by omega) (by omega)) c⟩⟩
        show wpb_X9_sitter _ _ _ _ _
        unfold wpb_X9_sitter
        refine in_pos 5 rfl (by omega) hx (z_t ?_)
        exact ⟨fun _ => z_f ⟨rfl, hI⟩, fun c => absurd (nI_lt (by omega) (by omega)) c⟩
    · have hQ : wpb_X9_sitter g σ (nI x) a2 (fun r2 σ2 => -1 = r2 ∧ Inv g σ2) := by
        unfold wpb_X9_sitter
        refine in_pos 5 rfl (by omega) hx (z_t ?_)
        refine ⟨fun _ => z_f ⟨rfl, hI⟩, fun c => ⟨fun _ => z_f ⟨rfl, hI⟩, fun c2 => ?_⟩⟩
        exfalso
        rw [Int32.lt_iff_toInt_lt, nI_toInt (by omega)] at c
        rw [Int32.lt_iff_toInt_lt, show (5 : Int32).toInt = 5 by decide] at c2
        rcases ix_neg (by omega) hy with q | q
        · rw [Int32.lt_iff_toInt_lt, show (0 : Int32).toInt = 0 by decide] at q
          omega
        · rw [Int32.le_iff_toInt_le, nI_toInt (by omega)] at q
          omega
      exact ⟨fun _ => z_f hQ, fun _ => ⟨fun _ => z_f hQ, fun _ => z_t (w_neg 5 rfl (by omega) hy (z_f hQ))⟩⟩
  · have hQ : wpb_X9_sitter g σ a1 a2 (fun r2 σ2 => -1 = r2 ∧ Inv g σ2) := by
      unfold wpb_X9_sitter
      exact in_neg 5 rfl (by omega) hx (z_f ⟨rfl, hI⟩)
    refine ⟨fun _ => z_f hQ, fun c1 => ⟨fun _ => z_f hQ, fun c2 => z_t ?_⟩⟩
    refine w_neg 5 rfl (by omega) (fun n hn e => ?_) (z_f hQ)
    subst e
    rcases ix_neg (by omega) hx with q | q
    · exact c1 q
    · rw [Int32.le_iff_toInt_le, nI_toInt (by omega)] at q
      rw [Int32.lt_iff_toInt_lt, nI_toInt (by omega)] at c2
      omega
theorem cnt_loop {g : Nat → Nat} {σ : pr_Sg} {Q : Int32 → pr_Sg → Prop} {N : Nat} (hN : N ≤ 40) (h : σ 601 0 0 = nI N) (hQ : Q (nI (cntN (fun p => σ 1053 0 p ≠ -1) N)) σ) : ∀ d k, k ≤ N → N - k < d → wp_X9_count_L74 g Q d σ (nI (cntN (fun p => σ 1053 0 p ≠ -1) k)) (nI k) := by
  intro d
  induction d with
  | zero => intro k _ h2; exact absurd h2 (by omega)
  | succ d ih =>
    intro k hk hd
    unfold wp_X9_count_L74
    rw [h]
    by_cases e : k = N
    · subst e
      exact ⟨fun _ => hQ, fun c => absurd (nI_le (Nat.le_refl k) (by omega)) c⟩
    · refine ⟨fun c => absurd c (nI_ge (by omega) (by omega)), fun _ => ⟨vp_in_nI (by omega) (by omega), ?_⟩⟩
      rw [nI_clamp (by omega), nI_1, nI_1, show nI (cntN (fun p => σ 1053 0 p ≠ -1) k) + (0 : Int32) = nI (cntN (fun p => σ 1053 0 p ≠ -1) k) from Int32.add_zero _]
      refine ⟨fun c => ?_, fun c => ?_⟩
      · have := ih (k + 1) (by omega) (by omega)
        simpa [cntN, c] using this
      · have := ih (k + 1) (by omega) (by omega)
        simpa [cntN, c] using this
theorem f_count : pr_fact_count Inv := by
  intro g σ a1 hI
  show wpb_X8_count _ _ _ _
  unfold wpb_X8_count
  obtain ⟨h1, h2, h3, h4, h5, h6, h7, h8, h9, h10, h11, h12, h13⟩ := id hI
  obtain ⟨d, hd, q1, q2⟩ := h1
  obtain ⟨n13, hn13, r1, r2, -⟩ := h13
  obtain ⟨x0, x1, x2, x3, x4⟩ := h2
  have M : ∀ {r : Int32}, (a1 = 0 → r = σ 576 0 0) → (a1 = 1 → r = σ 585 0 0) → (a1 = 2 → r = σ 589 0 0) → (a1 = 3 → r = σ 601 0 0) → (a1 = 4 → r = σ 524 0 0) → (a1 = 5 → r = σ 608 0 0) → (a1 = 6 → r = σ 610 0 0) → (a1 = 7 → r = σ 611 0 0) → (a1 = 8 → r = σ 612 0 0) → ((¬ a1 = 0 → ¬ a1 = 1 → ¬ a1 = 2 → ¬ a1 = 3 → ¬ a1 = 4 → ¬ a1 = 5 → ¬ a1 = 6 → ¬ a1 = 7 → ¬ a1 = 8 → r = -1)) → wpb_X9_count g σ a1 (fun r2 σ2 => r = r2 ∧ Inv g σ2) := by
    intro r c0 c1 c2 c3 c4 c5 c6 c7 c8 c9
    unfold wpb_X9_count
    refine ⟨fun c => ⟨c0 c, hI⟩, fun c => ⟨c1 c, hI⟩, fun c => ⟨c2 c, hI⟩, fun c => ⟨c3 c, hI⟩, fun c => ?_, fun c => ⟨c5 c, hI⟩, fun c => ⟨c6 c, hI⟩, fun c => ⟨c7 c, hI⟩, fun c => ⟨c8 c, hI⟩, fun e0 e1 e2 e3 e4 e5 e6 e7 e8 => ⟨c9 e0 e1 e2 e3 e4 e5 e6 e7 e8, hI⟩⟩
    refine ⟨g 2 + 1, ?_⟩
    have := cnt_loop (g := g) (σ := σ) (Q := fun r2 σ2 => r = r2 ∧ Inv g σ2) h7.1 h7.2.2.1 ⟨by rw [c4 c, h10.2.2.2], hI⟩ (g 2 + 1) 0 (by omega) (by omega)
    exact this
  refine ⟨fun c => ?_, fun c => ?_, fun c => ?_, fun c => ?_, fun c => ?_, fun c => ?_, fun c => ?_, fun c => ?_, fun c => ?_, fun e0 e1 e2 e3 e4 e5 e6 e7 e8 => ?_⟩
  · subst c
    refine M (fun _ => by rw [q1, q2]) ?_ ?_ ?_ ?_ ?_ ?_ ?_ ?_ ?_ <;> intro c <;> first | exact absurd c (by decide) | exact absurd rfl c
  · subst c
    refine M ?_ (fun _ => by rw [h5.2.2.1, h5.2.2.2.1]) ?_ ?_ ?_ ?_ ?_ ?_ ?_ ?_ <;> intro c <;> first | exact absurd c (by decide) | (intro c2; exact absurd rfl c2)
  · subst c
    refine M ?_ ?_ (fun _ => by rw [h6.2.1, h6.2.2.1]) ?_ ?_ ?_ ?_ ?_ ?_ ?_ <;> intro c <;> first | exact absurd c (by decide) | (intro c2 c3; exact absurd rfl c3)
  · subst c
    refine M ?_ ?_ ?_ (fun _ => by rw [h7.2.1, h7.2.2.1]) ?_ ?_ ?_ ?_ ?_ ?_ <;> intro c <;> first | exact absurd c (by decide) | (intro c2 c3 c4; exact absurd rfl c4)
  · subst c
    refine M ?_ ?_ ?_ ?_ (fun _ => rfl) ?_ ?_ ?_ ?_ ?_ <;> intro c <;> first | exact absurd c (by decide) | (intro c2 c3 c4 c5; exact absurd rfl c5)
  · subst c
    refine M ?_ ?_ ?_ ?_ ?_ (fun _ => by rw [r1, r2]) ?_ ?_ ?_ ?_ <;> intro c <;> first | exact absurd c (by decide) | (intro c2 c3 c4 c5 c6; exact absurd rfl c6)
  · subst c
    refine M ?_ ?_ ?_ ?_ ?_ ?_ (fun _ => x2) ?_ ?_ ?_ <;> intro c <;> first | exact absurd c (by decide) | (intro c2 c3 c4 c5 c6 c7; exact absurd rfl c7)
  · subst c
    refine M ?_ ?_ ?_ ?_ ?_ ?_ ?_ (fun _ => x3) ?_ ?_ <;> intro c <;> first | exact absurd c (by decide) | (intro c2 c3 c4 c5 c6 c7 c8; exact absurd rfl c8)
  · subst c
    refine M ?_ ?_ ?_ ?_ ?_ ?_ ?_ ?_ (fun _ => x4) ?_ <;> intro c <;> first | exact absurd c (by decide) | (intro c2 c3 c4 c5 c6 c7 c8 c9; exact absurd rfl c9)
  · exact M (fun c => absurd c e0) (fun c => absurd c e1) (fun c => absurd c e2) (fun c => absurd c e3) (fun c => absurd c e4) (fun c => absurd c e5) (fun c => absurd c e6) (fun c => absurd c e7) (fun c => absurd c e8) (fun _ _ _ _ _ _ _ _ _ => rfl)
