theorem plan_data {g : Nat → Nat} {σ : pr_Sg} {day : Int32} (hI : Inv g σ) (hday : ¬ day < σ 520 0 0 ∧ ¬ (20000 : Int32) < day) : ∃ N l W wt okp sp, N ≤ 200 ∧ σ 453 0 0 = nI N ∧ σ 608 0 0 = nI N ∧ l ≤ 6 ∧ LH day = nI l ∧ (∀ i, i < N → ∃ p, p < g 2 ∧ σ 1058 0 i = nI p ∧ ¬ (20000 : Int32) < σ 1059 0 i) ∧ XH g σ day N l W wt okp sp ∧ MH σ (g 2) day N W wt okp sp := by
  obtain ⟨h1, h2, h3, h4, h5, h6, h7, h8, h9, h10, h11, h12, h13⟩ := hI
  obtain ⟨d, hd, e520, e576⟩ := h1
  obtain ⟨N, hN, eX, eM, hS⟩ := sits_iff.mp h13
  have y0 : ¬ day < 0 := fun w => hday.1 (by
    rw [e520, Int32.lt_iff_toInt_lt, nI_toInt (by omega)]
    rw [Int32.lt_iff_toInt_lt, show (0 : Int32).toInt = 0 by decide] at w
    omega)
  obtain ⟨y, hy31, ey⟩ := nI_of y0
  have hy : y ≤ 20000 := Nat.le_of_not_lt (fun w => hday.2 (by rw [ey]; exact nI_lt (a := 20000) w hy31))
  obtain ⟨l, hl, el⟩ := LH_n hy
  rw [← ey] at el
  have hG := h7.1
  have hS1 := h6.1
  obtain ⟨W, hW⟩ : ∃ W : Nat → Bool, ∀ p, W p = true ↔ (σ 1053 0 p = -1 ∧ ¬ σ 1065 p 0 = σ 1064 p 0 ∧ ¬ ∃ i, i < N ∧ σ 1059 0 i = day ∧ σ 1050 0 (σ 1058 0 i).toNatClampNeg = σ 1050 0 p) := ⟨fun p => @decide _ (Classical.propDecidable _), fun p => @decide_eq_true_iff _ (Classical.propDecidable _)⟩
  obtain ⟨okp, hok⟩ : ∃ okp : Nat → Nat → Bool, ∀ p h, okp p h = true ↔ ((¬ nI h < 0 ∧ ¬ LH day - 1 < nI h) ∧ (¬ nI h < σ 1047 0 (σ 1050 0 p).toNatClampNeg ∧ ¬ σ 1048 0 (σ 1050 0 p).toNatClampNeg < nI h) ∧ ¬ ∃ j, j < N ∧ σ 1059 0 j = day ∧ σ 1060 0 j = nI h) := ⟨fun p h => @decide _ (Classical.propDecidable _), fun p h => @decide_eq_true_iff _ (Classical.propDecidable _)⟩
  have hwt : ∀ p, p < g 2 → ∃ c, c ≤ d ∧ σ 195 p 0 = nI c := fun p hp => by
    obtain ⟨c, n, w1, w2, w3, w4⟩ := h9 p hp
    have : d = n := (nI_eq (by omega) (by omega)).mp (e520.symm.trans w4)
    exact ⟨c, by omega, w3⟩
  refine ⟨N, l, W, fun p => 1 + d - (σ 195 p 0).toNatClampNeg, okp, fun p => σ 1050 0 p, hN, eX, eM, by omega, el, hS.2.1, fun p hp => ?_, fun p hp => ?_⟩
  · obtain ⟨⟨p1, p2, p3, p4, p5⟩, ⟨s, hs, p6⟩, -⟩ := h7.2.2.2 p hp
    obtain ⟨q1, q2, -, -, w, h, hw, hw3, q5, q6⟩ := h10.1 p hp 0 (by omega)
    obtain ⟨r1, r2⟩ := h10.2.1 p hp
    obtain ⟨c, hc, ec⟩ := hwt p hp
    refine ⟨?_, ⟨?_, ?_⟩, p1, s, hs, p1.symm.trans p6, fun k hk => ?_⟩
    · rw [hW p, q1, q2, q5, q6, hS.has hG, p1, nI_leI (by omega) (by omega), nI_eq (by omega) (by omega)]
      constructor
      · rintro ⟨_, w1, w2⟩
        exact ⟨by omega, w2⟩
      · rintro ⟨w1, w2⟩
        refine ⟨?_, by omega, w2⟩
        rw [← p5, r2]
        have : dd σ p 0 ≠ 0 := by
          unfold dd
          rw [q5, q6, nI_clamp (by omega), nI_clamp (by omega)]
          omega
        omega
    · show 1 + σ 520 0 0 - σ 195 p 0 = nI (1 + d - (σ 195 p 0).toNatClampNeg)
      rw [e520, ec, nI_clamp (by omega), show (1 : Int32) = nI 1 from rfl, nI_add, pk_sub (by omega)]
    · show 1 + d - (σ 195 p 0).toNatClampNeg ≤ 20001
      omega
    · have es : σ 1050 0 p = nI s := p1.symm.trans p6
      obtain ⟨u1, u2, -⟩ := h6.2.2.2.1 s hs
      rw [hok p k, es, nI_clamp (n := s) (by omega), el, u1, u2, hS.taken]
      have : (¬ nI k < 0 ∧ ¬ nI l - 1 < nI k) ↔ k < l := by
        constructor
        · rintro ⟨_, w⟩
          rw [Int32.lt_iff_toInt_lt, nI_m1 (by omega), nI_toInt (by omega)] at w
          omega
        · intro w
          refine ⟨nI_pos (by omega), fun w2 => ?_⟩
          rw [Int32.lt_iff_toInt_lt, nI_m1 (by omega), nI_toInt (by omega)] at w2
          omega
      rw [this]
  · obtain ⟨⟨p1, p2, p3, p4, p5⟩, ⟨s, hs, p6⟩, -⟩ := h7.2.2.2 p hp
    obtain ⟨c, hc, ec⟩ := hwt p hp
    have es : σ 1050 0 p = nI s := p1.symm.trans p6
    refine ⟨hW p, ⟨c, d, hc, e576, p4.symm.trans ec, ?_⟩, ?_, rfl, s, by omega, es, fun k hk => ?_⟩
    · show 1 + d - (σ 195 p 0).toNatClampNeg = 1 + d - c
      rw [ec, nI_clamp (by omega)]
    · show 1 + d - (σ 195 p 0).toNatClampNeg ≤ 20001
      omega
    · rw [hok p k, es, nI_clamp (n := s) (by omega)]
theorem Inv.cg {g : Nat → Nat} {σ τ : pr_Sg} {ts : List Nat} (hI : Inv g σ) (ha : ag ts σ τ) (hd : ∀ t ∈ ([520, 576, 528, 609, 525, 610, 526, 611, 527, 612, 67, 580, 1020, 1021, 1022, 1040, 1041, 1042, 1023, 1043, 521, 585, 0, 1, 2, 1044, 1045, 1046, 522, 589, 384, 385, 386, 1047, 1048, 1049, 523, 601, 192, 193, 194, 195, 197, 1050, 1051, 1052, 1053, 1054, 201, 1055, 128, 129, 130, 131, 1064, 1065, 1066, 1067, 198, 524, 132, 1068, 1028, 1029, 1056, 1057, 453, 608, 1024, 1025, 1026, 1027, 1070, 1058, 1059, 1060, 1071, 199, 200] : List Nat), t ∉ ts := by decide) : Inv g τ := by
  obtain ⟨h1, h2, h3, h4, h5, h6, h7, h8, h9, h10, h11, h12, h13⟩ := hI
  have sub : ∀ {us : List Nat}, (∀ t ∈ us, t ∈ ([520, 576, 528, 609, 525, 610, 526, 611, 527, 612, 67, 580, 1020, 1021, 1022, 1040, 1041, 1042, 1023, 1043, 521, 585, 0, 1, 2, 1044, 1045, 1046, 522, 589, 384, 385, 386, 1047, 1048, 1049, 523, 601, 192, 193, 194, 195, 197, 1050, 1051, 1052, 1053, 1054, 201, 1055, 128, 129, 130, 131, 1064, 1065, 1066, 1067, 198, 524, 132, 1068, 1028, 1029, 1056, 1057, 453, 608, 1024, 1025, 1026, 1027, 1070, 1058, 1059, 1060, 1071, 199, 200] : List Nat)) → ∀ t ∈ us, t ∉ ts := fun h t ht => hd t (h t ht)
  exact ⟨h1.cg ha (sub (by decide)), h2.cg ha (sub (by decide)), h3.cg ha (sub (by decide)), h4.cg ha (sub (by decide)), h5.cg ha (sub (by decide)), h6.cg ha (sub (by decide)), h7.cg ha (sub (by decide)), h8.cg ha (sub (by decide)), h9.cg ha (sub (by decide)), h10.cg ha (sub (by decide)), h11.cg ha (sub (by decide)), h12.cg ha (sub (by decide)), h13.cg ha (sub (by decide))⟩
/-- planned and worth, both sides: the plan fails in both, or gives the same -/
theorem plan_both {g : Nat → Nat} {σ : pr_Sg} {day : Int32} {QX : Int32 → pr_Sg → Prop} (hI : Inv g σ)
    (q0 : ∀ τ, (∀ QM : Int32 → pr_Sg → Prop, (∀ υ, Inv g υ → QM 0 υ) → wpb_X9_plans g τ day QM) → QX 0 τ)
    (q1 : ∀ τ (m : Nat) (f : Nat → Nat) (B : Nat × (Nat → Int32)), m ≤ 5 → τ 262 0 0 = nI m → (∀ i, i < m → τ 1030 0 i = nI (f i)) → (∀ i, i < m → τ 1035 0 i = B.2 i) → τ 264 0 0 = nI B.1 - 1 → (∀ QM : Int32 → pr_Sg → Prop, (∀ υ, Inv g υ → υ 616 0 0 = nI m → (∀ i, i < m → υ 1061 0 i = nI (f i)) → (∀ i, i < m → υ 1063 0 i = B.2 i) → υ 617 0 0 = nI B.1 - 1 → QM 1 υ) → wpb_X9_plans g τ day QM) → QX 1 τ) : wpb_X8_makePlan g σ day QX := by
  obtain ⟨h1, h2, h3, h4, h5, h6, h7, h8, h9, h10, h11, h12, h13⟩ := id hI
  have e2 : σ 520 0 0 = σ 576 0 0 := by
    obtain ⟨d, _, p1, p2⟩ := id h1
    rw [p1, p2]
  by_cases hday : ¬ day < σ 520 0 0 ∧ ¬ (20000 : Int32) < day
  rotate_left
  · unfold wpb_X8_makePlan
    refine nol_neg hday (y_f (q0 σ (fun QM hq => ?_)))
    unfold wpb_X9_plans
    rw [e2] at hday
    exact ig_neg hday (y_f (hq σ hI))
  obtain ⟨N, l, W, wt, okp, sp, hN, eX, eM, hl, el, hp, hX, hM⟩ := plan_data hI hday
  have side : ∀ τ, ag [262, 263, 264, 1030, 1031, 1032, 1033, 1034, 1035] σ τ → Inv g τ ∧ τ 601 0 0 = nI (g 2) ∧ τ 608 0 0 = nI N ∧ (∀ i, i < N → ∃ p, p < g 2 ∧ τ 1058 0 i = nI p ∧ ¬ (20000 : Int32) < τ 1059 0 i) ∧ (¬ day < τ 576 0 0 ∧ ¬ (20000 : Int32) < day) ∧ MH τ (g 2) day N W wt okp sp := fun τ ha => by
    refine ⟨hI.cg ha, by rw [ha 601 (by decide)]; exact h7.2.2.1, by rw [ha 608 (by decide)]; exact eM, by rw [ha 1058 (by decide), ha 1059 (by decide)]; exact hp, by rw [ha 576 (by decide), ← e2]; exact hday, hM.cg ha⟩
  refine planX h6 h7 hN eX hl el hday hX (fun τ ha hc => q0 τ (fun QM hq => ?_)) (fun τ ha n1 n2 n3 t1 t2 t3 t4 => q1 τ _ _ _ n3 t1 t2 t3 t4 (fun QM hq => ?_))
  · obtain ⟨i1, i2, i3, i4, i5, i6⟩ := side τ ha
    exact plansM h7.1 i2 hN i3 i4 i5 i6 (fun υ hu _ => hq υ (i1.cg hu)) (fun υ hu m1 m2 => absurd hc (fun w => w.elim m1 m2))
  · obtain ⟨i1, i2, i3, i4, i5, i6⟩ := side τ ha
    exact plansM h7.1 i2 hN i3 i4 i5 i6 (fun υ hu w => absurd w (fun w => w.elim n1 n2)) (fun υ hu _ _ _ u1 u2 u3 u4 => hq υ (i1.cg hu) u1 u2 u3 u4)
theorem f_planned : pr_fact_planned Inv := by
  intro g σ a1 a2 hI
  show wpb_X8_planned _ _ _ _ _
  unfold wpb_X8_planned
  refine plan_both hI (fun τ hq => z_f ?_) (fun τ m f B hm t1 t2 t3 t4 hq => z_t ?_)
  · show wpb_X9_planned _ _ _ _ _
    unfold wpb_X9_planned
    exact hq _ (fun υ hu => y_f ⟨rfl, hu⟩)
  · refine hourX hm t1 t2 t3 ?_
    show wpb_X9_planned _ _ _ _ _
    unfold wpb_X9_planned
    exact hq _ (fun υ hu u1 u2 u3 u4 => y_t (hourM hm u1 u2 u3 ⟨rfl, hu⟩))
theorem f_worth : pr_fact_worth Inv := by
  intro g σ a1 hI
  show wpb_X8_worth _ _ _ _
  unfold wpb_X8_worth
  refine plan_both hI (fun τ hq => z_f ?_) (fun τ m f B hm t1 t2 t3 t4 hq => z_t ?_)
  · show wpb_X9_worth _ _ _ _
    unfold wpb_X9_worth
    exact hq _ (fun υ hu => z_f ⟨rfl, hu⟩)
  · show wpb_X9_worth _ _ _ _
    unfold wpb_X9_worth
    exact hq _ (fun υ hu u1 u2 u3 u4 => z_t ⟨by rw [t4, u4], hu⟩)
