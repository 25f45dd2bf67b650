theorem cntN_0 {P : Nat → Prop} [DecidablePred P] : ∀ {n : Nat}, (∀ k, k < n → ¬ P k) → cntN P n = 0 := by
  intro n
  induction n with
  | zero => intro _; rfl
  | succ n ih =>
    intro h
    unfold cntN
    rw [ih (fun k hk => h k (by omega)), if_neg (h n (by omega))]
theorem inv_1064 {g : Nat → Nat} {σ τ : pr_Sg} (hI : Inv g σ) (ha : ag [1064] σ τ) (h : ∀ p, p ≠ g 2 → ∀ k, τ 1064 p k = σ 1064 p k) : Inv g τ := by
  obtain ⟨h1, h2, h3, h4, h5, h6, h7, h8, h9, h10, h11, h12, h13⟩ := hI
  refine ⟨h1.cg ha, h2.cg ha, h3.cg ha, h4.cg ha, h5.cg ha, h6.cg ha, h7.cg ha, h8.cg ha, h9.cg ha, ?_, h11.cg ha, h12.cg ha, h13.cg ha⟩
  obtain ⟨x1, x2, x3, x4⟩ := h10
  have v : ∀ t, t ≠ 1064 → τ t = σ t := fun t ht => ha t (by simpa using ht)
  have w : ∀ p, p < g 2 → ∀ k, τ 1064 p k = σ 1064 p k := fun p hp k => h p (by omega) k
  have wd : ∀ p, p < g 2 → ∀ k, dd τ p k = dd σ p k := fun p hp k => by
    unfold dd
    rw [w p hp k, v 1065 (by decide)]
  refine ⟨fun p hp k hk => ?_, fun p hp => ?_, ?_, ?_⟩
  · rw [v 128 (by decide), v 129 (by decide), v 1065 (by decide), v 130 (by decide), v 1066 (by decide), v 131 (by decide), v 1067 (by decide), w p hp k]
    exact x1 p hp k hk
  · rw [v 198 (by decide), wd p hp 0, wd p hp 1, wd p hp 2, wd p hp 3, wd p hp 4, v 197 (by decide)]
    exact x2 p hp
  · rw [v 1065 (by decide)]
    exact x3
  · rw [v 524 (by decide), v 1053 (by decide)]
    exact x4
theorem pict_inv {g : Nat → Nat} {σ τ θ υ : pr_Sg} {s n : Nat} {a4 r : Int32} (hI : Inv g σ) (hs : s < g 1) (hlt : g 2 < 40) (n1 : 10000 ≤ n) (n2 : n ≤ 33333) (hd5 : ∀ i, i < 5 → n / 10 ^ i % 10 ≤ 3) (h4r : a4 = -1 ∨ ∃ r, r < 5 ∧ a4 = nI r)
    (et : τ = pr_up (pr_up (pr_up (pr_mkP σ (g 2) (nI s) (nI n) a4 r (σ 520 0 0)) 523 0 0 (nI (g 2 + 1))) 527 0 0 (σ 527 0 0 + r)) 386 s 0 (σ 386 s 0 + r / 2))
    (hd : dgS τ θ (g 2) n 5) (hn : NM θ υ (g 2) s (nI s) a4 r) : Inv (pr_g g 2) υ := by
  obtain ⟨h1, h2, h3, h4, h5, h6, h7, h8, h9, h10, h11, h12, h13⟩ := hI
  obtain ⟨d1, d2, d3⟩ := hd
  obtain ⟨m1, m50, m51, m52, m53, m54, m55, m6, m612, m49, m601⟩ := hn
  have c : ∀ t, t ∉ [1050, 1051, 1052, 1053, 1054, 1055, 1066, 1067, 1068, 612, 1049, 601, 1064] → υ t = τ t := fun t ht => by
    rw [m1 t (fun w => ht (by revert w; simp; omega)), d1 t (fun w => ht (by revert w; simp; omega))]
  have x : ∀ t, t ∉ [192, 193, 194, 195, 196, 197, 198, 199, 200, 201, 128, 129, 130, 131, 132, 523, 527, 386] → τ t = σ t := fun t ht => by
    have q1 : ¬ (192 ≤ t ∧ t < 202) := fun q => ht (by simp; omega)
    have q2 : ¬ (128 ≤ t ∧ t < 133) := fun q => ht (by simp; omega)
    have q3 : t ≠ 523 := fun q => ht (by simp; omega)
    have q4 : t ≠ 527 := fun q => ht (by simp; omega)
    have q5 : t ≠ 386 := fun q => ht (by simp; omega)
    funext i j
    rw [et, up_tag q5, up_tag q4, up_tag q3]
    simp only [pr_mkP, q1, q2, false_and, if_false]
  have y : ∀ t, t ∉ [192, 193, 194, 195, 196, 197, 198, 199, 200, 201, 128, 129, 130, 131, 132, 523, 527, 386, 1064] → θ t = σ t := fun t ht => by
    rw [d1 t (fun w => ht (by revert w; simp; omega)), x t (fun w => ht (by revert w; simp; omega))]
  have ha : ag [192, 193, 194, 195, 196, 197, 198, 199, 200, 201, 128, 129, 130, 131, 132, 523, 527, 386, 1050, 1051, 1052, 1053, 1054, 1055, 1066, 1067, 1068, 612, 1049, 601, 1064] σ υ := fun t ht => by
    rw [c t (fun w => ht (by revert w; simp; omega)), x t (fun w => ht (by revert w; simp; omega))]
  have k0 : ∀ t, (192 ≤ t ∧ t < 202 ∨ 128 ≤ t ∧ t < 133) → ∀ p k, υ t p k = pr_mkP σ (g 2) (nI s) (nI n) a4 r (σ 520 0 0) t p k := fun t ht p k => by
    rw [c t (by simp; omega), et, up_tag (by omega), up_tag (by omega), up_tag (by omega)]
  have old : ∀ t, (192 ≤ t ∧ t < 202 ∨ 128 ≤ t ∧ t < 133) → ∀ p, p ≠ g 2 → ∀ k, υ t p k = σ t p k := fun t ht p hp k => by
    rw [k0 t ht]
    simp [pr_mkP, hp]
  have w192 : υ 192 (g 2) 0 = nI s := by rw [k0 _ (by decide)]; simp [pr_mkP]
  have w193 : υ 193 (g 2) 0 = a4 := by rw [k0 _ (by decide)]; simp [pr_mkP]
  have w194 : υ 194 (g 2) 0 = r := by rw [k0 _ (by decide)]; simp [pr_mkP]
  have w195 : υ 195 (g 2) 0 = σ 520 0 0 := by rw [k0 _ (by decide)]; simp [pr_mkP]
  have w197 : υ 197 (g 2) 0 = -1 := by rw [k0 _ (by decide)]; simp [pr_mkP]
  have w198 : υ 198 (g 2) 0 = (((((0 : Int32) + pr_dig (nI n) 0) + pr_dig (nI n) 1) + pr_dig (nI n) 2) + pr_dig (nI n) 3) + pr_dig (nI n) 4 := by rw [k0 _ (by decide)]; simp [pr_mkP]
  have w199 : υ 199 (g 2) 0 = 0 := by rw [k0 _ (by decide)]; simp [pr_mkP]
  have w200 : υ 200 (g 2) 0 = 0 := by rw [k0 _ (by decide)]; simp [pr_mkP]
  have w201 : υ 201 (g 2) 0 = -1 := by rw [k0 _ (by decide)]; simp [pr_mkP]
  have w128 : ∀ k, k < 5 → υ 128 (g 2) k = nI (n / 10 ^ (4 - k) % 10) := fun k hk => by
    rw [k0 _ (by decide), ← dig_n (by omega)]
    simp [pr_mkP, hk]
  have w129 : ∀ k, k < 5 → υ 129 (g 2) k = 0 := fun k hk => by rw [k0 _ (by decide)]; simp [pr_mkP, hk]
  have w130 : ∀ k, k < 5 → υ 130 (g 2) k = -1 := fun k hk => by rw [k0 _ (by decide)]; simp [pr_mkP, hk]
  have w131 : ∀ k, k < 5 → υ 131 (g 2) k = -1 := fun k hk => by rw [k0 _ (by decide)]; simp [pr_mkP, hk]
  have w132 : ∀ k, k < 5 → υ 132 (g 2) k = -1 := fun k hk => by rw [k0 _ (by decide)]; simp [pr_mkP, hk]
  rw [y 1050 (by decide)] at m50
  rw [y 1051 (by decide)] at m51
  rw [y 1052 (by decide), y 576 (by decide)] at m52
  rw [y 1053 (by decide)] at m53
  rw [y 1054 (by decide)] at m54
  rw [y 1055 (by decide)] at m55
  rw [y 612 (by decide)] at m612
  rw [y 1049 (by decide)] at m49
  have m6' : ∀ t, (t = 1066 ∨ t = 1067 ∨ t = 1068) → ∀ p k, υ t p k = if p = g 2 ∧ k < 5 then -1 else σ t p k := fun t ht p k => by
    rw [m6 t ht p k, y t (by simp; omega)]
  have w1064 : ∀ p, p ≠ g 2 → ∀ k, υ 1064 p k = σ 1064 p k := fun p hp k => by rw [m1 1064 (by decide), d2 p hp k, x 1064 (by decide)]
  have v1064 : ∀ k, k < 5 → υ 1064 (g 2) k = nI (n / 10 ^ (4 - k) % 10) := fun k hk => by rw [m1 1064 (by decide), d3 k hk (by omega)]
  have gn : ∀ x, x ≠ 2 → pr_g g 2 x = g x := fun x hx => pr_gn g hx
  have e2 : σ 520 0 0 = σ 576 0 0 := by
    obtain ⟨d, _, p1, p2⟩ := h1
    rw [p1, p2]
  have e1065 : ∀ p k, υ 1065 p k = σ 1065 p k := fun p k => by rw [ha 1065 (by decide)]
  have g5 : I_hand (pr_g g 2) υ := by have := h5.cg ha; simpa only [I_hand, gn 0 (by decide)] using this
  refine ⟨h1.cg ha, ?_, h3.cg ha, h4.cg ha, g5, ?_, ?_, ?_, ?_, ?_, ?_, h12.cg ha, ?_⟩
  · obtain ⟨p1, p2, p3, p4, p5⟩ := h2
    refine ⟨by rw [ha 528 (by decide)]; exact p1, by rw [ha 528 (by decide), ha 609 (by decide)]; exact p2, by rw [ha 525 (by decide), ha 610 (by decide)]; exact p3, by rw [ha 526 (by decide), ha 611 (by decide)]; exact p4, ?_⟩
    rw [c 527 (by decide), et, up_tag (by decide), up_eq, m612, p5]
  · obtain ⟨p1, p2, p3, p4, p5⟩ := h6
    have f386 : ∀ i, υ 386 i 0 = if i = s then σ 386 s 0 + r / 2 else σ 386 i 0 := fun i => by
      rw [c 386 (by decide), et, up_if, up_tag (by decide), up_tag (by decide)]
      simp [pr_mkP]
    rw [I_sit, gn 1 (by decide)]
    refine ⟨p1, by rw [ha 522 (by decide)]; exact p2, by rw [ha 589 (by decide)]; exact p3, fun i hi => ?_, fun i hi hi2 => ?_⟩
    · obtain ⟨y1, y2, y3⟩ := p4 i hi
      refine ⟨by rw [ha 384 (by decide), ha 1047 (by decide)]; exact y1, by rw [ha 385 (by decide), ha 1048 (by decide)]; exact y2, ?_⟩
      rw [f386, m49, y3, (p4 s hs).2.2]
    · rw [m49, if_neg (by omega)]
      exact p5 i hi hi2
  · obtain ⟨p1, p2, p3, p4⟩ := h7
    refine ⟨by rw [pr_g0]; omega, by rw [pr_g0, c 523 (by decide), et, up_tag (by decide), up_tag (by decide), up_eq], by rw [pr_g0]; exact m601, fun p hp => ?_⟩
    rw [pr_g0] at hp
    rw [gn 1 (by decide), m50, m51, m52, m53, m54]
    by_cases e : p = g 2
    · subst e
      rw [w192, w193, w194, w195, w197]
      simp only [if_true]
      exact ⟨⟨trivial, trivial, trivial, e2, trivial⟩, ⟨s, hs, rfl⟩, h4r⟩
    · rw [old 192 (by decide) p e, old 193 (by decide) p e, old 194 (by decide) p e, old 195 (by decide) p e, old 197 (by decide) p e]
      simp only [if_neg e]
      exact p4 p (by omega)
  · intro p hp
    rw [pr_g0] at hp
    rw [m55]
    by_cases e : p = g 2
    · subst e
      rw [w201, if_pos rfl]
      exact ⟨rfl, Or.inl rfl⟩
    · rw [old 201 (by decide) p e, if_neg e]
      exact h8 p (by omega)
  · intro p hp
    rw [pr_g0] at hp
    rw [ha 520 (by decide)]
    by_cases e : p = g 2
    · subst e
      obtain ⟨d, hd', p1, p2⟩ := h1
      exact ⟨d, d, Nat.le_refl d, hd', by rw [w195, p1], p1⟩
    · rw [old 195 (by decide) p e]
      exact h9 p (by omega)
  · obtain ⟨p1, p2, p3, p4⟩ := h10
    have wd : ∀ p, p ≠ g 2 → ∀ k, dd υ p k = dd σ p k := fun p hp k => by
      unfold dd
      rw [w1064 p hp k, e1065]
    have wg : ∀ k, k < 5 → dd υ (g 2) k = n / 10 ^ (4 - k) % 10 := fun k hk => by
      unfold dd
      rw [v1064 k hk, e1065, p3 (g 2) (Nat.le_refl _) hlt k hk, nI_clamp (by have := hd5 (4 - k) (by omega); omega)]
      rfl
    refine ⟨fun p hp k hk => ?_, fun p hp => ?_, fun p hp hp2 k hk => ?_, ?_⟩
    · rw [pr_g0] at hp
      rw [m6' 1066 (by decide), m6' 1067 (by decide)]
      by_cases e : p = g 2
      · subst e
        rw [w128 k hk, w129 k hk, w130 k hk, w131 k hk, v1064 k hk, e1065, p3 (g 2) (Nat.le_refl _) hlt k hk, if_pos ⟨rfl, hk⟩, if_pos ⟨rfl, hk⟩]
        exact ⟨rfl, rfl, rfl, rfl, _, 0, Nat.zero_le _, hd5 (4 - k) (by omega), rfl, rfl⟩
      · rw [old 128 (by decide) p e, old 129 (by decide) p e, old 130 (by decide) p e, old 131 (by decide) p e, w1064 p e, e1065, if_neg (fun w => e w.1), if_neg (fun w => e w.1)]
        exact p1 p (by omega) k hk
    · rw [pr_g0] at hp
      by_cases e : p = g 2
      · subst e
        rw [wg 0 (by omega), wg 1 (by omega), wg 2 (by omega), wg 3 (by omega), wg 4 (by omega), w197, w198, dig_n (by omega), dig_n (by omega), dig_n (by omega), dig_n (by omega), dig_n (by omega), show (0 : Int32) = nI 0 from rfl, nI_add, nI_add, nI_add, nI_add, nI_add]
        refine ⟨by congr 1; simp only [Nat.sub_zero, Nat.reduceSub]; omega, fun _ w => ?_, fun _ => rfl⟩
        have z : n / 10 ^ (4 - 0) % 10 ≠ 0 := by
          show n / 10000 % 10 ≠ 0
          omega
        exact z (by omega)
      · rw [old 198 (by decide) p e, old 197 (by decide) p e, wd p e, wd p e, wd p e, wd p e, wd p e]
        exact p2 p (by omega)
    · rw [pr_g0] at hp
      rw [e1065]
      exact p3 p (by omega) hp2 k hk
    · rw [ha 524 (by decide), pr_g0, p4]
      show _ = nI (cntN (fun p => υ 1053 0 p ≠ -1) (g 2) + if υ 1053 0 (g 2) ≠ -1 then 1 else 0)
      rw [if_neg (by rw [m53, if_pos rfl]; exact fun w => w rfl), Nat.add_zero]
      congr 1
      refine cntN_cg (P := fun p => σ 1053 0 p ≠ -1) (P' := fun p => υ 1053 0 p ≠ -1) (fun k hk => ?_)
      show σ 1053 0 k ≠ -1 ↔ υ 1053 0 k ≠ -1
      rw [m53, if_neg (by omega)]
  · intro p hp k hk
    rw [pr_g0] at hp
    rw [m6' 1068 (by decide)]
    by_cases e : p = g 2
    · subst e
      rw [w132 k hk, if_pos ⟨rfl, hk⟩]
      exact ⟨rfl, Or.inl rfl⟩
    · rw [old 132 (by decide) p e, if_neg (fun w => e w.1)]
      exact h11 p (by omega) k hk
  · obtain ⟨N, q1, q2, q3, q4, q5, q6, q7, q8, q9, q10, q11⟩ := h13
    refine ⟨N, q1, ?_⟩
    rw [ha 453 (by decide), ha 608 (by decide), ha 1024 (by decide), ha 1025 (by decide), ha 1026 (by decide), ha 1027 (by decide), ha 1070 (by decide), ha 1058 (by decide), ha 1059 (by decide), ha 1060 (by decide), ha 1071 (by decide), pr_g0]
    refine ⟨q2, q3, fun i hi => ?_, fun i hi => ?_, q6, q7, q8, q9, q10, fun p hp => ?_⟩
    · obtain ⟨p, hp, z1, z2⟩ := q4 i hi
      exact ⟨p, by omega, z1, by rw [m50, if_neg (by omega)]; exact z2⟩
    · obtain ⟨p, hp, z1, z2⟩ := q5 i hi
      exact ⟨p, by omega, z1, z2⟩
    · by_cases e : p = g 2
      · subst e
        have z : ∀ i, i < N → ¬ σ 1058 0 i = nI (g 2) := fun i hi w => by
          obtain ⟨p, hp, z1, _⟩ := q5 i hi
          have := (nI_eq (by omega) (by omega)).mp (z1.symm.trans w)
          omega
        rw [w199, w200, cntN_0 z, cntN_0 (fun i hi w => z i hi w.1)]
        exact ⟨rfl, rfl⟩
      · rw [old 199 (by decide) p e, old 200 (by decide) p e]
        exact q11 p (by omega)
theorem f_picture : pr_fact_picture Inv := by
  intro g σ a1 a2 a3 a4 hI
  obtain ⟨h1, h2, h3, h4, h5, h6, h7, h8, h9, h10, h11, h12, h13⟩ := id hI
  obtain ⟨N, hN, e67, e580, hl⟩ := id h3
  obtain ⟨p1, p2, p3, p4⟩ := id h7
  have e2 : σ 520 0 0 = σ 576 0 0 := by
    obtain ⟨d, _, p1, p2⟩ := id h1
    rw [p1, p2]
  have hy : ∀ k, k < N → ¬ σ 1040 0 k < 0 := fun k hk => by
    obtain ⟨⟨y, hy, w⟩, w2, _⟩ := hl k hk
    rw [← w2, w]
    exact nI_pos (by omega)
  refine pictureX (N := N) h6 p1 p2 hN e67 (fun gd s r τ hs ea er et => ?_) (fun gd => ?_)
  · have x : ∀ t, t ∉ [192, 193, 194, 195, 196, 197, 198, 199, 200, 201, 128, 129, 130, 131, 132, 523, 527, 386] → τ t = σ t := fun t ht => by
      have q1 : ¬ (192 ≤ t ∧ t < 202) := fun q => ht (by simp; omega)
      have q2 : ¬ (128 ≤ t ∧ t < 133) := fun q => ht (by simp; omega)
      have q3 : t ≠ 523 := fun q => ht (by simp; omega)
      have q4 : t ≠ 527 := fun q => ht (by simp; omega)
      have q5 : t ≠ 386 := fun q => ht (by simp; omega)
      funext i j
      rw [et, up_tag q5, up_tag q4, up_tag q3]
      simp only [pr_mkP, q1, q2, false_and, if_false]
    refine pictureM (G := g 2) (S := g 1) (N := N) h6.1 (by rw [x 589 (by decide)]; exact h6.2.2.1) p1 (by rw [x 601 (by decide)]; exact p3) hN (by rw [x 580 (by decide)]; exact e580) (by rw [x 1040 (by decide)]; exact hy) (fun _ s' n θ υ hs' ea' hn31 en hd hn => ?_) (fun w => absurd gd w)
    rw [x 1040 (by decide), x 1041 (by decide), x 1042 (by decide), x 576 (by decide), ← e2] at hn
    have es : s' = s := (nI_eq (by have := h6.1; omega) (by have := h6.1; omega)).mp (ea'.symm.trans ea)
    subst es
    have er' : pvb (σ 1042 0) (bstL (σ 1040 0) (σ 1041 0) a2 (σ 520 0 0 / 365) N) = r := by
      rw [er, bstL_cg (ys := σ 1040 0) (ss := σ 1041 0) (ys' := σ 1020 0) (ss' := σ 1021 0) (fun j hj => ⟨(hl j hj).2.1.symm, (hl j hj).2.2.1.symm⟩)]
      exact pvb_cg (fun j hj => (hl j hj).2.2.2.symm)
    rw [er'] at hn
    obtain ⟨_, _, ⟨m, m1, m2, em, m4⟩, g4, g5⟩ := gd
    subst ea
    subst em
    have : m = n := (nI_eq (by omega) hn31).mp en
    subst this
    exact ⟨rfl, pict_inv hI hs g5 m1 m2 m4 g4 et hd hn⟩
  · exact pictureM (G := g 2) (S := g 1) (N := N) h6.1 h6.2.2.1 p1 p3 hN e580 hy (fun w => absurd w gd) (fun _ τ ha hp => ⟨rfl, inv_1064 hI ha hp⟩)
