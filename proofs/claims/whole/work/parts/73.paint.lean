theorem paint_inv {g : Nat → Nat} {σ τ1 τ2 τ υ1 υ2 υ : pr_Sg} {p k h s N : Nat} (hI : Inv g σ) (hp : p < g 2) (hk : k < 5) (hh : h < g 0) (hs : s < g 1) (es : σ 192 p 0 = nI s) (hN : N ≤ 200) (eX : σ 453 0 0 = nI N) (n1 : ¬ σ 1065 p k = σ 1064 p k) (n4 : ¬ (σ 1044 0 h = σ 576 0 0 ∧ σ 1045 0 h = 3)) (s1 : S1 σ τ1 p k h) (s2 : S2 τ1 τ2 p k N) (s3 : S3 τ2 τ p s) (t2 : T2 τ υ1 p k N) (t1 : T1 υ1 υ2 p k h) (t3 : T3 υ2 υ p s) : Inv g υ := by
  obtain ⟨h1, h2, h3, h4, h5, h6, h7, h8, h9, h10, h11, h12, h13⟩ := id hI
  obtain ⟨a, s129, s130, s131, sv2, sv1, s525⟩ := s1
  obtain ⟨b, s2n, s2y, s1028, s1029⟩ := s2
  obtain ⟨c, s198, s3n, s3y⟩ := s3
  obtain ⟨d, t2n, t2y, t1056, t1057⟩ := t2
  obtain ⟨e, t1045, t1044, t1065, t1066, t1067, t610⟩ := t1
  obtain ⟨f, t3n, t3y⟩ := t3
  obtain ⟨D, hD, e520, e576⟩ := id h1
  have hG := h7.1
  -- outside of what is written
  have al : ag [129, 130, 131, 2, 1, 525, 1070, 200, 1028, 1029, 198, 197, 524, 386, 1071, 1056, 1057, 1045, 1044, 1065, 1066, 1067, 610, 1053, 1049] σ υ := fun t ht => by
    rw [f t (fun w => ht (by revert w; simp; omega)), e t (fun w => ht (by revert w; simp; omega)), d t (fun w => ht (by revert w; simp; omega)), c t (fun w => ht (by revert w; simp; omega)), b t (fun w => ht (by revert w; simp; omega)), a t (fun w => ht (by revert w; simp; omega))]
  -- up to τ for X, from τ on for M
  have aM : ag [1071, 1056, 1057, 1045, 1044, 1065, 1066, 1067, 610, 1053, 1049] τ υ := fun t ht => by
    rw [f t (fun w => ht (by revert w; simp; omega)), e t (fun w => ht (by revert w; simp; omega)), d t (fun w => ht (by revert w; simp; omega))]
  have aX : ag [129, 130, 131, 2, 1, 525, 1070, 200, 1028, 1029, 198, 197, 524, 386] σ τ := fun t ht => by
    rw [c t (fun w => ht (by revert w; simp; omega)), b t (fun w => ht (by revert w; simp; omega)), a t (fun w => ht (by revert w; simp; omega))]
  have a2 : ag [129, 130, 131, 2, 1, 525, 1070, 200, 1028, 1029] σ τ2 := fun t ht => by
    rw [b t (fun w => ht (by revert w; simp; omega)), a t (fun w => ht (by revert w; simp; omega))]
  have a3 : ag [129, 130, 131, 2, 1, 525, 1070, 200, 1028, 1029, 198, 197, 524, 386, 1071, 1056, 1057] σ υ1 := fun t ht => by
    rw [d t (fun w => ht (by revert w; simp; omega)), aX t (fun w => ht (by revert w; simp; omega))]
  have a4 : ag [129, 130, 131, 2, 1, 525, 1070, 200, 1028, 1029, 198, 197, 524, 386, 1071, 1056, 1057, 1045, 1044, 1065, 1066, 1067, 610] σ υ2 := fun t ht => by
    rw [e t (fun w => ht (by revert w; simp; omega)), a3 t (fun w => ht (by revert w; simp; omega))]
  have x129 : ∀ q j, υ 129 q j = if q = p ∧ j = k then σ 129 p k + 1 else σ 129 q j := fun q j => by rw [aM 129 (by decide), c 129 (by decide), b 129 (by decide), s129]
  have x130 : ∀ q j, υ 130 q j = if q = p ∧ j = k then σ 520 0 0 else σ 130 q j := fun q j => by rw [aM 130 (by decide), c 130 (by decide), b 130 (by decide), s130]
  have x131 : ∀ q j, υ 131 q j = if q = p ∧ j = k then nI h else σ 131 q j := fun q j => by rw [aM 131 (by decide), c 131 (by decide), b 131 (by decide), s131]
  have y1065 : ∀ q j, υ 1065 q j = if q = p ∧ j = k then σ 1065 p k + 1 else σ 1065 q j := fun q j => by rw [f 1065 (by decide), t1065, a3 1065 (by decide)]
  have y1066 : ∀ q j, υ 1066 q j = if q = p ∧ j = k then σ 520 0 0 else σ 1066 q j := fun q j => by rw [f 1066 (by decide), t1066, a3 1066 (by decide), a3 576 (by decide), e576, e520]
  have y1067 : ∀ q j, υ 1067 q j = if q = p ∧ j = k then nI h else σ 1067 q j := fun q j => by rw [f 1067 (by decide), t1067, a3 1067 (by decide)]
  have PA : ∀ q, q < g 2 → ∀ j, j < 5 → υ 128 q j = υ 1064 q j ∧ υ 129 q j = υ 1065 q j ∧ υ 130 q j = υ 1066 q j ∧ υ 131 q j = υ 1067 q j ∧ ∃ w h, h ≤ w ∧ w ≤ 3 ∧ υ 1064 q j = nI w ∧ υ 1065 q j = nI h := fun q hq j hj => by
    obtain ⟨u1, u2, u3, u4, w, m, hm, hw, ew, em⟩ := h10.1 q hq j hj
    rw [x129, x130, x131, y1065, y1066, y1067, al 128 (by decide), al 1064 (by decide)]
    by_cases c : q = p ∧ j = k
    · obtain ⟨rfl, rfl⟩ := c
      rw [if_pos ⟨rfl, rfl⟩, if_pos ⟨rfl, rfl⟩, if_pos ⟨rfl, rfl⟩, if_pos ⟨rfl, rfl⟩, if_pos ⟨rfl, rfl⟩, if_pos ⟨rfl, rfl⟩]
      refine ⟨u1, by rw [u2], rfl, rfl, w, m + 1, ?_, hw, ew, by rw [em, nI_1]⟩
      by_cases q : m = w
      · subst q
        exact absurd (em.trans ew.symm) n1
      · omega
    · rw [if_neg c, if_neg c, if_neg c, if_neg c, if_neg c, if_neg c]
      exact ⟨u1, u2, u3, u4, w, m, hm, hw, ew, em⟩
  have ddo : ∀ q j, ¬ (q = p ∧ j = k) → dd υ q j = dd σ q j := fun q j w => by
    unfold dd
    rw [al 1064 (by decide), y1065, if_neg w]
  have ddk : dd υ p k + 1 = dd σ p k := by
    unfold dd
    obtain ⟨u1, u2, u3, u4, w, m, hm, hw, ew, em⟩ := h10.1 p hp k hk
    rw [al 1064 (by decide), y1065, if_pos ⟨rfl, rfl⟩, ew, em, nI_1, nI_clamp (by omega), nI_clamp (by omega), nI_clamp (by omega)]
    have : m ≠ w := fun q => n1 (by rw [em, ew, q])
    omega
  have sums : dd υ p 0 + dd υ p 1 + dd υ p 2 + dd υ p 3 + dd υ p 4 + 1 = dd σ p 0 + dd σ p 1 + dd σ p 2 + dd σ p 3 + dd σ p 4 := by
    have o : ∀ j, j ≠ k → dd υ p j = dd σ p j := fun j hj => ddo p j (fun w => hj w.2)
    have : k = 0 ∨ k = 1 ∨ k = 2 ∨ k = 3 ∨ k = 4 := by omega
    rcases this with rfl | rfl | rfl | rfl | rfl
    · have := o 1 (by decide); have := o 2 (by decide); have := o 3 (by decide); have := o 4 (by decide); omega
    · have := o 0 (by decide); have := o 2 (by decide); have := o 3 (by decide); have := o 4 (by decide); omega
    · have := o 0 (by decide); have := o 1 (by decide); have := o 3 (by decide); have := o 4 (by decide); omega
    · have := o 0 (by decide); have := o 1 (by decide); have := o 2 (by decide); have := o 4 (by decide); omega
    · have := o 0 (by decide); have := o 1 (by decide); have := o 2 (by decide); have := o 3 (by decide); omega
  have dsm : dd σ p 0 + dd σ p 1 + dd σ p 2 + dd σ p 3 + dd σ p 4 ≤ 15 := by
    have o : ∀ j, j < 5 → dd σ p j ≤ 3 := fun j hj => by
      obtain ⟨u1, u2, u3, u4, w, m, hm, hw, ew, em⟩ := h10.1 p hp j hj
      unfold dd
      rw [ew, em, nI_clamp (by omega), nI_clamp (by omega)]
      omega
    have := o 0 (by decide); have := o 1 (by decide); have := o 2 (by decide); have := o 3 (by decide); have := o 4 (by decide)
    omega
  obtain ⟨k198, k197⟩ := h10.2.1 p hp
  have open0 : σ 197 p 0 = -1 := k197.mpr (by omega)
  have z198 : τ2 198 p 0 - 1 = nI (dd υ p 0 + dd υ p 1 + dd υ p 2 + dd υ p 3 + dd υ p 4) := by
    rw [a2 198 (by decide), k198, ← sums, nI_pred]
  have DX : τ2 198 p 0 - 1 = 0 ↔ dd υ p 0 + dd υ p 1 + dd υ p 2 + dd υ p 3 + dd υ p 4 = 0 := by
    rw [z198]
    exact nk0 (by omega)
  have dz : ∀ j, j < 5 → (υ 1065 p j = υ 1064 p j ↔ dd υ p j = 0) := fun j hj => by
    obtain ⟨-, -, -, -, w, m, hm, hw, ew, em⟩ := PA p hp j hj
    unfold dd
    rw [ew, em, nI_clamp (by omega), nI_clamp (by omega), nI_eq (by omega) (by omega)]
    omega
  have DM : (∀ j, j < 5 → υ2 1065 p j = υ2 1064 p j) ↔ dd υ p 0 + dd υ p 1 + dd υ p 2 + dd υ p 3 + dd υ p 4 = 0 := by
    rw [← f 1065 (by decide), ← f 1064 (by decide)]
    constructor
    · intro w
      have := (dz 0 (by decide)).mp (w 0 (by decide)); have := (dz 1 (by decide)).mp (w 1 (by decide)); have := (dz 2 (by decide)).mp (w 2 (by decide)); have := (dz 3 (by decide)).mp (w 3 (by decide)); have := (dz 4 (by decide)).mp (w 4 (by decide))
      omega
    · intro w j hj
      refine (dz j hj).mpr ?_
      have : j = 0 ∨ j = 1 ∨ j = 2 ∨ j = 3 ∨ j = 4 := by omega
      rcases this with rfl | rfl | rfl | rfl | rfl <;> omega
  have x197 : ∀ q, υ 197 q 0 = if q = p ∧ dd υ p 0 + dd υ p 1 + dd υ p 2 + dd υ p 3 + dd υ p 4 = 0 then σ 520 0 0 else σ 197 q 0 := fun q => by
    rw [aM 197 (by decide)]
    by_cases w : τ2 198 p 0 - 1 = 0
    · rw [(s3y w).1, a2 520 (by decide), a2 197 (by decide)]
      by_cases w2 : q = p
      · rw [if_pos w2, if_pos ⟨w2, DX.mp w⟩]
      · rw [if_neg w2, if_neg (fun w => w2 w.1)]
    · rw [(s3n w).1, a2 197 (by decide), if_neg (fun w2 => w (DX.mpr w2.2))]
  have y1053 : ∀ q, υ 1053 0 q = if q = p ∧ dd υ p 0 + dd υ p 1 + dd υ p 2 + dd υ p 3 + dd υ p 4 = 0 then σ 520 0 0 else σ 1053 0 q := fun q => by
    by_cases w : dd υ p 0 + dd υ p 1 + dd υ p 2 + dd υ p 3 + dd υ p 4 = 0
    · rw [(t3y (DM.mpr w)).1, a4 576 (by decide), a4 1053 (by decide), e576, e520]
      by_cases w2 : q = p
      · rw [if_pos w2, if_pos ⟨w2, w⟩]
      · rw [if_neg w2, if_neg (fun w => w2 w.1)]
    · rw [if_neg (fun w2 => w w2.2), t3n (fun w2 => w (DM.mp w2)), a4 1053 (by decide)]
  have n520 : σ 520 0 0 ≠ -1 := by rw [e520]; exact nI_ne1 (by omega)
  refine ⟨h1.cg al, ?_, h3.cg al, h4.cg al, ?_, ?_, ?_, h8.cg al, h9.cg al, ?_, h11.cg al, ?_, ?_⟩
  · obtain ⟨m1, m2, m3, m4, m5⟩ := h2
    unfold I_sc
    rw [al 528 (by decide), al 609 (by decide), al 526 (by decide), al 611 (by decide), al 527 (by decide), al 612 (by decide)]
    refine ⟨m1, m2, ?_, m4, m5⟩
    rw [aM 525 (by decide), c 525 (by decide), b 525 (by decide), s525, f 610 (by decide), t610, a3 610 (by decide), m3]
  · obtain ⟨m1, m2, m3, m4, m5, m6⟩ := h5
    have x1 : ∀ i, υ 1 i 0 = if i = h then σ 520 0 0 else σ 1 i 0 := fun i => by rw [aM 1 (by decide), c 1 (by decide), b 1 (by decide), sv1]
    have x2 : ∀ i, υ 2 i 0 = if i = h then (if σ 1 h 0 = σ 520 0 0 then σ 2 h 0 else 0) + 1 else σ 2 i 0 := fun i => by rw [aM 2 (by decide), c 2 (by decide), b 2 (by decide), sv2]
    have y1 : ∀ i, υ 1044 0 i = if i = h then σ 520 0 0 else σ 1044 0 i := fun i => by rw [f 1044 (by decide), t1044, a3 576 (by decide), a3 1044 (by decide), e576, e520]
    have y2 : ∀ i, υ 1045 0 i = if i = h then (if σ 1044 0 h = σ 520 0 0 then σ 1045 0 h + 1 else 1) else σ 1045 0 i := fun i => by rw [f 1045 (by decide), t1045, a3 576 (by decide), a3 1044 (by decide), a3 1045 (by decide), e576, e520]
    unfold I_hand
    rw [al 521 (by decide), al 585 (by decide), al 0 (by decide), al 1046 (by decide)]
    refine ⟨m1, m2, m3, m4, fun i hi => ?_, fun i hi1 hi2 => ?_⟩
    · obtain ⟨u1, u2, u3, ⟨n, hn, en⟩, u5⟩ := m5 i hi
      rw [x1, x2, y1, y2]
      by_cases w : i = h
      · subst w
        rw [if_pos rfl, if_pos rfl, if_pos rfl, if_pos rfl]
        by_cases w2 : σ 1 i 0 = σ 520 0 0
        · rw [if_pos w2, if_pos (by rw [← u2]; exact w2), u3]
          refine ⟨u1, rfl, rfl, ⟨n + 1, ?_, by rw [← u3, en, nI_1]⟩, u5⟩
          have : n ≠ 3 := fun q => n4 ⟨by rw [← u2, w2, e576, e520], by rw [← u3, en, q]; rfl⟩
          omega
        · rw [if_neg w2, if_neg (by rw [← u2]; exact w2)]
          exact ⟨u1, rfl, by decide, ⟨1, by omega, by decide⟩, u5⟩
      · rw [if_neg w, if_neg w, if_neg w, if_neg w]
        exact ⟨u1, u2, u3, ⟨n, hn, en⟩, u5⟩
    · have w : i ≠ h := by omega
      rw [y1, y2, if_neg w, if_neg w]
      exact m6 i hi1 hi2
  · obtain ⟨m1, m2, m3, m4, m5⟩ := h6
    obtain ⟨⟨-, -, v3, -, -⟩, -, -⟩ := h7.2.2.2 p hp
    have x386 : ∀ i, υ 386 i 0 = if i = s ∧ dd υ p 0 + dd υ p 1 + dd υ p 2 + dd υ p 3 + dd υ p 4 = 0 then σ 386 s 0 + (σ 1051 0 p - σ 1051 0 p / 2) else σ 386 i 0 := fun i => by
      rw [aM 386 (by decide)]
      by_cases w : τ2 198 p 0 - 1 = 0
      · rw [(s3y w).2.2, a2 386 (by decide), a2 194 (by decide), v3]
        by_cases w2 : i = s
        · rw [if_pos w2, if_pos ⟨w2, DX.mp w⟩]
        · rw [if_neg w2, if_neg (fun w => w2 w.1)]
      · rw [(s3n w).2.2, a2 386 (by decide), if_neg (fun w2 => w (DX.mpr w2.2))]
    have y1049 : ∀ i, υ 1049 0 i = if i = s ∧ dd υ p 0 + dd υ p 1 + dd υ p 2 + dd υ p 3 + dd υ p 4 = 0 then σ 1049 0 s + (σ 1051 0 p - σ 1051 0 p / 2) else σ 1049 0 i := fun i => by
      by_cases w : dd υ p 0 + dd υ p 1 + dd υ p 2 + dd υ p 3 + dd υ p 4 = 0
      · rw [(t3y (DM.mpr w)).2, a4 1049 (by decide), a4 1051 (by decide)]
        by_cases w2 : i = s
        · rw [if_pos w2, if_pos ⟨w2, w⟩]
        · rw [if_neg w2, if_neg (fun w => w2 w.1)]
      · rw [if_neg (fun w2 => w w2.2), t3n (fun w2 => w (DM.mp w2)), a4 1049 (by decide)]
    unfold I_sit
    rw [al 522 (by decide), al 589 (by decide), al 384 (by decide), al 385 (by decide), al 1047 (by decide), al 1048 (by decide)]
    refine ⟨m1, m2, m3, fun i hi => ?_, fun i hi1 hi2 => ?_⟩
    · obtain ⟨u1, u2, u3⟩ := m4 i hi
      refine ⟨u1, u2, ?_⟩
      rw [x386, y1049, u3, (m4 s hs).2.2]
    · rw [y1049, if_neg (fun w => by have := w.1; omega)]
      exact m5 i hi1 hi2
  · obtain ⟨m1, m2, m3, m4⟩ := h7
    unfold I_pic
    rw [al 523 (by decide), al 601 (by decide), al 192 (by decide), al 193 (by decide), al 194 (by decide), al 195 (by decide), al 1050 (by decide), al 1051 (by decide), al 1052 (by decide), al 1054 (by decide)]
    refine ⟨m1, m2, m3, fun q hq => ?_⟩
    obtain ⟨⟨u1, u2, u3, u4, u5⟩, u6, u7⟩ := m4 q hq
    refine ⟨⟨u1, u2, u3, u4, ?_⟩, u6, u7⟩
    rw [x197, y1053, u5]
  · obtain ⟨m1, m2, m3, m4⟩ := h10
    refine ⟨PA, fun q hq => ?_, fun q hq1 hq2 j hj => ?_, ?_⟩
    · rw [x197]
      by_cases w : q = p
      · subst w
        refine ⟨?_, ?_⟩
        · rw [aM 198 (by decide), s198, if_pos rfl, z198]
        · by_cases w2 : dd υ q 0 + dd υ q 1 + dd υ q 2 + dd υ q 3 + dd υ q 4 = 0
          · rw [if_pos ⟨rfl, w2⟩]
            exact ⟨fun w3 => absurd w3 n520, fun w3 => absurd w2 w3⟩
          · rw [if_neg (fun w3 => w2 w3.2)]
            exact ⟨fun _ => w2, fun _ => open0⟩
      · rw [if_neg (fun w3 => w w3.1), aM 198 (by decide), s198, if_neg w, a2 198 (by decide), ddo q 0 (fun w3 => w w3.1), ddo q 1 (fun w3 => w w3.1), ddo q 2 (fun w3 => w w3.1), ddo q 3 (fun w3 => w w3.1), ddo q 4 (fun w3 => w w3.1)]
        exact m2 q hq
    · rw [y1065, if_neg (fun w => by have := w.1; omega)]
      exact m3 q hq1 hq2 j hj
    · by_cases w : dd υ p 0 + dd υ p 1 + dd υ p 2 + dd υ p 3 + dd υ p 4 = 0
      · rw [aM 524 (by decide), (s3y (DX.mpr w)).2.1, a2 524 (by decide), m4]
        have o1 : σ 1053 0 p = -1 := by rw [← (h7.2.2.2 p hp).1.2.2.2.2]; exact open0
        have := cntN_add (Q := fun p => σ 1053 0 p ≠ -1) (R := fun p => υ 1053 0 p ≠ -1) (k := p) (fun r => r o1) (by rw [y1053, if_pos ⟨rfl, w⟩]; exact n520) (g 2) (fun i _ ne => by rw [y1053, if_neg (fun w => ne w.1)])
        rw [this, if_pos hp, nI_1]
      · rw [aM 524 (by decide), (s3n (fun w2 => w (DX.mp w2))).2.1, a2 524 (by decide), m4]
        congr 1
        refine cntN_cg (fun i _ => ?_)
        rw [y1053, if_neg (fun w2 => w w2.2)]
  · intro r hr
    obtain ⟨m1, m2⟩ := h12 r hr
    obtain ⟨⟨-, v2, -, -, -⟩, -, -⟩ := h7.2.2.2 p hp
    have x1028 : υ 1028 0 r = if k = 2 ∧ σ 193 p 0 = nI r then nI p else σ 1028 0 r := by rw [aM 1028 (by decide), c 1028 (by decide), s1028 r hr, a 193 (by decide), a 1028 (by decide)]
    have x1029 : υ 1029 0 r = if k = 2 ∧ σ 193 p 0 = nI r then σ 520 0 0 else σ 1029 0 r := by rw [aM 1029 (by decide), c 1029 (by decide), s1029 r hr, a 193 (by decide), a 1029 (by decide), a 520 (by decide)]
    have y1056 : υ 1056 0 r = if k = 2 ∧ σ 193 p 0 = nI r then σ 520 0 0 else σ 1056 0 r := by rw [f 1056 (by decide), e 1056 (by decide), t1056 r hr, aX 1054 (by decide), aX 576 (by decide), aX 1056 (by decide), v2, e576, e520]
    have y1057 : υ 1057 0 r = if k = 2 ∧ σ 193 p 0 = nI r then nI p else σ 1057 0 r := by rw [f 1057 (by decide), e 1057 (by decide), t1057 r hr, aX 1054 (by decide), aX 1057 (by decide), v2]
    rw [x1028, x1029, y1056, y1057]
    by_cases w : k = 2 ∧ σ 193 p 0 = nI r
    · rw [if_pos w, if_pos w, if_pos w, if_pos w]
      exact ⟨rfl, Or.inr rfl⟩
    · rw [if_neg w, if_neg w, if_neg w, if_neg w]
      exact ⟨m1, m2⟩
  · obtain ⟨N', hN', eX', eM', hS⟩ := sits_iff.mp h13
    obtain rfl : N' = N := (nI_eq (by omega) (by omega)).mp (eX'.symm.trans eX)
    refine sits_iff.mpr ⟨N', hN, by rw [al 453 (by decide)]; exact eX, by rw [al 608 (by decide)]; exact eM', ?_⟩
    rw [al 1024 (by decide), al 1025 (by decide), al 1026 (by decide), al 1027 (by decide), al 1058 (by decide), al 1059 (by decide), al 1060 (by decide), al 1050 (by decide), al 199 (by decide)]
    by_cases k0 : k = 0
    · obtain ⟨i, hi, ⟨w1, w2, w3⟩, w4, w5⟩ := s2y k0
      obtain ⟨i', hi', ⟨w1', w2', w3'⟩, w4'⟩ := t2y k0
      rw [a 1024 (by decide)] at w1
      rw [a 1026 (by decide), a 520 (by decide)] at w2
      rw [aX 1058 (by decide)] at w1'
      rw [aX 1059 (by decide), aX 576 (by decide), e576, ← e520] at w2'
      rw [aX 1071 (by decide)] at w3'
      refine SITS.use (p := p) (k := i) (k' := i') (b := σ 520 0 0) hS hN hG hp hi hi' w1 w2 w1' w2' w3' (fun x => ?_) (fun x => ?_) (fun x => ?_)
      · rw [aM 1070 (by decide), c 1070 (by decide), w4, a 1070 (by decide)]
      · rw [f 1071 (by decide), e 1071 (by decide), w4', aX 1071 (by decide)]
      · show υ 200 x 0 = _
        rw [aM 200 (by decide), c 200 (by decide), w5, a 200 (by decide)]
    · rw [aM 1070 (by decide), c 1070 (by decide), (s2n k0).1, a 1070 (by decide), f 1071 (by decide), e 1071 (by decide), t2n k0, aX 1071 (by decide), aM 200 (by decide), c 200 (by decide), (s2n k0).2, a 200 (by decide)]
      exact hS
theorem f_paint : pr_fact_paint Inv := by
  intro g σ a1 a2 a3 hI
  obtain ⟨h1, h2, h3, h4, h5, h6, h7, h8, h9, h10, h11, h12, h13⟩ := id hI
  obtain ⟨N, hN, eX, eM, hS⟩ := sits_iff.mp h13
  obtain ⟨d, hd, e520, e576⟩ := id h1
  have hG := h7.1
  have hG1 := h6.1
  have hH := h5.2.1
  show wpb_X8_paint _ _ _ _ _ _
  unfold wpb_X8_paint
  rcases ix a1 (g 2) with ⟨p, hp, rfl⟩ | hn
  rotate_left
  · show wpb_X8_standsAgainst _ _ _ _ _ _
    unfold wpb_X8_standsAgainst
    refine pic_neg h7 hn (o_n ?_)
    refine part_neg1 h7 hn (o_n2 ?_)
    have M : wp_X9_paint g σ a1 a2 a3 (fun r2 σ2 => (-1 : Int32) = r2 ∧ Inv g σ2) := by
      show wpb_X9_paint _ _ _ _ _ _
      unfold wpb_X9_paint
      exact ipic_neg h7.2.2.1 hG hn (z_f ⟨rfl, hI⟩)
    rcases ix a3 (g 0) with ⟨h, hh, rfl⟩ | hn3
    · exact hand_pos h5 hh (o_s ⟨fun _ => M, fun c => absurd c (by decide)⟩)
    · exact hand_neg h5 hn3 (o_n ⟨fun _ => M, fun c => absurd c (by decide)⟩)
  rcases ix a2 5 with ⟨k, hk, rfl⟩ | hn2
  rotate_left
  · show wpb_X8_standsAgainst _ _ _ _ _ _
    unfold wpb_X8_standsAgainst
    refine pic_pos h7 hp (o_s ?_)
    refine part_neg2 h7 hp hn2 (o_n2 ?_)
    have M : wp_X9_paint g σ (nI p) a2 a3 (fun r2 σ2 => (-1 : Int32) = r2 ∧ Inv g σ2) := by
      show wpb_X9_paint _ _ _ _ _ _
      unfold wpb_X9_paint
      exact ipic_pos h7.2.2.1 hG hp (z_t (in_neg 4 rfl (by omega) hn2 (z_f ⟨rfl, hI⟩)))
    rcases ix a3 (g 0) with ⟨h, hh, rfl⟩ | hn3
    · exact hand_pos h5 hh (o_s ⟨fun _ => M, fun c => absurd c (by decide)⟩)
    · exact hand_neg h5 hn3 (o_n ⟨fun _ => M, fun c => absurd c (by decide)⟩)
  rcases ix a3 (g 0) with ⟨h, hh, rfl⟩ | hn3
  rotate_left
  · show wpb_X8_standsAgainst _ _ _ _ _ _
    unfold wpb_X8_standsAgainst
    refine pic_pos h7 hp (o_s ?_)
    refine part_pos h7 hp hk (o_s2 ?_)
    refine hand_neg h5 hn3 (o_n ⟨fun _ => ?_, fun c => absurd c (by decide)⟩)
    show wpb_X9_paint _ _ _ _ _ _
    unfold wpb_X9_paint
    exact ipic_pos h7.2.2.1 hG hp (z_t (in_pos 4 rfl (by omega) hk (z_t (ihand_neg h5.2.2.2.1 hH hn3 (y_f ⟨rfl, hI⟩)))))
  obtain ⟨⟨t1, t2, t3, t4, t5⟩, ⟨s, hs, es⟩, hrb⟩ := h7.2.2.2 p hp
  obtain ⟨u1, u2, u3, u4, w, m, hm, hw, ew, em⟩ := h10.1 p hp k hk
  obtain ⟨z1, z2, z3, ⟨n, hn, en⟩, z5⟩ := h5.2.2.2.2.1 h hh
  have es' : σ 1050 0 p = nI s := by rw [← t1]; exact es
  have hrb' : σ 1054 0 p = -1 ∨ ∃ r, r < 5 ∧ σ 1054 0 p = nI r := by rw [← t2]; exact hrb
  have q1 : (σ 128 p k ≤ σ 129 p k) = (σ 1065 p k = σ 1064 p k) := by
    rw [u1, u2, ew, em]
    refine propext ?_
    rw [nI_leI (by omega) (by omega), nI_eq (by omega) (by omega)]
    omega
  have q2 : wetP σ p k = m2P σ p k := by
    unfold wetP m2P
    rw [u3, h4 k hk, e520, e576]
  have q4 : (σ 1 h 0 = σ 520 0 0 ∧ ¬ σ 2 h 0 < 3) = (σ 1044 0 h = σ 576 0 0 ∧ σ 1045 0 h = 3) := by
    rw [z2, z3, e520, e576]
    rw [z3] at en
    rw [en]
    refine propext (and_congr Iff.rfl ?_)
    rw [show (nI n < 3) = (nI n < nI 3) from rfl, nI_ltI (by omega) (by omega), show (nI n = 3) = (nI n = nI 3) from rfl, nI_eq (by omega) (by omega)]
    omega
  have q5 : x5P σ p N = m5P σ p N := by
    unfold x5P m5P
    rw [e520, e576]
    exact propext (hS.unused _ _)
  have q6 : x6P σ p = m6P σ p := by
    unfold x6P m6P
    rw [t2]
    refine propext ⟨?_, ?_⟩
    · rintro ⟨r, hr, f1, f2, f3⟩
      obtain ⟨g1, g2⟩ := h12 r hr
      rcases g2 with g2 | g2
      · exact absurd (g2.symm.trans (f2.trans e520)) (fun q => nI_ne1 (by omega) q.symm)
      · exact ⟨r, hr, f1, by rw [← g1, f2, e520, e576], by rw [← g2]; exact f3⟩
    · rintro ⟨r, hr, f1, f2, f3⟩
      obtain ⟨g1, g2⟩ := h12 r hr
      rcases g2 with g2 | g2
      · exact absurd (g2.symm.trans (g1.trans (f2.trans e576))) (fun q => nI_ne1 (by omega) q.symm)
      · exact ⟨r, hr, f1, by rw [g1, f2, e520, e576], by rw [g2]; exact f3⟩
  refine stX h5 h7 hp hk hh hN eX hrb (fun r hr => ⟨fun r0 => ?_, fun r0 => ?_⟩)
  · rw [q1, q2, q4, q5, q6] at hr
    show wpb_X9_paint _ _ _ _ _ _
    unfold wpb_X9_paint
    refine ipic_pos h7.2.2.1 hG hp (z_t (in_pos 4 rfl (by omega) hk (z_t (ihand_pos h5.2.2.2.1 hH hh (y_t ?_)))))
    refine agM (by omega) hk (by omega) hN eM hrb' (fun r' hr' => ?_)
    have e := ansR_det hr hr'
    exact ⟨fun c => absurd c (ansR_pos hr' (fun q => r0 (e.trans q))), fun _ => ⟨e, hI⟩⟩
  · rw [q1, q2, q4, q5, q6] at hr
    obtain ⟨n1, n2, n3, n4, n5, n6⟩ := ansR_0 hr r0
    refine layX h5 h6 h7 hp hk hh hN eX hs es hrb (fun k0 => ?_) (fun τ1 τ2 τ s1 s2 s3 => ?_)
    · rw [q5]
      exact Classical.byContradiction (fun w => n5 ⟨k0, w⟩)
    have aX : ag [129, 130, 131, 2, 1, 525, 1070, 200, 1028, 1029, 198, 197, 524, 386] σ τ := fun t ht => by
      rw [s3.1 t (fun w => ht (by revert w; simp; omega)), s2.1 t (fun w => ht (by revert w; simp; omega)), s1.1 t (fun w => ht (by revert w; simp; omega))]
    show wpb_X9_paint _ _ _ _ _ _
    unfold wpb_X9_paint
    refine ipic_pos (by rw [aX 601 (by decide)]; exact h7.2.2.1) hG hp (z_t (in_pos 4 rfl (by omega) hk (z_t (ihand_pos (by rw [aX 585 (by decide)]; exact h5.2.2.2.1) hH hh (y_t ?_)))))
    have eM' : τ 608 0 0 = nI N := by rw [aX 608 (by decide)]; exact eM
    have hrb2 : τ 1054 0 p = -1 ∨ ∃ r, r < 5 ∧ τ 1054 0 p = nI r := by rw [aX 1054 (by decide)]; exact hrb'
    have es2 : τ 1050 0 p = nI s := by rw [aX 1050 (by decide)]; exact es'
    refine agM (by omega) hk (by omega) hN eM' hrb2 (fun r' hr' => ?_)
    have v2 : m2P τ p k = m2P σ p k := by
      unfold m2P
      rw [aX 1066 (by decide), aX 1043 (by decide), aX 576 (by decide)]
    have v5 : m5P τ p N = m5P σ p N := by
      unfold m5P
      rw [aX 1058 (by decide), aX 1059 (by decide), aX 576 (by decide), aX 1071 (by decide)]
    have v6 : m6P τ p = m6P σ p := by
      unfold m6P
      rw [aX 1054 (by decide), aX 1056 (by decide), aX 576 (by decide), aX 1057 (by decide)]
    rw [aX 1065 (by decide), aX 1064 (by decide), v2, aX 1044 (by decide), aX 1045 (by decide), aX 576 (by decide), v5, v6] at hr'
    have e := ansR_det hr hr'
    refine ⟨fun _ => ?_, fun c => absurd (by rw [← e, r0]; decide) c⟩
    refine ⟨fun k0 => ?_, fun k0 => ?_⟩
    · refine pnt63 (σ0 := τ) (N := N) (s := s) (by omega) hk (by omega) (by omega) es2 hrb2 ag_rf (fun _ => rfl) (fun w => absurd ((nk0 (by omega)).mpr w) k0) (fun υ1 υ2 υ r2 r1 r3 => ⟨r0, ?_⟩)
      exact paint_inv hI hp hk hh hs es hN eX n1 n4 s1 s2 s3 r2 r1 r3
    · have k0' := (nk0 (by omega)).mp k0
      refine unusedM hN eM' (fun i hi w => ?_) (fun w => absurd (Classical.byContradiction (fun w => n5 ⟨k0', w⟩)) (by rw [← v5]; exact w))
      refine ⟨vp_in_nI (by omega) (by omega), ?_⟩
      rw [nar1, nI_clamp (n := i) (by omega)]
      intro σ42 e42
      have hb : ag [1071] τ σ42 := by rw [e42]; exact ag_up ag_rf _ _ _ _ (by decide)
      refine pnt63 (σ0 := τ) (N := N) (s := s) (by omega) hk (by omega) (by omega) (by rw [hb 1050 (by decide)]; exact es2) (by rw [hb 1054 (by decide)]; exact hrb2) hb (fun w => absurd k0' w) (fun _ => ⟨i, hi, w, fun x => ?_⟩) (fun υ1 υ2 υ r2 r1 r3 => ⟨r0, ?_⟩)
      · rw [e42, up_if]
        simp
      · exact paint_inv hI hp hk hh hs es hN eX n1 n4 s1 s2 s3 r2 r1 r3
