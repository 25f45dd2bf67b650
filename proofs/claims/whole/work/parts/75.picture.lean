/-- the digits of a picture's layers, written by the reference -/
def dgS (σ τ : pr_Sg) (G n j : Nat) : Prop := ag [1064] σ τ ∧ (∀ p, p ≠ G → ∀ k, τ 1064 p k = σ 1064 p k) ∧ ∀ k, k < 5 → 5 ≤ k + j → τ 1064 G k = nI (n / 10 ^ (4 - k) % 10)
theorem dgS.nx {σ τ : pr_Sg} {G n j : Nat} (h : dgS σ τ G n j) (hj : j < 5) : dgS σ (pr_up τ 1064 G (4 - j) (nI (n / 10 ^ j % 10))) G n (j + 1) := by
  obtain ⟨h1, h2, h3⟩ := h
  refine ⟨ag_up h1 _ _ _ _ (by decide), fun p hp k => ?_, fun k hk hk2 => ?_⟩
  · rw [up_ix (fun w => hp w.1)]
    exact h2 p hp k
  · rw [up_if]
    by_cases e : k = 4 - j
    · subst e
      rw [if_pos ⟨rfl, rfl⟩, show 4 - (4 - j) = j by omega]
    · rw [if_neg (fun w => e w.2)]
      exact h3 k hk (by omega)
theorem l59 {g : Nat → Nat} {σ : pr_Sg} {Q : Int32 → pr_Sg → Prop} {G n : Nat} {x1 x2 x4 : Int32} (hG : G < 40) (hn : n < 2 ^ 31) (e : σ 601 0 0 = nI G)
    (q1 : ∀ τ, dgS σ τ G n 5 → (∀ i, i < 5 → n / 10 ^ i % 10 ≤ 3) → ∀ τ', τ' = pr_up (pr_up (pr_up (pr_up (pr_up τ 1050 0 G x1) 1054 0 G x4) 1052 0 G (σ 576 0 0)) 1053 0 G (-1)) 1055 0 G (-1) → ∃ d, wp_X9_picture_L175 g Q d τ' x1 x2 (nI G) 0)
    (q0 : ∀ τ, dgS σ τ G n 5 → ¬ (∀ i, i < 5 → n / 10 ^ i % 10 ≤ 3) → Q (-1) τ) : ∃ d, wp_X9_picture_L59 g Q d σ x1 x2 x4 (nI n) 1 4 := by
  have vG : vp_in (nI G) 40 := vp_in_nI hG (by omega)
  have L : ∀ d j τ x6 x7, j ≤ 5 → 5 - j < d → dgS σ τ G n j → x7 = nI (5 - j) - 1 → (x6 = 1 ∧ (∀ i, i < j → n / 10 ^ i % 10 ≤ 3) ∨ x6 = 0 ∧ ¬ (∀ i, i < 5 → n / 10 ^ i % 10 ≤ 3)) → wp_X9_picture_L59 g Q d τ x1 x2 x4 (nI (n / 10 ^ j)) x6 x7 := fun d => by
    induction d with
    | zero => intro j _ _ _ _ h; exact absurd h (by omega)
    | succ d ih =>
      intro j τ x6 x7 hj hd hS e7 h6
      have h2 : n / 10 ^ j ≤ n := Nat.div_le_self _ _
      have eG : τ 601 0 0 = nI G := by rw [hS.1 601 (by decide), e]
      have eN : τ 576 0 0 = σ 576 0 0 := by rw [hS.1 576 (by decide)]
      unfold wp_X9_picture_L59
      rw [eG, nI_clamp (n := G) (by omega)]
      by_cases ej : j = 5
      · subst ej
        refine ⟨fun _ => ?_, fun c => absurd (by rw [e7]; decide) c⟩
        rcases h6 with ⟨rfl, h6⟩ | ⟨rfl, h6⟩
        · refine y_t ⟨vG, fun σ12 e12 => ⟨vG, fun σ13 e13 => ⟨vG, fun σ14 e14 => ⟨vG, fun σ15 e15 => ⟨vG, fun σ16 e16 => ?_⟩⟩⟩⟩⟩
          have f13 : σ13 576 0 0 = σ 576 0 0 := by rw [e13, up_tag (by decide), e12, up_tag (by decide), eN]
          refine q1 τ hS h6 σ16 ?_
          rw [e16, e15, e14, f13, e13, e12]
        · exact y_f (q0 τ hS h6)
      · have e7' : x7 = nI (4 - j) := by
          rw [e7, show 5 - j = 4 - j + 1 by omega, nI_pred]
        have v7 : vp_in (nI (4 - j)) 5 := vp_in_nI (by omega) (by omega)
        have n7 : nI (4 - j) + (-1 : Int32) = nI (5 - (j + 1)) - 1 := by
          rw [show 5 - (j + 1) = 4 - j by omega, Int32.sub_eq_add_neg]
        rw [e7', nI_clamp (n := 4 - j) (by omega), nI_mod10 (by omega), show (10 : Int32) = nI 10 from rfl, nI_div (by omega) (by omega) (by omega), Nat.div_div_eq_div_mul, ← Nat.pow_succ, n7]
        refine ⟨fun c => absurd c (nI_pos (by omega)), fun _ => ?_⟩
        rcases h6 with ⟨rfl, h6⟩ | ⟨rfl, h6⟩
        · refine z_t ⟨fun c => ⟨vG, v7, fun σ1 e1 => ?_⟩, fun c => ⟨vG, v7, fun σ1 e1 => ?_⟩⟩
          · subst e1
            refine ih (j + 1) _ 0 _ (by omega) (by omega) (hS.nx (by omega)) rfl (Or.inr ⟨rfl, fun w => ?_⟩)
            exact absurd c (nI_nlt (a := 3) (w j (by omega)) (by omega))
          · subst e1
            refine ih (j + 1) _ 1 _ (by omega) (by omega) (hS.nx (by omega)) rfl (Or.inl ⟨rfl, fun i hi => ?_⟩)
            by_cases ei : i = j
            · subst ei
              refine Nat.le_of_not_lt (fun w => c (nI_lt (a := 3) w (by omega)))
            · exact h6 i (by omega)
        · refine z_f ⟨vG, v7, fun σ1 e1 => ?_⟩
          subst e1
          exact ih (j + 1) _ 0 _ (by omega) (by omega) (hS.nx (by omega)) rfl (Or.inr ⟨rfl, h6⟩)
  have := L 6 0 σ 1 4 (by omega) (by omega) ⟨ag_rf, fun _ _ _ => rfl, fun k hk hk2 => absurd hk2 (by omega)⟩ (by decide) (Or.inl ⟨rfl, fun i hi => absurd hi (by omega)⟩)
  rw [Nat.pow_zero, Nat.div_one] at this
  exact ⟨6, this⟩
def m1S (σ τ : pr_Sg) (G j : Nat) : Prop := ag [1066, 1067, 1068] σ τ ∧ ∀ t, (t = 1066 ∨ t = 1067 ∨ t = 1068) → ∀ p k, τ t p k = if p = G ∧ k < j then -1 else σ t p k
theorem m1S.nx {σ τ : pr_Sg} {G j : Nat} (h : m1S σ τ G j) : m1S σ (pr_up (pr_up (pr_up τ 1066 G j (-1)) 1067 G j (-1)) 1068 G j (-1)) G (j + 1) := by
  obtain ⟨h1, h2⟩ := h
  refine ⟨ag_up (ag_up (ag_up h1 _ _ _ _ (by decide)) _ _ _ _ (by decide)) _ _ _ _ (by decide), fun t ht p k => ?_⟩
  have r := h2 t ht p k
  have f : pr_up (pr_up (pr_up τ 1066 G j (-1)) 1067 G j (-1)) 1068 G j (-1) t p k = if p = G ∧ k = j then -1 else τ t p k := by
    rcases ht with rfl | rfl | rfl <;> simp [pr_up]
  rw [f, r]
  by_cases c1 : p = G ∧ k = j
  · rw [if_pos c1, if_pos ⟨c1.1, by omega⟩]
  · rw [if_neg c1]
    by_cases c2 : p = G ∧ k < j
    · rw [if_pos c2, if_pos ⟨c2.1, by omega⟩]
    · rw [if_neg c2, if_neg (fun w => ?_)]
      by_cases c3 : k = j
      · exact c1 ⟨w.1, c3⟩
      · exact c2 ⟨w.1, by omega⟩
/-- a picture comes, in the reference -/
def NM (σ τ : pr_Sg) (G s : Nat) (x1 x4 r : Int32) : Prop :=
  ag [1050, 1051, 1052, 1053, 1054, 1055, 1066, 1067, 1068, 612, 1049, 601] σ τ ∧
  (∀ k, τ 1050 0 k = if k = G then x1 else σ 1050 0 k) ∧ (∀ k, τ 1051 0 k = if k = G then r else σ 1051 0 k) ∧ (∀ k, τ 1052 0 k = if k = G then σ 576 0 0 else σ 1052 0 k) ∧
  (∀ k, τ 1053 0 k = if k = G then -1 else σ 1053 0 k) ∧ (∀ k, τ 1054 0 k = if k = G then x4 else σ 1054 0 k) ∧ (∀ k, τ 1055 0 k = if k = G then -1 else σ 1055 0 k) ∧
  (∀ t, (t = 1066 ∨ t = 1067 ∨ t = 1068) → ∀ p k, τ t p k = if p = G ∧ k < 5 then -1 else σ t p k) ∧
  τ 612 0 0 = σ 612 0 0 + r ∧ (∀ k, τ 1049 0 k = if k = s then σ 1049 0 s + r / 2 else σ 1049 0 k) ∧ τ 601 0 0 = nI (G + 1)
theorem nm_mk {σ σ16 τ υ : pr_Sg} {G s : Nat} {x1 x4 r : Int32} (e16 : σ16 = pr_up (pr_up (pr_up (pr_up (pr_up σ 1050 0 G x1) 1054 0 G x4) 1052 0 G (σ 576 0 0)) 1053 0 G (-1)) 1055 0 G (-1)) (hS : m1S σ16 τ G 5)
    (eu : υ = pr_up (pr_up (pr_up (pr_up τ 1051 0 G r) 612 0 0 (σ 612 0 0 + r)) 1049 0 s (σ 1049 0 s + r / 2)) 601 0 0 (nI (G + 1))) : NM σ υ G s x1 x4 r := by
  obtain ⟨h1, h2⟩ := hS
  have v : ∀ t, t ∉ [1066, 1067, 1068] → ∀ i j, τ t i j = σ16 t i j := fun t ht i j => by rw [h1 t ht]
  refine ⟨?_, fun k => ?_, fun k => ?_, fun k => ?_, fun k => ?_, fun k => ?_, fun k => ?_, fun t ht p k => ?_, ?_, fun k => ?_, ?_⟩
  · rw [eu]
    refine ag_up (ag_up (ag_up (ag_up ?_ _ _ _ _ (by decide)) _ _ _ _ (by decide)) _ _ _ _ (by decide)) _ _ _ _ (by decide)
    intro t ht
    rw [h1 t (fun w => ht (by revert w; simp; omega)), e16]
    exact ag_up (ag_up (ag_up (ag_up (ag_up ag_rf _ _ _ _ (by decide)) _ _ _ _ (by decide)) _ _ _ _ (by decide)) _ _ _ _ (by decide)) _ _ _ _ (by decide) t ht
  · rw [eu, up_tag (by decide), up_tag (by decide), up_tag (by decide), up_tag (by decide), v _ (by decide), e16]
    simp [pr_up]
  · rw [eu, up_tag (by decide), up_tag (by decide), up_tag (by decide), up_if, v _ (by decide), e16]
    simp [pr_up]
  · rw [eu, up_tag (by decide), up_tag (by decide), up_tag (by decide), up_tag (by decide), v _ (by decide), e16]
    simp [pr_up]
  · rw [eu, up_tag (by decide), up_tag (by decide), up_tag (by decide), up_tag (by decide), v _ (by decide), e16]
    simp [pr_up]
  · rw [eu, up_tag (by decide), up_tag (by decide), up_tag (by decide), up_tag (by decide), v _ (by decide), e16]
    simp [pr_up]
  · rw [eu, up_tag (by decide), up_tag (by decide), up_tag (by decide), up_tag (by decide), v _ (by decide), e16]
    simp [pr_up]
  · rw [eu, up_tag (by omega), up_tag (by omega), up_tag (by omega), up_tag (by omega), h2 t ht, e16, up_tag (by omega), up_tag (by omega), up_tag (by omega), up_tag (by omega), up_tag (by omega)]
  · rw [eu, up_tag (by decide), up_tag (by decide), up_eq]
  · rw [eu, up_tag (by decide), up_if, up_tag (by decide), up_tag (by decide), v _ (by decide), e16]
    simp [pr_up]
  · rw [eu, up_eq]
theorem goodM {g : Nat → Nat} {σ σ16 : pr_Sg} {Q : Int32 → pr_Sg → Prop} {G s N : Nat} {x2 x4 : Int32} (hG : G < 40) (hs : s < 20) (e : σ 601 0 0 = nI G) (hN : N ≤ 60) (eN : σ 580 0 0 = nI N) (hy : ∀ k, k < N → ¬ σ 1040 0 k < 0)
    (e16 : σ16 = pr_up (pr_up (pr_up (pr_up (pr_up σ 1050 0 G (nI s)) 1054 0 G x4) 1052 0 G (σ 576 0 0)) 1053 0 G (-1)) 1055 0 G (-1))
    (q : ∀ υ, NM σ υ G s (nI s) x4 (pvb (σ 1042 0) (bstL (σ 1040 0) (σ 1041 0) x2 (σ 576 0 0 / 365) N)) → Q (nI G) υ) : ∃ d, wp_X9_picture_L175 g Q d σ16 (nI s) x2 (nI G) 0 := by
  have vG : vp_in (nI G) 40 := vp_in_nI hG (by omega)
  have vs : vp_in (nI s) 20 := vp_in_nI hs (by omega)
  have L : ∀ d j τ, j ≤ 5 → 5 - j < d → m1S σ16 τ G j → wp_X9_picture_L175 g Q d τ (nI s) x2 (nI G) (nI j) := fun d => by
    induction d with
    | zero => intro j _ _ h; exact absurd h (by omega)
    | succ d ih =>
      intro j τ hj hd hS
      unfold wp_X9_picture_L175
      rw [nI_clamp (n := G) (by omega), nI_clamp (n := s) (by omega), nI_clamp (n := j) (by omega), nI_1]
      by_cases ej : j = 5
      · subst ej
        refine ⟨fun _ => ?_, fun c => absurd (by decide) c⟩
        have v : ∀ t, t ∉ [1066, 1067, 1068] → τ t = σ16 t := hS.1
        have w : ∀ t, t ∉ [1050, 1052, 1053, 1054, 1055, 1066, 1067, 1068] → τ t = σ t := fun t ht => by
          rw [v t (fun w => ht (by revert w; simp; omega)), e16]
          exact ag_up (ag_up (ag_up (ag_up (ag_up ag_rf _ _ _ _ (by decide)) _ _ _ _ (by decide)) _ _ _ _ (by decide)) _ _ _ _ (by decide)) _ _ _ _ (by decide) t ht
        refine listedM hN (by rw [w 580 (by decide), eN]) (by rw [w 1040 (by decide)]; exact hy) ?_
        rw [w 1040 (by decide), w 1041 (by decide), w 1042 (by decide), w 576 (by decide)]
        generalize pvb (σ 1042 0) (bstL (σ 1040 0) (σ 1041 0) x2 (σ 576 0 0 / 365) N) = r at q ⊢
        refine ⟨vG, fun σ19 e19 => ⟨vG, fun σ20 e20 => ⟨vs, vG, vs, fun σ21 e21 => fun σ22 e22 => q σ22 (nm_mk e16 hS ?_)⟩⟩⟩
        have f1 : σ19 612 0 0 = σ 612 0 0 := by rw [e19, up_tag (by decide), w 612 (by decide)]
        have f2 : σ19 1051 0 G = r := by rw [e19, up_eq]
        have f3 : σ20 1051 0 G = r := by rw [e20, up_tag (by decide), f2]
        have f4 : σ20 1049 0 s = σ 1049 0 s := by rw [e20, up_tag (by decide), e19, up_tag (by decide), w 1049 (by decide)]
        have f5 : σ21 601 0 0 = nI G := by rw [e21, up_tag (by decide), e20, up_tag (by decide), e19, up_tag (by decide), w 601 (by decide), e]
        rw [e22, f5, nI_1, e21, f3, f4, e20, f1, f2, e19]
      · have v7 : vp_in (nI j) 5 := vp_in_nI (by omega) (by omega)
        refine ⟨fun c => absurd c (nI_ge (b := 5) (by omega) (by omega)), fun _ => ⟨vG, v7, fun σ1 e1 => ⟨vG, v7, fun σ2 e2 => ⟨vG, v7, fun σ3 e3 => ?_⟩⟩⟩⟩
        rw [e3, e2, e1]
        exact ih (j + 1) _ (by omega) (by omega) hS.nx
  exact ⟨6, L 6 0 σ16 (by omega) (by omega) ⟨ag_rf, fun t ht p k => by rw [if_neg (fun w => absurd w.2 (by omega))]⟩⟩
/-- when a picture may come -/
def GD (S G : Nat) (a1 a2 a3 a4 : Int32) : Prop := (∃ s, s < S ∧ a1 = nI s) ∧ (∃ z, z < 4 ∧ a2 = nI z) ∧ LC a3 ∧ (a4 = -1 ∨ ∃ r, r < 5 ∧ a4 = nI r) ∧ G < 40
theorem pictureM {g : Nat → Nat} {σ : pr_Sg} {Q : Int32 → pr_Sg → Prop} {G S N : Nat} {a1 a2 a3 a4 : Int32} (hS : S ≤ 20) (eS : σ 589 0 0 = nI S) (hG : G ≤ 40) (e : σ 601 0 0 = nI G) (hN : N ≤ 60) (eN : σ 580 0 0 = nI N) (hy : ∀ k, k < N → ¬ σ 1040 0 k < 0)
    (q1 : GD S G a1 a2 a3 a4 → ∀ s n τ υ, s < S → a1 = nI s → n < 2 ^ 31 → a3 = nI n → dgS σ τ G n 5 → NM τ υ G s a1 a4 (pvb (σ 1042 0) (bstL (σ 1040 0) (σ 1041 0) a2 (σ 576 0 0 / 365) N)) → Q (nI G) υ)
    (q0 : ¬ GD S G a1 a2 a3 a4 → ∀ τ, ag [1064] σ τ → (∀ p, p ≠ G → ∀ k, τ 1064 p k = σ 1064 p k) → Q (-1) τ) : wpb_X9_picture g σ a1 a2 a3 a4 Q := by
  have no : ¬ GD S G a1 a2 a3 a4 → Q (-1) σ := fun h => q0 h σ ag_rf (fun _ _ _ => rfl)
  unfold wpb_X9_picture
  rcases ix a1 S with ⟨s, hs, rfl⟩ | hn
  rotate_left
  · exact isit_neg eS hS hn (z_f (no (fun ⟨⟨s, hs, w⟩, _⟩ => hn s hs w)))
  refine isit_pos eS hS hs (z_t ?_)
  rcases ix a2 4 with ⟨z, hz, rfl⟩ | hn
  rotate_left
  · exact in_neg 3 rfl (by omega) hn (z_f (no (fun ⟨_, ⟨z, hz, w⟩, _⟩ => hn z hz w)))
  refine in_pos 3 rfl (by omega) hz (z_t ?_)
  by_cases c3 : ¬ a3 < 10000 ∧ ¬ (33333 : Int32) < a3
  rotate_left
  · refine ig_neg c3 (z_f (no ?_))
    rintro ⟨_, _, ⟨n, n1, n2, rfl, _⟩, _⟩
    exact c3 ⟨nI_nlt (b := 10000) n1 (by omega), nI_nlt (a := 33333) n2 (by omega)⟩
  refine ig_pos c3 (z_t ?_)
  obtain ⟨n, hn, rfl⟩ := nI_of (x := a3) (fun w => c3.1 (by
    rw [Int32.lt_iff_toInt_lt] at w ⊢
    rw [show (0 : Int32).toInt = 0 by decide] at w
    rw [show (10000 : Int32).toInt = 10000 by decide]
    omega))
  have n1 : 10000 ≤ n := Nat.le_of_not_lt (fun w => c3.1 (nI_lt (b := 10000) w (by omega)))
  have n2 : n ≤ 33333 := Nat.le_of_not_lt (fun w => c3.2 (nI_lt (a := 33333) w (by omega)))
  by_cases c4 : ¬ a4 < -1 ∧ ¬ (4 : Int32) < a4
  rotate_left
  · refine ig_neg c4 (z_f (no ?_))
    rintro ⟨_, _, _, w, _⟩
    rcases w with rfl | ⟨r, hr, rfl⟩
    · exact c4 (by decide)
    · refine c4 ⟨fun w => ?_, nI_nlt (a := 4) (by omega) (by omega)⟩
      rw [Int32.lt_iff_toInt_lt, nI_toInt (by omega), show (-1 : Int32).toInt = -1 by decide] at w
      omega
  refine ig_pos c4 (z_t ?_)
  have h4 : a4 = -1 ∨ ∃ r, r < 5 ∧ a4 = nI r := by
    rcases ix a4 5 with ⟨r, hr, w⟩ | hr
    · exact Or.inr ⟨r, hr, w⟩
    · refine Or.inl ?_
      rcases ix_neg (by omega) hr with w | w
      · have := c4.1
        refine Int32.toInt_inj.mp ?_
        rw [Int32.lt_iff_toInt_lt] at w this
        rw [show (-1 : Int32).toInt = -1 by decide] at *
        rw [show (0 : Int32).toInt = 0 by decide] at w
        omega
      · exfalso
        refine c4.2 ?_
        rw [Int32.lt_iff_toInt_lt, show (4 : Int32).toInt = 4 by decide]
        rw [Int32.le_iff_toInt_le, nI_toInt (by omega)] at w
        omega
  have h40 : σ 601 0 0 = (40 : Int32) ↔ G = 40 := by rw [e]; exact nI_eq (a := G) (b := 40) (by omega) (by omega)
  refine ⟨fun c => ?_, fun c => no (fun ⟨_, _, _, _, w⟩ => absurd (h40.mp c) (by omega))⟩
  have hG' : G < 40 := by
    have : ¬ G = 40 := fun w => c (h40.mpr w)
    omega
  refine l59 hG' hn e (fun τ hd h5 τ' e' => ?_) (fun τ hd h5 => ?_)
  · refine goodM (σ := τ) (N := N) hG' (by omega) (by rw [hd.1 601 (by decide), e]) hN (by rw [hd.1 580 (by decide), eN]) (by rw [hd.1 1040 (by decide)]; exact hy) (by rw [e', hd.1 576 (by decide)]) (fun υ hu => ?_)
    rw [hd.1 1040 (by decide), hd.1 1041 (by decide), hd.1 1042 (by decide), hd.1 576 (by decide)] at hu
    exact q1 ⟨⟨s, hs, rfl⟩, ⟨z, hz, rfl⟩, ⟨n, n1, n2, rfl, h5⟩, h4, hG'⟩ s n τ υ hs rfl hn rfl hd hu
  · refine q0 ?_ τ hd.1 hd.2.1
    rintro ⟨_, _, ⟨m, m1, m2, em, m4⟩, _⟩
    have : n = m := (nI_eq hn (by omega)).mp em
    subst this
    exact h5 m4
theorem pictureX {g : Nat → Nat} {σ : pr_Sg} {Q : Int32 → (Nat → Nat) → pr_Sg → Prop} {N : Nat} {a1 a2 a3 a4 : Int32} (h6 : I_sit g σ) (hG : g 2 ≤ 40) (e : σ 523 0 0 = nI (g 2)) (hN : N ≤ 60) (eN : σ 67 0 0 = nI N)
    (q1 : GD (g 1) (g 2) a1 a2 a3 a4 → ∀ s r τ, s < g 1 → a1 = nI s → r = pvb (σ 1022 0) (bstL (σ 1020 0) (σ 1021 0) a2 (σ 520 0 0 / 365) N) → τ = pr_up (pr_up (pr_up (pr_mkP σ (g 2) a1 a3 a4 r (σ 520 0 0)) 523 0 0 (nI (g 2 + 1))) 527 0 0 (σ 527 0 0 + r)) 386 s 0 (σ 386 s 0 + r / 2) → Q (nI (g 2)) (pr_g g 2) τ)
    (q0 : ¬ GD (g 1) (g 2) a1 a2 a3 a4 → Q (-1) g σ) : wpb_X8_picture g σ a1 a2 a3 a4 Q := by
  unfold wpb_X8_picture
  rcases ix a1 (g 1) with ⟨s, hs, rfl⟩ | hn
  rotate_left
  · have q0' : Q (-1) g σ := q0 (fun ⟨⟨s, hs, w⟩, _⟩ => hn s hs w)
    refine sit_neg h6 hn (o_n ?_)
    refine ⟨fun _ => q0', fun c => ?_⟩
    rcases ix a4 5 with ⟨r, hr, rfl⟩ | hr
    · exact w_pos 4 rfl (by omega) hr (z_t q0')
    · exact w_neg 4 rfl (by omega) hr (z_f q0')
  have L : (a4 = -1 ∨ ∃ r, r < 5 ∧ a4 = nI r) → wp_X8_picture_L22a g Q σ (nI s) a2 a3 a4 s := fun h4 => by
    unfold wp_X8_picture_L22a
    rcases ix a2 4 with ⟨z, hz, rfl⟩ | hn
    rotate_left
    · exact w_neg 3 rfl (by omega) hn (z_f (q0 (fun ⟨_, ⟨z, hz, w⟩, _⟩ => hn z hz w)))
    refine w_pos 3 rfl (by omega) hz (z_t ?_)
    refine layersX (fun hl => z_t ?_) (fun hl => z_f (q0 (fun w => hl w.2.2.1)))
    have h40 : σ 523 0 0 < (40 : Int32) ↔ g 2 < 40 := by rw [e]; exact nI_ltI (a := g 2) (b := 40) (by omega) (by omega)
    refine ⟨fun c => ?_, fun c => q0 (fun w => c (h40.mpr w.2.2.2.2))⟩
    have hlt := h40.mp c
    refine priceX hN eN ?_
    generalize er : pvb (σ 1022 0) (bstL (σ 1020 0) (σ 1021 0) (nI z) (σ 520 0 0 / 365) N) = r
    refine ⟨by rw [e]; exact vp_in_nI hlt (by omega), by rw [e]; exact nI_clamp (by omega), fun σ12 e12 σ13 e13 σ14 e14 σ15 e15 => ?_⟩
    have f1 : σ12 523 0 0 = nI (g 2) := by rw [e12]; simp [pr_mkP, e]
    have f2 : σ13 527 0 0 = σ 527 0 0 := by rw [e13, up_tag (by decide), e12]; simp [pr_mkP]
    have f3 : σ14 386 s 0 = σ 386 s 0 := by rw [e14, up_tag (by decide), e13, up_tag (by decide), e12]; simp [pr_mkP]
    rw [f1, nI_1] at e13
    rw [f2] at e14
    rw [f3] at e15
    have f4 : σ15 523 0 0 - 1 = nI (g 2) := by rw [e15, up_tag (by decide), e14, up_tag (by decide), e13, up_eq, nI_pred]
    rw [f4]
    refine q1 ⟨⟨s, hs, rfl⟩, ⟨z, hz, rfl⟩, hl, h4, hlt⟩ s r σ15 hs rfl er.symm ?_
    rw [e15, e14, e13, e12]
  refine sit_pos h6 hs (o_s ?_)
  refine ⟨fun c => L (Or.inl c), fun c => ?_⟩
  rcases ix a4 5 with ⟨r, hr, rfl⟩ | hr
  · exact w_pos 4 rfl (by omega) hr (z_t (L (Or.inr ⟨r, hr, rfl⟩)))
  · have q0' : Q (-1) g σ := q0 (fun ⟨_, _, _, w, _⟩ => w.elim c (fun ⟨r, hr', w⟩ => hr r hr' w))
    refine w_neg 4 rfl (by omega) hr (z_f ?_)
    rcases ix a2 4 with ⟨z, hz, rfl⟩ | hn
    · refine w_pos 3 rfl (by omega) hz (z_t ?_)
      exact layersX (fun _ => z_t q0') (fun _ => z_f q0')
    · exact w_neg 3 rfl (by omega) hn (z_f q0')
