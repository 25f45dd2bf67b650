theorem nI_div {m c : Nat} (hm : m < 2 ^ 31) (hc0 : 0 < c) (hc : c < 2 ^ 31) : nI m / nI c = nI (m / c) := by
  have h1 : m / c ≤ m := Nat.div_le_self m c
  refine Int32.toInt_inj.mp ?_
  rw [Int32.toInt_div, nI_toInt hm, nI_toInt hc, nI_toInt (by omega)]
  have e : (m : Int).tdiv (c : Int) = ((m / c : Nat) : Int) := rfl
  rw [e]
  generalize m / c = x at h1
  refine Int.bmod_eq_of_le ?_ ?_ <;> omega
theorem nI_mod10 {m : Nat} (hm : m < 2 ^ 31) : nI m - nI m / (10 : Int32) * (10 : Int32) = nI (m % 10) := by
  rw [show (10 : Int32) = nI 10 from rfl, nI_div hm (by omega) (by omega)]
  have e : nI (m / 10) * nI 10 = nI (m / 10 * 10) := (Int32.ofNat_mul (m / 10) 10).symm
  rw [e]
  have e2 : nI (m / 10 * 10) + nI (m % 10) = nI m := by
    rw [nI_add]
    congr 1
    omega
  rw [← e2, Int32.add_comm, Int32.add_sub_cancel]
theorem cut_n {n : Nat} (hn : n < 2 ^ 31) : ∀ i, pr_cut (nI n) i = nI (n / 10 ^ i) := by
  intro i
  induction i with
  | zero => simp [pr_cut]
  | succ i ih =>
    unfold pr_cut
    have h1 : n / 10 ^ i ≤ n := Nat.div_le_self _ _
    rw [ih, show (10 : Int32) = nI 10 from rfl, nI_div (by omega) (by omega) (by omega), Nat.div_div_eq_div_mul, Nat.pow_succ]
theorem dig_n {n : Nat} (hn : n < 2 ^ 31) (i : Nat) : pr_dig (nI n) i = nI (n / 10 ^ i % 10) := by
  unfold pr_dig
  have h1 : n / 10 ^ i ≤ n := Nat.div_le_self _ _
  rw [cut_n hn, nI_mod10 (by omega)]
/-- the layers that a picture may ask for -/
def LC (a : Int32) : Prop := ∃ n, 10000 ≤ n ∧ n ≤ 33333 ∧ a = nI n ∧ ∀ i, i < 5 → n / 10 ^ i % 10 ≤ 3
theorem lc_n {n : Nat} (hn : n < 2 ^ 31) (h1 : 10000 ≤ n) : LC (nI n) ↔ ((∀ i, i < 5 → n / 10 ^ i % 10 ≤ 3) ∧ n / 10 ^ 5 = 0) := by
  constructor
  · rintro ⟨m, g1, g2, e, g4⟩
    have : n = m := (nI_eq hn (by omega)).mp e
    subst this
    exact ⟨g4, by omega⟩
  · rintro ⟨g1, g2⟩
    refine ⟨n, h1, ?_, rfl, g1⟩
    have d0 := g1 0 (by omega)
    have d1 := g1 1 (by omega)
    have d2 := g1 2 (by omega)
    have d3 := g1 3 (by omega)
    have d4 := g1 4 (by omega)
    simp only [Nat.reducePow] at d0 d1 d2 d3 d4 g2
    omega
theorem layersX {g : Nat → Nat} {σ : pr_Sg} {Q : Int32 → pr_Sg → Prop} {a : Int32} (q1 : LC a → Q 1 σ) (q0 : ¬ LC a → Q 0 σ) : wpb_X8_layersCanBe g σ a Q := by
  unfold wpb_X8_layersCanBe
  refine ⟨fun c => ?_, fun c => q0 ?_⟩
  · obtain ⟨n, hn, rfl⟩ := nI_of (x := a) (by
      rw [Int32.lt_iff_toInt_lt]
      rw [Int32.le_iff_toInt_le, show (10000 : Int32).toInt = 10000 by decide] at c
      rw [show (0 : Int32).toInt = 0 by decide]
      omega)
    have h1 : 10000 ≤ n := (nI_leI (a := 10000) (by omega) hn).mp c
    have L : ∀ d i, i ≤ 5 → 5 - i < d → (∀ j, j < i → n / 10 ^ j % 10 ≤ 3) → wp_X8_layersCanBe_L13 g Q d σ (nI (n / 10 ^ i)) (nI i) := fun d => by
      induction d with
      | zero => intro i _ h; exact absurd h (by omega)
      | succ d ih =>
        intro i hi hd hj
        have h2 : n / 10 ^ i ≤ n := Nat.div_le_self _ _
        unfold wp_X8_layersCanBe_L13
        by_cases e : i = 5
        · subst e
          refine ⟨fun _ => ⟨fun c => q0 (fun w => c ?_), fun c => q1 ?_⟩, fun c => absurd (by decide) c⟩
          · rw [((lc_n hn h1).mp w).2]
            rfl
          · exact (lc_n hn h1).mpr ⟨hj, (nk0 (by omega)).mp c⟩
        · refine ⟨fun c => absurd c (nI_ge (b := 5) (by omega) (by omega)), fun _ => ?_⟩
          rw [nI_mod10 (by omega), show (10 : Int32) = nI 10 from rfl, nI_div (by omega) (by omega) (by omega), Nat.div_div_eq_div_mul, ← Nat.pow_succ, nI_1]
          refine ⟨fun c => ih (i + 1) (by omega) (by omega) (fun j hj2 => ?_), fun c => q0 (fun w => c ?_)⟩
          · by_cases ej : j = i
            · subst ej
              exact (nI_leI (b := 3) (by omega) (by omega)).mp c
            · exact hj j (by omega)
          · exact nI_le (b := 3) (((lc_n hn h1).mp w).1 i (by omega)) (by omega)
    have := L 6 0 (by omega) (by omega) (fun j hj => by omega)
    rw [Nat.pow_zero, Nat.div_one] at this
    exact ⟨6, this⟩
  · rintro ⟨n, g1, g2, rfl, -⟩
    exact c (nI_le (a := 10000) g1 (by omega))
/-- the list that counts -/
def pvb (f : Nat → Int32) : Option Nat → Int32
  | none => 0
  | some k => f k
def bstL (ys ss : Nat → Int32) (sz y : Int32) : Nat → Option Nat
  | 0 => none
  | k + 1 => if ss k = sz ∧ ¬ y < ys k ∧ ¬ ys k < pvb ys (bstL ys ss sz y k) then some k else bstL ys ss sz y k
theorem bstL_s {ys ss : Nat → Int32} {sz y : Int32} {k : Nat} : bstL ys ss sz y (k + 1) = if ss k = sz ∧ ¬ y < ys k ∧ ¬ ys k < pvb ys (bstL ys ss sz y k) then some k else bstL ys ss sz y k := rfl
theorem bstL_lt {ys ss : Nat → Int32} {sz y : Int32} : ∀ {k b : Nat}, bstL ys ss sz y k = some b → b < k := by
  intro k
  induction k with
  | zero => intro b h; exact absurd h (by simp [bstL])
  | succ k ih =>
    intro b h
    rw [bstL_s] at h
    by_cases c : ss k = sz ∧ ¬ y < ys k ∧ ¬ ys k < pvb ys (bstL ys ss sz y k)
    · rw [if_pos c] at h
      cases h
      omega
    · rw [if_neg c] at h
      have := ih h
      omega
theorem bstL_cg {ys ss ys' ss' : Nat → Int32} {sz y : Int32} : ∀ {k : Nat}, (∀ j, j < k → ys j = ys' j ∧ ss j = ss' j) → bstL ys ss sz y k = bstL ys' ss' sz y k := by
  intro k
  induction k with
  | zero => intro _; rfl
  | succ k ih =>
    intro h
    have e := ih (fun j hj => h j (by omega))
    have e2 : pvb ys (bstL ys ss sz y k) = pvb ys' (bstL ys' ss' sz y k) := by
      rw [← e]
      cases q : bstL ys ss sz y k with
      | none => rfl
      | some b => exact (h b (by have := bstL_lt q; omega)).1
    rw [bstL_s, bstL_s, e2, (h k (by omega)).1, (h k (by omega)).2, e]
theorem pvb_cg {ys ss f f' : Nat → Int32} {sz y : Int32} {k : Nat} (h : ∀ j, j < k → f j = f' j) : pvb f (bstL ys ss sz y k) = pvb f' (bstL ys ss sz y k) := by
  cases q : bstL ys ss sz y k with
  | none => rfl
  | some b => exact h b (bstL_lt q)
theorem priceX {g : Nat → Nat} {σ : pr_Sg} {Q : Int32 → pr_Sg → Prop} {N : Nat} {y s : Int32} (hN : N ≤ 60) (e : σ 67 0 0 = nI N) (q : Q (pvb (σ 1022 0) (bstL (σ 1020 0) (σ 1021 0) s y N)) σ) : wpb_X1_priceIn g σ y s Q := by
  have L : ∀ d k, k ≤ N → N - k < d → wp_X1_priceIn_L8 g Q d σ y s (pvb (σ 1022 0) (bstL (σ 1020 0) (σ 1021 0) s y k)) (pvb (σ 1020 0) (bstL (σ 1020 0) (σ 1021 0) s y k)) (nI k) := fun d => by
    induction d with
    | zero => intro k _ h; exact absurd h (by omega)
    | succ d ih =>
      intro k hk hd
      unfold wp_X1_priceIn_L8
      rw [e]
      by_cases ek : k = N
      · subst ek
        exact ⟨fun _ => q, fun c => absurd (nI_le (Nat.le_refl k) (by omega)) c⟩
      · have v : vp_in (nI k) 60 := vp_in_nI (by omega) (by omega)
        have r := ih (k + 1) (by omega) (by omega)
        rw [bstL_s] at r
        rw [nI_clamp (n := k) (by omega), nI_1]
        have no : ¬ (σ 1021 0 k = s ∧ ¬ y < σ 1020 0 k ∧ ¬ σ 1020 0 k < pvb (σ 1020 0) (bstL (σ 1020 0) (σ 1021 0) s y k)) → wp_X1_priceIn_L8 g Q d σ y s (pvb (σ 1022 0) (bstL (σ 1020 0) (σ 1021 0) s y k)) (pvb (σ 1020 0) (bstL (σ 1020 0) (σ 1021 0) s y k)) (nI (k + 1)) := fun h => by
          rw [if_neg h] at r
          exact r
        refine ⟨fun c => absurd c (nI_ge (by omega) (by omega)), fun _ => ⟨v, fun c => no (fun w => c w.1), fun c => ⟨v, fun c2 => no (fun w => w.2.1 c2), fun c2 => ⟨v, fun c3 => no (fun w => w.2.2 c3), fun c3 => ⟨v, v, ?_⟩⟩⟩⟩⟩
        rw [if_pos ⟨c, c2, c3⟩] at r
        exact r
  exact ⟨N + 1, L (N + 1) 0 (by omega) (by omega)⟩
def mxb : Option Nat → Int32
  | none => -1
  | some b => nI b
theorem listedM {g : Nat → Nat} {σ : pr_Sg} {Q : Int32 → pr_Sg → Prop} {N : Nat} {y s : Int32} (hN : N ≤ 60) (e : σ 580 0 0 = nI N) (hy : ∀ k, k < N → ¬ σ 1040 0 k < 0) (q : Q (pvb (σ 1042 0) (bstL (σ 1040 0) (σ 1041 0) s y N)) σ) : wpb_X9_listed g σ s y Q := by
  have L : ∀ d k, k ≤ N → N - k < d → wp_X9_listed_L5 g Q d σ s y (mxb (bstL (σ 1040 0) (σ 1041 0) s y k)) (nI k) := fun d => by
    induction d with
    | zero => intro k _ h; exact absurd h (by omega)
    | succ d ih =>
      intro k hk hd
      unfold wp_X9_listed_L5
      rw [e]
      by_cases ek : k = N
      · subst ek
        refine ⟨fun _ => ?_, fun c => absurd (nI_le (Nat.le_refl k) (by omega)) c⟩
        cases w : bstL (σ 1040 0) (σ 1041 0) s y k with
        | none =>
          rw [w] at q
          exact ⟨fun c => absurd rfl c, fun _ => q⟩
        | some b =>
          have hb := bstL_lt w
          rw [w] at q
          refine ⟨fun _ => ?_, fun c => absurd c (nI_ne1 (by omega))⟩
          show vp_in (nI b) 60 ∧ Q (σ 1042 0 (nI b).toNatClampNeg) σ
          rw [nI_clamp (n := b) (by omega)]
          exact ⟨vp_in_nI (by omega) (by omega), q⟩
      · have v : vp_in (nI k) 60 := vp_in_nI (by omega) (by omega)
        have r := ih (k + 1) (by omega) (by omega)
        rw [bstL_s] at r
        rw [nI_clamp (n := k) (by omega), nI_1]
        have no : ¬ (σ 1041 0 k = s ∧ ¬ y < σ 1040 0 k ∧ ¬ σ 1040 0 k < pvb (σ 1040 0) (bstL (σ 1040 0) (σ 1041 0) s y k)) → wp_X9_listed_L5 g Q d σ s y (mxb (bstL (σ 1040 0) (σ 1041 0) s y k)) (nI (k + 1)) := fun h => by
          rw [if_neg h] at r
          exact r
        have yes : (σ 1041 0 k = s ∧ ¬ y < σ 1040 0 k ∧ ¬ σ 1040 0 k < pvb (σ 1040 0) (bstL (σ 1040 0) (σ 1041 0) s y k)) → wp_X9_listed_L5 g Q d σ s y (nI k) (nI (k + 1)) := fun h => by
          rw [if_pos h] at r
          exact r
        refine ⟨fun c => absurd c (nI_ge (by omega) (by omega)), fun _ => ⟨v, fun c => no (fun w => c w.1), fun c => ⟨v, fun c2 => no (fun w => w.2.1 c2), fun c2 => ?_⟩⟩⟩
        cases w : bstL (σ 1040 0) (σ 1041 0) s y k with
        | none =>
          rw [w] at yes
          exact ⟨fun _ => yes ⟨c, c2, hy k (by omega)⟩, fun c3 => absurd rfl c3⟩
        | some b =>
          have hb := bstL_lt w
          rw [w] at yes no
          refine ⟨fun c3 => absurd c3 (nI_ne1 (by omega)), fun _ => ⟨v, ?_⟩⟩
          show vp_in (nI b) 60 ∧ ((σ 1040 0 k < σ 1040 0 (nI b).toNatClampNeg → wp_X9_listed_L5 g Q d σ s y (nI b) (nI (k + 1))) ∧ (¬ σ 1040 0 k < σ 1040 0 (nI b).toNatClampNeg → wp_X9_listed_L5 g Q d σ s y (nI k) (nI (k + 1))))
          rw [nI_clamp (n := b) (by omega)]
          exact ⟨vp_in_nI (by omega) (by omega), fun c3 => no (fun w => w.2.2 c3), fun c3 => yes ⟨c, c2, c3⟩⟩
  exact ⟨N + 1, L (N + 1) 0 (by omega) (by omega)⟩
