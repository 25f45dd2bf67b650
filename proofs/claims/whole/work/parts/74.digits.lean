theorem nI_div {m c : Nat} (hm : m < 2 ^ 31) (hc0 : 0 < c) (hc : c < 2 ^ 31) : nI m / nI c = nI (m / c) := by
  have h1 : m / c ≤ m := Nat.div_le_self m c
  refine Int32.toInt_inj.mp ?_
  rw [Int32.toInt_div, nI_toInt hm, nI_toInt hc, nI_toInt (by omega)]
  have : (m : Int).tdiv (c : Int) = ((m / c : Nat) : Int) := rfl
  rw [this]
  refine Int.bmod_eq_of_le ?_ ?_ <;> omega
theorem nI_mod10 {m : Nat} (hm : m < 2 ^ 31) : nI m - nI m / (10 : Int32) * (10 : Int32) = nI (m % 10) := by
  rw [show (10 : Int32) = nI 10 from rfl, nI_div hm (by omega) (by omega)]
  have e : nI (m / 10) * nI 10 = nI (m / 10 * 10) := (Int32.ofNat_mul (m / 10) 10).symm
  rw [e]
  have e2 : nI (m / 10 * 10) + nI (m % 10) = nI m := by
    rw [nI_add]
    congr 1
    omega
  rw [← e2, Int32.add_comm, Int32.add_sub_cancel]
theorem cut_n {n : Nat} (hn : n < 2 ^ 31) : ∀ i, pr_cut (nI n) i = nI (n / 10 ^ i) := by
  intro i
  induction i with
  | zero => simp [pr_cut]
  | succ i ih =>
    unfold pr_cut
    have h1 : n / 10 ^ i ≤ n := Nat.div_le_self _ _
    rw [ih, show (10 : Int32) = nI 10 from rfl, nI_div (by omega) (by omega) (by omega), Nat.div_div_eq_div_mul, Nat.pow_succ]
theorem dig_n {n : Nat} (hn : n < 2 ^ 31) (i : Nat) : pr_dig (nI n) i = nI (n / 10 ^ i % 10) := by
  unfold pr_dig
  have h1 : n / 10 ^ i ≤ n := Nat.div_le_self _ _
  rw [cut_n hn, nI_mod10 (by omega)]
/-- the layers that a picture may ask for -/
def LC (a : Int32) : Prop := ∃ n, 10000 ≤ n ∧ n ≤ 33333 ∧ a = nI n ∧ ∀ i, i < 5 → n / 10 ^ i % 10 ≤ 3
theorem lc_n {n : Nat} (hn : n < 2 ^ 31) (h1 : 10000 ≤ n) : LC (nI n) ↔ ((∀ i, i < 5 → n / 10 ^ i % 10 ≤ 3) ∧ n / 10 ^ 5 = 0) := by
  constructor
  · rintro ⟨m, g1, g2, e, g4⟩
    have : n = m := (nI_eq hn (by omega)).mp e
    subst this
    exact ⟨g4, by omega⟩
  · rintro ⟨g1, g2⟩
    refine ⟨n, h1, ?_, rfl, g1⟩
    have d0 := g1 0 (by omega)
    have d1 := g1 1 (by omega)
    have d2 := g1 2 (by omega)
    have d3 := g1 3 (by omega)
    have d4 := g1 4 (by omega)
    simp only [Nat.reducePow] at d0 d1 d2 d3 d4 g2
    omega
theorem layersX {g : Nat → Nat} {σ : pr_Sg} {Q : Int32 → pr_Sg → Prop} {a : Int32} (q1 : LC a → Q 1 σ) (q0 : ¬ LC a → Q 0 σ) : wpb_X8_layersCanBe g σ a Q := by
  unfold wpb_X8_layersCanBe
  refine ⟨fun c => ?_, fun c => q0 ?_⟩
  · obtain ⟨n, hn, rfl⟩ := nI_of (x := a) (by
      rw [Int32.lt_iff_toInt_lt]
      rw [Int32.le_iff_toInt_le, show (10000 : Int32).toInt = 10000 by decide] at c
      rw [show (0 : Int32).toInt = 0 by decide]
      omega)
    have h1 : 10000 ≤ n := (nI_leI (a := 10000) (by omega) hn).mp c
    have L : ∀ d i, i ≤ 5 → 5 - i < d → (∀ j, j < i → n / 10 ^ j % 10 ≤ 3) → wp_X8_layersCanBe_L13 g Q d σ (nI (n / 10 ^ i)) (nI i) := fun d => by
      induction d with
      | zero => intro i _ h; exact absurd h (by omega)
      | succ d ih =>
        intro i hi hd hj
        have h2 : n / 10 ^ i ≤ n := Nat.div_le_self _ _
        unfold wp_X8_layersCanBe_L13
        by_cases e : i = 5
        · subst e
          refine ⟨fun _ => ⟨fun c => q0 (fun w => c ?_), fun c => q1 ?_⟩, fun c => absurd (by decide) c⟩
          · rw [((lc_n hn h1).mp w).2]
            rfl
          · exact (lc_n hn h1).mpr ⟨hj, (nk0 (by omega)).mp c⟩
        · refine ⟨fun c => absurd c (nI_ge (b := 5) (by omega) (by omega)), fun _ => ?_⟩
          rw [nI_mod10 (by omega), show (10 : Int32) = nI 10 from rfl, nI_div (by omega) (by omega) (by omega), Nat.div_div_eq_div_mul, ← Nat.pow_succ, nI_1]
          refine ⟨fun c => ih (i + 1) (by omega) (by omega) (fun j hj2 => ?_), fun c => q0 (fun w => c ?_)⟩
          · by_cases ej : j = i
            · subst ej
              exact (nI_leI (b := 3) (by omega) (by omega)).mp c
            · exact hj j (by omega)
          · exact nI_le (b := 3) (((lc_n hn h1).mp w).1 i (by omega)) (by omega)
    have := L 6 0 (by omega) (by omega) (fun j hj => by omega)
    rw [Nat.pow_zero, Nat.div_one] at this
    exact ⟨6, this⟩
  · rintro ⟨n, g1, g2, rfl, -⟩
    exact c (nI_le (a := 10000) g1 (by omega))
/-- the list that counts -/
def bst (ys ss : Nat → Int32) (sz y : Int32) : Nat → Option Nat
  | 0 => none
  | k + 1 => if ss k = sz ∧ ¬ y < ys k ∧ (∀ b, bst ys ss sz y k = some b → ¬ ys k < ys b) then some k else bst ys ss sz y k
