theorem lh_d : ∀ x, x < 365 → ∃ l, l < 7 ∧ ((6 : Int32) - ((if 0 ≤ (nI x - (182 : Int32)) then (nI x - (182 : Int32)) else 0 - (nI x - (182 : Int32))) / (46 : Int32))) = nI l := by decide +kernel
theorem LH_n {d : Nat} (hd : d ≤ 20000) : ∃ l, l < 7 ∧ LH (nI d) = nI l := by
  unfold LH
  rw [show (365 : Int32) = nI 365 from rfl, pk_rem (by omega) (by omega) (by omega)]
  exact lh_d (d % 365) (Nat.mod_lt d (by omega))
/-- the hours of a sitter on a day, as bits -/
theorem hoursX {g : Nat → Nat} {σ : pr_Sg} {Q : Int32 → pr_Sg → Prop} {s N l : Nat} {day : Int32} (h6 : I_sit g σ) (hs : s < g 1) (hN : N ≤ 200) (e : σ 453 0 0 = nI N) (hl : l ≤ 6) (el : LH day = nI l)
    (q : ∀ c, c < 64 → (∀ h, h < 6 → (c.testBit h = true ↔ (h < l ∧ (¬ nI h < σ 384 s 0 ∧ ¬ σ 385 s 0 < nI h) ∧ ¬ ∃ j, j < N ∧ σ 1026 0 j = day ∧ σ 1027 0 j = nI h))) → Q (nI c) σ) : wpb_X8_hoursFor g σ (nI s) day Q := by
  unfold wpb_X8_hoursFor
  refine sit_pos h6 hs (o_s ?_)
  show wpb_X8_lightHours _ _ _ _
  unfold wpb_X8_lightHours
  show ∃ n, wp_X8_hoursFor_L18a g Q n σ day s 0 (LH day) 0
  rw [el]
  have L : ∀ d h c, h ≤ l → l - h < d → c < 64 → (∀ k, k < 6 → (c.testBit k = true ↔ (k < h ∧ (¬ nI k < σ 384 s 0 ∧ ¬ σ 385 s 0 < nI k) ∧ ¬ ∃ j, j < N ∧ σ 1026 0 j = day ∧ σ 1027 0 j = nI k))) → wp_X8_hoursFor_L18a g Q d σ day s (nI c) (nI l) (nI h) := fun d => by
    induction d with
    | zero => intro h c _ w; exact absurd w (by omega)
    | succ d ih =>
      intro h c hh hd hc hk
      unfold wp_X8_hoursFor_L18a
      by_cases eh : h = l
      · subst eh
        exact ⟨fun _ => q c hc hk, fun c => absurd (nI_le (Nat.le_refl h) (by omega)) c⟩
      · have hh6 : h < 6 := by omega
        have a1 : h + 1 ≤ l := by omega
        have a2 : l - (h + 1) < d := by omega
        have a3 : ∀ k, k < h → k < h + 1 := fun k w => by omega
        have a4 : ∀ k, k < h + 1 → k ≠ h → k < h := fun k w1 w2 => by omega
        rw [nI_1, (bt1 c hc h hh6).1]
        have no : ¬ ((¬ nI h < σ 384 s 0 ∧ ¬ σ 385 s 0 < nI h) ∧ ¬ ∃ j, j < N ∧ σ 1026 0 j = day ∧ σ 1027 0 j = nI h) → wp_X8_hoursFor_L18a g Q d σ day s (nI c) (nI l) (nI (h + 1)) := fun w => by
          refine ih (h + 1) c a1 a2 hc (fun k hk6 => ?_)
          rw [hk k hk6]
          constructor
          · rintro ⟨k1, k2⟩
            exact ⟨a3 k k1, k2⟩
          · rintro ⟨k1, k2⟩
            exact ⟨a4 k k1 (fun ek => w (ek ▸ k2)), k2⟩
        refine ⟨fun c => absurd c (nI_ge (by omega) (by omega)), fun _ => ?_⟩
        by_cases c1 : ¬ nI h < σ 384 s 0 ∧ ¬ σ 385 s 0 < nI h
        · refine cc_pos c1 (z_t ?_)
          refine takenX hN e (fun w => y_t (no (fun w2 => w2.2 w))) (fun w => y_f ?_)
          refine ih (h + 1) (c ||| 2 ^ h) a1 a2 (bt1 c hc h hh6).2 (fun k hk6 => ?_)
          rw [bt6, Bool.or_eq_true, hk k hk6, decide_eq_true_iff]
          constructor
          · rintro (⟨k1, k2⟩ | k1)
            · exact ⟨a3 k k1, k2⟩
            · subst k1
              exact ⟨Nat.lt_succ_self h, c1, w⟩
          · rintro ⟨k1, k2⟩
            by_cases ek : h = k
            · exact Or.inr ek
            · exact Or.inl ⟨a4 k k1 (fun w2 => ek w2.symm), k2⟩
        · exact cc_neg c1 (z_f (no (fun w => c1 w.1)))
  have := L (l + 1) 0 0 (by omega) (by omega) (by omega) (fun k hk => ⟨fun w => absurd w (by rw [Nat.zero_testBit]; decide), fun w => absurd w.1 (by omega)⟩)
  rw [nI_0] at this
  exact ⟨l + 1, this⟩
/-- the pictures of a plan, in their order -/
def pls (W : Nat → Bool) : Nat → Nat × (Nat → Nat)
  | 0 => (0, fun _ => 0)
  | n + 1 => if W n = true then ((pls W n).1 + 1, fun i => if i = (pls W n).1 then n else (pls W n).2 i) else pls W n
theorem pls_y {W : Nat → Bool} {n : Nat} (h : W n = true) : pls W (n + 1) = ((pls W n).1 + 1, fun i => if i = (pls W n).1 then n else (pls W n).2 i) := by
  rw [pls, if_pos h]
theorem pls_n {W : Nat → Bool} {n : Nat} (h : ¬ W n = true) : pls W (n + 1) = pls W n := by
  rw [pls, if_neg h]
theorem pls_lt {W : Nat → Bool} : ∀ n i, i < (pls W n).1 → (pls W n).2 i < n := by
  intro n
  induction n with
  | zero => intro i h; exact absurd h (Nat.not_lt_zero i)
  | succ n ih =>
    intro i h
    by_cases c : W n = true
    · rw [pls_y c] at h ⊢
      show (if i = (pls W n).1 then n else (pls W n).2 i) < n + 1
      by_cases e : i = (pls W n).1
      · rw [if_pos e]
        omega
      · rw [if_neg e]
        have := ih i (by have : i < (pls W n).1 + 1 := h; omega)
        omega
    · rw [pls_n c] at h ⊢
      have := ih i h
      omega
theorem lf_snoc {w : Nat → Nat} : ∀ r k, lf w (r + 1) k = lf w r k + w (k + r) := by
  intro r
  induction r with
  | zero => intro k; simp [lf]
  | succ r ih =>
    intro k
    show w k + lf w (r + 1) (k + 1) = (w k + lf w r (k + 1)) + w (k + (r + 1))
    rw [ih (k + 1), show k + 1 + r = k + (r + 1) by omega]
    omega
theorem lf_cg {w w' : Nat → Nat} : ∀ r k, (∀ i, k ≤ i → i < k + r → w i = w' i) → lf w r k = lf w' r k := by
  intro r
  induction r with
  | zero => intro k _; rfl
  | succ r ih =>
    intro k h
    show w k + lf w r (k + 1) = w' k + lf w' r (k + 1)
    rw [h k (by omega) (by omega), ih (k + 1) (fun i h1 h2 => h i (by omega) (by omega))]
theorem lf_le {w : Nat → Nat} {M : Nat} : ∀ r k, (∀ i, k ≤ i → i < k + r → w i ≤ M) → lf w r k ≤ r * M := by
  intro r
  induction r with
  | zero => intro k _; simp [lf]
  | succ r ih =>
    intro k h
    have h1 := h k (by omega) (by omega)
    have h2 := ih (k + 1) (fun i h1 h2 => h i (by omega) (by omega))
    show w k + lf w r (k + 1) ≤ (r + 1) * M
    rw [Nat.succ_mul]
    omega
theorem adX {g : Nat → Nat} {σ : pr_Sg} {Q : Int32 → pr_Sg → Prop} {c : Nat} {a1 a2 a3 a4 : Int32} (hc : c ≤ 5) (e : σ 262 0 0 = nI c) (q1 : c < 5 → ∀ τ, τ = pr_up (pr_up (pr_up (pr_up (pr_up (pr_up σ 1030 0 c a1) 1031 0 c a2) 1032 0 c a3) 1033 0 c a4) 263 0 0 (σ 263 0 0 + a4)) 262 0 0 (nI (c + 1)) → Q 1 τ) (q0 : c = 5 → Q 0 σ) : wpb_X4_add g σ a1 a2 a3 a4 Q := by
  unfold wpb_X4_add
  have h5 : σ 262 0 0 < (5 : Int32) ↔ c < 5 := by rw [e]; exact nI_ltI (b := 5) (by omega) (by omega)
  refine ⟨fun w => ?_, fun w => q0 (by have := mt h5.mpr w; omega)⟩
  have hlt := h5.mp w
  have v : vp_in (nI c) 5 := vp_in_nI hlt (by omega)
  rw [e, nI_clamp (n := c) (by omega)]
  refine ⟨v, fun σ2 e2 => ?_⟩
  have f2 : σ2 262 0 0 = nI c := by rw [e2, up_tag (by decide), e]
  rw [f2, nI_clamp (n := c) (by omega)]
  refine ⟨v, fun σ3 e3 => ?_⟩
  have f3 : σ3 262 0 0 = nI c := by rw [e3, up_tag (by decide), f2]
  rw [f3, nI_clamp (n := c) (by omega)]
  refine ⟨v, fun σ4 e4 => ?_⟩
  have f4 : σ4 262 0 0 = nI c := by rw [e4, up_tag (by decide), f3]
  rw [f4, nI_clamp (n := c) (by omega)]
  refine ⟨v, fun σ5 e5 σ6 e6 σ7 e7 => q1 hlt σ7 ?_⟩
  have f5 : σ5 263 0 0 = σ 263 0 0 := by rw [e5, up_tag (by decide), e4, up_tag (by decide), e3, up_tag (by decide), e2, up_tag (by decide)]
  have f6 : σ6 262 0 0 = nI c := by rw [e6, up_tag (by decide), e5, up_tag (by decide), f4]
  rw [e7, f6, nI_1, e6, f5, e5, e4, e3, e2]
