/-- what plans() of the reference reads -/
def MH (σ : pr_Sg) (G : Nat) (day : Int32) (N : Nat) (W : Nat → Bool) (wt : Nat → Nat) (okp : Nat → Nat → Bool) (sp : Nat → Int32) : Prop := ∀ p, p < G → (W p = true ↔ σ 1053 0 p = -1 ∧ ¬ σ 1065 p 0 = σ 1064 p 0 ∧ ¬ ∃ i, i < N ∧ σ 1059 0 i = day ∧ σ 1050 0 (σ 1058 0 i).toNatClampNeg = σ 1050 0 p) ∧ (∃ c n, c ≤ n ∧ σ 576 0 0 = nI n ∧ σ 1052 0 p = nI c ∧ wt p = 1 + n - c) ∧ wt p ≤ 20001 ∧ σ 1050 0 p = sp p ∧ ∃ s, s < 20 ∧ sp p = nI s ∧ ∀ h, h < 6 → (okp p h = true ↔ ((¬ nI h < 0 ∧ ¬ LH day - 1 < nI h) ∧ (¬ nI h < σ 1047 0 s ∧ ¬ σ 1048 0 s < nI h) ∧ ¬ ∃ j, j < N ∧ σ 1059 0 j = day ∧ σ 1060 0 j = nI h))
theorem MH.cg {σ τ : pr_Sg} {G : Nat} {day : Int32} {N : Nat} {W : Nat → Bool} {wt : Nat → Nat} {okp : Nat → Nat → Bool} {sp : Nat → Int32} {ts : List Nat} (h : MH σ G day N W wt okp sp) (ha : ag ts σ τ) (hd : ∀ t ∈ ([1053, 1065, 1064, 1059, 1050, 1058, 576, 1052, 1047, 1048, 1060] : List Nat), t ∉ ts := by decide) : MH τ G day N W wt okp sp := by
  unfold MH
  rw [ha 1053 (hd 1053 (by decide)), ha 1065 (hd 1065 (by decide)), ha 1064 (hd 1064 (by decide)), ha 1059 (hd 1059 (by decide)), ha 1050 (hd 1050 (by decide)), ha 1058 (hd 1058 (by decide)), ha 576 (hd 576 (by decide)), ha 1052 (hd 1052 (by decide)), ha 1047 (hd 1047 (by decide)), ha 1048 (hd 1048 (by decide)), ha 1060 (hd 1060 (by decide))]
  exact h
def CM (σ τ : pr_Sg) (n : Nat) (W : Nat → Bool) : Prop := ag [616, 1061] σ τ ∧ (pls W n).1 ≤ 5 ∧ τ 616 0 0 = nI (pls W n).1 ∧ ∀ i, i < (pls W n).1 → τ 1061 0 i = nI ((pls W n).2 i)
theorem CM.add {σ τ υ : pr_Sg} {n : Nat} {W : Nat → Bool} (h : CM σ τ n W) (hW : W n = true) (h5 : (pls W n).1 < 5) (eu : υ = pr_up (pr_up τ 1061 0 (pls W n).1 (nI n)) 616 0 0 (nI ((pls W n).1 + 1))) : CM σ υ (n + 1) W := by
  obtain ⟨h1, h2, h3, h4⟩ := h
  rw [CM, pls_y hW]
  generalize ec : (pls W n).1 = c at *
  generalize ef : (pls W n).2 = f at *
  refine ⟨?_, by show c + 1 ≤ 5; omega, by rw [eu, up_eq], fun i hi => ?_⟩
  · rw [eu]
    exact ag_up (ag_up h1 _ _ _ _ (by decide)) _ _ _ _ (by decide)
  · have hi' : i < c + 1 := hi
    show υ 1061 0 i = nI (if i = c then n else f i)
    have w0 : υ 1061 0 i = if i = c then nI n else τ 1061 0 i := by rw [eu]; simp [pr_up]
    rw [w0]
    by_cases e : i = c
    · simp only [if_pos e]
    · simp only [if_neg e]
      exact h4 i (by omega)
theorem plansM {g : Nat → Nat} {σ : pr_Sg} {Q : Int32 → pr_Sg → Prop} {day : Int32} {N G : Nat} {W : Nat → Bool} {wt : Nat → Nat} {okp : Nat → Nat → Bool} {sp : Nat → Int32} (hG : G ≤ 40) (e1 : σ 601 0 0 = nI G) (hN : N ≤ 200) (e : σ 608 0 0 = nI N) (hp : ∀ i, i < N → ∃ p, p < G ∧ σ 1058 0 i = nI p ∧ ¬ (20000 : Int32) < σ 1059 0 i) (hday : ¬ day < σ 576 0 0 ∧ ¬ (20000 : Int32) < day) (hM : MH σ G day N W wt okp sp)
    (q0 : ∀ τ, ag [616, 617, 1061, 1062, 1063] σ τ → (ovf G W ∨ (pls W G).1 = 0) → Q 0 τ)
    (q1 : ∀ τ, ag [616, 617, 1061, 1062, 1063] σ τ → ¬ ovf G W → (pls W G).1 ≠ 0 → (pls W G).1 ≤ 5 → τ 616 0 0 = nI (pls W G).1 → (∀ i, i < (pls W G).1 → τ 1061 0 i = nI ((pls W G).2 i)) → (∀ i, i < (pls W G).1 → τ 1063 0 i = (bstP G W wt okp sp).2 i) → τ 617 0 0 = nI (bstP G W wt okp sp).1 - 1 → Q 1 τ) : wpb_X9_plans g σ day Q := by
  have wk : ∀ {τ : pr_Sg}, ag [616, 1061] σ τ → ag [616, 617, 1061, 1062, 1063] σ τ := fun h t ht => h t (fun w => ht (by revert w; simp; omega))
  unfold wpb_X9_plans
  refine ig_pos hday (y_t ?_)
  intro σ3 e3
  have L : ∀ d n τ, n ≤ G → G - n < d → CM σ τ n W → (∀ k, k < n → ¬ ((pls W k).1 = 5 ∧ W k = true)) → wp_X9_plans_L23 g Q d τ day (nI n) := fun d => by
    induction d with
    | zero => intro n _ _ h; exact absurd h (by omega)
    | succ d ih =>
      intro n τ hn hd hC hov
      obtain ⟨c1, c2, c3, c4⟩ := id hC
      have hM' : MH τ G day N W wt okp sp := hM.cg c1
      have f601 : τ 601 0 0 = nI G := by rw [c1 601 (by decide), e1]
      have f608 : τ 608 0 0 = nI N := by rw [c1 608 (by decide), e]
      unfold wp_X9_plans_L23
      by_cases en : n = G
      · subst en
        have hno : ¬ ovf n W := fun ⟨k, hk, w⟩ => hov k hk w
        rw [f601]
        refine ⟨fun _ => ⟨fun c => fun σ6 e6 => ?_, fun c => q0 τ (wk c1) (Or.inr ?_)⟩, fun c => absurd (nI_le (Nat.le_refl _) (by omega)) c⟩
        · have hm0 : (pls W n).1 ≠ 0 := fun w => c (by rw [c3, w, nI_0])
          have a6 : ag [617] τ σ6 := by rw [e6]; exact ag_up ag_rf _ _ _ _ (by decide)
          have hM6 : MH σ6 n day N W wt okp sp := hM'.cg a6
          have S := triesM (g := g) (m := (pls W n).1) (w := fun i => wt ((pls W n).2 i)) (P := fun i => (pls W n).2 i) (ok := fun i h => okp ((pls W n).2 i) h) (S := fun i => sp ((pls W n).2 i)) (day := day) (N := N) c2 (pls W n).1 7 0 0 0 (fun _ => 0) (0, fun _ => 0) σ6 (fun σ7 => Q 1 σ7) (by omega) (by omega) (by omega) (pls_wt c2 (fun p hp => (hM p hp).2.2.1)) (Nat.zero_le _) ⟨by rw [a6 616 (by decide), c3], hN, by rw [a6 608 (by decide), f608], fun i hi => ?_⟩ ⟨fun i hi => absurd hi (by omega), fun w => absurd rfl w, by rw [e6, up_eq]; decide⟩ (fun υ hu hR => ?_)
          · rw [nI_0] at S
            exact S
          · have hlt := pls_lt n i hi
            obtain ⟨_, y2, y3, y4, s, hs, y5, y6⟩ := hM6 _ hlt
            exact ⟨by rw [a6 1061 (by decide)]; exact c4 i hi, by show (pls W n).2 i < 40; omega, y4, ⟨s, hs, y5, y6⟩, y2⟩
          · have ha : ag [616, 617, 1061, 1062, 1063] σ υ := fun t ht => by
              rw [hu t (fun w => ht (by revert w; simp; omega)), a6 t (fun w => ht (by revert w; simp; omega)), c1 t (fun w => ht (by revert w; simp; omega))]
            exact q1 υ ha hno hm0 c2 (by rw [hu 616 (by decide), a6 616 (by decide), c3]) (fun i hi => by rw [hu 1061 (by decide), a6 1061 (by decide)]; exact c4 i hi) (hR.2.1 (dfs_pos _ _ _ _ _ _)) hR.2.2
        · rw [c3] at c
          exact (nk0 (by omega)).mp c
      · have hlt : n < G := by omega
        obtain ⟨x1, -⟩ := hM' n hlt
        have a1 : n + 1 ≤ G := hlt
        have a2 : G - (n + 1) < d := by omega
        have v40 : vp_in (nI n) 40 := vp_in_nI (by omega) (by omega)
        have v5 : vp_in (0 : Int32) 5 := vp_in_nI (n := 0) (by omega) (by omega)
        have no : ¬ W n = true → wp_X9_plans_L23 g Q d τ day (nI (n + 1)) := fun w => by
          refine ih (n + 1) τ a1 a2 ?_ (fun k hk => ?_)
          · rw [CM, pls_n w]
            exact hC
          · by_cases ek : k = n
            · subst ek
              exact fun w2 => w w2.2
            · exact hov k (by omega)
        rw [f601, nI_1, nI_clamp (n := n) (by omega), show ((0 : Int32)).toNatClampNeg = 0 from rfl]
        refine ⟨fun c => absurd c (nI_ge hlt (by omega)), fun _ => ⟨v40, fun c => no (fun w => c (x1.mp w).1), fun k1 => ⟨v40, v5, v40, v5, fun c => no (fun w => (x1.mp w).2.1 c), fun k2 => ⟨v40, ?_⟩⟩⟩⟩
        refine sitsM hN f608 hG (by rw [c1 1058 (by decide), c1 1059 (by decide)]; exact hp) (fun w => z_t (no (fun w2 => (x1.mp w2).2.2 w))) (fun w => z_f ?_)
        have hW : W n = true := x1.mpr ⟨k1, k2, w⟩
        rw [c3]
        refine ⟨fun c => ?_, fun c => q0 τ (wk c1) (Or.inl ⟨n, hlt, (nI_eq (b := 5) (by omega) (by omega)).mp c, hW⟩)⟩
        have h5 : (pls W n).1 < 5 := by
          have : ¬ (pls W n).1 = 5 := fun w2 => c (by rw [w2]; rfl)
          omega
        rw [nI_clamp (n := (pls W n).1) (by omega)]
        refine ⟨vp_in_nI h5 (by omega), fun σ15 e15 σ16 e16 => ?_⟩
        have f15 : σ15 616 0 0 = nI (pls W n).1 := by rw [e15, up_tag (by decide), c3]
        refine ih (n + 1) σ16 a1 a2 (hC.add hW h5 (by rw [e16, f15, nI_1, e15])) (fun k hk => ?_)
        by_cases ek : k = n
        · subst ek
          exact fun w2 => absurd w2.1 (by omega)
        · exact hov k (by omega)
  refine ⟨G + 1, ?_⟩
  have := L (G + 1) 0 σ3 (by omega) (by omega) ⟨by rw [e3]; exact ag_up ag_rf _ _ _ _ (by decide), by show 0 ≤ 5; omega, by rw [e3, up_eq]; rfl, fun i hi => absurd hi (Nat.not_lt_zero i)⟩ (fun k hk => absurd hk (by omega))
  rw [nI_0] at this
  exact this
/-- the answer of a plan for a picture -/
def fiP (f : Nat → Nat) (b : Nat → Int32) (a : Int32) : Nat → Nat → Int32
  | 0, _ => -1
  | r + 1, i => if nI (f i) = a then b i else fiP f b a r (i + 1)
theorem hourX {g : Nat → Nat} {τ : pr_Sg} {Q : Int32 → pr_Sg → Prop} {m : Nat} {f : Nat → Nat} {b : Nat → Int32} {a : Int32} (hm : m ≤ 5) (e : τ 262 0 0 = nI m) (h1 : ∀ i, i < m → τ 1030 0 i = nI (f i)) (h2 : ∀ i, i < m → τ 1035 0 i = b i) (q : Q (fiP f b a m 0) τ) : wpb_X4_hourOf g τ a Q := by
  have L : ∀ r i, i + r = m → Q (fiP f b a r i) τ → wp_X4_hourOf_L2 g Q (r + 1) τ a (nI i) := fun r => by
    induction r with
    | zero =>
      intro i hi q'
      obtain rfl : i = m := by omega
      unfold wp_X4_hourOf_L2
      rw [e]
      exact ⟨fun _ => q', fun c => absurd (nI_le (Nat.le_refl _) (by omega)) c⟩
    | succ r ih =>
      intro i hi q'
      have v : vp_in (nI i) 5 := vp_in_nI (by omega) (by omega)
      unfold fiP at q'
      unfold wp_X4_hourOf_L2
      rw [e, nI_clamp (n := i) (by omega), nI_1, h1 i (by omega), h2 i (by omega)]
      refine ⟨fun c => absurd c (nI_ge (by omega) (by omega)), fun _ => ⟨v, fun c => ?_, fun c => ⟨v, ?_⟩⟩⟩
      · rw [if_neg c] at q'
        exact ih (i + 1) (by omega) q'
      · rw [if_pos c] at q'
        exact q'
  have := L m 0 (by omega) q
  rw [nI_0] at this
  exact ⟨m + 1, this⟩
theorem hourM {g : Nat → Nat} {τ : pr_Sg} {Q : Int32 → pr_Sg → Prop} {m : Nat} {f : Nat → Nat} {b : Nat → Int32} {a : Int32} (hm : m ≤ 5) (e : τ 616 0 0 = nI m) (h1 : ∀ i, i < m → τ 1061 0 i = nI (f i)) (h2 : ∀ i, i < m → τ 1063 0 i = b i) (q : Q (fiP f b a m 0) τ) : ∃ n, wp_X9_planned_L12 g Q n τ a 0 := by
  have L : ∀ r i, i + r = m → Q (fiP f b a r i) τ → wp_X9_planned_L12 g Q (r + 1) τ a (nI i) := fun r => by
    induction r with
    | zero =>
      intro i hi q'
      obtain rfl : i = m := by omega
      unfold wp_X9_planned_L12
      rw [e]
      exact ⟨fun _ => q', fun c => absurd (nI_le (Nat.le_refl _) (by omega)) c⟩
    | succ r ih =>
      intro i hi q'
      have v : vp_in (nI i) 5 := vp_in_nI (by omega) (by omega)
      unfold fiP at q'
      unfold wp_X9_planned_L12
      rw [e, nI_clamp (n := i) (by omega), nI_1, h1 i (by omega), h2 i (by omega)]
      refine ⟨fun c => absurd c (nI_ge (by omega) (by omega)), fun _ => ⟨v, fun c => ?_, fun c => ⟨v, ?_⟩⟩⟩
      · rw [if_neg c] at q'
        exact ih (i + 1) (by omega) q'
      · rw [if_pos c] at q'
        exact q'
  have := L m 0 (by omega) q
  rw [nI_0] at this
  exact ⟨m + 1, this⟩
