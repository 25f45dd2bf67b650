/-- what makePlan reads -/
def XH (g : Nat → Nat) (σ : pr_Sg) (day : Int32) (N l : Nat) (W : Nat → Bool) (wt : Nat → Nat) (okp : Nat → Nat → Bool) (sp : Nat → Int32) : Prop := ∀ p, p < g 2 → (W p = true ↔ (¬ σ 128 p 0 ≤ σ 129 p 0) ∧ ¬ ∃ i, i < N ∧ σ 1026 0 i = day ∧ σ 1025 0 i = σ 192 p 0) ∧ (1 + σ 520 0 0 - σ 195 p 0 = nI (wt p) ∧ wt p ≤ 20001) ∧ σ 192 p 0 = sp p ∧ ∃ s, s < g 1 ∧ sp p = nI s ∧ ∀ h, h < 6 → (okp p h = true ↔ (h < l ∧ (¬ nI h < σ 384 s 0 ∧ ¬ σ 385 s 0 < nI h) ∧ ¬ ∃ j, j < N ∧ σ 1026 0 j = day ∧ σ 1027 0 j = nI h))
def CX (σ τ : pr_Sg) (n : Nat) (W : Nat → Bool) (wt : Nat → Nat) (okp : Nat → Nat → Bool) (sp : Nat → Int32) : Prop := ag [262, 263, 264, 1030, 1031, 1032, 1033] σ τ ∧ (pls W n).1 ≤ 5 ∧ τ 262 0 0 = nI (pls W n).1 ∧ τ 263 0 0 = nI (lf (fun i => wt ((pls W n).2 i)) (pls W n).1 0) ∧ τ 264 0 0 = -1 ∧ ∀ i, i < (pls W n).1 → τ 1030 0 i = nI ((pls W n).2 i) ∧ τ 1031 0 i = sp ((pls W n).2 i) ∧ τ 1033 0 i = nI (wt ((pls W n).2 i)) ∧ ∃ c, c < 64 ∧ τ 1032 0 i = nI c ∧ ∀ h, h < 6 → okp ((pls W n).2 i) h = c.testBit h
/-- the best plan -/
def bstP (G : Nat) (W : Nat → Bool) (wt : Nat → Nat) (okp : Nat → Nat → Bool) (sp : Nat → Int32) : Nat × (Nat → Int32) := dfs (fun i => wt ((pls W G).2 i)) (fun i h => okp ((pls W G).2 i) h) (fun i => sp ((pls W G).2 i)) (pls W G).1 0 0 0 (fun _ => 0) (0, fun _ => 0)
def ovf (G : Nat) (W : Nat → Bool) : Prop := ∃ n, n < G ∧ (pls W n).1 = 5 ∧ W n = true
theorem pls_wt {W : Nat → Bool} {wt : Nat → Nat} {G : Nat} (h5 : (pls W G).1 ≤ 5) (h : ∀ p, p < G → wt p ≤ 20001) : 0 + lf (fun i => wt ((pls W G).2 i)) (pls W G).1 0 < 200000 := by
  have := lf_le (w := fun i => wt ((pls W G).2 i)) (M := 20001) (pls W G).1 0 (fun i _ hi => h _ (pls_lt G i (by omega)))
  have h2 : (pls W G).1 * 20001 ≤ 5 * 20001 := Nat.mul_le_mul_right _ h5
  omega
theorem CX.add {σ τ υ : pr_Sg} {n cc : Nat} {W : Nat → Bool} {wt : Nat → Nat} {okp : Nat → Nat → Bool} {sp : Nat → Int32} (h : CX σ τ n W wt okp sp) (hW : W n = true) (h5 : (pls W n).1 < 5) (hc : cc < 64) (hb : ∀ h, h < 6 → okp n h = cc.testBit h)
    (eu : υ = pr_up (pr_up (pr_up (pr_up (pr_up (pr_up τ 1030 0 (pls W n).1 (nI n)) 1031 0 (pls W n).1 (sp n)) 1032 0 (pls W n).1 (nI cc)) 1033 0 (pls W n).1 (nI (wt n))) 263 0 0 (τ 263 0 0 + nI (wt n))) 262 0 0 (nI ((pls W n).1 + 1))) : CX σ υ (n + 1) W wt okp sp := by
  obtain ⟨h1, h2, h3, h4, h6, h7⟩ := h
  rw [CX, pls_y hW]
  generalize ec : (pls W n).1 = c at *
  generalize ef : (pls W n).2 = f at *
  refine ⟨?_, by show c + 1 ≤ 5; omega, by rw [eu, up_eq], ?_, ?_, fun i hi => ?_⟩
  · rw [eu]
    exact ag_up (ag_up (ag_up (ag_up (ag_up (ag_up h1 _ _ _ _ (by decide)) _ _ _ _ (by decide)) _ _ _ _ (by decide)) _ _ _ _ (by decide)) _ _ _ _ (by decide)) _ _ _ _ (by decide)
  · rw [eu, up_tag (by decide), up_eq, h4, nI_add]
    show _ = nI (lf (fun i => wt (if i = c then n else f i)) (c + 1) 0)
    rw [lf_snoc, lf_cg (w := fun i => wt (if i = c then n else f i)) (w' := fun i => wt (f i)) c 0 (fun i _ hi => by rw [if_neg (by omega)])]
    congr 2
    rw [if_pos (by omega)]
  · rw [eu, up_tag (by decide), up_tag (by decide), up_tag (by decide), up_tag (by decide), up_tag (by decide), up_tag (by decide)]
    exact h6
  · have hi' : i < c + 1 := hi
    show υ 1030 0 i = nI (if i = c then n else f i) ∧ υ 1031 0 i = sp (if i = c then n else f i) ∧ υ 1033 0 i = nI (wt (if i = c then n else f i)) ∧ ∃ c_1, c_1 < 64 ∧ υ 1032 0 i = nI c_1 ∧ ∀ h, h < 6 → okp (if i = c then n else f i) h = c_1.testBit h
    have w0 : υ 1030 0 i = if i = c then nI n else τ 1030 0 i := by rw [eu]; simp [pr_up]
    have w1 : υ 1031 0 i = if i = c then sp n else τ 1031 0 i := by rw [eu]; simp [pr_up]
    have w2 : υ 1032 0 i = if i = c then nI cc else τ 1032 0 i := by rw [eu]; simp [pr_up]
    have w3 : υ 1033 0 i = if i = c then nI (wt n) else τ 1033 0 i := by rw [eu]; simp [pr_up]
    rw [w0, w1, w2, w3]
    by_cases e : i = c
    · simp only [if_pos e]
      exact ⟨trivial, trivial, trivial, cc, hc, rfl, hb⟩
    · simp only [if_neg e]
      exact h7 i (by omega)
theorem planX {g : Nat → Nat} {σ : pr_Sg} {Q : Int32 → pr_Sg → Prop} {day : Int32} {N l : Nat} {W : Nat → Bool} {wt : Nat → Nat} {okp : Nat → Nat → Bool} {sp : Nat → Int32} (h6 : I_sit g σ) (h7 : I_pic g σ) (hN : N ≤ 200) (e : σ 453 0 0 = nI N) (hl : l ≤ 6) (el : LH day = nI l) (hday : ¬ day < σ 520 0 0 ∧ ¬ (20000 : Int32) < day) (hX : XH g σ day N l W wt okp sp)
    (q0 : ∀ τ, ag [262, 263, 264, 1030, 1031, 1032, 1033, 1034, 1035] σ τ → (ovf (g 2) W ∨ (pls W (g 2)).1 = 0) → Q 0 τ)
    (q1 : ∀ τ, ag [262, 263, 264, 1030, 1031, 1032, 1033, 1034, 1035] σ τ → ¬ ovf (g 2) W → (pls W (g 2)).1 ≠ 0 → (pls W (g 2)).1 ≤ 5 → τ 262 0 0 = nI (pls W (g 2)).1 → (∀ i, i < (pls W (g 2)).1 → τ 1030 0 i = nI ((pls W (g 2)).2 i)) → (∀ i, i < (pls W (g 2)).1 → τ 1035 0 i = (bstP (g 2) W wt okp sp).2 i) → τ 264 0 0 = nI (bstP (g 2) W wt okp sp).1 - 1 → Q 1 τ) : wpb_X8_makePlan g σ day Q := by
  have hG := h7.1
  have wk : ∀ {τ : pr_Sg}, ag [262, 263, 264, 1030, 1031, 1032, 1033] σ τ → ag [262, 263, 264, 1030, 1031, 1032, 1033, 1034, 1035] σ τ := fun h t ht => h t (fun w => ht (by revert w; simp; omega))
  unfold wpb_X8_makePlan
  refine nol_pos hday (y_t ?_)
  show wpb_X4_clear _ _ _
  unfold wpb_X4_clear
  intro σ1 e1 σ2 e2 σ3 e3
  have L : ∀ d n τ, n ≤ g 2 → g 2 - n < d → CX σ τ n W wt okp sp → (∀ k, k < n → ¬ ((pls W k).1 = 5 ∧ W k = true)) → wp_X8_makePlan_L19 g Q d τ day (nI n) := fun d => by
    induction d with
    | zero => intro n _ _ h; exact absurd h (by omega)
    | succ d ih =>
      intro n τ hn hd hC hov
      obtain ⟨c1, c2, c3, c4, c5, c6⟩ := id hC
      have h6' : I_sit g τ := h6.cg c1
      have h7' : I_pic g τ := h7.cg c1
      unfold wp_X8_makePlan_L19
      by_cases en : n = g 2
      · subst en
        have hno : ¬ ovf (g 2) W := fun ⟨k, hk, w⟩ => hov k hk w
        rw [h7'.2.1]
        refine ⟨fun _ => ⟨fun c => ?_, fun c => q0 τ (wk c1) (Or.inr ?_)⟩, fun c => absurd (nI_le (Nat.le_refl _) (by omega)) c⟩
        · have hm0 : (pls W (g 2)).1 ≠ 0 := fun w => c (by rw [c3, w, nI_0])
          have S := searchX (g := g) (m := (pls W (g 2)).1) (w := fun i => wt ((pls W (g 2)).2 i)) (mk := fun i => (τ 1032 0 i).toNatClampNeg) (ok := fun i h => okp ((pls W (g 2)).2 i) h) (S := fun i => sp ((pls W (g 2)).2 i)) c2 (fun k hk h hh => ?_) (pls W (g 2)).1 7 0 0 0 (fun _ => 0) (0, fun _ => 0) τ (fun σ6 => Q 1 σ6) (by omega) (by omega) (by omega) (pls_wt c2 (fun p hp => (hX p hp).2.1.2)) (Nat.zero_le _) ⟨c3, fun i hi => ?_⟩ ⟨fun i hi => absurd hi (by omega), fun w => absurd rfl w, by rw [c5]; decide⟩ (fun υ hu hR => ?_)
          · rw [nI_0] at S
            rw [c4]
            exact S
          · obtain ⟨_, _, _, cc, w1, w2, w3⟩ := c6 k hk
            show okp ((pls W (g 2)).2 k) h = ((τ 1032 0 k).toNatClampNeg).testBit h
            rw [w2, nI_clamp (by omega)]
            exact w3 h hh
          · obtain ⟨y1, y2, y3, cc, w1, w2, w3⟩ := c6 i hi
            refine ⟨y2, ?_, ?_, y3⟩
            · show τ 1032 0 i = nI (τ 1032 0 i).toNatClampNeg
              rw [w2, nI_clamp (by omega)]
            · show (τ 1032 0 i).toNatClampNeg < 64
              rw [w2, nI_clamp (by omega)]
              exact w1
          · have ha : ag [262, 263, 264, 1030, 1031, 1032, 1033, 1034, 1035] σ υ := fun t ht => by
              rw [hu t (fun w => ht (by revert w; simp; omega)), c1 t (fun w => ht (by revert w; simp; omega))]
            exact q1 υ ha hno hm0 c2 (by rw [hu 262 (by decide), c3]) (fun i hi => by rw [hu 1030 (by decide)]; exact (c6 i hi).1) (hR.2.1 (dfs_pos _ _ _ _ _ _)) hR.2.2
        · rw [c3] at c
          exact (nk0 (by omega)).mp c
      · have hlt : n < g 2 := by omega
        obtain ⟨x1, ⟨x2, x3⟩, x4, s, hs, x5, x6⟩ := hX n hlt
        have v0 : ∀ t, t ∉ [262, 263, 264, 1030, 1031, 1032, 1033] → τ t = σ t := c1
        have a1 : n + 1 ≤ g 2 := hlt
        have a2 : g 2 - (n + 1) < d := by omega
        have no : ¬ W n = true → wp_X8_makePlan_L19 g Q d τ day (nI (n + 1)) := fun w => by
          refine ih (n + 1) τ a1 a2 ?_ (fun k hk => ?_)
          · rw [CX, pls_n w]
            exact hC
          · by_cases ek : k = n
            · subst ek
              exact fun w2 => w w2.2
            · exact hov k (by omega)
        rw [h7'.2.1, nI_1]
        refine ⟨fun c => absurd c (nI_ge hlt (by omega)), fun _ => ?_⟩
        refine pic_pos h7' hlt (o_s ?_)
        show wpb_X3_wantsHead _ _ _ _
        unfold wpb_X3_wantsHead
        refine ⟨vp_in_nI (n := 0) (by omega) (by omega), ?_⟩
        show wpb_X2_wantsMore g τ n 0 _
        unfold wpb_X2_wantsMore
        rw [v0 128 (by decide), v0 129 (by decide)]
        refine ⟨fun c => z_f (z_f (no (fun w => (x1.mp w).1 c))), fun c => z_t (z_t ?_)⟩
        rw [v0 192 (by decide), x4]
        refine hasX hN (by rw [v0 453 (by decide), e]) (fun w => y_t (no (fun w2 => (x1.mp w2).2 ?_))) (fun w => y_f ?_)
        · rw [v0 1026 (by decide), v0 1025 (by decide)] at w
          rw [x4]
          exact w
        have hW : W n = true := x1.mpr ⟨c, by
          rw [v0 1026 (by decide), v0 1025 (by decide)] at w
          rw [x4]
          exact w⟩
        rw [v0 192 (by decide), x4, v0 520 (by decide), v0 195 (by decide), x2, x5]
        refine hoursX h6' hs hN (by rw [v0 453 (by decide), e]) hl el (fun cc hcc hb => ?_)
        rw [v0 384 (by decide), v0 385 (by decide), v0 1026 (by decide), v0 1027 (by decide)] at hb
        refine adX c2 c3 (fun h5 υ eu => y_t ?_) (fun h5 => y_f (q0 τ (wk c1) (Or.inl ⟨n, hlt, h5, hW⟩)))
        refine ih (n + 1) υ a1 a2 (hC.add hW h5 hcc (fun h hh => ?_) (by rw [eu, x5])) (fun k hk => ?_)
        · rw [Bool.eq_iff_iff, x6 h hh, hb h hh]
        · by_cases ek : k = n
          · subst ek
            exact fun w2 => absurd w2.1 (by omega)
          · exact hov k (by omega)
  refine ⟨g 2 + 1, ?_⟩
  have a3 : ag [262, 263, 264, 1030, 1031, 1032, 1033] σ σ3 := by
    rw [e3, e2, e1]
    exact ag_up (ag_up (ag_up ag_rf _ _ _ _ (by decide)) _ _ _ _ (by decide)) _ _ _ _ (by decide)
  have := L (g 2 + 1) 0 σ3 (by omega) (by omega) ⟨a3, by show 0 ≤ 5; omega, by rw [e3, up_tag (by decide), e2, up_tag (by decide), e1, up_eq]; rfl, by rw [e3, up_tag (by decide), e2, up_eq]; rfl, by rw [e3, up_eq], fun i hi => absurd hi (Nat.not_lt_zero i)⟩ (fun k hk => absurd hk (by omega))
  rw [nI_0] at this
  exact this
