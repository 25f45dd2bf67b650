def LH (a1 : Int32) : Int32 := ((6 : Int32) - ((if 0 ≤ ((a1 - a1 / (365 : Int32) * (365 : Int32)) - (182 : Int32)) then ((a1 - a1 / (365 : Int32) * (365 : Int32)) - (182 : Int32)) else 0 - ((a1 - a1 / (365 : Int32) * (365 : Int32)) - (182 : Int32))) / (46 : Int32)))
theorem ex_loop {L : Nat → Nat → Prop} {P : Nat → Prop} {A B : Prop} {N : Nat} (hend : ∀ d, B → L (d + 1) N) (hstep : ∀ d k, k < N → (P k → A) → (¬ P k → L d (k + 1)) → L (d + 1) k) : ∀ d k, k ≤ N → N - k < d → ((∃ i, k ≤ i ∧ i < N ∧ P i) → A) → ((¬ ∃ i, k ≤ i ∧ i < N ∧ P i) → B) → L d k := by
  intro d
  induction d with
  | zero => intro k _ h2; exact absurd h2 (by omega)
  | succ d ih =>
    intro k hk hd ha hb
    by_cases e : k = N
    · subst e
      exact hend d (hb (fun ⟨j, j1, j2, _⟩ => by omega))
    · have h1 : k < N := by omega
      have h2 : k + 1 ≤ N := by omega
      have h3 : N - (k + 1) < d := by omega
      refine hstep d k h1 (fun w => ha ⟨k, Nat.le_refl k, h1, w⟩) (fun w => ih (k + 1) h2 h3 (fun ⟨j, j1, j2, j3⟩ => ha ⟨j, Nat.le_of_succ_le j1, j2, j3⟩) (fun w2 => hb (fun ⟨j, j1, j2, j3⟩ => ?_)))
      by_cases ej : j = k
      · subst ej
        exact w j3
      · exact w2 ⟨j, by omega, j2, j3⟩
theorem takenX {g : Nat → Nat} {σ : pr_Sg} {Q : Int32 → pr_Sg → Prop} {N : Nat} {a b : Int32} (hN : N ≤ 200) (e : σ 453 0 0 = nI N) (q1 : (∃ i, i < N ∧ σ 1026 0 i = a ∧ σ 1027 0 i = b) → Q 1 σ) (q0 : (¬ ∃ i, i < N ∧ σ 1026 0 i = a ∧ σ 1027 0 i = b) → Q 0 σ) : wpb_X7_isTaken g σ a b Q := by
  refine ⟨N + 1, ?_⟩
  refine ex_loop (L := fun d k => wp_X7_isTaken_L2 g Q d σ a b (nI k)) (P := fun i => σ 1026 0 i = a ∧ σ 1027 0 i = b) (A := Q 1 σ) (B := Q 0 σ) (N := N) (fun d q => ?_) (fun d k hk h1 h2 => ?_) (N + 1) 0 (by omega) (by omega) (fun ⟨i, _, w⟩ => q1 ⟨i, w⟩) (fun w => q0 (fun ⟨i, w2⟩ => w ⟨i, Nat.zero_le i, w2⟩))
  · show wp_X7_isTaken_L2 _ _ _ _ _ _ _
    unfold wp_X7_isTaken_L2
    rw [e]
    exact ⟨fun _ => q, fun c => absurd (nI_le (Nat.le_refl N) (by omega)) c⟩
  · have hv : vp_in (nI k) 200 := vp_in_nI (by omega) (by omega)
    show wp_X7_isTaken_L2 _ _ _ _ _ _ _
    unfold wp_X7_isTaken_L2
    rw [e, nI_clamp (by omega), nI_1]
    exact ⟨fun c => absurd c (nI_ge hk (by omega)), fun _ => ⟨hv, fun c => h2 (fun w => c w.1), fun c => ⟨hv, fun c2 => h2 (fun w => c2 w.2), fun c2 => h1 ⟨c, c2⟩⟩⟩⟩
theorem hasX {g : Nat → Nat} {σ : pr_Sg} {Q : Int32 → pr_Sg → Prop} {N : Nat} {a b : Int32} (hN : N ≤ 200) (e : σ 453 0 0 = nI N) (q1 : (∃ i, i < N ∧ σ 1026 0 i = a ∧ σ 1025 0 i = b) → Q 1 σ) (q0 : (¬ ∃ i, i < N ∧ σ 1026 0 i = a ∧ σ 1025 0 i = b) → Q 0 σ) : wpb_X7_hasSitter g σ a b Q := by
  refine ⟨N + 1, ?_⟩
  refine ex_loop (L := fun d k => wp_X7_hasSitter_L2 g Q d σ a b (nI k)) (P := fun i => σ 1026 0 i = a ∧ σ 1025 0 i = b) (A := Q 1 σ) (B := Q 0 σ) (N := N) (fun d q => ?_) (fun d k hk h1 h2 => ?_) (N + 1) 0 (by omega) (by omega) (fun ⟨i, _, w⟩ => q1 ⟨i, w⟩) (fun w => q0 (fun ⟨i, w2⟩ => w ⟨i, Nat.zero_le i, w2⟩))
  · show wp_X7_hasSitter_L2 _ _ _ _ _ _ _
    unfold wp_X7_hasSitter_L2
    rw [e]
    exact ⟨fun _ => q, fun c => absurd (nI_le (Nat.le_refl N) (by omega)) c⟩
  · have hv : vp_in (nI k) 200 := vp_in_nI (by omega) (by omega)
    show wp_X7_hasSitter_L2 _ _ _ _ _ _ _
    unfold wp_X7_hasSitter_L2
    rw [e, nI_clamp (by omega), nI_1]
    exact ⟨fun c => absurd c (nI_ge hk (by omega)), fun _ => ⟨hv, fun c => h2 (fun w => c w.1), fun c => ⟨hv, fun c2 => h2 (fun w => c2 w.2), fun c2 => h1 ⟨c, c2⟩⟩⟩⟩
theorem freeM {g : Nat → Nat} {σ : pr_Sg} {Q : Int32 → pr_Sg → Prop} {N : Nat} {a b : Int32} (hN : N ≤ 200) (e : σ 608 0 0 = nI N) (q1 : (∃ i, i < N ∧ σ 1059 0 i = a ∧ σ 1060 0 i = b) → Q 0 σ) (q0 : (¬ ∃ i, i < N ∧ σ 1059 0 i = a ∧ σ 1060 0 i = b) → Q 1 σ) : wpb_X9_isFree g σ a b Q := by
  refine ⟨N + 1, ?_⟩
  refine ex_loop (L := fun d k => wp_X9_isFree_L2 g Q d σ a b (nI k)) (P := fun i => σ 1059 0 i = a ∧ σ 1060 0 i = b) (A := Q 0 σ) (B := Q 1 σ) (N := N) (fun d q => ?_) (fun d k hk h1 h2 => ?_) (N + 1) 0 (by omega) (by omega) (fun ⟨i, _, w⟩ => q1 ⟨i, w⟩) (fun w => q0 (fun ⟨i, w2⟩ => w ⟨i, Nat.zero_le i, w2⟩))
  · show wp_X9_isFree_L2 _ _ _ _ _ _ _
    unfold wp_X9_isFree_L2
    rw [e]
    exact ⟨fun _ => q, fun c => absurd (nI_le (Nat.le_refl N) (by omega)) c⟩
  · have hv : vp_in (nI k) 200 := vp_in_nI (by omega) (by omega)
    show wp_X9_isFree_L2 _ _ _ _ _ _ _
    unfold wp_X9_isFree_L2
    rw [e, nI_clamp (by omega), nI_1]
    exact ⟨fun c => absurd c (nI_ge hk (by omega)), fun _ => ⟨hv, fun c => h2 (fun w => c w.1), fun c => ⟨hv, fun c2 => h2 (fun w => c2 w.2), fun c2 => h1 ⟨c, c2⟩⟩⟩⟩
theorem sitsM {g : Nat → Nat} {σ : pr_Sg} {Q : Int32 → pr_Sg → Prop} {N G : Nat} {a b : Int32} (hN : N ≤ 200) (e : σ 608 0 0 = nI N) (hG : G ≤ 40) (hp : ∀ i, i < N → ∃ p, p < G ∧ σ 1058 0 i = nI p ∧ ¬ (20000 : Int32) < σ 1059 0 i) (q1 : (∃ i, i < N ∧ σ 1059 0 i = b ∧ σ 1050 0 (σ 1058 0 i).toNatClampNeg = a) → Q 1 σ) (q0 : (¬ ∃ i, i < N ∧ σ 1059 0 i = b ∧ σ 1050 0 (σ 1058 0 i).toNatClampNeg = a) → Q 0 σ) : wpb_X9_sits g σ a b Q := by
  refine ⟨N + 1, ?_⟩
  refine ex_loop (L := fun d k => wp_X9_sits_L2 g Q d σ a b (nI k)) (P := fun i => σ 1059 0 i = b ∧ σ 1050 0 (σ 1058 0 i).toNatClampNeg = a) (A := Q 1 σ) (B := Q 0 σ) (N := N) (fun d q => ?_) (fun d k hk h1 h2 => ?_) (N + 1) 0 (by omega) (by omega) (fun ⟨i, _, w⟩ => q1 ⟨i, w⟩) (fun w => q0 (fun ⟨i, w2⟩ => w ⟨i, Nat.zero_le i, w2⟩))
  · show wp_X9_sits_L2 _ _ _ _ _ _ _
    unfold wp_X9_sits_L2
    rw [e]
    exact ⟨fun _ => q, fun c => absurd (nI_le (Nat.le_refl N) (by omega)) c⟩
  · have hv : vp_in (nI k) 200 := vp_in_nI (by omega) (by omega)
    obtain ⟨p, hp1, hp2, -⟩ := hp k hk
    show wp_X9_sits_L2 _ _ _ _ _ _ _
    unfold wp_X9_sits_L2
    rw [e, nI_clamp (n := k) (by omega), nI_1]
    exact ⟨fun c => absurd c (nI_ge hk (by omega)), fun _ => ⟨hv, fun c => h2 (fun w => c w.1), fun c => ⟨hv, by rw [hp2]; exact vp_in_nI (by omega) (by omega), fun c2 => h2 (fun w => c2 w.2), fun c2 => h1 ⟨c, c2⟩⟩⟩⟩
theorem wg_pos {g : Nat → Nat} {σ : pr_Sg} {a b : Int32} {Q : Int32 → pr_Sg → Prop} (h : ¬ a < 0 ∧ ¬ b < a) (q : Q 1 σ) : wpb_X8_within g σ a b Q := ⟨fun c => absurd c h.1, fun _ => ⟨fun c => absurd c h.2, fun _ => q⟩⟩
theorem wg_neg {g : Nat → Nat} {σ : pr_Sg} {a b : Int32} {Q : Int32 → pr_Sg → Prop} (h : ¬ (¬ a < 0 ∧ ¬ b < a)) (q : Q 0 σ) : wpb_X8_within g σ a b Q := ⟨fun _ => q, fun c1 => ⟨fun _ => q, fun c2 => absurd ⟨c1, c2⟩ h⟩⟩
theorem ig_pos {g : Nat → Nat} {σ : pr_Sg} {a lo b : Int32} {Q : Int32 → pr_Sg → Prop} (h : ¬ a < lo ∧ ¬ b < a) (q : Q 1 σ) : wpb_X9_in g σ a lo b Q := ⟨fun c => absurd c h.1, fun _ => ⟨fun c => absurd c h.2, fun _ => q⟩⟩
theorem ig_neg {g : Nat → Nat} {σ : pr_Sg} {a lo b : Int32} {Q : Int32 → pr_Sg → Prop} (h : ¬ (¬ a < lo ∧ ¬ b < a)) (q : Q 0 σ) : wpb_X9_in g σ a lo b Q := ⟨fun _ => q, fun c1 => ⟨fun _ => q, fun c2 => absurd ⟨c1, c2⟩ h⟩⟩
theorem cntN_cg {P P' : Nat → Prop} [DecidablePred P] [DecidablePred P'] : ∀ {n : Nat}, (∀ k, k < n → (P k ↔ P' k)) → cntN P n = cntN P' n := by
  intro n
  induction n with
  | zero => intro _; rfl
  | succ n ih =>
    intro h
    unfold cntN
    rw [ih (fun k hk => h k (by omega))]
    have := h n (by omega)
    by_cases hp : P n
    · simp [hp, this.mp hp]
    · have hp' : ¬ P' n := fun q => hp (this.mpr q)
      simp [hp, hp']
theorem cntN_le {P : Nat → Prop} [DecidablePred P] : ∀ n, cntN P n ≤ n := by
  intro n
  induction n with
  | zero => exact Nat.le_refl _
  | succ n ih =>
    unfold cntN
    split <;> omega
/-- couldBe of the reference, where the picture is there -/
theorem couldM {g : Nat → Nat} {σ : pr_Sg} {Q : Int32 → pr_Sg → Prop} {p s N : Nat} {a2 a3 : Int32} (hp : p < 40) (hs : s < 20) (es : σ 1050 0 p = nI s) (hN : N ≤ 200) (e : σ 608 0 0 = nI N)
    (q1 : ((¬ a3 < 0 ∧ ¬ LH a2 - 1 < a3) ∧ (¬ a3 < σ 1047 0 s ∧ ¬ σ 1048 0 s < a3) ∧ ¬ ∃ i, i < N ∧ σ 1059 0 i = a2 ∧ σ 1060 0 i = a3) → Q 1 σ) (q0 : ¬ ((¬ a3 < 0 ∧ ¬ LH a2 - 1 < a3) ∧ (¬ a3 < σ 1047 0 s ∧ ¬ σ 1048 0 s < a3) ∧ ¬ ∃ i, i < N ∧ σ 1059 0 i = a2 ∧ σ 1060 0 i = a3) → Q 0 σ) : wpb_X9_couldBe g σ (nI p) a2 a3 Q := by
  unfold wpb_X9_couldBe
  show wpb_X9_lightOf _ _ _ _
  unfold wpb_X9_lightOf
  show wpb_X9_in g σ a3 (0 : Int32) (LH a2 - (1 : Int32)) _
  have v1 : vp_in (nI p) 40 := vp_in_nI hp (by omega)
  have v2 : vp_in (nI s) 20 := vp_in_nI hs (by omega)
  by_cases c4 : ¬ a3 < 0 ∧ ¬ LH a2 - 1 < a3
  · refine ig_pos c4 (z_t ?_)
    rw [nI_clamp (n := p) (by omega), es, nI_clamp (n := s) (by omega)]
    refine ⟨v1, v2, v1, v2, ?_⟩
    by_cases c5 : ¬ a3 < σ 1047 0 s ∧ ¬ σ 1048 0 s < a3
    · refine ig_pos c5 (z_t ?_)
      exact freeM hN e (fun w => z_f (q0 (fun q => q.2.2 w))) (fun w => z_t (q1 ⟨c4, c5, w⟩))
    · exact ig_neg c5 (z_f (q0 (fun q => c5 q.2.1)))
  · exact ig_neg c4 (z_f (q0 (fun q => c4 q.1)))
