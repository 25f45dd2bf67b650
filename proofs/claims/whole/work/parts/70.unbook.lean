theorem fd_loop {L : Nat → Nat → Prop} {P A : Nat → Prop} {B : Prop} {N : Nat} (hend : ∀ d, B → L (d + 1) N) (hstep : ∀ d k, k < N → (P k → A k) → (¬ P k → L d (k + 1)) → L (d + 1) k) : ∀ d k, k ≤ N → N - k < d → (∀ i, k ≤ i → i < N → P i → A i) → ((¬ ∃ i, k ≤ i ∧ i < N ∧ P i) → B) → L d k := by
  intro d
  induction d with
  | zero => intro k _ h2; exact absurd h2 (by omega)
  | succ d ih =>
    intro k hk hd ha hb
    by_cases e : k = N
    · subst e
      exact hend d (hb (fun ⟨j, j1, j2, _⟩ => by omega))
    · have h1 : k < N := by omega
      have h2 : k + 1 ≤ N := by omega
      have h3 : N - (k + 1) < d := by omega
      refine hstep d k h1 (fun w => ha k (Nat.le_refl k) h1 w) (fun w => ih (k + 1) h2 h3 (fun j j1 j2 j3 => ha j (Nat.le_of_succ_le j1) j2 j3) (fun w2 => hb (fun ⟨j, j1, j2, j3⟩ => ?_)))
      by_cases ej : j = k
      · subst ej
        exact w j3
      · exact w2 ⟨j, by omega, j2, j3⟩
theorem unusedX {g : Nat → Nat} {σ : pr_Sg} {Q : Int32 → pr_Sg → Prop} {N : Nat} {a b : Int32} (hN : N ≤ 200) (e : σ 453 0 0 = nI N) (q1 : ∀ i, i < N → σ 1024 0 i = a ∧ σ 1026 0 i = b ∧ σ 1070 0 i = 0 → Q (nI i) σ) (q0 : (¬ ∃ i, i < N ∧ σ 1024 0 i = a ∧ σ 1026 0 i = b ∧ σ 1070 0 i = 0) → Q (-1) σ) : wpb_X7_unusedOf g σ a b Q := by
  refine ⟨N + 1, ?_⟩
  refine fd_loop (L := fun d k => wp_X7_unusedOf_L2 g Q d σ a b (nI k)) (P := fun i => σ 1024 0 i = a ∧ σ 1026 0 i = b ∧ σ 1070 0 i = 0) (A := fun i => Q (nI i) σ) (B := Q (-1) σ) (N := N) (fun d q => ?_) (fun d k hk h1 h2 => ?_) (N + 1) 0 (by omega) (by omega) (fun i _ => q1 i) (fun w => q0 (fun ⟨i, w2⟩ => w ⟨i, Nat.zero_le i, w2⟩))
  · show wp_X7_unusedOf_L2 _ _ _ _ _ _ _
    unfold wp_X7_unusedOf_L2
    rw [e]
    exact ⟨fun _ => q, fun c => absurd (nI_le (Nat.le_refl N) (by omega)) c⟩
  · have hv : vp_in (nI k) 200 := vp_in_nI (by omega) (by omega)
    show wp_X7_unusedOf_L2 _ _ _ _ _ _ _
    unfold wp_X7_unusedOf_L2
    rw [e, nI_clamp (by omega), nI_1]
    exact ⟨fun c => absurd c (nI_ge hk (by omega)), fun _ => ⟨hv, fun c => h2 (fun w => c w.1), fun c => ⟨hv, fun c2 => h2 (fun w => c2 w.2.1), fun c2 => ⟨hv, fun c3 => h2 (fun w => c3 w.2.2), fun c3 => h1 ⟨c, c2, c3⟩⟩⟩⟩⟩
theorem unusedM {g : Nat → Nat} {σ : pr_Sg} {Q : Int32 → pr_Sg → Prop} {N : Nat} {a b : Int32} (hN : N ≤ 200) (e : σ 608 0 0 = nI N) (q1 : ∀ i, i < N → σ 1058 0 i = a ∧ σ 1059 0 i = b ∧ σ 1071 0 i = 0 → Q (nI i) σ) (q0 : (¬ ∃ i, i < N ∧ σ 1058 0 i = a ∧ σ 1059 0 i = b ∧ σ 1071 0 i = 0) → Q (-1) σ) : wpb_X9_unused g σ a b Q := by
  refine ⟨N + 1, ?_⟩
  refine fd_loop (L := fun d k => wp_X9_unused_L2 g Q d σ a b (nI k)) (P := fun i => σ 1058 0 i = a ∧ σ 1059 0 i = b ∧ σ 1071 0 i = 0) (A := fun i => Q (nI i) σ) (B := Q (-1) σ) (N := N) (fun d q => ?_) (fun d k hk h1 h2 => ?_) (N + 1) 0 (by omega) (by omega) (fun i _ => q1 i) (fun w => q0 (fun ⟨i, w2⟩ => w ⟨i, Nat.zero_le i, w2⟩))
  · show wp_X9_unused_L2 _ _ _ _ _ _ _
    unfold wp_X9_unused_L2
    rw [e]
    exact ⟨fun _ => q, fun c => absurd (nI_le (Nat.le_refl N) (by omega)) c⟩
  · have hv : vp_in (nI k) 200 := vp_in_nI (by omega) (by omega)
    show wp_X9_unused_L2 _ _ _ _ _ _ _
    unfold wp_X9_unused_L2
    rw [e, nI_clamp (by omega), nI_1]
    exact ⟨fun c => absurd c (nI_ge hk (by omega)), fun _ => ⟨hv, fun c => h2 (fun w => c w.1), fun c => ⟨hv, fun c2 => h2 (fun w => c2 w.2.1), fun c2 => ⟨hv, fun c3 => h2 (fun w => c3 w.2.2), fun c3 => h1 ⟨c, c2, c3⟩⟩⟩⟩⟩
theorem SITS.unused {n G : Nat} {P S D H U P' D' H' U' st bk us : Nat → Int32} (h : SITS n G P S D H U P' D' H' U' st bk us) (a b : Int32) : (∃ i, i < n ∧ P i = a ∧ D i = b ∧ U i = 0) ↔ (∃ i, i < n ∧ P' i = a ∧ D' i = b ∧ U' i = 0) := by
  obtain ⟨s1, s2, s3, s4, s5, -⟩ := h
  constructor
  · rintro ⟨i, hi, e1, e2, e3⟩
    obtain ⟨j, hj, m1, m2, m3, m4⟩ := (s5 a b (H i) 0).mp ⟨i, hi, e1, e2, rfl, e3⟩
    exact ⟨j, hj, m1, m2, m4⟩
  · rintro ⟨i, hi, e1, e2, e3⟩
    obtain ⟨j, hj, m1, m2, m3, m4⟩ := (s5 a b (H' i) 0).mpr ⟨i, hi, e1, e2, rfl, e3⟩
    exact ⟨j, hj, m1, m2, m4⟩
theorem nar01 {x : Int32} (h : x = 0 ∨ x = 1) : vp_nar .boolean x = x := by
  rcases h with rfl | rfl
  · exact nar0
  · exact nar1
def rmX (σ : pr_Sg) (n k : Nat) : pr_Sg := pr_up (pr_up (pr_up (pr_up (pr_up (pr_up σ 453 0 0 (nI n)) 1024 0 k (σ 1024 0 n)) 1025 0 k (σ 1025 0 n)) 1026 0 k (σ 1026 0 n)) 1027 0 k (σ 1027 0 n)) 1070 0 k (σ 1070 0 n)
theorem removeX {g : Nat → Nat} {σ : pr_Sg} {Q : pr_Sg → Prop} {n k : Nat} (hN : n + 1 ≤ 200) (hk : k < n + 1) (e : σ 453 0 0 = nI (n + 1)) (hz : σ 1070 0 n = 0 ∨ σ 1070 0 n = 1) (q : Q (rmX σ n k)) : wpb_X7_remove g σ (nI k) Q := by
  unfold wpb_X7_remove
  refine ⟨fun c => absurd c (nI_pos (by omega)), fun _ => ⟨fun _ => ?_, fun c => absurd (by rw [e]; exact nI_lt hk (by omega)) c⟩⟩
  rw [e, nI_pred, nI_clamp (n := k) (by omega)]
  have v : vp_in (nI n) 200 := vp_in_nI (by omega) (by omega)
  have v2 : vp_in (nI k) 200 := vp_in_nI (by omega) (by omega)
  have cl : (nI n).toNatClampNeg = n := nI_clamp (by omega)
  intro σ3 e3
  have f3 : σ3 453 0 0 = nI n := by rw [e3, up_eq]
  rw [f3]
  refine ⟨v, v2, fun σ4 e4 => ?_⟩
  have f4 : σ4 453 0 0 = nI n := by rw [e4, up_tag (by decide)]; exact f3
  rw [f4]
  refine ⟨v, v2, fun σ5 e5 => ?_⟩
  have f5 : σ5 453 0 0 = nI n := by rw [e5, up_tag (by decide)]; exact f4
  rw [f5]
  refine ⟨v, v2, fun σ6 e6 => ?_⟩
  have f6 : σ6 453 0 0 = nI n := by rw [e6, up_tag (by decide)]; exact f5
  rw [f6]
  refine ⟨v, v2, fun σ7 e7 => ?_⟩
  have f7 : σ7 453 0 0 = nI n := by rw [e7, up_tag (by decide)]; exact f6
  rw [f7]
  refine ⟨v, v2, fun σ8 e8 => ?_⟩
  have : σ8 = rmX σ n k := by
    rw [cl] at e4 e5 e6 e7 e8
    have g3 : σ3 1024 0 n = σ 1024 0 n := by rw [e3, up_tag (by decide)]
    have g4 : σ4 1025 0 n = σ 1025 0 n := by rw [e4, e3, up_tag (by decide), up_tag (by decide)]
    have g5 : σ5 1026 0 n = σ 1026 0 n := by rw [e5, e4, e3, up_tag (by decide), up_tag (by decide), up_tag (by decide)]
    have g6 : σ6 1027 0 n = σ 1027 0 n := by rw [e6, e5, e4, e3, up_tag (by decide), up_tag (by decide), up_tag (by decide), up_tag (by decide)]
    have g7 : σ7 1070 0 n = σ 1070 0 n := by rw [e7, e6, e5, e4, e3, up_tag (by decide), up_tag (by decide), up_tag (by decide), up_tag (by decide), up_tag (by decide)]
    rw [g3] at e4
    rw [g4] at e5
    rw [g5] at e6
    rw [g6] at e7
    rw [g7, nar01 hz] at e8
    rw [e8, e7, e6, e5, e4, e3]
    rfl
  rw [this]
  exact q
/-- the reference's sittings, moved up from k on, as far as j -/
def shJ (σ τ : pr_Sg) (k j : Nat) : Prop := (∀ t, t ∉ ([1058, 1059, 1060, 1071] : List Nat) → τ t = σ t) ∧ ∀ t ∈ ([1058, 1059, 1060, 1071] : List Nat), ∀ x, τ t 0 x = if k ≤ x ∧ x < j then σ t 0 (x + 1) else σ t 0 x
theorem up4 {τ : pr_Sg} {j : Nat} {v1 v2 v3 v4 : Int32} (t : Nat) (x : Nat) : pr_up (pr_up (pr_up (pr_up τ 1058 0 j v1) 1059 0 j v2) 1060 0 j v3) 1071 0 j v4 t 0 x = if x = j then (if t = 1058 then v1 else if t = 1059 then v2 else if t = 1060 then v3 else if t = 1071 then v4 else τ t 0 x) else τ t 0 x := by
  by_cases e : x = j
  · subst e
    simp only [pr_up, and_true, if_true]
    by_cases e1 : t = 1058
    · subst e1; simp
    · by_cases e2 : t = 1059
      · subst e2; simp
      · by_cases e3 : t = 1060
        · subst e3; simp
        · by_cases e4 : t = 1071
          · subst e4; simp
          · simp [e1, e2, e3, e4]
  · simp [pr_up, e]
theorem shM_loop {g : Nat → Nat} {σ : pr_Sg} {Q : Int32 → pr_Sg → Prop} {n k : Nat} (hn : n < 200) (e : σ 608 0 0 = nI n) (hz : ∀ i, i < n + 1 → σ 1071 0 i = 0 ∨ σ 1071 0 i = 1) (q : ∀ τ, shJ σ τ k n → Q 1 τ) : ∀ d j τ, k ≤ j → j ≤ n → n - j < d → shJ σ τ k j → wp_X9_unbook_L39 g Q d τ (nI j) := by
  intro d
  induction d with
  | zero => intro j τ _ _ h; exact absurd h (by omega)
  | succ d ih =>
    intro j τ h1 h2 h3 hJ
    have f : τ 608 0 0 = nI n := by rw [hJ.1 608 (by decide)]; exact e
    unfold wp_X9_unbook_L39
    rw [f]
    by_cases ej : j = n
    · subst ej
      exact ⟨fun _ => q τ hJ, fun c => absurd (nI_le (Nat.le_refl _) (by omega)) c⟩
    · have hj : j < n := by omega
      refine ⟨fun c => absurd c (nI_ge hj (by omega)), fun _ => ?_⟩
      rw [nI_1, nI_clamp (n := j) (by omega), nI_clamp (n := j + 1) (by omega)]
      have v1 : vp_in (nI (j + 1)) 200 := vp_in_nI (by omega) (by omega)
      have v0 : vp_in (nI j) 200 := vp_in_nI (by omega) (by omega)
      refine ⟨v1, v0, fun σ6 e6 => ⟨v1, v0, fun σ7 e7 => ⟨v1, v0, fun σ8 e8 => ⟨v1, v0, fun σ9 e9 => ?_⟩⟩⟩⟩
      refine ih (j + 1) σ9 (by omega) (by omega) (by omega) ?_
      have r : ∀ t ∈ ([1058, 1059, 1060, 1071] : List Nat), τ t 0 (j + 1) = σ t 0 (j + 1) := fun t ht => by
        rw [hJ.2 t ht, if_neg (by omega)]
      have e7' : σ6 1059 0 (j + 1) = σ 1059 0 (j + 1) := by rw [e6, up_tag (by decide), r 1059 (by decide)]
      have e8' : σ7 1060 0 (j + 1) = σ 1060 0 (j + 1) := by rw [e7, e6, up_tag (by decide), up_tag (by decide), r 1060 (by decide)]
      have e9' : σ8 1071 0 (j + 1) = σ 1071 0 (j + 1) := by rw [e8, e7, e6, up_tag (by decide), up_tag (by decide), up_tag (by decide), r 1071 (by decide)]
      rw [r 1058 (by decide)] at e6
      rw [e7'] at e7
      rw [e8'] at e8
      rw [e9', nar01 (hz (j + 1) (by omega))] at e9
      rw [e9, e8, e7, e6]
      refine ⟨fun t ht => ?_, fun t ht x => ?_⟩
      · rw [← hJ.1 t ht]
        exact (ag_up (ag_up (ag_up (ag_up ag_rf 1058 0 j _ (by decide)) 1059 0 j _ (by decide)) 1060 0 j _ (by decide)) 1071 0 j _ (by decide) : ag [1058, 1059, 1060, 1071] τ _) t ht
      · rw [up4, hJ.2 t ht]
        by_cases ex : x = j
        · subst ex
          have q1 : k ≤ x ∧ x < x + 1 := ⟨h1, by omega⟩
          rw [if_pos rfl, if_pos q1]
          simp only [List.mem_cons, List.not_mem_nil, or_false] at ht
          rcases ht with rfl | rfl | rfl | rfl <;> simp
        · rw [if_neg ex]
          by_cases c : k ≤ x ∧ x < j
          · rw [if_pos c, if_pos ⟨c.1, by omega⟩]
          · rw [if_neg c, if_neg (by omega)]
theorem f_unbook : pr_fact_unbook Inv := by
  intro g σ a1 a2 hI
  obtain ⟨h1, h2, h3, h4, h5, h6, h7, h8, h9, h10, h11, h12, h13⟩ := id hI
  obtain ⟨N, hN, eX, eM, hS⟩ := sits_iff.mp h13
  obtain ⟨d, hd, e520, e576⟩ := id h1
  have hG := h7.1
  have M0 : (¬ ∃ i, i < N ∧ σ 1058 0 i = a1 ∧ σ 1059 0 i = a2 ∧ σ 1071 0 i = 0) → wp_X9_unbook g σ a1 a2 (fun r2 σ2 => (0 : Int32) = r2 ∧ Inv g σ2) := fun w => by
    show wpb_X9_unbook _ _ _ _ _
    unfold wpb_X9_unbook
    refine ⟨fun _ => ?_, fun _ => ⟨rfl, hI⟩⟩
    refine unusedM hN eM (fun i hi q => absurd ⟨i, hi, q⟩ w) (fun _ => ?_)
    exact ⟨fun c => absurd rfl c, fun _ => ⟨rfl, hI⟩⟩
  show wpb_X8_unbook _ _ _ _ _
  unfold wpb_X8_unbook
  rcases ix a1 (g 2) with ⟨p, hp, rfl⟩ | hn
  rotate_left
  · refine pic_neg h7 hn (o_n (M0 ?_))
    rintro ⟨i, hi, w, -⟩
    obtain ⟨p, hp, f, -⟩ := hS.2.1 i hi
    exact hn p hp (w.symm.trans f)
  refine pic_pos h7 hp (o_s ?_)
  by_cases c2 : ¬ a2 < σ 520 0 0 ∧ ¬ (20000 : Int32) < a2
  rotate_left
  · refine nol_neg c2 (y_f ?_)
    by_cases c3 : a2 < σ 520 0 0
    · show wpb_X9_unbook _ _ _ _ _
      unfold wpb_X9_unbook
      refine ⟨fun c => ?_, fun _ => ⟨rfl, hI⟩⟩
      rw [e576, ← e520] at c
      exact absurd c3 (Int32.not_lt.mpr c)
    · refine M0 ?_
      rintro ⟨i, hi, -, w, -⟩
      obtain ⟨q, hq, f, f2⟩ := hS.2.1 i hi
      rw [w] at f2
      exact c2 ⟨c3, f2⟩
  refine nol_pos c2 (y_t ?_)
  refine unusedX hN eX (fun k hk w => ?_) (fun w => ⟨fun c => absurd rfl c, fun _ => M0 (fun q => w ((hS.unused _ _).mpr q))⟩)
  refine ⟨fun _ => ?_, fun c => absurd c (nI_ne1 (by omega))⟩
  obtain ⟨n, rfl⟩ : ∃ n, N = n + 1 := ⟨N - 1, by omega⟩
  refine removeX hN hk eX (hS.2.2.1 n (by omega)) ?_
  intro σ7 e7
  have ha : ag [453, 1024, 1025, 1026, 1027, 1070, 199] σ σ7 := by
    rw [e7]
    unfold rmX
    refine ag_up (ag_up (ag_up (ag_up (ag_up (ag_up (ag_up ag_rf _ _ _ _ ?_) _ _ _ _ ?_) _ _ _ _ ?_) _ _ _ _ ?_) _ _ _ _ ?_) _ _ _ _ ?_) _ _ _ _ ?_ <;> decide
  show wpb_X9_unbook _ _ _ _ _
  unfold wpb_X9_unbook
  have f576 : σ7 576 0 0 = σ 520 0 0 := by rw [ha 576 (by decide), e576, e520]
  refine ⟨fun _ => ?_, fun c => absurd (by rw [f576]; exact Int32.not_lt.mp c2.1) c⟩
  have f608 : σ7 608 0 0 = nI (n + 1) := by rw [ha 608 (by decide), eM]
  refine unusedM hN f608 (fun k' hk' w' => ?_) (fun w' => absurd ((hS.unused _ _).mp ⟨k, hk, w⟩) (by rwa [ha 1058 (by decide), ha 1059 (by decide), ha 1071 (by decide)] at w'))
  rw [ha 1058 (by decide), ha 1059 (by decide), ha 1071 (by decide)] at w'
  refine ⟨fun _ => ?_, fun c => absurd c (nI_ne1 (by omega))⟩
  intro σ8 e8
  rw [f608, nI_pred] at e8
  have g608 : σ8 608 0 0 = nI n := by rw [e8, up_eq]
  have hb : ag [453, 1024, 1025, 1026, 1027, 1070, 199, 608] σ σ8 := fun t ht => by
    rw [e8, ← ha t (fun q => ht (by revert q; simp; omega))]
    funext i j
    exact up_tag (fun q => ht (by rw [q]; decide))
  refine ⟨n + 1, ?_⟩
  refine shM_loop (k := k') (n := n) (σ := σ8) (by omega) g608 (by rw [hb 1071 (by decide)]; exact hS.2.2.2.1) (fun τ hJ => ⟨rfl, ?_⟩) (n + 1) k' σ8 (Nat.le_refl _) (by omega) (by omega) ⟨fun _ _ => rfl, fun t _ x => by rw [if_neg (by omega)]⟩
  have hc : ag [453, 1024, 1025, 1026, 1027, 1070, 199, 608, 1058, 1059, 1060, 1071] σ τ := fun t ht => by
    rw [hJ.1 t (fun q => ht (by revert q; simp; omega)), hb t (fun q => ht (by revert q; simp; omega))]
  refine ⟨h1.cg hc, h2.cg hc, h3.cg hc, h4.cg hc, h5.cg hc, h6.cg hc, h7.cg hc, h8.cg hc, h9.cg hc, h10.cg hc, h11.cg hc, h12.cg hc, ?_⟩
  have up : ∀ t, t ∉ ([1058, 1059, 1060, 1071, 608] : List Nat) → τ t = σ7 t := fun t ht => by
    rw [hJ.1 t (fun q => ht (by revert q; simp; omega)), e8]
    funext i j
    exact up_tag (fun q => ht (by rw [q]; decide))
  have sh : ∀ t ∈ ([1058, 1059, 1060, 1071] : List Nat), ∀ x, x < n → τ t 0 x = σ t 0 (if x < k' then x else x + 1) := fun t ht x hx => by
    rw [hJ.2 t ht, hb t (by revert t; decide)]
    by_cases c : x < k'
    · rw [if_pos c, if_neg (by omega)]
    · rw [if_neg c, if_pos ⟨by omega, hx⟩]
  refine sits_iff.mpr ⟨n, by omega, ?_, ?_, ?_⟩
  · rw [up 453 (by decide), e7]
    simp [rmX, pr_up]
  · rw [hJ.1 608 (by decide)]
    exact g608
  · rw [hc 1050 (by decide), up 1024 (by decide), up 1025 (by decide), up 1026 (by decide), up 1027 (by decide), up 1070 (by decide), up 199 (by decide), up 200 (by decide)]
    refine SITS.rem (p := p) (k := k) (k' := k') (b := a2) hS hN hG hp hk hk' w.1 w.2.1 w'.1 w'.2.1 w'.2.2 ?_ ?_ ?_ ?_ ?_ (sh 1058 (by decide)) (sh 1059 (by decide)) (sh 1060 (by decide)) (sh 1071 (by decide)) ?_ ?_
    · intro i; simp [e7, rmX, pr_up]
    · intro i; simp [e7, rmX, pr_up]
    · intro i; simp [e7, rmX, pr_up]
    · intro i; simp [e7, rmX, pr_up]
    · intro i _; simp [e7, rmX, pr_up]
    · intro i; simp [e7, rmX, pr_up]
    · intro i; simp [e7, rmX, pr_up]
