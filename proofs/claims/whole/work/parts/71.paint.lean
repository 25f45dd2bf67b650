/-- what stands against a layer, as a number -/
def ansR (c1 c2 c3 c4 c5 c6 : Prop) (r : Int32) : Prop := (c1 ∧ r = 1) ∨ (¬ c1 ∧ c2 ∧ r = 2) ∨ (¬ c1 ∧ ¬ c2 ∧ c3 ∧ r = 3) ∨ (¬ c1 ∧ ¬ c2 ∧ ¬ c3 ∧ c4 ∧ r = 4) ∨ (¬ c1 ∧ ¬ c2 ∧ ¬ c3 ∧ ¬ c4 ∧ c5 ∧ r = 5) ∨ (¬ c1 ∧ ¬ c2 ∧ ¬ c3 ∧ ¬ c4 ∧ ¬ c5 ∧ c6 ∧ r = 6) ∨ (¬ c1 ∧ ¬ c2 ∧ ¬ c3 ∧ ¬ c4 ∧ ¬ c5 ∧ ¬ c6 ∧ r = 0)
theorem ansR_det {c1 c2 c3 c4 c5 c6 : Prop} {r r' : Int32} (h : ansR c1 c2 c3 c4 c5 c6 r) (h' : ansR c1 c2 c3 c4 c5 c6 r') : r = r' := by
  unfold ansR at h h'
  rcases h with ⟨_, e⟩ | ⟨_, _, e⟩ | ⟨_, _, _, e⟩ | ⟨_, _, _, _, e⟩ | ⟨_, _, _, _, _, e⟩ | ⟨_, _, _, _, _, _, e⟩ | ⟨_, _, _, _, _, _, e⟩ <;> rcases h' with ⟨_, e'⟩ | ⟨_, _, e'⟩ | ⟨_, _, _, e'⟩ | ⟨_, _, _, _, e'⟩ | ⟨_, _, _, _, _, e'⟩ | ⟨_, _, _, _, _, _, e'⟩ | ⟨_, _, _, _, _, _, e'⟩ <;> first | contradiction | exact e.trans e'.symm
theorem ansR_pos {c1 c2 c3 c4 c5 c6 : Prop} {r : Int32} (h : ansR c1 c2 c3 c4 c5 c6 r) (h0 : ¬ r = 0) : ¬ r ≤ 0 := by
  unfold ansR at h
  rcases h with ⟨_, e⟩ | ⟨_, _, e⟩ | ⟨_, _, _, e⟩ | ⟨_, _, _, _, e⟩ | ⟨_, _, _, _, _, e⟩ | ⟨_, _, _, _, _, _, e⟩ | ⟨_, _, _, _, _, _, e⟩ <;> first | exact absurd e h0 | (rw [e]; decide)
theorem ansR_0 {c1 c2 c3 c4 c5 c6 : Prop} {r : Int32} (h : ansR c1 c2 c3 c4 c5 c6 r) (h0 : r = 0) : ¬ c1 ∧ ¬ c2 ∧ ¬ c3 ∧ ¬ c4 ∧ ¬ c5 ∧ ¬ c6 := by
  unfold ansR at h
  subst h0
  rcases h with ⟨_, e⟩ | ⟨_, _, e⟩ | ⟨_, _, _, e⟩ | ⟨_, _, _, _, e⟩ | ⟨_, _, _, _, _, e⟩ | ⟨_, _, _, _, _, _, e⟩ | ⟨b1, b2, b3, b4, b5, b6, e⟩
  all_goals first | exact absurd e (by decide) | exact ⟨b1, b2, b3, b4, b5, b6⟩
theorem nk0 {k : Nat} (h : k < 2 ^ 31) : nI k = 0 ↔ k = 0 := nI_eq (b := 0) h (by omega)
theorem nk2 {k : Nat} (h : k < 2 ^ 31) : nI k = 2 ↔ k = 2 := nI_eq (b := 2) h (by omega)
def x5P (σ : pr_Sg) (p N : Nat) : Prop := ∃ i, i < N ∧ σ 1024 0 i = nI p ∧ σ 1026 0 i = σ 520 0 0 ∧ σ 1070 0 i = 0
def x6P (σ : pr_Sg) (p : Nat) : Prop := ∃ r, r < 5 ∧ σ 193 p 0 = nI r ∧ σ 1029 0 r = σ 520 0 0 ∧ ¬ σ 1028 0 r = nI p
theorem stX {g : Nat → Nat} {σ : pr_Sg} {Q : Int32 → pr_Sg → Prop} {p k h N : Nat} (h5 : I_hand g σ) (h7 : I_pic g σ) (hp : p < g 2) (hk : k < 5) (hh : h < g 0) (hN : N ≤ 200) (e : σ 453 0 0 = nI N) (hr : σ 193 p 0 = -1 ∨ ∃ r, r < 5 ∧ σ 193 p 0 = nI r) (q : ∀ r, ansR (σ 128 p k ≤ σ 129 p k) (wetP σ p k) (k = 0 ∧ h ≠ 0) (σ 1 h 0 = σ 520 0 0 ∧ ¬ σ 2 h 0 < 3) (k = 0 ∧ ¬ x5P σ p N) (k = 2 ∧ x6P σ p) r → Q r σ) : wpb_X8_standsAgainst g σ (nI p) (nI k) (nI h) Q := by
  have hG := h7.1
  have hH := h5.2.1
  unfold wpb_X8_standsAgainst
  refine pic_pos h7 hp (o_s ?_)
  refine part_pos h7 hp hk (o_s2 ?_)
  refine hand_pos h5 hh (o_s ?_)
  refine ⟨fun c1 => y_f (q 1 (Or.inl ⟨c1, rfl⟩)), fun c1 => y_t ?_⟩
  refine ⟨vp_in_nI hk (by omega), ?_⟩
  rw [nI_clamp (n := k) (by omega)]
  by_cases c2 : wetP σ p k
  · exact wetX_pos c2 (z_t (q 2 (Or.inr (Or.inl ⟨c1, c2, rfl⟩))))
  refine wetX_neg c2 (z_f ?_)
  have L79 : ¬ (k = 0 ∧ h ≠ 0) → wp_X8_standsAgainst_L79 g Q σ (nI p) (nI k) p h := fun c3 => by
    unfold wp_X8_standsAgainst_L79
    by_cases c4 : σ 1 h 0 = σ 520 0 0 ∧ ¬ σ 2 h 0 < 3
    · exact ⟨fun c => absurd c4.1 c, fun _ => ⟨fun c => absurd c c4.2, fun _ => q 4 (Or.inr (Or.inr (Or.inr (Or.inl ⟨c1, c2, c3, c4, rfl⟩))))⟩⟩
    have L116 : ¬ (k = 0 ∧ ¬ x5P σ p N) → wp_X8_standsAgainst_L116 g Q σ (nI p) (nI k) p := fun c5 => by
      unfold wp_X8_standsAgainst_L116
      have q0 : ¬ (k = 2 ∧ x6P σ p) → Q 0 σ := fun c6 => q 0 (Or.inr (Or.inr (Or.inr (Or.inr (Or.inr (Or.inr ⟨c1, c2, c3, c4, c5, c6, rfl⟩))))))
      refine ⟨fun k2 => q0 (fun w => k2 ((nk2 (by omega)).mpr w.1)), fun k2 => ?_⟩
      have k2' := (nk2 (by omega)).mp k2
      show wpb_X5_isAway _ _ _ _ _ _
      unfold wpb_X5_isAway
      rcases hr with er | ⟨r, hr, er⟩
      · rw [er]
        refine wg_neg (by decide) (z_f (z_f (q0 ?_)))
        rintro ⟨-, r, hr, f, -⟩
        exact nI_ne1 (by omega) (f.symm.trans er)
      · rw [er]
        have v : vp_in (nI r) 5 := vp_in_nI hr (by omega)
        refine w_pos 4 rfl (by omega) hr (z_t ?_)
        rw [nI_clamp (n := r) (by omega)]
        have un : ∀ r', r' < 5 → σ 193 p 0 = nI r' → r' = r := fun r' h1 h2 => (nI_eq (by omega) (by omega)).mp (h2.symm.trans er)
        refine ⟨v, fun c => z_f (q0 ?_), fun c => ⟨v, fun c' => z_f (q0 ?_), fun c' => z_t (q 6 ?_)⟩⟩
        · rintro ⟨-, r', hr', f1, f2, f3⟩
          rw [un r' hr' f1] at f2
          exact c f2
        · rintro ⟨-, r', hr', f1, f2, f3⟩
          rw [un r' hr' f1] at f3
          exact f3 c'
        · exact Or.inr (Or.inr (Or.inr (Or.inr (Or.inr (Or.inl ⟨c1, c2, c3, c4, c5, ⟨k2', r, hr, er, c, c'⟩, rfl⟩)))))
    have X : (¬ nI k = 0 → wp_X8_standsAgainst_L116 g Q σ (nI p) (nI k) p) ∧ (nI k = 0 → wp_X7_unusedOf g σ (nI p) (σ 520 0 0) (fun r19 σ19 => (¬ r19 = (-1 : Int32) → wp_X8_standsAgainst_L116 g Q σ19 (nI p) (nI k) p) ∧ (r19 = (-1 : Int32) → Q (5 : Int32) σ19))) := by
      refine ⟨fun k0 => L116 (fun w => k0 ((nk0 (by omega)).mpr w.1)), fun k0 => ?_⟩
      refine unusedX hN e (fun i hi w => ⟨fun _ => L116 (fun w' => w'.2 ⟨i, hi, w⟩), fun c => absurd c (nI_ne1 (by omega))⟩) (fun w => ⟨fun c => absurd rfl c, fun _ => q 5 (Or.inr (Or.inr (Or.inr (Or.inr (Or.inl ⟨c1, c2, c3, c4, ⟨(nk0 (by omega)).mp k0, w⟩, rfl⟩)))))⟩)
    exact ⟨fun c => ⟨fun _ => X, fun c' => absurd (by decide) c'⟩, fun c => ⟨fun _ => X, fun c' => absurd ⟨c, c'⟩ c4⟩⟩
  refine ⟨fun k0 => L79 (fun w => k0 ((nk0 (by omega)).mpr w.1)), fun k0 => ⟨fun h0 => L79 (fun w => w.2 ((nk0 (by omega)).mp h0)), fun h0 => q 3 (Or.inr (Or.inr (Or.inl ⟨c1, c2, ⟨(nk0 (by omega)).mp k0, fun w => h0 ((nk0 (by omega)).mpr w)⟩, rfl⟩)))⟩⟩
def m2P (σ : pr_Sg) (p k : Nat) : Prop := ¬ σ 1066 p k = (-1 : Int32) ∧ ¬ σ 1043 0 k ≤ σ 576 0 0 - σ 1066 p k
def m5P (σ : pr_Sg) (p N : Nat) : Prop := ∃ i, i < N ∧ σ 1058 0 i = nI p ∧ σ 1059 0 i = σ 576 0 0 ∧ σ 1071 0 i = 0
def m6P (σ : pr_Sg) (p : Nat) : Prop := ∃ r, r < 5 ∧ σ 1054 0 p = nI r ∧ σ 1056 0 r = σ 576 0 0 ∧ ¬ σ 1057 0 r = nI p
theorem wM_pos {g : Nat → Nat} {σ : pr_Sg} {p k : Nat} {Q : Int32 → pr_Sg → Prop} (hp : p < 40) (hk : k < 5) (h : m2P σ p k) (q : Q 1 σ) : wpb_X9_isWet g σ (nI p) (nI k) Q := by
  unfold wpb_X9_isWet
  rw [nI_clamp (n := p) (by omega), nI_clamp (n := k) (by omega)]
  have v := vp_in_nI hp (by omega)
  have v2 := vp_in_nI hk (by omega)
  exact ⟨v, v2, fun c => absurd c h.1, fun _ => ⟨v, v2, v2, fun c => absurd c h.2, fun _ => q⟩⟩
theorem wM_neg {g : Nat → Nat} {σ : pr_Sg} {p k : Nat} {Q : Int32 → pr_Sg → Prop} (hp : p < 40) (hk : k < 5) (h : ¬ m2P σ p k) (q : Q 0 σ) : wpb_X9_isWet g σ (nI p) (nI k) Q := by
  unfold wpb_X9_isWet
  rw [nI_clamp (n := p) (by omega), nI_clamp (n := k) (by omega)]
  have v := vp_in_nI hp (by omega)
  have v2 := vp_in_nI hk (by omega)
  exact ⟨v, v2, fun _ => q, fun c => ⟨v, v2, v2, fun _ => q, fun c' => absurd ⟨c, c'⟩ h⟩⟩
theorem agM {g : Nat → Nat} {σ : pr_Sg} {Q : Int32 → pr_Sg → Prop} {p k h N : Nat} (hp : p < 40) (hk : k < 5) (hh : h < 7) (hN : N ≤ 200) (e : σ 608 0 0 = nI N) (hr : σ 1054 0 p = -1 ∨ ∃ r, r < 5 ∧ σ 1054 0 p = nI r) (q : ∀ r, ansR (σ 1065 p k = σ 1064 p k) (m2P σ p k) (k = 0 ∧ h ≠ 0) (σ 1044 0 h = σ 576 0 0 ∧ σ 1045 0 h = 3) (k = 0 ∧ ¬ m5P σ p N) (k = 2 ∧ m6P σ p) r → Q r σ) : wpb_X9_against g σ (nI p) (nI k) (nI h) Q := by
  unfold wpb_X9_against
  rw [nI_clamp (n := p) (by omega), nI_clamp (n := k) (by omega)]
  have v := vp_in_nI hp (by omega)
  have v2 := vp_in_nI hk (by omega)
  have v3 := vp_in_nI hh (by omega)
  refine ⟨v, v2, v, v2, fun c1 => ?_, fun c1 => q 1 (Or.inl ⟨c1, rfl⟩)⟩
  by_cases c2 : m2P σ p k
  · exact wM_pos hp hk c2 (z_t (q 2 (Or.inr (Or.inl ⟨c1, c2, rfl⟩))))
  refine wM_neg hp hk c2 (z_f ?_)
  have L42 : ¬ (k = 0 ∧ h ≠ 0) → wp_X9_against_L42 g Q σ (nI p) (nI k) (nI h) := fun c3 => by
    unfold wp_X9_against_L42
    rw [nI_clamp (n := h) (by omega)]
    have L67 : ¬ (σ 1044 0 h = σ 576 0 0 ∧ σ 1045 0 h = 3) → wp_X9_against_L67 g Q σ (nI p) (nI k) := fun c4 => by
      unfold wp_X9_against_L67
      have L86 : ¬ (k = 0 ∧ ¬ m5P σ p N) → wp_X9_against_L86 g Q σ (nI p) (nI k) := fun c5 => by
        unfold wp_X9_against_L86
        rw [nI_clamp (n := p) (by omega)]
        have q0 : ¬ (k = 2 ∧ m6P σ p) → Q 0 σ := fun c6 => q 0 (Or.inr (Or.inr (Or.inr (Or.inr (Or.inr (Or.inr ⟨c1, c2, c3, c4, c5, c6, rfl⟩))))))
        refine ⟨fun k2 => q0 (fun w => k2 ((nk2 (by omega)).mpr w.1)), fun k2 => ⟨v, fun c => q0 ?_, fun c => ?_⟩⟩
        · rintro ⟨-, r, hr, f, -⟩
          exact nI_ne1 (by omega) (f.symm.trans c)
        have k2' := (nk2 (by omega)).mp k2
        rcases hr with er | ⟨r, hr, er⟩
        · exact absurd er c
        rw [er, nI_clamp (n := r) (by omega)]
        have v : vp_in (nI r) 5 := vp_in_nI hr (by omega)
        have un : ∀ r', r' < 5 → σ 1054 0 p = nI r' → r' = r := fun r' h1 h2 => (nI_eq (by omega) (by omega)).mp (h2.symm.trans er)
        refine ⟨vp_in_nI hp (by omega), v, fun c => q0 ?_, fun c => ⟨vp_in_nI hp (by omega), v, fun c' => q0 ?_, fun c' => q 6 ?_⟩⟩
        · rintro ⟨-, r', hr', f1, f2, f3⟩
          rw [un r' hr' f1] at f2
          exact c f2
        · rintro ⟨-, r', hr', f1, f2, f3⟩
          rw [un r' hr' f1] at f3
          exact f3 c'
        · exact Or.inr (Or.inr (Or.inr (Or.inr (Or.inr (Or.inl ⟨c1, c2, c3, c4, c5, ⟨k2', r, hr, er, c, c'⟩, rfl⟩)))))
      refine ⟨fun k0 => L86 (fun w => k0 ((nk0 (by omega)).mpr w.1)), fun k0 => ?_⟩
      refine unusedM hN e (fun i hi w => ⟨fun _ => L86 (fun w' => w'.2 ⟨i, hi, w⟩), fun c => absurd c (nI_ne1 (by omega))⟩) (fun w => ⟨fun c => absurd rfl c, fun _ => q 5 (Or.inr (Or.inr (Or.inr (Or.inr (Or.inl ⟨c1, c2, c3, c4, ⟨(nk0 (by omega)).mp k0, w⟩, rfl⟩)))))⟩)
    exact ⟨v3, fun c => L67 (fun w => c w.1), fun c => ⟨v3, fun c' => L67 (fun w => c' w.2), fun c' => q 4 (Or.inr (Or.inr (Or.inr (Or.inl ⟨c1, c2, c3, ⟨c, c'⟩, rfl⟩))))⟩⟩
  refine ⟨fun k0 => L42 (fun w => k0 ((nk0 (by omega)).mpr w.1)), fun k0 => ⟨fun h0 => L42 (fun w => w.2 ((nk0 (by omega)).mp h0)), fun h0 => q 3 (Or.inr (Or.inr (Or.inl ⟨c1, c2, ⟨(nk0 (by omega)).mp k0, fun w => h0 ((nk0 (by omega)).mpr w)⟩, rfl⟩)))⟩⟩
theorem doneM {g : Nat → Nat} {σ : pr_Sg} {Q : Int32 → pr_Sg → Prop} {p : Nat} (hp : p < 40) (q1 : (∀ j, j < 5 → σ 1065 p j = σ 1064 p j) → Q 1 σ) (q0 : ¬ (∀ j, j < 5 → σ 1065 p j = σ 1064 p j) → Q 0 σ) : wpb_X9_isDone g σ (nI p) Q := by
  have v := vp_in_nI hp (by omega)
  have L0 : ¬ (∀ j, j < 5 → σ 1065 p j = σ 1064 p j) → ∀ d i, i ≤ 5 → 5 - i < d → wp_X9_isDone_L4 g Q d σ (nI p) 0 (nI i) := fun w d => by
    induction d with
    | zero => intro i _ h; exact absurd h (by omega)
    | succ d ih =>
      intro i h1 h2
      unfold wp_X9_isDone_L4
      rw [nI_1]
      refine ⟨fun _ => q0 w, fun c => z_f (ih (i + 1) ?_ ?_)⟩
      all_goals
        have : i ≠ 5 := fun h => by subst h; exact c (by decide)
        omega
  have L1 : ∀ d i, i ≤ 5 → 5 - i < d → (∀ j, j < i → σ 1065 p j = σ 1064 p j) → wp_X9_isDone_L4 g Q d σ (nI p) 1 (nI i) := fun d => by
    induction d with
    | zero => intro i _ h; exact absurd h (by omega)
    | succ d ih =>
      intro i h1 h2 h3
      unfold wp_X9_isDone_L4
      by_cases e : i = 5
      · subst e
        exact ⟨fun _ => q1 h3, fun c => absurd (by decide) c⟩
      · have hi : i < 5 := by omega
        have v2 := vp_in_nI hi (by omega)
        rw [nI_1, nI_clamp (n := p) (by omega), nI_clamp (n := i) (by omega)]
        refine ⟨fun c => absurd c (nI_ge (b := 5) hi (by omega)), fun _ => z_t ⟨v, v2, v, v2, fun c => L0 (fun w => c (w i hi)) d (i + 1) hi (by omega), fun c => ih (i + 1) hi (by omega) (fun j hj => ?_)⟩⟩
        by_cases ej : j = i
        · subst ej
          exact c
        · exact h3 j (by omega)
  exact ⟨6, L1 6 0 (by omega) (by omega) (fun j hj => by omega)⟩
