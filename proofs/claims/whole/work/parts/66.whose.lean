def sqd (x y : Nat) : Nat := (x - y) * (x - y) + (y - x) * (y - x)
theorem sqd_ok : ∀ x, x < 10 → ∀ y, y < 10 → (nI x - nI y) * (nI x - nI y) = nI (sqd x y) ∧ sqd x y ≤ 81 ∧ sqd x y = sqd y x := by decide +kernel
def hq (a b : Nat) : Nat → Nat
  | 0 => 0
  | f + 1 => sqd (a % 10) (b % 10) + hq (a / 10) (b / 10) f
theorem hq_le : ∀ f a b, hq a b f ≤ 81 * f := by
  intro f
  induction f with
  | zero => intro a b; exact Nat.le_refl _
  | succ f ih =>
    intro a b
    have := ih (a / 10) (b / 10)
    have := (sqd_ok (a % 10) (by omega) (b % 10) (by omega)).2.1
    show sqd (a % 10) (b % 10) + hq (a / 10) (b / 10) f ≤ 81 * (f + 1)
    omega
theorem hq_sym : ∀ f a b, hq a b f = hq b a f := by
  intro f
  induction f with
  | zero => intro a b; rfl
  | succ f ih =>
    intro a b
    show sqd (a % 10) (b % 10) + hq (a / 10) (b / 10) f = sqd (b % 10) (a % 10) + hq (b / 10) (a / 10) f
    rw [ih, (sqd_ok (a % 10) (by omega) (b % 10) (by omega)).2.2]
theorem hdist_loop {g : Nat → Nat} {σ : pr_Sg} {Q : Int32 → pr_Sg → Prop} : ∀ f a b acc, f ≤ 4 → a < 10000 → b < 10000 → Q (nI (acc + hq a b f)) σ → wp_X8_habitDistance_L35 g Q (f + 1) σ (nI acc) (nI a) (nI b) (nI (4 - f)) := by
  intro f
  induction f with
  | zero =>
    intro a b acc _ _ _ q
    unfold wp_X8_habitDistance_L35
    exact ⟨fun _ => q, fun c => absurd (show (4 : Int32) ≤ nI 4 by decide) c⟩
  | succ f ih =>
    intro a b acc hf ha hb q
    unfold wp_X8_habitDistance_L35
    refine ⟨fun c => absurd c (nI_ge (a := 4 - (f + 1)) (b := 4) (by omega) (by omega)), fun _ => ?_⟩
    rw [show (10 : Int32) = nI 10 from rfl, pk_rem (by omega) (by omega) (by omega), pk_rem (by omega) (by omega) (by omega), pk_div (by omega) (by omega) (by omega), pk_div (by omega) (by omega) (by omega), (sqd_ok (a % 10) (by omega) (b % 10) (by omega)).1, nI_add, nI_1, show 4 - (f + 1) + 1 = 4 - f by omega]
    refine ih _ _ _ (by omega) (by omega) (by omega) ?_
    rw [Nat.add_assoc]
    exact q
theorem sq_loop {g : Nat → Nat} {σ : pr_Sg} {Q : Int32 → pr_Sg → Prop} : ∀ f a b acc, f ≤ 4 → a < 10000 → b < 10000 → Q (nI (acc + hq a b f)) σ → wp_X9_squares_L10 g Q (f + 1) σ (nI a) (nI b) (nI acc) (nI (4 - f)) := by
  intro f
  induction f with
  | zero =>
    intro a b acc _ _ _ q
    unfold wp_X9_squares_L10
    exact ⟨fun _ => q, fun c => absurd (show (4 : Int32) ≤ nI 4 by decide) c⟩
  | succ f ih =>
    intro a b acc hf ha hb q
    unfold wp_X9_squares_L10
    refine ⟨fun c => absurd c (nI_ge (a := 4 - (f + 1)) (b := 4) (by omega) (by omega)), fun _ => ?_⟩
    rw [show (10 : Int32) = nI 10 from rfl, pk_rem (by omega) (by omega) (by omega), pk_rem (by omega) (by omega) (by omega), pk_div (by omega) (by omega) (by omega), pk_div (by omega) (by omega) (by omega), (sqd_ok (a % 10) (by omega) (b % 10) (by omega)).1, nI_add, nI_1, show 4 - (f + 1) + 1 = 4 - f by omega]
    refine ih _ _ _ (by omega) (by omega) (by omega) ?_
    rw [Nat.add_assoc]
    exact q
def hv (σ : pr_Sg) (h : Nat) : Nat := (σ 1046 0 h).toNatClampNeg
def hD (σ : pr_Sg) (s h : Nat) : Nat := hq s (hv σ h) 4
theorem hD_le (σ : pr_Sg) (s h : Nat) : hD σ s h ≤ 324 := hq_le 4 _ _
theorem hv_of {g : Nat → Nat} {σ : pr_Sg} (h5 : I_hand g σ) {h : Nat} (hh : h < g 0) (ho : σ 1046 0 h ≠ -1) : hv σ h < 10000 ∧ σ 1046 0 h = nI (hv σ h) ∧ σ 0 h 0 = nI (hv σ h) := by
  obtain ⟨e1, -, -, -, e2⟩ := h5.2.2.2.2.1 h hh
  rcases e2 with e2 | ⟨t, ht, e2⟩
  · exact absurd e2 ho
  · have e4 : hv σ h = t := by unfold hv; rw [e2]; exact nI_clamp (by omega)
    rw [e4]
    exact ⟨ht, e2, e1.trans e2⟩
theorem hdX_pos {g : Nat → Nat} {σ : pr_Sg} {Q : Int32 → pr_Sg → Prop} (h5 : I_hand g σ) {h s : Nat} (hs : s < 10000) (hh : h < g 0) (ho : σ 1046 0 h ≠ -1) (q : Q (nI (hD σ s h)) σ) : wpb_X8_habitDistance g σ (nI h) (nI s) Q := by
  unfold wpb_X8_habitDistance
  obtain ⟨a1, -, a3⟩ := hv_of h5 hh ho
  refine hand_pos h5 hh (o_s ?_)
  rw [a3]
  refine ⟨fun _ => ⟨5, hdist_loop 4 _ _ 0 (by omega) a1 hs ?_⟩, fun c => absurd c (nI_ne1 (by omega))⟩
  rw [Nat.zero_add, hq_sym]
  exact q
theorem hdX_neg {g : Nat → Nat} {σ : pr_Sg} {Q : Int32 → pr_Sg → Prop} (h5 : I_hand g σ) {h : Nat} {s : Int32} (hh : h < g 0) (ho : σ 1046 0 h = -1) (q : Q (-1) σ) : wpb_X8_habitDistance g σ (nI h) s Q := by
  unfold wpb_X8_habitDistance
  refine hand_pos h5 hh (o_s ?_)
  have e := (h5.2.2.2.2.1 h hh).1
  exact ⟨fun c => absurd (e.trans ho) c, fun _ => q⟩
theorem sqM {g : Nat → Nat} {σ : pr_Sg} {Q : Int32 → pr_Sg → Prop} (h5 : I_hand g σ) {h s : Nat} (hs : s < 10000) (hh : h < g 0) (ho : σ 1046 0 h ≠ -1) (q : Q (nI (hD σ s h)) σ) : wpb_X9_squares g σ (nI s) (σ 1046 0 h) Q := by
  unfold wpb_X9_squares
  obtain ⟨a1, a2, -⟩ := hv_of h5 hh ho
  rw [a2]
  refine ⟨5, sq_loop 4 _ _ 0 (by omega) hs a1 ?_⟩
  rw [Nat.zero_add]
  exact q
theorem nearh_loop {g : Nat → Nat} {σ : pr_Sg} {Q : Int32 → pr_Sg → Prop} (h5 : I_hand g σ) {s : Nat} {skip : Int32} (hs : s < 10000) (q : Q (enc (bst (fun k => σ 1046 0 k ≠ -1 ∧ nI k ≠ skip) (hD σ s) (g 0))) σ) : ∀ d k, k ≤ g 0 → g 0 - k < d → wp_X8_nearestHand_L8 g Q d σ (nI s) skip (enc (bst (fun k => σ 1046 0 k ≠ -1 ∧ nI k ≠ skip) (hD σ s) k)) (lst (hD σ s) (bst (fun k => σ 1046 0 k ≠ -1 ∧ nI k ≠ skip) (hD σ s) k)) (nI k) := by
  have h7 := h5.2.1
  intro d
  induction d with
  | zero => intro k _ h2; exact absurd h2 (by omega)
  | succ d ih =>
    intro k hk hd
    unfold wp_X8_nearestHand_L8
    rw [h5.2.2.1]
    by_cases e : k = g 0
    · subst e
      exact ⟨fun _ => q, fun c => absurd (nI_le (Nat.le_refl (g 0)) (by omega)) c⟩
    · refine ⟨fun c => absurd c (nI_ge (by omega) (by omega)), fun _ => ?_⟩
      have hn := ih (k + 1) (by omega) (by omega)
      rw [nI_1]
      cases hb : bst (fun k => σ 1046 0 k ≠ -1 ∧ nI k ≠ skip) (hD σ s) k with
      | none =>
        by_cases ok : σ 1046 0 k = -1
        · have e2 : bst (fun k => σ 1046 0 k ≠ -1 ∧ nI k ≠ skip) (hD σ s) (k + 1) = none := by simp [bst, hb, ok]
          rw [e2] at hn
          exact hdX_neg h5 (by omega) ok ⟨fun _ => hn, fun _ => ⟨fun _ => hn, fun c => absurd rfl c⟩⟩
        · refine hdX_pos h5 hs (by omega) ok ⟨fun c => ?_, fun c => ⟨fun c2 => absurd c2 (nI_ne1 (by have := hD_le σ s k; omega)), fun _ => ⟨fun _ => ?_, fun c3 => absurd rfl c3⟩⟩⟩
          · have e2 : bst (fun k => σ 1046 0 k ≠ -1 ∧ nI k ≠ skip) (hD σ s) (k + 1) = none := by simp [bst, hb, c]
            rw [e2] at hn
            exact hn
          · have e2 : bst (fun k => σ 1046 0 k ≠ -1 ∧ nI k ≠ skip) (hD σ s) (k + 1) = some k := by simp [bst, hb, ok, c]
            rw [e2] at hn
            exact hn
      | some b =>
        obtain ⟨hbk, -, -⟩ := bst_some hb
        have nb : ¬ enc (some b) = (-1 : Int32) := nI_ne1 (by omega)
        by_cases ok : σ 1046 0 k = -1
        · have e2 : bst (fun k => σ 1046 0 k ≠ -1 ∧ nI k ≠ skip) (hD σ s) (k + 1) = some b := by simp [bst, hb, ok]
          rw [e2] at hn
          exact hdX_neg h5 (by omega) ok ⟨fun _ => hn, fun _ => ⟨fun _ => hn, fun c => absurd rfl c⟩⟩
        · have l1 := hD_le σ s k
          have l2 := hD_le σ s b
          refine hdX_pos h5 hs (by omega) ok ⟨fun c => ?_, fun c => ⟨fun c2 => absurd c2 (nI_ne1 (by omega)), fun _ => ⟨fun c3 => absurd c3 nb, fun _ => ⟨fun c4 => ?_, fun c4 => ?_⟩⟩⟩⟩
          · have e2 : bst (fun k => σ 1046 0 k ≠ -1 ∧ nI k ≠ skip) (hD σ s) (k + 1) = some b := by simp [bst, hb, c]
            rw [e2] at hn
            exact hn
          · have c5 : ¬ hD σ s k < hD σ s b := fun w => absurd ((nI_leI (by omega) (by omega)).mp c4) (by omega)
            have e2 : bst (fun k => σ 1046 0 k ≠ -1 ∧ nI k ≠ skip) (hD σ s) (k + 1) = some b := by simp [bst, hb, c5]
            rw [e2] at hn
            exact hn
          · have c5 : hD σ s k < hD σ s b := Nat.not_le.mp (fun w => c4 ((nI_leI (by omega) (by omega)).mpr w))
            have e2 : bst (fun k => σ 1046 0 k ≠ -1 ∧ nI k ≠ skip) (hD σ s) (k + 1) = some k := by simp [bst, hb, c5, ok, c]
            rw [e2] at hn
            exact hn
theorem nearh {g : Nat → Nat} {σ : pr_Sg} {Q : Int32 → pr_Sg → Prop} (h5 : I_hand g σ) {s : Nat} (skip : Int32) (hs : s < 10000) (q : Q (enc (bst (fun k => σ 1046 0 k ≠ -1 ∧ nI k ≠ skip) (hD σ s) (g 0))) σ) : wpb_X8_nearestHand g σ (nI s) skip Q := by
  unfold wpb_X8_nearestHand
  exact ⟨g 0 + 1, nearh_loop h5 hs q (g 0 + 1) 0 (by omega) (by omega)⟩
theorem nearh1 {g : Nat → Nat} {σ : pr_Sg} {Q : Int32 → pr_Sg → Prop} (h5 : I_hand g σ) {s : Nat} (hs : s < 10000) (q : Q (enc (bst (fun k => σ 1046 0 k ≠ -1) (hD σ s) (g 0))) σ) : wpb_X8_nearestHand g σ (nI s) (-1 : Int32) Q := by
  have h7 := h5.2.1
  refine nearh h5 _ hs ?_
  rw [bst_cg (ok' := fun k => σ 1046 0 k ≠ -1) (fun k hk => ⟨fun w => w.1, fun w => ⟨w, nI_ne1 (by omega)⟩⟩)]
  exact q
theorem who_loop {g : Nat → Nat} {σ : pr_Sg} {Q : Int32 → pr_Sg → Prop} (h5 : I_hand g σ) {s : Nat} (hs : s < 10000) (q : ∃ n : Nat, wp_X9_whose_L110 g Q n σ (nI s) (enc (bst (fun k => σ 1046 0 k ≠ -1) (hD σ s) (g 0))) (0 : Int32)) : ∀ d k, k ≤ g 0 → g 0 - k < d → wp_X9_whose_L46 g Q d σ (nI s) (enc (bst (fun k => σ 1046 0 k ≠ -1) (hD σ s) k)) (nI k) := by
  have h7 := h5.2.1
  intro d
  induction d with
  | zero => intro k _ h2; exact absurd h2 (by omega)
  | succ d ih =>
    intro k hk hd
    unfold wp_X9_whose_L46
    rw [h5.2.2.2.1]
    by_cases e : k = g 0
    · subst e
      exact ⟨fun _ => q, fun c => absurd (nI_le (Nat.le_refl (g 0)) (by omega)) c⟩
    · have hv7 : vp_in (nI k) 7 := vp_in_nI (by omega) (by omega)
      refine ⟨fun c => absurd c (nI_ge (by omega) (by omega)), fun _ => ⟨hv7, ?_⟩⟩
      have hn := ih (k + 1) (by omega) (by omega)
      rw [nI_1, nI_clamp (by omega)]
      refine ⟨fun ok => ?_, fun ok => ?_⟩
      · have e2 : bst (fun k => σ 1046 0 k ≠ -1) (hD σ s) (k + 1) = bst (fun k => σ 1046 0 k ≠ -1) (hD σ s) k := by
          cases hb : bst (fun k => σ 1046 0 k ≠ -1) (hD σ s) k <;> simp [bst, hb, ok]
        rw [e2] at hn
        exact hn
      · cases hb : bst (fun k => σ 1046 0 k ≠ -1) (hD σ s) k with
        | none =>
          have e2 : bst (fun k => σ 1046 0 k ≠ -1) (hD σ s) (k + 1) = some k := by simp [bst, hb, ok]
          rw [e2] at hn
          exact ⟨fun _ => hn, fun c => absurd rfl c⟩
        | some b =>
          obtain ⟨hbk, hob, -⟩ := bst_some hb
          have l1 := hD_le σ s k
          have l2 := hD_le σ s b
          refine ⟨fun c => absurd c (nI_ne1 (by omega)), fun _ => ⟨hv7, ?_⟩⟩
          refine sqM h5 hs (by omega) ok ⟨vp_in_nI (by omega) (by omega), ?_⟩
          rw [show (enc (some b)).toNatClampNeg = b from nI_clamp (by omega)]
          refine sqM h5 hs (by omega) hob ⟨fun c4 => ?_, fun c4 => ?_⟩
          · have c5 : ¬ hD σ s k < hD σ s b := fun w => absurd ((nI_leI (by omega) (by omega)).mp c4) (by omega)
            have e2 : bst (fun k => σ 1046 0 k ≠ -1) (hD σ s) (k + 1) = some b := by simp [bst, hb, c5]
            rw [e2] at hn
            exact hn
          · have c5 : hD σ s k < hD σ s b := Nat.not_le.mp (fun w => c4 ((nI_leI (by omega) (by omega)).mpr w))
            have e2 : bst (fun k => σ 1046 0 k ≠ -1) (hD σ s) (k + 1) = some k := by simp [bst, hb, c5, ok]
            rw [e2] at hn
            exact hn
theorem lt_m {x y m : Nat} (hx : x ≤ 324) (hy : y ≤ 324) (hm : m ≤ 99) : (nI m ≤ nI x - nI y) ↔ y + m ≤ x := by
  rw [Int32.le_iff_toInt_le, pk_sub_toInt (by omega) (by omega), nI_toInt (by omega)]
  omega
theorem who2_loop {g : Nat → Nat} {σ : pr_Sg} {Q : Int32 → pr_Sg → Prop} (h5 : I_hand g σ) {s b m : Nat} (hs : s < 10000) (hb : b < g 0) (ob : σ 1046 0 b ≠ -1) (hm : m ≤ 99) (em : σ 609 0 0 = nI m) : ∀ d k, k ≤ g 0 → g 0 - k < d → ((∃ j, k ≤ j ∧ j < g 0 ∧ j ≠ b ∧ σ 1046 0 j ≠ -1 ∧ hD σ s j < hD σ s b + m) → Q (-2) σ) → ((¬ ∃ j, k ≤ j ∧ j < g 0 ∧ j ≠ b ∧ σ 1046 0 j ≠ -1 ∧ hD σ s j < hD σ s b + m) → Q (nI b) σ) → wp_X9_whose_L110 g Q d σ (nI s) (nI b) (nI k) := by
  have h7 := h5.2.1
  intro d
  induction d with
  | zero => intro k _ h2; exact absurd h2 (by omega)
  | succ d ih =>
    intro k hk hd q1 q0
    unfold wp_X9_whose_L110
    rw [h5.2.2.2.1]
    by_cases e : k = g 0
    · subst e
      exact ⟨fun _ => q0 (fun ⟨j, j1, j2, _⟩ => by omega), fun c => absurd (nI_le (Nat.le_refl (g 0)) (by omega)) c⟩
    · refine ⟨fun c => absurd c (nI_ge (by omega) (by omega)), fun _ => ⟨fun c => absurd c (nI_ne1 (by omega)), fun _ => ?_⟩⟩
      rw [nI_1, nI_clamp (by omega), nI_clamp (by omega)]
      have hd2 : g 0 - (k + 1) < d := by omega
      have hk2 : k + 1 ≤ g 0 := by omega
      have hn : ¬ (k ≠ b ∧ σ 1046 0 k ≠ -1 ∧ hD σ s k < hD σ s b + m) → wp_X9_whose_L110 g Q d σ (nI s) (nI b) (nI (k + 1)) := fun w => by
        refine ih (k + 1) hk2 hd2 (fun ⟨j, j1, j2, j3⟩ => q1 ⟨j, Nat.le_of_succ_le j1, j2, j3⟩) (fun w2 => q0 (fun ⟨j, j1, j2, j3⟩ => ?_))
        by_cases ej : j = k
        · subst ej
          exact w j3
        · exact w2 ⟨j, by omega, j2, j3⟩
      have hv7 : vp_in (nI k) 7 := vp_in_nI (by omega) (by omega)
      refine ⟨fun c => hn (fun w => w.1 ((nI_eq (by omega) (by omega)).mp c)), fun c => ⟨hv7, fun ok => hn (fun w => w.2.1 ok), fun ok => ⟨hv7, ?_⟩⟩⟩
      have ckb : k ≠ b := fun w => c (by rw [w])
      have l1 := hD_le σ s k
      have l2 := hD_le σ s b
      refine sqM h5 hs (by omega) ok ⟨vp_in_nI (by omega) (by omega), ?_⟩
      refine sqM h5 hs (by omega) ob ?_
      rw [em]
      refine ⟨fun c4 => hn (fun w => ?_), fun c4 => q1 ⟨k, Nat.le_refl k, by omega, ckb, ok, ?_⟩⟩
      · have := (lt_m l1 l2 hm).mp c4
        omega
      · exact Nat.not_le.mp (fun w => c4 ((lt_m l1 l2 hm).mpr w))
theorem f_whose : pr_fact_whose Inv := by
  intro g σ a1 a2 hI
  show wpb_X8_whose _ _ _ _ _
  unfold wpb_X8_whose
  obtain ⟨h1, h2, h3, h4, h5, h6, h7, h8, h9, h10, h11, h12, h13⟩ := id hI
  have h40 := h7.1
  have hg7 := h5.2.1
  obtain ⟨⟨m, hm, em⟩, em2, -⟩ := h2
  have em3 : σ 609 0 0 = nI m := em2.symm.trans em
  rcases ix a1 (g 2) with ⟨p, hp, rfl⟩ | hp
  · rcases ix a2 5 with ⟨k, hk, rfl⟩ | hk
    · refine part_pos h7 hp hk (o_s2 ?_)
      obtain ⟨es, eb⟩ := h11 p hp k hk
      have v1 : vp_in (nI p) 40 := vp_in_nI (by omega) (by omega)
      have v2 : vp_in (nI k) 5 := vp_in_nI hk (by omega)
      have c1 : (nI p).toNatClampNeg = p := nI_clamp (by omega)
      have c2 : (nI k).toNatClampNeg = k := nI_clamp (by omega)
      rw [es]
      rcases eb with eb | ⟨s, hs, eb⟩
      · refine ⟨fun c => absurd eb c, fun _ => ?_⟩
        show wpb_X9_whose _ _ _ _ _
        unfold wpb_X9_whose
        refine ipic_pos h7.2.2.1 h40 hp (z_t ?_)
        refine in_pos 4 rfl (by omega) hk (z_t ⟨v1, v2, ?_⟩)
        rw [c1, c2]
        exact ⟨fun c => absurd eb c, fun _ => ⟨rfl, hI⟩⟩
      · rw [eb]
        have M : ∀ {r : Int32}, (bst (fun k => σ 1046 0 k ≠ -1) (hD σ s) (g 0) = none → r = -1) → (∀ b, bst (fun k => σ 1046 0 k ≠ -1) (hD σ s) (g 0) = some b → ((∃ j, 0 ≤ j ∧ j < g 0 ∧ j ≠ b ∧ σ 1046 0 j ≠ -1 ∧ hD σ s j < hD σ s b + m) → r = -2) ∧ ((¬ ∃ j, 0 ≤ j ∧ j < g 0 ∧ j ≠ b ∧ σ 1046 0 j ≠ -1 ∧ hD σ s j < hD σ s b + m) → r = nI b)) → wpb_X9_whose g σ (nI p) (nI k) (fun r2 σ2 => r = r2 ∧ Inv g σ2) := fun {r} m0 m1 => by
          unfold wpb_X9_whose
          refine ipic_pos h7.2.2.1 h40 hp (z_t ?_)
          refine in_pos 4 rfl (by omega) hk (z_t ⟨v1, v2, ?_⟩)
          rw [c1, c2, eb]
          refine ⟨fun _ => ⟨v1, v2, g 0 + 1, who_loop h5 hs ?_ (g 0 + 1) 0 (by omega) (by omega)⟩, fun c => absurd c (nI_ne1 (by omega))⟩
          cases hB : bst (fun k => σ 1046 0 k ≠ -1) (hD σ s) (g 0) with
          | none =>
            refine ⟨1, ?_⟩
            unfold wp_X9_whose_L110
            exact ⟨fun _ => ⟨m0 hB, hI⟩, fun _ => ⟨fun _ => ⟨m0 hB, hI⟩, fun c => absurd rfl c⟩⟩
          | some b =>
            obtain ⟨b1, b2, b3⟩ := bst_some hB
            obtain ⟨n1, n2⟩ := m1 b hB
            exact ⟨g 0 + 1, who2_loop h5 hs b1 b2 hm em3 (g 0 + 1) 0 (by omega) (by omega) (fun w => ⟨n1 w, hI⟩) (fun w => ⟨n2 w, hI⟩)⟩
        refine ⟨fun _ => ?_, fun c => absurd c (nI_ne1 (by omega))⟩
        refine nearh1 h5 hs ?_
        rw [es, eb]
        refine nearh h5 _ hs ?_
        cases hB : bst (fun k => σ 1046 0 k ≠ -1) (hD σ s) (g 0) with
        | none => exact ⟨fun _ => M (fun _ => rfl) (fun b w => by rw [hB] at w; cases w), fun c => absurd rfl c⟩
        | some b =>
          obtain ⟨b1, b2, b3⟩ := bst_some hB
          have nb : ¬ enc (some b) = (-1 : Int32) := nI_ne1 (by omega)
          refine ⟨fun c => absurd c nb, fun _ => ?_⟩
          cases hO : bst (fun k => σ 1046 0 k ≠ -1 ∧ nI k ≠ enc (some b)) (hD σ s) (g 0) with
          | none =>
            refine ⟨fun c => absurd rfl c, fun _ => M (fun w => by rw [hB] at w; cases w) (fun b' w => ?_)⟩
            rw [hB] at w
            cases w
            refine ⟨fun ⟨j, _, j2, j3, j4, _⟩ => ?_, fun _ => rfl⟩
            exact absurd ⟨j4, fun w => j3 ((nI_eq (by omega) (by omega)).mp w)⟩ (bst_none hO j j2)
          | some o =>
            obtain ⟨o1, ⟨o2, o3⟩, o4⟩ := bst_some hO
            have no : ¬ enc (some o) = (-1 : Int32) := nI_ne1 (by omega)
            have hob : o ≠ b := fun w => o3 (by rw [w]; rfl)
            have l1 := hD_le σ s o
            have l2 := hD_le σ s b
            refine ⟨fun _ => ?_, fun c => absurd c no⟩
            rw [es, eb]
            refine hdX_pos h5 hs (by omega) o2 ?_
            rw [es, eb]
            refine hdX_pos h5 hs (by omega) b2 ?_
            rw [em]
            refine ⟨fun c4 => M (fun w => by rw [hB] at w; cases w) (fun b' w => ?_), fun c4 => M (fun w => by rw [hB] at w; cases w) (fun b' w => ?_)⟩
            · rw [hB] at w
              cases w
              have c5 := (lt_m l1 l2 hm).mp c4
              refine ⟨fun ⟨j, _, j2, j3, j4, j5⟩ => ?_, fun _ => rfl⟩
              have := o4 j j2 ⟨j4, fun w => j3 ((nI_eq (by omega) (by omega)).mp w)⟩
              omega
            · rw [hB] at w
              cases w
              have c5 : ¬ hD σ s b + m ≤ hD σ s o := fun w => c4 ((lt_m l1 l2 hm).mpr w)
              exact ⟨fun _ => rfl, fun w => absurd ⟨o, Nat.zero_le o, o1, hob, o2, by omega⟩ w⟩
    · refine part_neg2 h7 hp hk (o_n2 ?_)
      show wpb_X9_whose _ _ _ _ _
      unfold wpb_X9_whose
      refine ipic_pos h7.2.2.1 h40 hp (z_t ?_)
      exact in_neg 4 rfl (by omega) hk (z_f ⟨rfl, hI⟩)
  · refine part_neg1 h7 hp (o_n2 ?_)
    show wpb_X9_whose _ _ _ _ _
    unfold wpb_X9_whose
    exact ipic_neg h7.2.2.1 h40 hp (z_f ⟨rfl, hI⟩)
