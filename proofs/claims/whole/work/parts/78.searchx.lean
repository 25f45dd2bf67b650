theorem ag_tr {ts : List Nat} {σ τ υ : pr_Sg} (h1 : ag ts σ τ) (h2 : ag ts τ υ) : ag ts σ υ := fun t ht => (h2 t ht).trans (h1 t ht)
def SX (σ : pr_Sg) (m : Nat) (w mk : Nat → Nat) (S : Nat → Int32) : Prop := σ 262 0 0 = nI m ∧ ∀ i, i < m → σ 1031 0 i = S i ∧ σ 1032 0 i = nI (mk i) ∧ mk i < 64 ∧ σ 1033 0 i = nI (w i)
theorem SX.cg {σ τ : pr_Sg} {m : Nat} {w mk : Nat → Nat} {S : Nat → Int32} (h : SX σ m w mk S) (ha : ag [1034, 1035, 264] σ τ) : SX τ m w mk S := by
  unfold SX
  rw [ha 262 (by decide), ha 1031 (by decide), ha 1032 (by decide), ha 1033 (by decide)]
  exact h
def RX (σ : pr_Sg) (m k : Nat) (ln : Nat → Int32) (b : Nat × (Nat → Int32)) : Prop := (∀ i, i < k → σ 1034 0 i = ln i) ∧ (b.1 ≠ 0 → ∀ i, i < m → σ 1035 0 i = b.2 i) ∧ σ 264 0 0 = nI b.1 - 1
theorem keepX {g : Nat → Nat} {σ : pr_Sg} {Q : pr_Sg → Prop} {m : Nat} {v : Int32} (hm : m ≤ 5) (e : σ 262 0 0 = nI m) (q : ∀ τ, ag [1035, 264] σ τ → τ 264 0 0 = v → (∀ i, i < m → τ 1035 0 i = σ 1034 0 i) → Q τ) : wpb_X4_keep g σ v Q := by
  intro σ1 e1
  have L : ∀ d k τ, k ≤ m → m - k < d → ag [1035, 264] σ τ → τ 264 0 0 = v → (∀ i, i < k → τ 1035 0 i = σ 1034 0 i) → wp_X4_keep_L7 g Q d τ (nI k) := fun d => by
    induction d with
    | zero => intro k _ _ h; exact absurd h (by omega)
    | succ d ih =>
      intro k τ hk hd ha hv hi
      unfold wp_X4_keep_L7
      rw [ha 262 (by decide), e]
      by_cases ek : k = m
      · subst ek
        exact ⟨fun _ => q τ ha hv hi, fun c => absurd (nI_le (Nat.le_refl k) (by omega)) c⟩
      · have vk : vp_in (nI k) 5 := vp_in_nI (by omega) (by omega)
        rw [nI_clamp (n := k) (by omega), nI_1]
        refine ⟨fun c => absurd c (nI_ge (by omega) (by omega)), fun _ => ⟨vk, vk, fun σ3 e3 => ?_⟩⟩
        refine ih (k + 1) σ3 (by omega) (by omega) (by rw [e3]; exact ag_up ha _ _ _ _ (by decide)) (by rw [e3, up_tag (by decide)]; exact hv) (fun i h => ?_)
        rw [e3, up_if]
        by_cases ei : i = k
        · subst ei
          rw [if_pos ⟨rfl, rfl⟩, ha 1034 (by decide)]
        · rw [if_neg (fun w => ei w.2)]
          exact hi i (by omega)
  exact ⟨m + 1, L (m + 1) 0 σ1 (by omega) (by omega) (by rw [e1]; exact ag_up ag_rf _ _ _ _ (by decide)) (by rw [e1, up_eq]) (fun i h => absurd h (by omega))⟩
theorem placedX {g : Nat → Nat} {σ : pr_Sg} {Q : Int32 → pr_Sg → Prop} {k : Nat} (hk : k < 5) (q1 : (∃ i, i < k ∧ σ 1031 0 i = σ 1031 0 k ∧ ¬ σ 1034 0 i = -1) → Q 1 σ) (q0 : (¬ ∃ i, i < k ∧ σ 1031 0 i = σ 1031 0 k ∧ ¬ σ 1034 0 i = -1) → Q 0 σ) : wpb_X4_sitterIsPlaced g σ (nI k) Q := by
  refine ⟨k + 1, ?_⟩
  refine ex_loop (L := fun d i => wp_X4_sitterIsPlaced_L2 g Q d σ (nI k) (nI i)) (P := fun i => σ 1031 0 i = σ 1031 0 k ∧ ¬ σ 1034 0 i = -1) (A := Q 1 σ) (B := Q 0 σ) (N := k) (fun d q => ?_) (fun d i hi h1 h2 => ?_) (k + 1) 0 (by omega) (by omega) (fun ⟨i, _, w⟩ => q1 ⟨i, w⟩) (fun w => q0 (fun ⟨i, w2⟩ => w ⟨i, Nat.zero_le i, w2⟩))
  · show wp_X4_sitterIsPlaced_L2 _ _ _ _ _ _
    unfold wp_X4_sitterIsPlaced_L2
    exact ⟨fun _ => q, fun c => absurd (nI_le (Nat.le_refl k) (by omega)) c⟩
  · have vk : vp_in (nI k) 5 := vp_in_nI (by omega) (by omega)
    have vi : vp_in (nI i) 5 := vp_in_nI (by omega) (by omega)
    show wp_X4_sitterIsPlaced_L2 _ _ _ _ _ _
    unfold wp_X4_sitterIsPlaced_L2
    rw [nI_clamp (n := i) (by omega), nI_clamp (n := k) (by omega), nI_1]
    exact ⟨fun c => absurd c (nI_ge hi (by omega)), fun _ => ⟨fun c => absurd c (nI_ge (b := 5) (by omega) (by omega)), fun _ => ⟨vi, vk, fun c => h2 (fun w => c w.1), fun c => ⟨vi, fun c2 => h2 (fun w => w.2 c2), fun c2 => h1 ⟨c, c2⟩⟩⟩⟩⟩
theorem m1_lt {b x : Nat} (hb : b ≤ 200000) (hx : x ≤ 200000) : nI b - 1 < nI x ↔ b ≤ x := by
  rw [Int32.lt_iff_toInt_lt, nI_m1 (by omega), nI_toInt (by omega)]
  omega
theorem searchX {g : Nat → Nat} {m : Nat} {w mk : Nat → Nat} {ok : Nat → Nat → Bool} {S : Nat → Int32} (hm : m ≤ 5) (hok : ∀ k, k < m → ∀ h, h < 6 → ok k h = (mk k).testBit h) :
    ∀ (r d k t s : Nat) (ln : Nat → Int32) (b : Nat × (Nat → Int32)) (σ : pr_Sg) (Q : pr_Sg → Prop), r < d → k + r = m → t < 64 → s + lf w r k < 200000 → b.1 ≤ 200000 → SX σ m w mk S → RX σ m k ln b → (∀ τ, ag [1034, 1035, 264] σ τ → RX τ m k ln (dfs w ok S r k t s ln b) → Q τ) → wp_X8_search g d σ (nI k) (nI t) (nI s) (nI (lf w r k)) Q := by
  intro r
  induction r with
  | zero =>
    intro d k t s ln b σ Q hd hk ht hs hb hS hR q
    obtain ⟨d, rfl⟩ : ∃ d', d = d' + 1 := ⟨d - 1, by omega⟩
    show wpb_X8_search _ _ _ _ _ _ _ _
    unfold wpb_X8_search
    obtain ⟨r1, r2, r3⟩ := id hR
    have hk' : k = m := by omega
    subst hk'
    have lt : nI b.1 - 1 < nI (s + lf w 0 k) ↔ b.1 ≤ s + lf w 0 k := m1_lt hb (by omega)
    rw [hS.1, r3, nI_add]
    refine ⟨fun c => ⟨fun _ => ?_, fun c => absurd (nI_le (Nat.le_refl k) (by omega)) c⟩, fun c => q σ ag_rf ?_⟩
    · have c' := lt.mp c
      refine keepX hm hS.1 (fun τ ha e1 e2 => q τ ?_ ?_)
      · exact fun t ht => ha t (fun w => ht (by revert w; simp; omega))
      · have e : dfs w ok S 0 k t s ln b = (s + 1, ln) := by
          unfold dfs
          exact if_pos c'
        rw [e]
        exact ⟨fun i hi => by rw [ha 1034 (by decide)]; exact r1 i hi, fun _ i hi => by rw [e2 i hi]; exact r1 i hi, by rw [e1]; exact (nI_pred s).symm⟩
    · rw [dfs_prune _ _ _ _ _ _ (by have := mt lt.mpr c; omega)]
      exact hR
  | succ r ih =>
    intro d k t s ln b σ Q hd hk ht hs hb hS hR q
    obtain ⟨d, rfl⟩ : ∃ d', d = d' + 1 := ⟨d - 1, by omega⟩
    show wpb_X8_search _ _ _ _ _ _ _ _
    unfold wpb_X8_search
    obtain ⟨r1, r2, r3⟩ := id hR
    have lt : nI b.1 - 1 < nI (s + lf w (r + 1) k) ↔ b.1 ≤ s + lf w (r + 1) k := m1_lt hb (by omega)
    have hkm : k < m := by omega
    obtain ⟨-, s2, s3, s4⟩ := hS.2 k hkm
    have vk : vp_in (nI k) 5 := vp_in_nI (by omega) (by omega)
    have hlf : lf w (r + 1) k = w k + lf w r (k + 1) := rfl
    rw [hS.1, r3, nI_add]
    refine ⟨fun c => ⟨fun c2 => absurd c2 (nI_ge hkm (by omega)), fun _ => ⟨fun _ => ⟨vk, ?_⟩, fun c => absurd (nI_lt (b := 5) (by omega) (by omega)) c⟩⟩, fun c => q σ ag_rf (by rw [dfs_prune _ _ _ _ _ _ (by have := mt lt.mpr c; omega)]; exact hR)⟩
    have esub : nI (lf w (r + 1) k) - nI (w k) = nI (lf w r (k + 1)) := by
      rw [hlf, pk_sub (by omega)]
      congr 1
      omega
    have L : ∀ (n h : Nat) (τ : pr_Sg) (b' : Nat × (Nat → Int32)) (x6 : Int32), h + n = 6 → ag [1034, 1035, 264] σ τ → RX τ m k ln b' → b'.1 ≤ 200000 → (∀ h, h < 6 → ((x6 &&& ((1 : Int32) <<< (nI h &&& 31)) = 0) ↔ cnd ok S k t ln h = false)) → (∀ υ, ag [1034, 1035, 264] σ υ → RX υ m k ln (dfs w ok S r (k + 1) t s (st1 ln k (-1)) (hl (cnd ok S k t ln) (fun h b => dfs w ok S r (k + 1) (t ||| 2 ^ h) (s + w k) (st1 ln k (nI h)) b) n h b')) → Q υ) → wp_X8_search_L66 g (wp_X8_search g d) Q (n + 1) τ (nI k) (nI t) (nI s) (nI (lf w (r + 1) k)) (nI (w k)) x6 (nI h) := by
      intro n
      induction n with
      | zero =>
        intro h τ b' x6 hh ha hR' hb' hx q'
        obtain rfl : h = 6 := by omega
        unfold wp_X8_search_L66
        rw [nI_clamp (n := k) (by omega), nI_1, esub]
        refine ⟨fun _ => ⟨vk, fun σ8 e8 => ?_⟩, fun c => absurd (by decide) c⟩
        have a8 : ag [1034, 1035, 264] τ σ8 := by rw [e8]; exact ag_up ag_rf _ _ _ _ (by decide)
        refine ih d (k + 1) t s (st1 ln k (-1)) b' σ8 _ (by omega) (by omega) ht (by omega) hb' ((hS.cg ha).cg a8) ⟨fun i hi => ?_, fun p i hi => ?_, ?_⟩ (fun υ hu hR2 => q' υ (ag_tr (ag_tr ha a8) hu) ⟨fun i hi => ?_, hR2.2.1, hR2.2.2⟩)
        · rw [e8, up_if]
          by_cases ei : i = k
          · subst ei
            rw [if_pos ⟨rfl, rfl⟩, st1_eq]
          · rw [if_neg (fun w => ei w.2), st1_lt (by omega)]
            exact hR'.1 i (by omega)
        · rw [e8, up_tag (by decide)]
          exact hR'.2.1 p i hi
        · rw [e8, up_tag (by decide)]
          exact hR'.2.2
        · exact (hR2.1 i (by omega)).trans (st1_lt hi)
      | succ n ihn =>
        intro h τ b' x6 hh ha hR' hb' hx q'
        unfold hl at q'
        unfold wp_X8_search_L66
        have hh6 : h < 6 := by omega
        rw [nI_clamp (n := k) (by omega), nI_1, nI_1, esub, nI_add, (bt1 t ht h hh6).1]
        refine ⟨fun c => absurd c (nI_ge (b := 6) hh6 (by omega)), fun _ => ⟨fun c => ?_, fun c => ⟨vk, fun σ11 e11 => ?_⟩⟩⟩
        · have c' := (hx h hh6).mp c
          rw [c', if_neg (by decide)] at q'
          exact ihn (h + 1) τ b' x6 (by omega) ha hR' hb' hx q'
        · have c' : cnd ok S k t ln h = true := by
            cases e : cnd ok S k t ln h with
            | true => rfl
            | false => exact absurd ((hx h hh6).mpr e) c
          rw [c', if_pos rfl] at q'
          have a11 : ag [1034, 1035, 264] τ σ11 := by rw [e11]; exact ag_up ag_rf _ _ _ _ (by decide)
          refine ih d (k + 1) (t ||| 2 ^ h) (s + w k) (st1 ln k (nI h)) b' σ11 _ (by omega) (by omega) (bt1 t ht h hh6).2 (by omega) hb' ((hS.cg ha).cg a11) ⟨fun i hi => ?_, fun p i hi => ?_, ?_⟩ (fun υ hu hR2 => ihn (h + 1) υ _ x6 (by omega) (ag_tr (ag_tr ha a11) hu) ⟨fun i hi => ?_, hR2.2.1, hR2.2.2⟩ (dfs_le _ _ _ _ _ _ (by omega) hb') hx q')
          · rw [e11, up_if]
            by_cases ei : i = k
            · subst ei
              rw [if_pos ⟨rfl, rfl⟩, st1_eq]
            · rw [if_neg (fun w => ei w.2), st1_lt (by omega)]
              exact hR'.1 i (by omega)
          · rw [e11, up_tag (by decide)]
            exact hR'.2.1 p i hi
          · rw [e11, up_tag (by decide)]
            exact hR'.2.2
          · exact (hR2.1 i (by omega)).trans (st1_lt hi)
    have htw : tw S ln k = true ↔ ∃ i, i < k ∧ σ 1031 0 i = σ 1031 0 k ∧ ¬ σ 1034 0 i = -1 := by
      unfold tw
      rw [decide_eq_true_iff]
      constructor
      · rintro ⟨i, hi, e1, e2⟩
        exact ⟨i, hi, by rw [(hS.2 i (by omega)).1, (hS.2 k hkm).1]; exact e1, by rw [r1 i hi]; exact e2⟩
      · rintro ⟨i, hi, e1, e2⟩
        exact ⟨i, hi, by rw [(hS.2 i (by omega)).1, (hS.2 k hkm).1] at e1; exact e1, by rw [r1 i hi] at e2; exact e2⟩
    rw [nI_clamp (n := k) (by omega), s4]
    refine placedX (by omega) (fun c => z_t ⟨7, ?_⟩) (fun c => z_f ⟨vk, 7, ?_⟩)
    · refine L 6 0 σ b 0 rfl ag_rf hR hb (fun h hh => ?_) q
      have e1 := htw.mpr c
      simp [cnd, e1]
    · rw [s2]
      refine L 6 0 σ b _ rfl ag_rf hR hb (fun h hh => ?_) q
      have e1 : tw S ln k = false := by
        cases e : tw S ln k with
        | false => rfl
        | true => exact absurd (htw.mp e) c
      rw [bt5 s3 ht hh]
      unfold cnd
      rw [e1, hok k hkm h hh]
      simp
