def SM (σ : pr_Sg) (m : Nat) (w P : Nat → Nat) (S : Nat → Int32) (ok : Nat → Nat → Bool) (day : Int32) (N : Nat) : Prop := σ 616 0 0 = nI m ∧ N ≤ 200 ∧ σ 608 0 0 = nI N ∧ ∀ i, i < m → σ 1061 0 i = nI (P i) ∧ P i < 40 ∧ σ 1050 0 (P i) = S i ∧ (∃ s, s < 20 ∧ S i = nI s ∧ ∀ h, h < 6 → (ok i h = true ↔ ((¬ nI h < 0 ∧ ¬ LH day - 1 < nI h) ∧ (¬ nI h < σ 1047 0 s ∧ ¬ σ 1048 0 s < nI h) ∧ ¬ ∃ j, j < N ∧ σ 1059 0 j = day ∧ σ 1060 0 j = nI h))) ∧ (∃ c n, c ≤ n ∧ σ 576 0 0 = nI n ∧ σ 1052 0 (P i) = nI c ∧ w i = 1 + n - c)
theorem SM.cg {σ τ : pr_Sg} {m : Nat} {w P : Nat → Nat} {S : Nat → Int32} {ok : Nat → Nat → Bool} {day : Int32} {N : Nat} (h : SM σ m w P S ok day N) (ha : ag [1062, 1063, 617] σ τ) : SM τ m w P S ok day N := by
  unfold SM
  rw [ha 616 (by decide), ha 608 (by decide), ha 1061 (by decide), ha 1050 (by decide), ha 1047 (by decide), ha 1048 (by decide), ha 1059 (by decide), ha 1060 (by decide), ha 576 (by decide), ha 1052 (by decide)]
  exact h
def RM (σ : pr_Sg) (m k : Nat) (ln : Nat → Int32) (b : Nat × (Nat → Int32)) : Prop := (∀ i, i < k → σ 1062 0 i = ln i) ∧ (b.1 ≠ 0 → ∀ i, i < m → σ 1063 0 i = b.2 i) ∧ σ 617 0 0 = nI b.1 - 1
theorem keepM {g : Nat → Nat} {rec : pr_Sg → Int32 → Int32 → Int32 → Int32 → (pr_Sg → Prop) → Prop} {σ : pr_Sg} {Q : pr_Sg → Prop} {m : Nat} (hm : m ≤ 5) (q : ∀ τ, ag [1063] σ τ → (∀ i, i < m → τ 1063 0 i = σ 1062 0 i) → Q τ) : ∃ n, wp_X9_tries_L27 g rec Q n σ (nI m) 0 := by
  have L : ∀ d k τ, k ≤ m → m - k < d → ag [1063] σ τ → (∀ i, i < k → τ 1063 0 i = σ 1062 0 i) → wp_X9_tries_L27 g rec Q d τ (nI m) (nI k) := fun d => by
    induction d with
    | zero => intro k _ _ h; exact absurd h (by omega)
    | succ d ih =>
      intro k τ hk hd ha hi
      unfold wp_X9_tries_L27
      by_cases ek : k = m
      · subst ek
        exact ⟨fun _ => q τ ha hi, fun c => absurd (nI_le (Nat.le_refl k) (by omega)) c⟩
      · have vk : vp_in (nI k) 5 := vp_in_nI (by omega) (by omega)
        rw [nI_clamp (n := k) (by omega), nI_1]
        refine ⟨fun c => absurd c (nI_ge (by omega) (by omega)), fun _ => ⟨vk, vk, fun σ3 e3 => ?_⟩⟩
        refine ih (k + 1) σ3 (by omega) (by omega) (by rw [e3]; exact ag_up ha _ _ _ _ (by decide)) (fun i h => ?_)
        rw [e3, up_if]
        by_cases ei : i = k
        · subst ei
          rw [if_pos ⟨rfl, rfl⟩, ha 1062 (by decide)]
        · rw [if_neg (fun w => ei w.2)]
          exact hi i (by omega)
  exact ⟨m + 1, L (m + 1) 0 σ (by omega) (by omega) ag_rf (fun i h => absurd h (by omega))⟩
theorem triesM {g : Nat → Nat} {m : Nat} {w P : Nat → Nat} {ok : Nat → Nat → Bool} {S : Nat → Int32} {day : Int32} {N : Nat} (hm : m ≤ 5) :
    ∀ (r d k t s : Nat) (ln : Nat → Int32) (b : Nat × (Nat → Int32)) (σ : pr_Sg) (Q : pr_Sg → Prop), r < d → k + r = m → t < 64 → s + lf w r k < 200000 → b.1 ≤ 200000 → SM σ m w P S ok day N → RM σ m k ln b → (∀ τ, ag [1062, 1063, 617] σ τ → RM τ m k ln (dfs w ok S r k t s ln b) → Q τ) → wp_X9_tries g d σ (nI k) day (nI t) (nI s) Q := by
  intro r
  induction r with
  | zero =>
    intro d k t s ln b σ Q hd hk ht hs hb hS hR q
    obtain ⟨d, rfl⟩ : ∃ d', d = d' + 1 := ⟨d - 1, by omega⟩
    show wpb_X9_tries _ _ _ _ _ _ _ _
    unfold wpb_X9_tries
    obtain ⟨r1, r2, r3⟩ := id hR
    have hk' : k = m := by omega
    subst hk'
    have lt : nI b.1 - 1 < nI s ↔ b.1 ≤ s := m1_lt hb (by omega)
    rw [hS.1, r3]
    refine ⟨fun c => absurd rfl c, fun _ => ⟨fun c => fun σ16 e16 => ?_, fun c => q σ ag_rf ?_⟩⟩
    · have c' := lt.mp c
      have a16 : ag [1062, 1063, 617] σ σ16 := by rw [e16]; exact ag_up ag_rf _ _ _ _ (by decide)
      refine keepM hm (fun τ ha e2 => q τ ?_ ?_)
      · exact ag_tr a16 (fun t ht => ha t (fun w => ht (by revert w; simp; omega)))
      · have e : dfs w ok S 0 k t s ln b = (s + 1, ln) := by
          unfold dfs
          exact if_pos c'
        rw [e]
        have f : ∀ i, σ16 1062 0 i = σ 1062 0 i := fun i => by rw [e16, up_tag (by decide)]
        refine ⟨fun i hi => by rw [ha 1062 (by decide), f]; exact r1 i hi, fun _ i hi => by rw [e2 i hi, f]; exact r1 i hi, ?_⟩
        rw [ha 617 (by decide), e16, up_eq]
        exact (nI_pred s).symm
    · have e : dfs w ok S 0 k t s ln b = b := by
        unfold dfs
        exact if_neg (mt lt.mpr c)
      rw [e]
      exact hR
  | succ r ih =>
    intro d k t s ln b σ Q hd hk ht hs hb hS hR q
    obtain ⟨d, rfl⟩ : ∃ d', d = d' + 1 := ⟨d - 1, by omega⟩
    show wpb_X9_tries _ _ _ _ _ _ _ _
    unfold wpb_X9_tries
    obtain ⟨r1, r2, r3⟩ := id hR
    have hkm : k < m := by omega
    obtain ⟨s1, s2, s3, s4, s5⟩ := hS.2.2.2 k hkm
    have vk : vp_in (nI k) 5 := vp_in_nI (by omega) (by omega)
    have vp : vp_in (nI (P k)) 40 := vp_in_nI s2 (by omega)
    have hlf : lf w (r + 1) k = w k + lf w r (k + 1) := rfl
    rw [hS.1, nI_clamp (n := k) (by omega), s1]
    refine ⟨fun _ => ⟨vk, ?_⟩, fun c => absurd ((nI_eq (by omega) (by omega)).mp c) (by omega)⟩
    have L210 : ∀ (τ : pr_Sg) (b' : Nat × (Nat → Int32)), ag [1062, 1063, 617] σ τ → RM τ m k ln b' → b'.1 ≤ 200000 → (∀ υ, ag [1062, 1063, 617] σ υ → RM υ m k ln (dfs w ok S r (k + 1) t s (st1 ln k (-1)) b') → Q υ) → wp_X9_tries_L210 g (wp_X9_tries g d) Q τ (nI k) day (nI t) (nI s) := by
      intro τ b' ha hR' hb' q'
      unfold wp_X9_tries_L210
      rw [nI_clamp (n := k) (by omega), nI_1]
      refine ⟨vk, fun σ8 e8 => ?_⟩
      have a8 : ag [1062, 1063, 617] τ σ8 := by rw [e8]; exact ag_up ag_rf _ _ _ _ (by decide)
      refine ih d (k + 1) t s (st1 ln k (-1)) b' σ8 _ (by omega) (by omega) ht (by omega) hb' ((hS.cg ha).cg a8) ⟨fun i hi => ?_, fun p i hi => ?_, ?_⟩ (fun υ hu hR2 => q' υ (ag_tr (ag_tr ha a8) hu) ⟨fun i hi => ?_, hR2.2.1, hR2.2.2⟩)
      · rw [e8, up_if]
        by_cases ei : i = k
        · subst ei
          rw [if_pos ⟨rfl, rfl⟩, st1_eq]
        · rw [if_neg (fun w => ei w.2), st1_lt (by omega)]
          exact hR'.1 i (by omega)
      · rw [e8, up_tag (by decide)]
        exact hR'.2.1 p i hi
      · rw [e8, up_tag (by decide)]
        exact hR'.2.2
      · exact (hR2.1 i (by omega)).trans (st1_lt hi)
    have L128 : tw S ln k = false → ∀ (n h : Nat) (τ : pr_Sg) (b' : Nat × (Nat → Int32)), h + n = 6 → ag [1062, 1063, 617] σ τ → RM τ m k ln b' → b'.1 ≤ 200000 → (∀ υ, ag [1062, 1063, 617] σ υ → RM υ m k ln (dfs w ok S r (k + 1) t s (st1 ln k (-1)) (hl (cnd ok S k t ln) (fun h b => dfs w ok S r (k + 1) (t ||| 2 ^ h) (s + w k) (st1 ln k (nI h)) b) n h b')) → Q υ) → wp_X9_tries_L128 g (wp_X9_tries g d) Q (n + 1) τ (nI k) day (nI t) (nI s) (nI (P k)) 0 (nI h) := by
      intro htw n
      induction n with
      | zero =>
        intro h τ b' hh ha hR' hb' q'
        obtain rfl : h = 6 := by omega
        unfold wp_X9_tries_L128
        exact ⟨fun _ => L210 τ b' ha hR' hb' q', fun c => absurd (by decide) c⟩
      | succ n ihn =>
        intro h τ b' hh ha hR' hb' q'
        unfold hl at q'
        unfold wp_X9_tries_L128
        have hh6 : h < 6 := by omega
        obtain ⟨t1, t2, t3, ⟨sn, hsn, t4, t5⟩, ⟨c, n0, hc, t6, t7, t8⟩⟩ := (hS.cg ha).2.2.2 k hkm
        have no : cnd ok S k t ln h = false → wp_X9_tries_L128 g (wp_X9_tries g d) Q (n + 1) τ (nI k) day (nI t) (nI s) (nI (P k)) 0 (nI (h + 1)) := fun c' => by
          rw [c', if_neg (by decide)] at q'
          exact ihn (h + 1) τ b' (by omega) ha hR' hb' q'
        rw [nI_clamp (n := k) (by omega), nI_clamp (n := P k) (by omega), nI_1, nI_1, nI_1, (bt1 t ht h hh6).1, bt2 t ht h hh6]
        refine ⟨fun c => absurd c (nI_ge (b := 6) hh6 (by omega)), fun _ => y_f ⟨fun c => no ?_, fun c => ?_⟩⟩
        · simp [cnd, c]
        · refine couldM (s := sn) t2 hsn (t3.trans t4) hS.2.1 (hS.cg ha).2.2.1 (fun c2 => y_t ⟨vk, fun σ11 e11 => ⟨vp, ?_⟩⟩) (fun c2 => y_f (no ?_))
          rotate_left
          · have : ok k h = false := by
              cases e : ok k h with
              | false => rfl
              | true => exact absurd ((t5 h hh6).mp e) c2
            simp [cnd, this]
          have c' : cnd ok S k t ln h = true := by
            have := (t5 h hh6).mpr c2
            simp [cnd, this, htw, c]
          rw [c', if_pos rfl] at q'
          have a11 : ag [1062, 1063, 617] τ σ11 := by rw [e11]; exact ag_up ag_rf _ _ _ _ (by decide)
          have ew : nI (s + 1) + σ11 576 0 0 - σ11 1052 0 (P k) = nI (s + w k) := by
            rw [e11, up_tag (by decide), up_tag (by decide), t6, t7, nI_add, pk_sub (by omega), t8]
            congr 1
            omega
          rw [ew]
          refine ih d (k + 1) (t ||| 2 ^ h) (s + w k) (st1 ln k (nI h)) b' σ11 _ (by omega) (by omega) (bt1 t ht h hh6).2 (by omega) hb' ((hS.cg ha).cg a11) ⟨fun i hi => ?_, fun p i hi => ?_, ?_⟩ (fun υ hu hR2 => ihn (h + 1) υ _ (by omega) (ag_tr (ag_tr ha a11) hu) ⟨fun i hi => ?_, hR2.2.1, hR2.2.2⟩ (dfs_le _ _ _ _ _ _ (by omega) hb') q')
          · rw [e11, up_if]
            by_cases ei : i = k
            · subst ei
              rw [if_pos ⟨rfl, rfl⟩, st1_eq]
            · rw [if_neg (fun w => ei w.2), st1_lt (by omega)]
              exact hR'.1 i (by omega)
          · rw [e11, up_tag (by decide)]
            exact hR'.2.1 p i hi
          · rw [e11, up_tag (by decide)]
            exact hR'.2.2
          · exact (hR2.1 i (by omega)).trans (st1_lt hi)
    have q1 : tw S ln k = true → ∃ n, wp_X9_tries_L128 g (wp_X9_tries g d) Q n σ (nI k) day (nI t) (nI s) (nI (P k)) 1 0 := fun htw => by
      refine ⟨1, ?_⟩
      have q' : ∀ υ, ag [1062, 1063, 617] σ υ → RM υ m k ln (dfs w ok S r (k + 1) t s (st1 ln k (-1)) b) → Q υ := fun υ hu hR2 => q υ hu (by
        unfold dfs
        rw [hl_no (fun h => by simp [cnd, htw])]
        exact hR2)
      unfold wp_X9_tries_L128
      exact ⟨fun c => absurd c (by decide), fun _ => ⟨fun _ => L210 σ b ag_rf hR hb q', fun c => absurd c (by decide)⟩⟩
    have q0 : tw S ln k = false → ∃ n, wp_X9_tries_L128 g (wp_X9_tries g d) Q n σ (nI k) day (nI t) (nI s) (nI (P k)) 0 0 := fun htw => ⟨7, L128 htw 6 0 σ b rfl ag_rf hR hb q⟩
    have L68 : ∀ d' i x6, i ≤ k → k - i < d' → (x6 = 1 ∧ tw S ln k = true ∨ x6 = 0 ∧ ∀ j, j < i → ¬ (S j = S k ∧ ¬ ln j = -1)) → wp_X9_tries_L68 g (wp_X9_tries g d) Q d' σ (nI k) day (nI t) (nI s) (nI (P k)) x6 (nI i) := fun d' => by
      induction d' with
      | zero => intro i _ _ h; exact absurd h (by omega)
      | succ d' ih' =>
        intro i x6 hi hd' hx
        unfold wp_X9_tries_L68
        by_cases ei : i = k
        · subst ei
          refine ⟨fun _ => ?_, fun c => absurd (nI_le (Nat.le_refl i) (by omega)) c⟩
          rcases hx with ⟨rfl, hx⟩ | ⟨rfl, hx⟩
          · exact q1 hx
          · refine q0 ?_
            unfold tw
            rw [decide_eq_false_iff_not]
            rintro ⟨j, hj, e⟩
            exact hx j hj e
        · have vi : vp_in (nI i) 5 := vp_in_nI (by omega) (by omega)
          obtain ⟨t1, t2, t3, -⟩ := hS.2.2.2 i (by omega)
          rw [nI_clamp (n := i) (by omega), nI_clamp (n := P k) (by omega), t1, nI_clamp (n := P i) (by omega), t3, s3, r1 i (by omega), nI_1]
          refine ⟨fun c => absurd c (nI_ge (by omega) (by omega)), fun _ => ?_⟩
          rcases hx with ⟨rfl, hx⟩ | ⟨rfl, hx⟩
          · exact y_t (ih' (i + 1) 1 (by omega) (by omega) (Or.inl ⟨rfl, hx⟩))
          · have nx : ¬ (S i = S k ∧ ¬ ln i = -1) → wp_X9_tries_L68 g (wp_X9_tries g d) Q d' σ (nI k) day (nI t) (nI s) (nI (P k)) 0 (nI (i + 1)) := fun c => by
              refine ih' (i + 1) 0 (by omega) (by omega) (Or.inr ⟨rfl, fun j hj => ?_⟩)
              by_cases ej : j = i
              · subst ej
                exact c
              · exact hx j (by omega)
            refine y_f ⟨vi, fun c => nx (fun w => w.2 c), fun c => ⟨vi, vp_in_nI t2 (by omega), vp, fun c2 => nx (fun w => c2 w.1), fun c2 => ?_⟩⟩
            refine ih' (i + 1) 1 (by omega) (by omega) (Or.inl ⟨rfl, ?_⟩)
            unfold tw
            rw [decide_eq_true_iff]
            exact ⟨i, by omega, c2, c⟩
    exact ⟨k + 1, L68 (k + 1) 0 0 (by omega) (by omega) (Or.inr ⟨rfl, fun j hj => absurd hj (by omega)⟩)⟩
