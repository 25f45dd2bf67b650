/-- the sittings of both, as functions -/
def SITS (n G : Nat) (P S D H U P' D' H' U' st bk us : Nat → Int32) : Prop :=
  (∀ i, i < n → ∃ p, p < G ∧ P i = nI p ∧ S i = st p) ∧ (∀ i, i < n → ∃ p, p < G ∧ P' i = nI p ∧ ¬ (20000 : Int32) < D' i) ∧
  (∀ i, i < n → U i = 0 ∨ U i = 1) ∧ (∀ i, i < n → U' i = 0 ∨ U' i = 1) ∧
  (∀ a b c d, (∃ i, i < n ∧ P i = a ∧ D i = b ∧ H i = c ∧ U i = d) ↔ (∃ i, i < n ∧ P' i = a ∧ D' i = b ∧ H' i = c ∧ U' i = d)) ∧
  (∀ i j, i < n → j < n → D i = D j → P i = P j → i = j) ∧ (∀ i j, i < n → j < n → D' i = D' j → P' i = P' j → i = j) ∧
  (∀ p, p < G → bk p = nI (cntN (fun i => P' i = nI p) n) ∧ us p = nI (cntN (fun i => P' i = nI p ∧ U' i = 1) n))
theorem sits_iff {g : Nat → Nat} {σ : pr_Sg} : I_sits g σ ↔ ∃ n, n ≤ 200 ∧ σ 453 0 0 = nI n ∧ σ 608 0 0 = nI n ∧ SITS n (g 2) (σ 1024 0) (σ 1025 0) (σ 1026 0) (σ 1027 0) (σ 1070 0) (σ 1058 0) (σ 1059 0) (σ 1060 0) (σ 1071 0) (σ 1050 0) (fun p => σ 199 p 0) (fun p => σ 200 p 0) := Iff.rfl
theorem ex_succ {n : Nat} {Q : Nat → Prop} : (∃ i, i < n + 1 ∧ Q i) ↔ ((∃ i, i < n ∧ Q i) ∨ Q n) := by
  constructor
  · rintro ⟨i, h1, h2⟩
    by_cases e : i = n
    · subst e
      exact Or.inr h2
    · exact Or.inl ⟨i, by omega, h2⟩
  · rintro (⟨i, h1, h2⟩ | h)
    · exact ⟨i, by omega, h2⟩
    · exact ⟨n, by omega, h⟩
theorem ex_cg {n : Nat} {Q R : Nat → Prop} (h : ∀ i, i < n → (Q i ↔ R i)) : (∃ i, i < n ∧ Q i) ↔ (∃ i, i < n ∧ R i) :=
  ⟨fun ⟨i, h1, h2⟩ => ⟨i, h1, (h i h1).mp h2⟩, fun ⟨i, h1, h2⟩ => ⟨i, h1, (h i h1).mpr h2⟩⟩
theorem SITS.add {n G p : Nat} {P S D H U P' D' H' U' st bk us Q T E J V Q' E' J' V' bk' us' : Nat → Int32} {b c : Int32} (h : SITS n G P S D H U P' D' H' U' st bk us) (hG : G ≤ 40) (hp : p < G)
    (hfree : ¬ ∃ i, i < n ∧ D i = b ∧ S i = st p) (hb : ¬ (20000 : Int32) < b)
    (eQ : ∀ i, Q i = if i = n then nI p else P i) (eT : ∀ i, T i = if i = n then st p else S i) (eE : ∀ i, E i = if i = n then b else D i) (eJ : ∀ i, J i = if i = n then c else H i) (eV : ∀ i, V i = if i = n then 0 else U i)
    (eQ' : ∀ i, Q' i = if i = n then nI p else P' i) (eE' : ∀ i, E' i = if i = n then b else D' i) (eJ' : ∀ i, J' i = if i = n then c else H' i) (eV' : ∀ i, V' i = if i = n then 0 else U' i)
    (ebk : ∀ i, bk' i = if i = p then bk p + 1 else bk i) (eus : ∀ i, us' i = us i) : SITS (n + 1) G Q T E J V Q' E' J' V' st bk' us' := by
  obtain ⟨s1, s2, s3, s4, s5, s6, s7, s8⟩ := h
  have ne : ∀ {i}, i < n → i ≠ n := fun h => by omega
  have key : ∀ i, i < n → D i = b → P i = nI p → False := fun i hi h1 h2 => by
    obtain ⟨q, hq, e1, e2⟩ := s1 i hi
    rw [h2] at e1
    have := (nI_eq (by omega) (by omega)).mp e1
    subst this
    exact hfree ⟨i, hi, h1, e2⟩
  have key' : ∀ i, i < n → D' i = b → P' i = nI p → False := fun i hi h1 h2 => by
    obtain ⟨j, hj, e1, e2, -⟩ := (s5 (P' i) (D' i) (H' i) (U' i)).mpr ⟨i, hi, rfl, rfl, rfl, rfl⟩
    exact key j hj (by rw [e2, h1]) (by rw [e1, h2])
  refine ⟨?_, ?_, ?_, ?_, ?_, ?_, ?_, ?_⟩
  · intro i hi
    by_cases e : i = n
    · exact ⟨p, hp, by rw [eQ, if_pos e], by rw [eT, if_pos e]⟩
    · rw [eQ, eT, if_neg e, if_neg e]
      exact s1 i (by omega)
  · intro i hi
    by_cases e : i = n
    · exact ⟨p, hp, by rw [eQ', if_pos e], by rw [eE', if_pos e]; exact hb⟩
    · rw [eQ', eE', if_neg e, if_neg e]
      exact s2 i (by omega)
  · intro i hi
    by_cases e : i = n
    · left; rw [eV, if_pos e]
    · rw [eV, if_neg e]
      exact s3 i (by omega)
  · intro i hi
    by_cases e : i = n
    · left; rw [eV', if_pos e]
    · rw [eV', if_neg e]
      exact s4 i (by omega)
  · intro a1 a2 a3 a4
    rw [ex_succ, ex_succ]
    refine or_congr ?_ ?_
    · rw [ex_cg (R := fun i => P i = a1 ∧ D i = a2 ∧ H i = a3 ∧ U i = a4) (fun i hi => by rw [eQ, eE, eJ, eV, if_neg (ne hi), if_neg (ne hi), if_neg (ne hi), if_neg (ne hi)]), ex_cg (Q := fun i => Q' i = a1 ∧ E' i = a2 ∧ J' i = a3 ∧ V' i = a4) (R := fun i => P' i = a1 ∧ D' i = a2 ∧ H' i = a3 ∧ U' i = a4) (fun i hi => by rw [eQ', eE', eJ', eV', if_neg (ne hi), if_neg (ne hi), if_neg (ne hi), if_neg (ne hi)])]
      exact s5 a1 a2 a3 a4
    · rw [eQ, eE, eJ, eV, eQ', eE', eJ', eV']
      simp only [if_true]
  · intro i j hi hj e1 e2
    rw [eE, eE] at e1
    rw [eQ, eQ] at e2
    by_cases ei : i = n
    · by_cases ej : j = n
      · omega
      · rw [if_pos ei, if_neg ej] at e1 e2
        exact (key j (by omega) e1.symm e2.symm).elim
    · by_cases ej : j = n
      · rw [if_pos ej, if_neg ei] at e1 e2
        exact (key i (by omega) e1 e2).elim
      · rw [if_neg ei, if_neg ej] at e1 e2
        exact s6 i j (by omega) (by omega) e1 e2
  · intro i j hi hj e1 e2
    rw [eE', eE'] at e1
    rw [eQ', eQ'] at e2
    by_cases ei : i = n
    · by_cases ej : j = n
      · omega
      · rw [if_pos ei, if_neg ej] at e1 e2
        exact (key' j (by omega) e1.symm e2.symm).elim
    · by_cases ej : j = n
      · rw [if_pos ej, if_neg ei] at e1 e2
        exact (key' i (by omega) e1 e2).elim
      · rw [if_neg ei, if_neg ej] at e1 e2
        exact s7 i j (by omega) (by omega) e1 e2
  · intro q hq
    obtain ⟨b1, b2⟩ := s8 q hq
    have c1 : cntN (fun i => Q' i = nI q) n = cntN (fun i => P' i = nI q) n := cntN_cg (fun i hi => by rw [eQ', if_neg (ne hi)])
    have c2 : cntN (fun i => Q' i = nI q ∧ V' i = 1) n = cntN (fun i => P' i = nI q ∧ U' i = 1) n := cntN_cg (fun i hi => by rw [eQ', eV', if_neg (ne hi), if_neg (ne hi)])
    have v0 : V' n = 0 := by rw [eV', if_pos rfl]
    have q0 : Q' n = nI p := by rw [eQ', if_pos rfl]
    constructor
    · rw [ebk]
      unfold cntN
      rw [c1, q0]
      by_cases e : q = p
      · subst e
        rw [if_pos rfl, if_pos rfl, b1, nI_1]
      · rw [if_neg e, if_neg (fun q => e ((nI_eq (by omega) (by omega)).mp q).symm), b1]
        rfl
    · rw [eus]
      unfold cntN
      rw [c2, v0, b2, if_neg (fun q => absurd q.2 (by decide))]
      rfl
theorem cntN_sh {Q : Nat → Prop} [DecidablePred Q] {k : Nat} : ∀ n, k ≤ n → cntN (fun i => Q (if i < k then i else i + 1)) n + (if Q k then 1 else 0) = cntN Q (n + 1) := by
  intro n
  induction n with
  | zero =>
    intro hk
    have : k = 0 := by omega
    subst this
    simp [cntN]
  | succ n ih =>
    intro hk
    by_cases e : k = n + 1
    · subst e
      have : cntN (fun i => Q (if i < n + 1 then i else i + 1)) (n + 1) = cntN Q (n + 1) := cntN_cg (fun i hi => by rw [if_pos hi])
      rw [this]
      conv => rhs; unfold cntN
    · have := ih (by omega)
      conv => rhs; unfold cntN
      rw [← this]
      conv => lhs; unfold cntN
      rw [if_neg (show ¬ n < k by omega)]
      omega
/-- X fills the hole with the last, the reference moves up -/
theorem SITS.rem {n G p k k' : Nat} {P S D H U P' D' H' U' st bk us Q T E J V Q' E' J' V' bk' us' : Nat → Int32} {b : Int32} (h : SITS (n + 1) G P S D H U P' D' H' U' st bk us) (hn : n + 1 ≤ 200) (hG : G ≤ 40) (hp : p < G)
    (hk : k < n + 1) (hk' : k' < n + 1) (w1 : P k = nI p) (w2 : D k = b) (w1' : P' k' = nI p) (w2' : D' k' = b) (w3' : U' k' = 0)
    (eQ : ∀ i, Q i = if i = k then P n else P i) (eT : ∀ i, T i = if i = k then S n else S i) (eE : ∀ i, E i = if i = k then D n else D i) (eJ : ∀ i, J i = if i = k then H n else H i) (eV : ∀ i, i < n + 1 → V i = if i = k then U n else U i)
    (eQ' : ∀ i, i < n → Q' i = P' (if i < k' then i else i + 1)) (eE' : ∀ i, i < n → E' i = D' (if i < k' then i else i + 1)) (eJ' : ∀ i, i < n → J' i = H' (if i < k' then i else i + 1)) (eV' : ∀ i, i < n → V' i = U' (if i < k' then i else i + 1))
    (ebk : ∀ i, bk' i = if i = p then bk p - 1 else bk i) (eus : ∀ i, us' i = us i) : SITS n G Q T E J V Q' E' J' V' st bk' us' := by
  obtain ⟨s1, s2, s3, s4, s5, s6, s7, s8⟩ := h
  have X1 : ∀ i, i < n → ∃ j, j < n + 1 ∧ j ≠ k ∧ Q i = P j ∧ T i = S j ∧ E i = D j ∧ J i = H j ∧ V i = U j ∧ j = if i = k then n else i := fun i hi => by
    by_cases e : i = k
    · exact ⟨n, by omega, by omega, by rw [eQ, if_pos e], by rw [eT, if_pos e], by rw [eE, if_pos e], by rw [eJ, if_pos e], by rw [eV i (by omega), if_pos e], by rw [if_pos e]⟩
    · exact ⟨i, by omega, e, by rw [eQ, if_neg e], by rw [eT, if_neg e], by rw [eE, if_neg e], by rw [eJ, if_neg e], by rw [eV i (by omega), if_neg e], by rw [if_neg e]⟩
  have X2 : ∀ j, j < n + 1 → j ≠ k → ∃ i, i < n ∧ Q i = P j ∧ E i = D j ∧ J i = H j ∧ V i = U j := fun j hj ne => by
    by_cases e : j = n
    · subst e
      have hk2 : k < j := by omega
      exact ⟨k, hk2, by rw [eQ, if_pos rfl], by rw [eE, if_pos rfl], by rw [eJ, if_pos rfl], by rw [eV k hk, if_pos rfl]⟩
    · exact ⟨j, by omega, by rw [eQ, if_neg ne], by rw [eE, if_neg ne], by rw [eJ, if_neg ne], by rw [eV j hj, if_neg ne]⟩
  have M1 : ∀ i, i < n → ∃ j, j < n + 1 ∧ j ≠ k' ∧ Q' i = P' j ∧ E' i = D' j ∧ J' i = H' j ∧ V' i = U' j ∧ j = if i < k' then i else i + 1 := fun i hi =>
    ⟨if i < k' then i else i + 1, by split <;> omega, by split <;> omega, eQ' i hi, eE' i hi, eJ' i hi, eV' i hi, rfl⟩
  have M2 : ∀ j, j < n + 1 → j ≠ k' → ∃ i, i < n ∧ Q' i = P' j ∧ E' i = D' j ∧ J' i = H' j ∧ V' i = U' j := fun j hj ne => by
    by_cases e : j < k'
    · have hj2 : j < n := by omega
      exact ⟨j, hj2, by rw [eQ' j hj2, if_pos e], by rw [eE' j hj2, if_pos e], by rw [eJ' j hj2, if_pos e], by rw [eV' j hj2, if_pos e]⟩
    · have hj2 : j - 1 < n := by omega
      have e2 : ¬ j - 1 < k' := by omega
      have e3 : j - 1 + 1 = j := by omega
      exact ⟨j - 1, hj2, by rw [eQ' _ hj2, if_neg e2, e3], by rw [eE' _ hj2, if_neg e2, e3], by rw [eJ' _ hj2, if_neg e2, e3], by rw [eV' _ hj2, if_neg e2, e3]⟩
  refine ⟨?_, ?_, ?_, ?_, ?_, ?_, ?_, ?_⟩
  · intro i hi
    obtain ⟨j, hj, -, f1, f2, -⟩ := X1 i hi
    rw [f1, f2]
    exact s1 j hj
  · intro i hi
    obtain ⟨j, hj, -, f1, f2, -⟩ := M1 i hi
    rw [f1, f2]
    exact s2 j hj
  · intro i hi
    obtain ⟨j, hj, -, -, -, -, -, f1, -⟩ := X1 i hi
    rw [f1]
    exact s3 j hj
  · intro i hi
    obtain ⟨j, hj, -, -, -, -, f1, -⟩ := M1 i hi
    rw [f1]
    exact s4 j hj
  · intro a1 a2 a3 a4
    constructor
    · rintro ⟨i, hi, f1, f2, f3, f4⟩
      obtain ⟨j, hj, jk, g1, -, g2, g3, g4, -⟩ := X1 i hi
      rw [g1] at f1
      rw [g2] at f2
      rw [g3] at f3
      rw [g4] at f4
      obtain ⟨j', hj', m1, m2, m3, m4⟩ := (s5 a1 a2 a3 a4).mp ⟨j, hj, f1, f2, f3, f4⟩
      have jk' : j' ≠ k' := fun e => jk (s6 j k hj hk (by rw [f2, w2, ← m2, e, w2']) (by rw [f1, w1, ← m1, e, w1']))
      obtain ⟨i', hi', r1, r2, r3, r4⟩ := M2 j' hj' jk'
      exact ⟨i', hi', by rw [r1, m1], by rw [r2, m2], by rw [r3, m3], by rw [r4, m4]⟩
    · rintro ⟨i, hi, f1, f2, f3, f4⟩
      obtain ⟨j, hj, jk, g1, g2, g3, g4, -⟩ := M1 i hi
      rw [g1] at f1
      rw [g2] at f2
      rw [g3] at f3
      rw [g4] at f4
      obtain ⟨j', hj', m1, m2, m3, m4⟩ := (s5 a1 a2 a3 a4).mpr ⟨j, hj, f1, f2, f3, f4⟩
      have jk' : j' ≠ k := fun e => jk (s7 j k' hj hk' (by rw [f2, w2', ← m2, e, w2]) (by rw [f1, w1', ← m1, e, w1]))
      obtain ⟨i', hi', r1, r2, r3, r4⟩ := X2 j' hj' jk'
      exact ⟨i', hi', by rw [r1, m1], by rw [r2, m2], by rw [r3, m3], by rw [r4, m4]⟩
  · intro i j hi hj e1 e2
    obtain ⟨i2, hi2, -, g1, -, g2, -, -, g5⟩ := X1 i hi
    obtain ⟨j2, hj2, -, r1, -, r2, -, -, r5⟩ := X1 j hj
    rw [g2, r2] at e1
    rw [g1, r1] at e2
    have := s6 i2 j2 hi2 hj2 e1 e2
    rw [g5, r5] at this
    split at this <;> split at this <;> omega
  · intro i j hi hj e1 e2
    obtain ⟨i2, hi2, -, g1, g2, -, -, g5⟩ := M1 i hi
    obtain ⟨j2, hj2, -, r1, r2, -, -, r5⟩ := M1 j hj
    rw [g2, r2] at e1
    rw [g1, r1] at e2
    have := s7 i2 j2 hi2 hj2 e1 e2
    rw [g5, r5] at this
    split at this <;> split at this <;> omega
  · intro q hq
    obtain ⟨b1, b2⟩ := s8 q hq
    have c1 : cntN (fun i => Q' i = nI q) n = cntN (fun i => P' (if i < k' then i else i + 1) = nI q) n := cntN_cg (fun i hi => by rw [eQ' i hi])
    have c2 : cntN (fun i => Q' i = nI q ∧ V' i = 1) n = cntN (fun i => P' (if i < k' then i else i + 1) = nI q ∧ U' (if i < k' then i else i + 1) = 1) n := cntN_cg (fun i hi => by rw [eQ' i hi, eV' i hi])
    have d1 := cntN_sh (Q := fun i => P' i = nI q) (k := k') n (by omega)
    have d2 := cntN_sh (Q := fun i => P' i = nI q ∧ U' i = 1) (k := k') n (by omega)
    rw [← c1] at d1
    rw [← c2] at d2
    rw [if_neg (fun q => absurd (w3'.symm.trans q.2) (by decide))] at d2
    constructor
    · rw [ebk]
      by_cases e : q = p
      · subst e
        rw [if_pos w1'] at d1
        rw [if_pos rfl, b1, ← d1, nI_pred]
      · rw [if_neg (fun r => e ((nI_eq (by omega) (by omega)).mp (w1'.symm.trans r)).symm)] at d1
        rw [if_neg e, b1, ← d1]
        rfl
    · rw [eus, b2, ← d2]
      rfl
theorem cntN_add {Q R : Nat → Prop} [DecidablePred Q] [DecidablePred R] {k : Nat} (hQ : ¬ Q k) (hR : R k) : ∀ n, (∀ i, i < n → i ≠ k → (Q i ↔ R i)) → cntN R n = cntN Q n + (if k < n then 1 else 0) := by
  intro n
  induction n with
  | zero => intro _; rfl
  | succ n ih =>
    intro h
    have := ih (fun i hi => h i (by omega))
    unfold cntN
    rw [this]
    by_cases e : n = k
    · subst e
      rw [if_pos hR, if_neg hQ, if_neg (by omega), if_pos (by omega)]
    · have h2 := h n (by omega) e
      by_cases c : k < n
      · rw [if_pos c, if_pos (show k < n + 1 by omega)]
        by_cases q : Q n
        · rw [if_pos q, if_pos (h2.mp q)]
        · rw [if_neg q, if_neg (fun r => q (h2.mpr r))]
      · rw [if_neg c, if_neg (show ¬ k < n + 1 by omega)]
        by_cases q : Q n
        · rw [if_pos q, if_pos (h2.mp q)]
        · rw [if_neg q, if_neg (fun r => q (h2.mpr r))]
theorem SITS.use {n G p k k' : Nat} {P S D H U P' D' H' U' st bk us V V' us' : Nat → Int32} {b : Int32} (h : SITS n G P S D H U P' D' H' U' st bk us) (hn : n ≤ 200) (hG : G ≤ 40) (hp : p < G)
    (hk : k < n) (hk' : k' < n) (w1 : P k = nI p) (w2 : D k = b) (w1' : P' k' = nI p) (w2' : D' k' = b) (w3' : U' k' = 0)
    (eV : ∀ i, V i = if i = k then 1 else U i) (eV' : ∀ i, V' i = if i = k' then 1 else U' i) (eus : ∀ i, us' i = if i = p then us p + 1 else us i) : SITS n G P S D H V P' D' H' V' st bk us' := by
  obtain ⟨s1, s2, s3, s4, s5, s6, s7, s8⟩ := h
  refine ⟨s1, s2, ?_, ?_, ?_, s6, s7, ?_⟩
  · intro i hi
    rw [eV]
    split
    · exact Or.inr rfl
    · exact s3 i hi
  · intro i hi
    rw [eV']
    split
    · exact Or.inr rfl
    · exact s4 i hi
  · intro a1 a2 a3 a4
    constructor
    · rintro ⟨i, hi, f1, f2, f3, f4⟩
      obtain ⟨j, hj, m1, m2, m3, m4⟩ := (s5 a1 a2 a3 (U i)).mp ⟨i, hi, f1, f2, f3, rfl⟩
      refine ⟨j, hj, m1, m2, m3, ?_⟩
      rw [eV] at f4
      rw [eV']
      by_cases e : i = k
      · have : j = k' := s7 j k' hj hk' (by rw [m2, ← f2, e, w2, w2']) (by rw [m1, ← f1, e, w1, w1'])
        rw [if_pos e] at f4
        rw [if_pos this, f4]
      · rw [if_neg e] at f4
        rw [if_neg (fun q => e (s6 i k hi hk (by rw [f2, ← m2, q, w2', w2]) (by rw [f1, ← m1, q, w1', w1]))), m4, f4]
    · rintro ⟨i, hi, f1, f2, f3, f4⟩
      obtain ⟨j, hj, m1, m2, m3, m4⟩ := (s5 a1 a2 a3 (U' i)).mpr ⟨i, hi, f1, f2, f3, rfl⟩
      refine ⟨j, hj, m1, m2, m3, ?_⟩
      rw [eV'] at f4
      rw [eV]
      by_cases e : i = k'
      · have : j = k := s6 j k hj hk (by rw [m2, ← f2, e, w2', w2]) (by rw [m1, ← f1, e, w1', w1])
        rw [if_pos e] at f4
        rw [if_pos this, f4]
      · rw [if_neg e] at f4
        rw [if_neg (fun q => e (s7 i k' hi hk' (by rw [f2, ← m2, q, w2, w2']) (by rw [f1, ← m1, q, w1, w1']))), m4, f4]
  · intro q hq
    obtain ⟨b1, b2⟩ := s8 q hq
    refine ⟨b1, ?_⟩
    rw [eus]
    by_cases e : q = p
    · subst e
      rw [if_pos rfl, b2, nI_1]
      congr 1
      have := cntN_add (Q := fun i => P' i = nI q ∧ U' i = 1) (R := fun i => P' i = nI q ∧ V' i = 1) (k := k') (fun r => absurd (w3'.symm.trans r.2) (by decide)) ⟨w1', by rw [eV', if_pos rfl]⟩ n (fun i _ ne => by rw [eV', if_neg ne])
      rw [this, if_pos hk']
    · rw [if_neg e, b2]
      congr 1
      refine cntN_cg (fun i hi => ?_)
      rw [eV']
      by_cases e2 : i = k'
      · rw [if_pos e2, e2, w1']
        have : ¬ nI p = nI q := fun r => e ((nI_eq (by omega) (by omega)).mp r).symm
        exact ⟨fun r => absurd r.1 this, fun r => absurd r.1 this⟩
      · rw [if_neg e2]
