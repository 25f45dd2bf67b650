/-! THE PURE PART: the invariant between the numbers of PortraitRooms and those of the reference -/
theorem z_t {A B : Prop} (h : B) : ((1 : Int32) = 0 → A) ∧ (¬ (1 : Int32) = 0 → B) := ⟨fun c => absurd c (by decide), fun _ => h⟩
theorem z_f {A B : Prop} (h : A) : ((0 : Int32) = 0 → A) ∧ (¬ (0 : Int32) = 0 → B) := ⟨fun _ => h, fun c => absurd rfl c⟩
theorem y_t {A B : Prop} (h : A) : (¬ (1 : Int32) = 0 → A) ∧ ((1 : Int32) = 0 → B) := ⟨fun _ => h, fun c => absurd c (by decide)⟩
theorem y_f {A B : Prop} (h : B) : (¬ (0 : Int32) = 0 → A) ∧ ((0 : Int32) = 0 → B) := ⟨fun c => absurd rfl c, fun _ => h⟩
theorem o_n {A : Prop} {B : Nat → Prop} (h : A) : ((none : Option (Nat × Nat)) = none → A) ∧ ∀ i : Nat, (none : Option (Nat × Nat)) = some (i, 0) → B i := ⟨fun _ => h, fun _ c => by cases c⟩
theorem o_s {A : Prop} {B : Nat → Prop} {n : Nat} (h : B n) : ((some (n, 0) : Option (Nat × Nat)) = none → A) ∧ ∀ i : Nat, (some (n, 0) : Option (Nat × Nat)) = some (i, 0) → B i := ⟨fun c => (by cases c), fun _ c => (by cases c; exact h)⟩
theorem o_n2 {A : Prop} {B : Nat → Nat → Prop} (h : A) : ((none : Option (Nat × Nat)) = none → A) ∧ ∀ i j : Nat, (none : Option (Nat × Nat)) = some (i, j) → B i j := ⟨fun _ => h, fun _ _ c => by cases c⟩
theorem o_s2 {A : Prop} {B : Nat → Nat → Prop} {n k : Nat} (h : B n k) : ((some (n, k) : Option (Nat × Nat)) = none → A) ∧ ∀ i j : Nat, (some (n, k) : Option (Nat × Nat)) = some (i, j) → B i j := ⟨fun c => (by cases c), fun _ _ c => (by cases c; exact h)⟩
theorem ix (a : Int32) (N : Nat) : (∃ n, n < N ∧ a = nI n) ∨ (∀ n, n < N → a ≠ nI n) := by
  by_cases h : ∃ n, n < N ∧ a = nI n
  · exact Or.inl h
  · exact Or.inr (fun n hn e => h ⟨n, hn, e⟩)
theorem ix_neg {a : Int32} {N : Nat} (hN : N < 2 ^ 31) (h : ∀ n, n < N → a ≠ nI n) : a < 0 ∨ nI N ≤ a := by
  rcases pk_ix a hN with h1 | h1 | ⟨j, hj, e⟩
  · exact Or.inl h1
  · exact Or.inr h1
  · exact absurd e (h j hj)
theorem w_pos {g : Nat → Nat} {σ : pr_Sg} {n : Nat} {b : Int32} {Q : Int32 → pr_Sg → Prop} (N : Nat) (hb : b = nI N) (hN : N < 2 ^ 31) (hn : n < N + 1) (h : Q 1 σ) : wpb_X8_within g σ (nI n) b Q := by
  subst hb
  exact ⟨fun c => absurd c (nI_pos (by omega)), fun _ => ⟨fun c => absurd c (nI_nlt (by omega) (by omega)), fun _ => h⟩⟩
theorem w_neg {g : Nat → Nat} {σ : pr_Sg} {a b : Int32} {Q : Int32 → pr_Sg → Prop} (N : Nat) (hb : b = nI N) (hN : N + 1 < 2 ^ 31) (hn : ∀ n, n < N + 1 → a ≠ nI n) (h : Q 0 σ) : wpb_X8_within g σ a b Q := by
  subst hb
  refine ⟨fun _ => h, fun c1 => ⟨fun _ => h, fun c2 => ?_⟩⟩
  rcases ix_neg hN hn with h1 | h1
  · exact absurd h1 c1
  · exfalso
    rw [Int32.lt_iff_toInt_lt, nI_toInt (by omega)] at c2
    rw [Int32.le_iff_toInt_le, nI_toInt (by omega)] at h1
    omega
theorem in_pos {g : Nat → Nat} {σ : pr_Sg} {n : Nat} {b : Int32} {Q : Int32 → pr_Sg → Prop} (N : Nat) (hb : b = nI N) (hN : N < 2 ^ 31) (hn : n < N + 1) (h : Q 1 σ) : wpb_X9_in g σ (nI n) (0 : Int32) b Q := by
  subst hb
  exact ⟨fun c => absurd c (nI_pos (by omega)), fun _ => ⟨fun c => absurd c (nI_nlt (by omega) (by omega)), fun _ => h⟩⟩
theorem in_neg {g : Nat → Nat} {σ : pr_Sg} {a b : Int32} {Q : Int32 → pr_Sg → Prop} (N : Nat) (hb : b = nI N) (hN : N + 1 < 2 ^ 31) (hn : ∀ n, n < N + 1 → a ≠ nI n) (h : Q 0 σ) : wpb_X9_in g σ a (0 : Int32) b Q := by
  subst hb
  refine ⟨fun _ => h, fun c1 => ⟨fun _ => h, fun c2 => ?_⟩⟩
  rcases ix_neg hN hn with h1 | h1
  · exact absurd h1 c1
  · exfalso
    rw [Int32.lt_iff_toInt_lt, nI_toInt (by omega)] at c2
    rw [Int32.le_iff_toInt_le, nI_toInt (by omega)] at h1
    omega
theorem nI_m1 {N : Nat} (h : N < 2 ^ 31) : (nI N - 1).toInt = (N : Int) - 1 := by
  by_cases h0 : N = 0
  · subst h0
    decide
  · have e : nI N - 1 = nI (N - 1) := by
      have := nI_pred (N - 1)
      rwa [show N - 1 + 1 = N by omega] at this
    rw [e, nI_toInt (by omega)]
    omega
/-- 'in(v, 0, count - 1)' -/
theorem ic_pos {g : Nat → Nat} {σ : pr_Sg} {n N : Nat} {Q : Int32 → pr_Sg → Prop} (hN : N < 2 ^ 31) (hn : n < N) (h : Q 1 σ) : wpb_X9_in g σ (nI n) (0 : Int32) (nI N - (1 : Int32)) Q := by
  refine ⟨fun c => absurd c (nI_pos (by omega)), fun _ => ⟨fun c => ?_, fun _ => h⟩⟩
  rw [Int32.lt_iff_toInt_lt, nI_m1 hN, nI_toInt (by omega)] at c
  omega
theorem ic_neg {g : Nat → Nat} {σ : pr_Sg} {a : Int32} {N : Nat} {Q : Int32 → pr_Sg → Prop} (hN : N < 2 ^ 31) (hn : ∀ n, n < N → a ≠ nI n) (h : Q 0 σ) : wpb_X9_in g σ a (0 : Int32) (nI N - (1 : Int32)) Q := by
  refine ⟨fun _ => h, fun c1 => ⟨fun _ => h, fun c2 => ?_⟩⟩
  rcases ix_neg hN hn with h1 | h1
  · exact absurd h1 c1
  · exfalso
    rw [Int32.lt_iff_toInt_lt, nI_m1 hN] at c2
    rw [Int32.le_iff_toInt_le, nI_toInt (by omega)] at h1
    omega
theorem at_pos {n N M : Nat} {s0 : Int32} {G : Nat} {A : Prop} {B : Prop} (hs : s0 = nI N) (hG : N = G) (hM : N ≤ M) (hM2 : M < 2 ^ 31) (hn : n < N) (h : B) : ((nI n < 0 → A) ∧ (¬ nI n < 0 → ((s0 ≤ nI n → A) ∧ (¬ s0 ≤ nI n → (vp_in (nI n) M ∧ ((¬ (nI n).toNatClampNeg < G → A) ∧ ((nI n).toNatClampNeg < G → B))))))) := by
  subst hs
  subst hG
  exact ⟨fun c => absurd c (nI_pos (by omega)), fun _ => ⟨fun c => absurd c (nI_ge hn (by omega)), fun _ => ⟨vp_in_nI (by omega) (by omega), fun c => absurd (by rw [nI_clamp (by omega)]; exact hn) c, fun _ => h⟩⟩⟩
theorem at_neg {a : Int32} {N M : Nat} {s0 : Int32} {G : Nat} {A : Prop} {B : Prop} (hs : s0 = nI N) (hM2 : N < 2 ^ 31) (hn : ∀ n, n < N → a ≠ nI n) (h : A) : ((a < 0 → A) ∧ (¬ a < 0 → ((s0 ≤ a → A) ∧ (¬ s0 ≤ a → (vp_in a M ∧ ((¬ a.toNatClampNeg < G → A) ∧ (a.toNatClampNeg < G → B))))))) := by
  subst hs
  refine ⟨fun _ => h, fun c1 => ⟨fun _ => h, fun c2 => ?_⟩⟩
  rcases ix_neg hM2 hn with h1 | h1
  · exact absurd h1 c1
  · exact absurd h1 c2
/-- outside some tags two states are the same -/
def ag (ts : List Nat) (σ σ' : pr_Sg) : Prop := ∀ t, t ∉ ts → σ' t = σ t
theorem ag_rf {ts : List Nat} {σ : pr_Sg} : ag ts σ σ := fun _ _ => rfl
theorem ag_up {ts : List Nat} {σ σ' : pr_Sg} (h : ag ts σ σ') (t i j : Nat) (v : Int32) (ht : t ∈ ts) : ag ts σ (pr_up σ' t i j v) := fun t' h' => by
  rw [← h t' h']
  funext i' j'
  unfold pr_up
  rw [if_neg (fun q => h' (by rw [q.1]; exact ht))]
theorem up_eq {σ : pr_Sg} {t i j : Nat} {v : Int32} : pr_up σ t i j v t i j = v := by simp [pr_up]
theorem up_tag {σ : pr_Sg} {t t' i j i' j' : Nat} {v : Int32} (h : t' ≠ t) : pr_up σ t i j v t' i' j' = σ t' i' j' := by simp [pr_up, h]
theorem up_ix {σ : pr_Sg} {t i j i' j' : Nat} {v : Int32} (h : ¬ (i' = i ∧ j' = j)) : pr_up σ t i j v t i' j' = σ t i' j' := by simp [pr_up, h]
theorem up_if {σ : pr_Sg} {t i j i' j' : Nat} {v : Int32} : pr_up σ t i j v t i' j' = if i' = i ∧ j' = j then v else σ t i' j' := by simp [pr_up]
def cntN (P : Nat → Prop) [DecidablePred P] : Nat → Nat
  | 0 => 0
  | n + 1 => cntN P n + (if P n then 1 else 0)
def I_now (σ : pr_Sg) : Prop := ∃ d, d ≤ 20000 ∧ σ 520 0 0 = nI d ∧ σ 576 0 0 = nI d
def I_sc (σ : pr_Sg) : Prop := (∃ m, m ≤ 99 ∧ σ 528 0 0 = nI m) ∧ σ 528 0 0 = σ 609 0 0 ∧ σ 525 0 0 = σ 610 0 0 ∧ σ 526 0 0 = σ 611 0 0 ∧ σ 527 0 0 = σ 612 0 0
def I_list (σ : pr_Sg) : Prop := ∃ n, n ≤ 60 ∧ σ 67 0 0 = nI n ∧ σ 580 0 0 = nI n ∧ ∀ k, k < n → (∃ y, y ≤ 54 ∧ σ 1020 0 k = nI y) ∧ σ 1020 0 k = σ 1040 0 k ∧ σ 1021 0 k = σ 1041 0 k ∧ σ 1022 0 k = σ 1042 0 k
def I_dry (σ : pr_Sg) : Prop := ∀ k, k < 5 → σ 1023 0 k = σ 1043 0 k
def I_hand (g : Nat → Nat) (σ : pr_Sg) : Prop := 1 ≤ g 0 ∧ g 0 ≤ 7 ∧ σ 521 0 0 = nI (g 0) ∧ σ 585 0 0 = nI (g 0) ∧ (∀ i, i < g 0 → σ 0 i 0 = σ 1046 0 i ∧ σ 1 i 0 = σ 1044 0 i ∧ σ 2 i 0 = σ 1045 0 i ∧ (∃ n, n ≤ 3 ∧ σ 2 i 0 = nI n) ∧ (σ 1046 0 i = -1 ∨ ∃ n, n < 10000 ∧ σ 1046 0 i = nI n)) ∧ (∀ i, g 0 ≤ i → i < 7 → σ 1046 0 i = -1 ∧ σ 1044 0 i = -1 ∧ σ 1045 0 i = 0)
def I_sit (g : Nat → Nat) (σ : pr_Sg) : Prop := g 1 ≤ 20 ∧ σ 522 0 0 = nI (g 1) ∧ σ 589 0 0 = nI (g 1) ∧ (∀ i, i < g 1 → σ 384 i 0 = σ 1047 0 i ∧ σ 385 i 0 = σ 1048 0 i ∧ σ 386 i 0 = σ 1049 0 i) ∧ (∀ i, g 1 ≤ i → i < 20 → σ 1049 0 i = 0)
def I_pic (g : Nat → Nat) (σ : pr_Sg) : Prop := g 2 ≤ 40 ∧ σ 523 0 0 = nI (g 2) ∧ σ 601 0 0 = nI (g 2) ∧ ∀ p, p < g 2 → (σ 192 p 0 = σ 1050 0 p ∧ σ 193 p 0 = σ 1054 0 p ∧ σ 194 p 0 = σ 1051 0 p ∧ σ 195 p 0 = σ 1052 0 p ∧ σ 197 p 0 = σ 1053 0 p) ∧ (∃ s, s < g 1 ∧ σ 192 p 0 = nI s) ∧ (σ 193 p 0 = -1 ∨ ∃ r, r < 5 ∧ σ 193 p 0 = nI r)
def I_trc (g : Nat → Nat) (σ : pr_Sg) : Prop := ∀ p, p < g 2 → σ 201 p 0 = σ 1055 0 p ∧ (σ 201 p 0 = -1 ∨ ∃ t, t < 65536 ∧ σ 201 p 0 = nI t)
def I_came (g : Nat → Nat) (σ : pr_Sg) : Prop := ∀ p, p < g 2 → ∃ d n, d ≤ n ∧ n ≤ 20000 ∧ σ 195 p 0 = nI d ∧ σ 520 0 0 = nI n
def dd (σ : pr_Sg) (p k : Nat) : Nat := (σ 1064 p k).toNatClampNeg - (σ 1065 p k).toNatClampNeg
def I_part (g : Nat → Nat) (σ : pr_Sg) : Prop := (∀ p, p < g 2 → ∀ k, k < 5 → σ 128 p k = σ 1064 p k ∧ σ 129 p k = σ 1065 p k ∧ σ 130 p k = σ 1066 p k ∧ σ 131 p k = σ 1067 p k ∧ ∃ w h, h ≤ w ∧ w ≤ 3 ∧ σ 1064 p k = nI w ∧ σ 1065 p k = nI h) ∧ (∀ p, p < g 2 → σ 198 p 0 = nI (dd σ p 0 + dd σ p 1 + dd σ p 2 + dd σ p 3 + dd σ p 4) ∧ (σ 197 p 0 = -1 ↔ dd σ p 0 + dd σ p 1 + dd σ p 2 + dd σ p 3 + dd σ p 4 ≠ 0)) ∧ (∀ p, g 2 ≤ p → p < 40 → ∀ k, k < 5 → σ 1065 p k = 0) ∧ σ 524 0 0 = nI (cntN (fun p => σ 1053 0 p ≠ -1) (g 2))
def I_str (g : Nat → Nat) (σ : pr_Sg) : Prop := ∀ p, p < g 2 → ∀ k, k < 5 → σ 132 p k = σ 1068 p k ∧ (σ 1068 p k = -1 ∨ ∃ n, n < 10000 ∧ σ 1068 p k = nI n)
def I_robe (σ : pr_Sg) : Prop := ∀ r, r < 5 → σ 1029 0 r = σ 1056 0 r ∧ (σ 1029 0 r = -1 ∨ σ 1028 0 r = σ 1057 0 r)
def I_sits (g : Nat → Nat) (σ : pr_Sg) : Prop := ∃ n, n ≤ 200 ∧ σ 453 0 0 = nI n ∧ σ 608 0 0 = nI n ∧
  (∀ i, i < n → ∃ p, p < g 2 ∧ σ 1024 0 i = nI p ∧ σ 1025 0 i = σ 1050 0 p) ∧ (∀ i, i < n → ∃ p, p < g 2 ∧ σ 1058 0 i = nI p ∧ ¬ (20000 : Int32) < σ 1059 0 i) ∧
  (∀ i, i < n → σ 1070 0 i = 0 ∨ σ 1070 0 i = 1) ∧ (∀ i, i < n → σ 1071 0 i = 0 ∨ σ 1071 0 i = 1) ∧
  (∀ a b c d, (∃ i, i < n ∧ σ 1024 0 i = a ∧ σ 1026 0 i = b ∧ σ 1027 0 i = c ∧ σ 1070 0 i = d) ↔ (∃ i, i < n ∧ σ 1058 0 i = a ∧ σ 1059 0 i = b ∧ σ 1060 0 i = c ∧ σ 1071 0 i = d)) ∧
  (∀ i j, i < n → j < n → σ 1026 0 i = σ 1026 0 j → σ 1024 0 i = σ 1024 0 j → i = j) ∧ (∀ i j, i < n → j < n → σ 1059 0 i = σ 1059 0 j → σ 1058 0 i = σ 1058 0 j → i = j) ∧
  (∀ p, p < g 2 → σ 199 p 0 = nI (cntN (fun i => σ 1058 0 i = nI p) n) ∧ σ 200 p 0 = nI (cntN (fun i => σ 1058 0 i = nI p ∧ σ 1071 0 i = 1) n))
def Inv (g : Nat → Nat) (σ : pr_Sg) : Prop := I_now σ ∧ I_sc σ ∧ I_list σ ∧ I_dry σ ∧ I_hand g σ ∧ I_sit g σ ∧ I_pic g σ ∧ I_trc g σ ∧ I_came g σ ∧ I_part g σ ∧ I_str g σ ∧ I_robe σ ∧ I_sits g σ
theorem I_now.cg {σ σ' : pr_Sg} {ts : List Nat} (h : I_now σ) (ha : ag ts σ σ') (hd : ∀ t ∈ ([520, 576] : List Nat), t ∉ ts := by decide) : I_now σ' := by
  have e : ∀ t ∈ ([520, 576] : List Nat), σ' t = σ t := fun t ht => ha t (hd t ht)
  simp only [List.forall_mem_cons] at e
  obtain ⟨e520, e576, -⟩ := e
  simp only [I_now, e520, e576]
  simpa only [I_now] using h
theorem I_sc.cg {σ σ' : pr_Sg} {ts : List Nat} (h : I_sc σ) (ha : ag ts σ σ') (hd : ∀ t ∈ ([528, 609, 525, 610, 526, 611, 527, 612] : List Nat), t ∉ ts := by decide) : I_sc σ' := by
  have e : ∀ t ∈ ([528, 609, 525, 610, 526, 611, 527, 612] : List Nat), σ' t = σ t := fun t ht => ha t (hd t ht)
  simp only [List.forall_mem_cons] at e
  obtain ⟨e528, e609, e525, e610, e526, e611, e527, e612, -⟩ := e
  simp only [I_sc, e528, e609, e525, e610, e526, e611, e527, e612]
  simpa only [I_sc] using h
theorem I_list.cg {σ σ' : pr_Sg} {ts : List Nat} (h : I_list σ) (ha : ag ts σ σ') (hd : ∀ t ∈ ([67, 580, 1020, 1021, 1022, 1040, 1041, 1042] : List Nat), t ∉ ts := by decide) : I_list σ' := by
  have e : ∀ t ∈ ([67, 580, 1020, 1021, 1022, 1040, 1041, 1042] : List Nat), σ' t = σ t := fun t ht => ha t (hd t ht)
  simp only [List.forall_mem_cons] at e
  obtain ⟨e67, e580, e1020, e1021, e1022, e1040, e1041, e1042, -⟩ := e
  simp only [I_list, e67, e580, e1020, e1021, e1022, e1040, e1041, e1042]
  simpa only [I_list] using h
theorem I_dry.cg {σ σ' : pr_Sg} {ts : List Nat} (h : I_dry σ) (ha : ag ts σ σ') (hd : ∀ t ∈ ([1023, 1043] : List Nat), t ∉ ts := by decide) : I_dry σ' := by
  have e : ∀ t ∈ ([1023, 1043] : List Nat), σ' t = σ t := fun t ht => ha t (hd t ht)
  simp only [List.forall_mem_cons] at e
  obtain ⟨e1023, e1043, -⟩ := e
  simp only [I_dry, e1023, e1043]
  simpa only [I_dry] using h
theorem I_hand.cg {g : Nat → Nat} {σ σ' : pr_Sg} {ts : List Nat} (h : I_hand g σ) (ha : ag ts σ σ') (hd : ∀ t ∈ ([521, 585, 0, 1, 2, 1044, 1045, 1046] : List Nat), t ∉ ts := by decide) : I_hand g σ' := by
  have e : ∀ t ∈ ([521, 585, 0, 1, 2, 1044, 1045, 1046] : List Nat), σ' t = σ t := fun t ht => ha t (hd t ht)
  simp only [List.forall_mem_cons] at e
  obtain ⟨e521, e585, e0, e1, e2, e1044, e1045, e1046, -⟩ := e
  simp only [I_hand, e521, e585, e0, e1, e2, e1044, e1045, e1046]
  simpa only [I_hand] using h
theorem I_sit.cg {g : Nat → Nat} {σ σ' : pr_Sg} {ts : List Nat} (h : I_sit g σ) (ha : ag ts σ σ') (hd : ∀ t ∈ ([522, 589, 384, 385, 386, 1047, 1048, 1049] : List Nat), t ∉ ts := by decide) : I_sit g σ' := by
  have e : ∀ t ∈ ([522, 589, 384, 385, 386, 1047, 1048, 1049] : List Nat), σ' t = σ t := fun t ht => ha t (hd t ht)
  simp only [List.forall_mem_cons] at e
  obtain ⟨e522, e589, e384, e385, e386, e1047, e1048, e1049, -⟩ := e
  simp only [I_sit, e522, e589, e384, e385, e386, e1047, e1048, e1049]
  simpa only [I_sit] using h
theorem I_pic.cg {g : Nat → Nat} {σ σ' : pr_Sg} {ts : List Nat} (h : I_pic g σ) (ha : ag ts σ σ') (hd : ∀ t ∈ ([523, 601, 192, 193, 194, 195, 197, 1050, 1051, 1052, 1053, 1054] : List Nat), t ∉ ts := by decide) : I_pic g σ' := by
  have e : ∀ t ∈ ([523, 601, 192, 193, 194, 195, 197, 1050, 1051, 1052, 1053, 1054] : List Nat), σ' t = σ t := fun t ht => ha t (hd t ht)
  simp only [List.forall_mem_cons] at e
  obtain ⟨e523, e601, e192, e193, e194, e195, e197, e1050, e1051, e1052, e1053, e1054, -⟩ := e
  simp only [I_pic, e523, e601, e192, e193, e194, e195, e197, e1050, e1051, e1052, e1053, e1054]
  simpa only [I_pic] using h
theorem I_trc.cg {g : Nat → Nat} {σ σ' : pr_Sg} {ts : List Nat} (h : I_trc g σ) (ha : ag ts σ σ') (hd : ∀ t ∈ ([201, 1055] : List Nat), t ∉ ts := by decide) : I_trc g σ' := by
  have e : ∀ t ∈ ([201, 1055] : List Nat), σ' t = σ t := fun t ht => ha t (hd t ht)
  simp only [List.forall_mem_cons] at e
  obtain ⟨e201, e1055, -⟩ := e
  simp only [I_trc, e201, e1055]
  simpa only [I_trc] using h
theorem I_came.cg {g : Nat → Nat} {σ σ' : pr_Sg} {ts : List Nat} (h : I_came g σ) (ha : ag ts σ σ') (hd : ∀ t ∈ ([195, 520] : List Nat), t ∉ ts := by decide) : I_came g σ' := by
  have e : ∀ t ∈ ([195, 520] : List Nat), σ' t = σ t := fun t ht => ha t (hd t ht)
  simp only [List.forall_mem_cons] at e
  obtain ⟨e195, e520, -⟩ := e
  simp only [I_came, e195, e520]
  simpa only [I_came] using h
theorem I_part.cg {g : Nat → Nat} {σ σ' : pr_Sg} {ts : List Nat} (h : I_part g σ) (ha : ag ts σ σ') (hd : ∀ t ∈ ([128, 129, 130, 131, 1064, 1065, 1066, 1067, 198, 197, 524, 1053] : List Nat), t ∉ ts := by decide) : I_part g σ' := by
  have e : ∀ t ∈ ([128, 129, 130, 131, 1064, 1065, 1066, 1067, 198, 197, 524, 1053] : List Nat), σ' t = σ t := fun t ht => ha t (hd t ht)
  simp only [List.forall_mem_cons] at e
  obtain ⟨e128, e129, e130, e131, e1064, e1065, e1066, e1067, e198, e197, e524, e1053, -⟩ := e
  simp only [I_part, dd, e128, e129, e130, e131, e1064, e1065, e1066, e1067, e198, e197, e524, e1053]
  simpa only [I_part, dd] using h
theorem I_str.cg {g : Nat → Nat} {σ σ' : pr_Sg} {ts : List Nat} (h : I_str g σ) (ha : ag ts σ σ') (hd : ∀ t ∈ ([132, 1068] : List Nat), t ∉ ts := by decide) : I_str g σ' := by
  have e : ∀ t ∈ ([132, 1068] : List Nat), σ' t = σ t := fun t ht => ha t (hd t ht)
  simp only [List.forall_mem_cons] at e
  obtain ⟨e132, e1068, -⟩ := e
  simp only [I_str, e132, e1068]
  simpa only [I_str] using h
theorem I_robe.cg {σ σ' : pr_Sg} {ts : List Nat} (h : I_robe σ) (ha : ag ts σ σ') (hd : ∀ t ∈ ([1028, 1029, 1056, 1057] : List Nat), t ∉ ts := by decide) : I_robe σ' := by
  have e : ∀ t ∈ ([1028, 1029, 1056, 1057] : List Nat), σ' t = σ t := fun t ht => ha t (hd t ht)
  simp only [List.forall_mem_cons] at e
  obtain ⟨e1028, e1029, e1056, e1057, -⟩ := e
  simp only [I_robe, e1028, e1029, e1056, e1057]
  simpa only [I_robe] using h
theorem I_sits.cg {g : Nat → Nat} {σ σ' : pr_Sg} {ts : List Nat} (h : I_sits g σ) (ha : ag ts σ σ') (hd : ∀ t ∈ ([453, 608, 1024, 1025, 1026, 1027, 1070, 1058, 1059, 1060, 1071, 1050, 199, 200] : List Nat), t ∉ ts := by decide) : I_sits g σ' := by
  have e : ∀ t ∈ ([453, 608, 1024, 1025, 1026, 1027, 1070, 1058, 1059, 1060, 1071, 1050, 199, 200] : List Nat), σ' t = σ t := fun t ht => ha t (hd t ht)
  simp only [List.forall_mem_cons] at e
  obtain ⟨e453, e608, e1024, e1025, e1026, e1027, e1070, e1058, e1059, e1060, e1071, e1050, e199, e200, -⟩ := e
  simp only [I_sits, e453, e608, e1024, e1025, e1026, e1027, e1070, e1058, e1059, e1060, e1071, e1050, e199, e200]
  simpa only [I_sits] using h
