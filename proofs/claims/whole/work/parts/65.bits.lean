theorem fa_and (a b : Nat) : nI a &&& nI b = nI (a &&& b) := by
  apply Int32.toBitVec_inj.1
  show BitVec.ofNat 32 a &&& BitVec.ofNat 32 b = BitVec.ofNat 32 (a &&& b)
  apply BitVec.eq_of_getLsbD_eq
  intro i hi
  simp [hi]
theorem nx_xor (a b : Nat) : nI a ^^^ nI b = nI (a ^^^ b) := by
  apply Int32.toBitVec_inj.1
  show BitVec.ofNat 32 a ^^^ BitVec.ofNat 32 b = BitVec.ofNat 32 (a ^^^ b)
  apply BitVec.eq_of_getLsbD_eq
  intro i hi
  simp [hi]
def popN : Nat → Nat → Nat
  | 0, _ => 0
  | f + 1, x => x % 2 + popN f (x / 2)
def bc1 (x : Nat) : Nat := x - (x / 2 &&& 1431655765)
def bc2 (x : Nat) : Nat := (x &&& 858993459) + (x / 4 &&& 858993459)
def bc3 (x : Nat) : Nat := (x + x / 16) &&& 252645135
def bc4 (x : Nat) : Nat := x + x / 256
def bc5 (x : Nat) : Nat := (x + x / 65536) &&& 63
theorem land_split (x y : Nat) : x &&& y = (x % 256 &&& y % 256) + 256 * (x / 256 &&& y / 256) := by
  have h1 : (x &&& y) % 2 ^ 8 = x % 2 ^ 8 &&& y % 2 ^ 8 := Nat.and_mod_two_pow
  have h2 : (x &&& y) / 2 ^ 8 = x / 2 ^ 8 &&& y / 2 ^ 8 := Nat.and_div_two_pow
  have h3 := Nat.div_add_mod (x &&& y) 256
  simp only [show (2 : Nat) ^ 8 = 256 by decide] at h1 h2
  omega
theorem bq1 : ∀ a, a < 128 → ∀ c, c < 2 → (a + 128 * c) &&& 85 = a &&& 85 := by decide +kernel
theorem bq1' : ∀ a, a < 128 → a &&& 5592405 = a &&& 85 ∧ a &&& 85 ≤ a := by decide +kernel
theorem bq2 : ∀ a, a < 64 → ∀ c, c < 4 → (a + 64 * c) &&& 51 = a &&& 51 := by decide +kernel
theorem bq2' : ∀ a, a < 256 → a &&& 3355443 = a &&& 51 := by decide +kernel
def p8 (a : Nat) : Nat := a % 2 + (a / 2 % 2 + (a / 4 % 2 + (a / 8 % 2 + (a / 16 % 2 + (a / 32 % 2 + (a / 64 % 2 + a / 128 % 2))))))
def q1 (a : Nat) : Nat := a - (a / 2 &&& 85)
def q2 (a : Nat) : Nat := (a &&& 51) + (a / 4 &&& 51)
theorem bq3 : ∀ a, a < 256 → q1 a < 256 ∧ q2 (q1 a) < 72 ∧ q2 (q1 a) % 16 ≤ 4 ∧ ∀ c, c ≤ 4 → (q2 (q1 a) + q2 (q1 a) / 16 + 16 * c) &&& 15 = p8 a := by decide +kernel
theorem bq4 : ∀ a, a < 256 → p8 a ≤ 8 ∧ ((q2 (q1 a) + q2 (q1 a) / 16) &&& 986895) = p8 a := by decide +kernel
theorem bc1_s {lo hi : Nat} (h1 : lo < 256) (h2 : hi < 256) : bc1 (lo + 256 * hi) = q1 lo + 256 * q1 hi := by
  unfold bc1 q1
  rw [land_split, show (lo + 256 * hi) / 2 % 256 = lo / 2 + 128 * (hi % 2) by omega, show (lo + 256 * hi) / 2 / 256 = hi / 2 by omega, show 1431655765 % 256 = 85 from rfl, show 1431655765 / 256 = 5592405 from rfl, bq1 _ (by omega) _ (by omega), (bq1' (hi / 2) (by omega)).1]
  have := (bq1' (lo / 2) (by omega)).2
  have := (bq1' (hi / 2) (by omega)).2
  omega
theorem bc2_s {a b : Nat} (h1 : a < 256) (h2 : b < 256) : bc2 (a + 256 * b) = q2 a + 256 * q2 b := by
  unfold bc2 q2
  rw [land_split (a + 256 * b), land_split ((a + 256 * b) / 4), show (a + 256 * b) % 256 = a by omega, show (a + 256 * b) / 256 = b by omega, show (a + 256 * b) / 4 % 256 = a / 4 + 64 * (b % 4) by omega, show (a + 256 * b) / 4 / 256 = b / 4 by omega, show 858993459 % 256 = 51 from rfl, show 858993459 / 256 = 3355443 from rfl, bq2 _ (by omega) _ (by omega), bq2' b h2, bq2' (b / 4) (by omega)]
  omega
theorem bc45 {a b : Nat} (h1 : a ≤ 8) (h2 : b ≤ 8) : bc5 (bc4 (a + 256 * b)) = a + b := by
  unfold bc5 bc4
  have t1 : (a + 256 * b) / 256 = b := by omega
  rw [t1]
  have t2 : (a + 256 * b + b) / 65536 = 0 := by omega
  rw [t2, show (63 : Nat) = 2 ^ 6 - 1 from rfl, Nat.and_two_pow_sub_one_eq_mod]
  omega
theorem popS (f x : Nat) : popN (f + 1) x = x % 2 + popN f (x / 2) := rfl
theorem pop8 (x : Nat) : popN 8 x = p8 x + 0 - 0 ∨ 256 ≤ x := by
  by_cases h : x < 256
  · left
    rw [popS, popS, popS, popS, popS, popS, popS, popS]
    have d2 : x / 2 / 2 = x / 4 := by omega
    have d3 : x / 4 / 2 = x / 8 := by omega
    have d4 : x / 8 / 2 = x / 16 := by omega
    have d5 : x / 16 / 2 = x / 32 := by omega
    have d6 : x / 32 / 2 = x / 64 := by omega
    have d7 : x / 64 / 2 = x / 128 := by omega
    rw [d2, d3, d4, d5, d6, d7]
    rfl
  · right
    omega
theorem pop16 {lo hi : Nat} (h1 : lo < 256) (h2 : hi < 256) : popN 16 (lo + 256 * hi) = p8 lo + p8 hi := by
  have e8 : popN 8 hi = p8 hi := by
    rcases pop8 hi with h | h
    · simpa using h
    · omega
  rw [popS, popS, popS, popS, popS, popS, popS, popS]
  have c1 : (lo + 256 * hi) / 2 = lo / 2 + 128 * hi := by omega
  have c2 : (lo / 2 + 128 * hi) / 2 = lo / 4 + 64 * hi := by omega
  have c3 : (lo / 4 + 64 * hi) / 2 = lo / 8 + 32 * hi := by omega
  have c4 : (lo / 8 + 32 * hi) / 2 = lo / 16 + 16 * hi := by omega
  have c5 : (lo / 16 + 16 * hi) / 2 = lo / 32 + 8 * hi := by omega
  have c6 : (lo / 32 + 8 * hi) / 2 = lo / 64 + 4 * hi := by omega
  have c7 : (lo / 64 + 4 * hi) / 2 = lo / 128 + 2 * hi := by omega
  have c8 : (lo / 128 + 2 * hi) / 2 = hi := by omega
  rw [c1, c2, c3, c4, c5, c6, c7, c8, e8]
  have b0 : (lo + 256 * hi) % 2 = lo % 2 := by omega
  have b1 : (lo / 2 + 128 * hi) % 2 = lo / 2 % 2 := by omega
  have b2 : (lo / 4 + 64 * hi) % 2 = lo / 4 % 2 := by omega
  have b3 : (lo / 8 + 32 * hi) % 2 = lo / 8 % 2 := by omega
  have b4 : (lo / 16 + 16 * hi) % 2 = lo / 16 % 2 := by omega
  have b5 : (lo / 32 + 8 * hi) % 2 = lo / 32 % 2 := by omega
  have b6 : (lo / 64 + 4 * hi) % 2 = lo / 64 % 2 := by omega
  have b7 : (lo / 128 + 2 * hi) % 2 = lo / 128 % 2 := by omega
  rw [b0, b1, b2, b3, b4, b5, b6, b7]
  unfold p8
  omega
theorem bc_pop {m : Nat} (h : m < 65536) : bc5 (bc4 (bc3 (bc2 (bc1 m)))) = popN 16 m := by
  obtain ⟨lo, hi, h1, h2, rfl⟩ : ∃ lo hi, lo < 256 ∧ hi < 256 ∧ m = lo + 256 * hi := ⟨m % 256, m / 256, by omega, by omega, by omega⟩
  obtain ⟨a1, a2, a3, a4⟩ := bq3 lo h1
  obtain ⟨b1, b2, b3, b4⟩ := bq3 hi h2
  obtain ⟨c1, c2⟩ := bq4 lo h1
  obtain ⟨d1, d2⟩ := bq4 hi h2
  rw [bc1_s h1 h2, bc2_s a1 b1]
  have e3 : bc3 (q2 (q1 lo) + 256 * q2 (q1 hi)) = p8 lo + 256 * p8 hi := by
    unfold bc3
    have a5 := a4 (q2 (q1 hi) % 16) b3
    generalize q2 (q1 lo) = x at a2 a3 a4 a5 c2 ⊢
    generalize q2 (q1 hi) = y at b2 b3 b4 d2 a5 ⊢
    rw [land_split, show (x + 256 * y + (x + 256 * y) / 16) % 256 = x + x / 16 + 16 * (y % 16) by omega, show (x + 256 * y + (x + 256 * y) / 16) / 256 = y + y / 16 by omega, show 252645135 % 256 = 15 from rfl, show 252645135 / 256 = 986895 from rfl, a5, d2]
  rw [e3, bc45 c1 d1, pop16 h1 h2]
theorem bit_ev {g : Nat → Nat} {σ : pr_Sg} {x : Nat} {Q : Int32 → pr_Sg → Prop} (hx : x < 65536) (q : Q (nI (popN 16 x)) σ) : wpb_J6_bitCount_0f7a4 g σ (nI x) Q := by
  unfold wpb_J6_bitCount_0f7a4
  have k1 : (1431655765 : Int32) = nI 1431655765 := rfl
  have k2 : (858993459 : Int32) = nI 858993459 := rfl
  have k3 : (252645135 : Int32) = nI 252645135 := rfl
  have k4 : (63 : Int32) = nI 63 := rfl
  have l1 : (x / 2 &&& 1431655765) ≤ x / 2 := Nat.and_le_left
  have e1 : nI x - (((nI x).toUInt32 >>> ((1 : Int32).toUInt32 &&& Int32.toUInt32 31)).toInt32 &&& (1431655765 : Int32)) = nI (bc1 x) := by
    rw [pk_ushrN (by omega) 1 1 (by decide), k1, fa_and, show x / 2 ^ 1 = x / 2 by simp, pk_sub (by omega)]
    rfl
  have b1 : bc1 x < 65536 := by unfold bc1; omega
  have e2 : ∀ y, y < 65536 → (nI y &&& (858993459 : Int32)) + (((nI y).toUInt32 >>> ((2 : Int32).toUInt32 &&& Int32.toUInt32 31)).toInt32 &&& (858993459 : Int32)) = nI (bc2 y) := fun y hy => by
    rw [pk_ushrN (by omega) 2 2 (by decide), k2, fa_and, fa_and, nI_add]
    rfl
  have b2 : ∀ y, y < 65536 → bc2 y < 131072 := fun y hy => by
    have m1 : (y &&& 858993459) ≤ y := Nat.and_le_left
    have m2 : (y / 4 &&& 858993459) ≤ y / 4 := Nat.and_le_left
    unfold bc2
    omega
  have e3 : ∀ y, y < 131072 → (nI y + ((nI y).toUInt32 >>> ((4 : Int32).toUInt32 &&& Int32.toUInt32 31)).toInt32) &&& (252645135 : Int32) = nI (bc3 y) := fun y hy => by
    rw [pk_ushrN (by omega) 4 4 (by decide), k3, nI_add, fa_and]
    rfl
  have b3 : ∀ y, y < 131072 → bc3 y < 262144 := fun y hy => by
    have m1 : ((y + y / 16) &&& 252645135) ≤ y + y / 16 := Nat.and_le_left
    unfold bc3
    omega
  have e4 : ∀ y, y < 262144 → nI y + ((nI y).toUInt32 >>> ((8 : Int32).toUInt32 &&& Int32.toUInt32 31)).toInt32 = nI (bc4 y) := fun y hy => by
    rw [pk_ushrN (by omega) 8 8 (by decide), nI_add]
    rfl
  have b4 : ∀ y, y < 262144 → bc4 y < 524288 := fun y hy => by
    unfold bc4
    omega
  have e5 : ∀ y, y < 524288 → (nI y + ((nI y).toUInt32 >>> ((16 : Int32).toUInt32 &&& Int32.toUInt32 31)).toInt32) &&& (63 : Int32) = nI (bc5 y) := fun y hy => by
    rw [pk_ushrN (by omega) 16 16 (by decide), k4, nI_add, fa_and]
    rfl
  rw [e1, e2 _ b1, e3 _ (b2 _ b1), e4 _ (b3 _ (b2 _ b1)), e5 _ (b4 _ (b3 _ (b2 _ b1))), bc_pop hx]
  exact q
theorem popN_0 : ∀ f, popN f 0 = 0 := by
  intro f
  induction f with
  | zero => rfl
  | succ f ih => simp [popN, ih]
theorem dif_loop {g : Nat → Nat} {σ : pr_Sg} {Q : Int32 → pr_Sg → Prop} : ∀ f x acc, f ≤ 16 → x < 2 ^ f → Q (nI (acc + popN f x)) σ → wp_X9_differ_L17 g Q (f + 1) σ (nI x) (nI acc) := by
  intro f
  induction f with
  | zero =>
    intro x acc _ hx q
    obtain rfl : x = 0 := by simpa using hx
    unfold wp_X9_differ_L17
    exact ⟨fun _ => q, fun c => absurd rfl c⟩
  | succ f ih =>
    intro x acc hf hx q
    have h16 : 2 ^ (f + 1) ≤ 2 ^ 16 := Nat.pow_le_pow_right (by omega) hf
    have hx2 : x < 65536 := by omega
    unfold wp_X9_differ_L17
    by_cases e : x = 0
    · subst e
      rw [popN_0] at q
      exact ⟨fun _ => q, fun c => absurd rfl c⟩
    · refine ⟨fun c => absurd c (nI_ne0 (by omega) (by omega)), fun _ => ?_⟩
      rw [pk_shrN (by omega) _ 1 (by decide), pk_andN (by omega) 1 (by decide), nI_add]
      refine ih (x / 2 ^ 1) _ (by omega) (by rw [Nat.pow_succ] at hx; omega) ?_
      have : acc + popN (f + 1) x = acc + x % 2 ^ 1 + popN f (x / 2 ^ 1) := by
        show acc + (x % 2 + popN f (x / 2)) = _
        simp
        omega
      rw [← this]
      exact q
def tv (σ : pr_Sg) (k : Nat) : Nat := (σ 1055 0 k).toNatClampNeg
def td (σ : pr_Sg) (p k : Nat) : Nat := popN 16 (tv σ p ^^^ tv σ k)
theorem pop_le : ∀ f x, popN f x ≤ f := by
  intro f
  induction f with
  | zero => intro x; exact Nat.le_refl _
  | succ f ih =>
    intro x
    have := ih (x / 2)
    show x % 2 + popN f (x / 2) ≤ f + 1
    omega
theorem td_le (σ : pr_Sg) (p k : Nat) : td σ p k ≤ 16 := pop_le 16 _
theorem tv_of {g : Nat → Nat} {σ : pr_Sg} (h8 : I_trc g σ) {p : Nat} (hp : p < g 2) (ho : σ 1055 0 p ≠ -1) : tv σ p < 65536 ∧ σ 1055 0 p = nI (tv σ p) ∧ σ 201 p 0 = nI (tv σ p) := by
  obtain ⟨e1, e2⟩ := h8 p hp
  rcases e2 with e2 | ⟨t, ht, e2⟩
  · exact absurd (e1.symm.trans e2) ho
  · have e3 : σ 1055 0 p = nI t := e1.symm.trans e2
    have e4 : tv σ p = t := by unfold tv; rw [e3]; exact nI_clamp (by omega)
    rw [e4]
    exact ⟨ht, e3, e2⟩
theorem xor16 {a b : Nat} (ha : a < 65536) (hb : b < 65536) : a ^^^ b < 65536 := Nat.xor_lt_two_pow (n := 16) ha hb
theorem differ_ev {g : Nat → Nat} {σ : pr_Sg} {Q : Int32 → pr_Sg → Prop} (h7 : g 2 ≤ 40) (h8 : I_trc g σ) {p k : Nat} (hp : p < g 2) (hk : k < g 2) (op : σ 1055 0 p ≠ -1) (ok : σ 1055 0 k ≠ -1) (q : Q (nI (td σ p k)) σ) : wpb_X9_differ g σ (nI p) (nI k) Q := by
  unfold wpb_X9_differ
  obtain ⟨p1, p2, -⟩ := tv_of h8 hp op
  obtain ⟨k1, k2, -⟩ := tv_of h8 hk ok
  refine ⟨vp_in_nI (by omega) (by omega), vp_in_nI (by omega) (by omega), 17, ?_⟩
  rw [nI_clamp (by omega), nI_clamp (by omega), p2, k2, nx_xor]
  refine dif_loop 16 _ 0 (by omega) (xor16 p1 k1) ?_
  rw [Nat.zero_add]
  exact q
theorem tdist_pos {g : Nat → Nat} {σ : pr_Sg} {Q : Int32 → pr_Sg → Prop} (h7 : I_pic g σ) (h8 : I_trc g σ) {p k : Nat} (hp : p < g 2) (hk : k < g 2) (op : σ 1055 0 p ≠ -1) (ok : σ 1055 0 k ≠ -1) (q : Q (nI (td σ p k)) σ) : wpb_X8_traceDistance g σ (nI p) (nI k) Q := by
  unfold wpb_X8_traceDistance
  obtain ⟨p1, -, p3⟩ := tv_of h8 hp op
  obtain ⟨k1, -, k3⟩ := tv_of h8 hk ok
  refine pic_pos h7 hp (o_s ?_)
  refine pic_pos h7 hk (o_s ?_)
  rw [p3, k3]
  refine ⟨fun c => absurd c (nI_ne1 (by omega)), fun _ => ⟨fun _ => ?_, fun c => absurd c (nI_ne1 (by omega))⟩⟩
  rw [nx_xor]
  exact bit_ev (xor16 p1 k1) q
theorem tdist_neg {g : Nat → Nat} {σ : pr_Sg} {Q : Int32 → pr_Sg → Prop} (h7 : I_pic g σ) (h8 : I_trc g σ) {p k : Nat} (hp : p < g 2) (hk : k < g 2) (ok : σ 1055 0 k = -1) (q : Q (-1) σ) : wpb_X8_traceDistance g σ (nI p) (nI k) Q := by
  unfold wpb_X8_traceDistance
  have e : σ 201 k 0 = -1 := (h8 k hk).1.trans ok
  refine pic_pos h7 hp (o_s ?_)
  refine pic_pos h7 hk (o_s ?_)
  exact ⟨fun _ => q, fun _ => ⟨fun c => absurd e c, fun _ => q⟩⟩
def lst (f : Nat → Nat) (o : Option Nat) : Int32 := match o with
  | none => 0
  | some b => nI (f b)
theorem near_loop {g : Nat → Nat} {σ : pr_Sg} {Q : Int32 → pr_Sg → Prop} (h7 : I_pic g σ) (h8 : I_trc g σ) {p : Nat} {skip : Int32} (hp : p < g 2) (op : σ 1055 0 p ≠ -1) (q : Q (enc (bst (fun k => σ 1055 0 k ≠ -1 ∧ nI k ≠ skip) (td σ p) p)) σ) : ∀ d k, k ≤ p → p - k < d → wp_X8_nearestTraced_L29 g Q d σ (nI p) skip (enc (bst (fun k => σ 1055 0 k ≠ -1 ∧ nI k ≠ skip) (td σ p) k)) (lst (td σ p) (bst (fun k => σ 1055 0 k ≠ -1 ∧ nI k ≠ skip) (td σ p) k)) (nI k) := by
  have h40 := h7.1
  intro d
  induction d with
  | zero => intro k _ h2; exact absurd h2 (by omega)
  | succ d ih =>
    intro k hk hd
    unfold wp_X8_nearestTraced_L29
    by_cases e : k = p
    · subst e
      exact ⟨fun _ => q, fun c => absurd (nI_le (Nat.le_refl k) (by omega)) c⟩
    · refine ⟨fun c => absurd c (nI_ge (by omega) (by omega)), fun _ => ?_⟩
      have hn := ih (k + 1) (by omega) (by omega)
      rw [nI_1]
      cases hb : bst (fun k => σ 1055 0 k ≠ -1 ∧ nI k ≠ skip) (td σ p) k with
      | none =>
        by_cases ok : σ 1055 0 k = -1
        · have e2 : bst (fun k => σ 1055 0 k ≠ -1 ∧ nI k ≠ skip) (td σ p) (k + 1) = none := by simp [bst, hb, ok]
          rw [e2] at hn
          exact tdist_neg h7 h8 hp (by omega) ok ⟨fun _ => hn, fun _ => ⟨fun _ => hn, fun c => absurd rfl c⟩⟩
        · refine tdist_pos h7 h8 hp (by omega) op ok ⟨fun c => ?_, fun c => ⟨fun c2 => absurd c2 (nI_ne1 (by have := td_le σ p k; omega)), fun _ => ⟨fun _ => ?_, fun c3 => absurd rfl c3⟩⟩⟩
          · have e2 : bst (fun k => σ 1055 0 k ≠ -1 ∧ nI k ≠ skip) (td σ p) (k + 1) = none := by simp [bst, hb, c]
            rw [e2] at hn
            exact hn
          · have e2 : bst (fun k => σ 1055 0 k ≠ -1 ∧ nI k ≠ skip) (td σ p) (k + 1) = some k := by simp [bst, hb, ok, c]
            rw [e2] at hn
            exact hn
      | some b =>
        obtain ⟨hbk, -, -⟩ := bst_some hb
        have nb : ¬ enc (some b) = (-1 : Int32) := nI_ne1 (by omega)
        by_cases ok : σ 1055 0 k = -1
        · have e2 : bst (fun k => σ 1055 0 k ≠ -1 ∧ nI k ≠ skip) (td σ p) (k + 1) = some b := by simp [bst, hb, ok]
          rw [e2] at hn
          exact tdist_neg h7 h8 hp (by omega) ok ⟨fun _ => hn, fun _ => ⟨fun _ => hn, fun c => absurd rfl c⟩⟩
        · have l1 := td_le σ p k
          have l2 := td_le σ p b
          refine tdist_pos h7 h8 hp (by omega) op ok ⟨fun c => ?_, fun c => ⟨fun c2 => absurd c2 (nI_ne1 (by omega)), fun _ => ⟨fun c3 => absurd c3 nb, fun _ => ⟨fun c4 => ?_, fun c4 => ?_⟩⟩⟩⟩
          · have e2 : bst (fun k => σ 1055 0 k ≠ -1 ∧ nI k ≠ skip) (td σ p) (k + 1) = some b := by simp [bst, hb, c]
            rw [e2] at hn
            exact hn
          · have c5 : ¬ td σ p k < td σ p b := fun w => absurd ((nI_leI (by omega) (by omega)).mp c4) (by omega)
            have e2 : bst (fun k => σ 1055 0 k ≠ -1 ∧ nI k ≠ skip) (td σ p) (k + 1) = some b := by simp [bst, hb, c5]
            rw [e2] at hn
            exact hn
          · have c5 : td σ p k < td σ p b := Nat.not_le.mp (fun w => c4 ((nI_leI (by omega) (by omega)).mpr w))
            have e2 : bst (fun k => σ 1055 0 k ≠ -1 ∧ nI k ≠ skip) (td σ p) (k + 1) = some k := by simp [bst, hb, c5, ok, c]
            rw [e2] at hn
            exact hn
theorem from_loop {g : Nat → Nat} {σ : pr_Sg} {Q : Int32 → pr_Sg → Prop} (h7 : I_pic g σ) (h8 : I_trc g σ) {p : Nat} (hp : p < g 2) (op : σ 1055 0 p ≠ -1) (q : Q (enc (bst (fun k => σ 1055 0 k ≠ -1) (td σ p) p)) σ) : ∀ d k, k ≤ p → p - k < d → wp_X9_from_L24 g Q d σ (nI p) (enc (bst (fun k => σ 1055 0 k ≠ -1) (td σ p) k)) (nI k) := by
  have h40 := h7.1
  intro d
  induction d with
  | zero => intro k _ h2; exact absurd h2 (by omega)
  | succ d ih =>
    intro k hk hd
    unfold wp_X9_from_L24
    by_cases e : k = p
    · subst e
      exact ⟨fun _ => q, fun c => absurd (nI_le (Nat.le_refl k) (by omega)) c⟩
    · refine ⟨fun c => absurd c (nI_ge (by omega) (by omega)), fun _ => ⟨vp_in_nI (by omega) (by omega), ?_⟩⟩
      have hn := ih (k + 1) (by omega) (by omega)
      rw [nI_1, nI_clamp (by omega)]
      refine ⟨fun ok => ?_, fun ok => ?_⟩
      · have e2 : bst (fun k => σ 1055 0 k ≠ -1) (td σ p) (k + 1) = bst (fun k => σ 1055 0 k ≠ -1) (td σ p) k := by
          cases hb : bst (fun k => σ 1055 0 k ≠ -1) (td σ p) k <;> simp [bst, hb, ok]
        rw [e2] at hn
        exact hn
      · cases hb : bst (fun k => σ 1055 0 k ≠ -1) (td σ p) k with
        | none =>
          have e2 : bst (fun k => σ 1055 0 k ≠ -1) (td σ p) (k + 1) = some k := by simp [bst, hb, ok]
          rw [e2] at hn
          exact ⟨fun _ => hn, fun c => absurd rfl c⟩
        | some b =>
          obtain ⟨hbk, hob, -⟩ := bst_some hb
          have l1 := td_le σ p k
          have l2 := td_le σ p b
          refine ⟨fun c => absurd c (nI_ne1 (by omega)), fun _ => ?_⟩
          refine differ_ev h40 h8 hp (by omega) op ok ?_
          refine differ_ev h40 h8 hp (by omega) op hob ⟨fun c4 => ?_, fun c4 => ?_⟩
          · have c5 : ¬ td σ p k < td σ p b := fun w => absurd ((nI_leI (by omega) (by omega)).mp c4) (by omega)
            have e2 : bst (fun k => σ 1055 0 k ≠ -1) (td σ p) (k + 1) = some b := by simp [bst, hb, c5]
            rw [e2] at hn
            exact hn
          · have c5 : td σ p k < td σ p b := Nat.not_le.mp (fun w => c4 ((nI_leI (by omega) (by omega)).mpr w))
            have e2 : bst (fun k => σ 1055 0 k ≠ -1) (td σ p) (k + 1) = some k := by simp [bst, hb, c5, ok]
            rw [e2] at hn
            exact hn
theorem bst_cg {ok ok' : Nat → Prop} [DecidablePred ok] [DecidablePred ok'] {f : Nat → Nat} : ∀ {n : Nat}, (∀ k, k < n → (ok k ↔ ok' k)) → bst ok f n = bst ok' f n := by
  intro n
  induction n with
  | zero => intro _; rfl
  | succ n ih =>
    intro h
    unfold bst
    rw [ih (fun k hk => h k (by omega))]
    have := h n (by omega)
    cases bst ok' f n <;> simp [this]
theorem from_X {g : Nat → Nat} {σ : pr_Sg} {Q : Int32 → pr_Sg → Prop} (h7 : I_pic g σ) (h8 : I_trc g σ) {p : Nat} (skip : Int32) (hp : p < g 2) (op : σ 1055 0 p ≠ -1) (q : Q (enc (bst (fun k => σ 1055 0 k ≠ -1 ∧ nI k ≠ skip) (td σ p) p)) σ) : wpb_X8_nearestTraced g σ (nI p) skip Q := by
  unfold wpb_X8_nearestTraced
  refine pic_pos h7 hp (o_s ⟨fun _ => ⟨p + 1, ?_⟩, fun c => absurd ((h8 p hp).1.symm.trans c) op⟩)
  exact near_loop h7 h8 hp op q (p + 1) 0 (by omega) (by omega)
theorem from_X1 {g : Nat → Nat} {σ : pr_Sg} {Q : Int32 → pr_Sg → Prop} (h7 : I_pic g σ) (h8 : I_trc g σ) {p : Nat} (hp : p < g 2) (op : σ 1055 0 p ≠ -1) (q : Q (enc (bst (fun k => σ 1055 0 k ≠ -1) (td σ p) p)) σ) : wpb_X8_nearestTraced g σ (nI p) (-1 : Int32) Q := by
  have h40 := h7.1
  refine from_X h7 h8 _ hp op ?_
  rw [bst_cg (ok' := fun k => σ 1055 0 k ≠ -1) (fun k hk => ⟨fun w => w.1, fun w => ⟨w, nI_ne1 (by omega)⟩⟩)]
  exact q
theorem from_X0 {g : Nat → Nat} {σ : pr_Sg} {Q : Int32 → pr_Sg → Prop} (h7 : I_pic g σ) (h8 : I_trc g σ) {p : Nat} (skip : Int32) (hp : p < g 2) (op : σ 1055 0 p = -1) (q : Q (-1) σ) : wpb_X8_nearestTraced g σ (nI p) skip Q := by
  unfold wpb_X8_nearestTraced
  exact pic_pos h7 hp (o_s ⟨fun c => absurd ((h8 p hp).1.trans op) c, fun _ => q⟩)
theorem from_XN {g : Nat → Nat} {σ : pr_Sg} {Q : Int32 → pr_Sg → Prop} (h7 : I_pic g σ) {a : Int32} (skip : Int32) (hp : ∀ n, n < g 2 → a ≠ nI n) (q : Q (-1) σ) : wpb_X8_nearestTraced g σ a skip Q := by
  unfold wpb_X8_nearestTraced
  exact pic_neg h7 hp (o_n q)
theorem from_M {g : Nat → Nat} {σ : pr_Sg} {Q : Int32 → pr_Sg → Prop} (h7 : I_pic g σ) (h8 : I_trc g σ) {p : Nat} (hp : p < g 2) (op : σ 1055 0 p ≠ -1) (q : Q (enc (bst (fun k => σ 1055 0 k ≠ -1) (td σ p) p)) σ) : wpb_X9_from g σ (nI p) Q := by
  have h40 := h7.1
  unfold wpb_X9_from
  refine ipic_pos h7.2.2.1 h40 hp (z_t ⟨vp_in_nI (by omega) (by omega), ?_⟩)
  rw [nI_clamp (by omega)]
  exact ⟨fun _ => ⟨p + 1, from_loop h7 h8 hp op q (p + 1) 0 (by omega) (by omega)⟩, fun c => absurd c op⟩
theorem from_M0 {g : Nat → Nat} {σ : pr_Sg} {Q : Int32 → pr_Sg → Prop} (h7 : I_pic g σ) {p : Nat} (hp : p < g 2) (op : σ 1055 0 p = -1) (q : Q (-1) σ) : wpb_X9_from g σ (nI p) Q := by
  have h40 := h7.1
  unfold wpb_X9_from
  refine ipic_pos h7.2.2.1 h40 hp (z_t ⟨vp_in_nI (by omega) (by omega), ?_⟩)
  rw [nI_clamp (by omega)]
  exact ⟨fun c => absurd op c, fun _ => q⟩
theorem from_MN {g : Nat → Nat} {σ : pr_Sg} {Q : Int32 → pr_Sg → Prop} (h7 : I_pic g σ) {a : Int32} (hp : ∀ n, n < g 2 → a ≠ nI n) (q : Q (-1) σ) : wpb_X9_from g σ a Q := by
  unfold wpb_X9_from
  exact ipic_neg h7.2.2.1 h7.1 hp (z_f q)
theorem f_from : pr_fact_from Inv := by
  intro g σ a1 hI
  show wpb_X8_from _ _ _ _
  unfold wpb_X8_from
  obtain ⟨h1, h2, h3, h4, h5, h6, h7, h8, h9, h10, h11, h12, h13⟩ := id hI
  rcases ix a1 (g 2) with ⟨p, hp, rfl⟩ | hp
  · by_cases op : σ 1055 0 p = -1
    · exact from_X0 h7 h8 _ hp op (from_M0 h7 hp op ⟨rfl, hI⟩)
    · exact from_X1 h7 h8 hp op (from_M h7 h8 hp op ⟨rfl, hI⟩)
  · exact from_XN h7 _ hp (from_MN h7 hp ⟨rfl, hI⟩)
theorem doubt_loop {g : Nat → Nat} {σ : pr_Sg} {Q : Int32 → pr_Sg → Prop} (h7 : I_pic g σ) (h8 : I_trc g σ) {p b : Nat} (hp : p < g 2) (op : σ 1055 0 p ≠ -1) (hb : b < p) (ob : σ 1055 0 b ≠ -1) : ∀ d k, k ≤ p → p - k < d → ((∃ j, k ≤ j ∧ j < p ∧ j ≠ b ∧ σ 1055 0 j ≠ -1 ∧ td σ p j = td σ p b) → Q 1 σ) → ((¬ ∃ j, k ≤ j ∧ j < p ∧ j ≠ b ∧ σ 1055 0 j ≠ -1 ∧ td σ p j = td σ p b) → Q 0 σ) → wp_X9_doubt_L15 g Q d σ (nI p) (nI b) (nI k) := by
  have h40 := h7.1
  intro d
  induction d with
  | zero => intro k _ h2; exact absurd h2 (by omega)
  | succ d ih =>
    intro k hk hd q1 q0
    unfold wp_X9_doubt_L15
    by_cases e : k = p
    · subst e
      exact ⟨fun _ => q0 (fun ⟨j, j1, j2, _⟩ => by omega), fun c => absurd (nI_le (Nat.le_refl k) (by omega)) c⟩
    · refine ⟨fun c => absurd c (nI_ge (by omega) (by omega)), fun _ => ?_⟩
      rw [nI_1, nI_clamp (by omega)]
      have hd2 : p - (k + 1) < d := by omega
      have hk2 : k + 1 ≤ p := by omega
      have hn : ¬ (k ≠ b ∧ σ 1055 0 k ≠ -1 ∧ td σ p k = td σ p b) → wp_X9_doubt_L15 g Q d σ (nI p) (nI b) (nI (k + 1)) := fun w => by
        refine ih (k + 1) hk2 hd2 (fun ⟨j, j1, j2, j3⟩ => q1 ⟨j, Nat.le_of_succ_le j1, j2, j3⟩) (fun w2 => q0 (fun ⟨j, j1, j2, j3⟩ => ?_))
        by_cases ej : j = k
        · subst ej
          exact w j3
        · exact w2 ⟨j, by omega, j2, j3⟩
      refine ⟨fun c => hn (fun w => w.1 ((nI_eq (by omega) (by omega)).mp c)), fun c => ⟨vp_in_nI (by omega) (by omega), fun ok => hn (fun w => w.2.1 ok), fun ok => ?_⟩⟩
      have ckb : k ≠ b := fun w => c (by rw [w])
      have l1 := td_le σ p k
      have l2 := td_le σ p b
      refine differ_ev h40 h8 hp (by omega) op ok ?_
      refine differ_ev h40 h8 hp (by omega) op ob ⟨fun c4 => hn (fun w => c4 (by rw [w.2.2])), fun c4 => q1 ⟨k, Nat.le_refl k, by omega, ckb, ok, (nI_eq (by omega) (by omega)).mp c4⟩⟩
theorem f_doubt : pr_fact_doubt Inv := by
  intro g σ a1 hI
  show wpb_X8_doubt _ _ _ _
  unfold wpb_X8_doubt
  obtain ⟨h1, h2, h3, h4, h5, h6, h7, h8, h9, h10, h11, h12, h13⟩ := id hI
  have h40 := h7.1
  rcases ix a1 (g 2) with ⟨p, hp, rfl⟩ | hp
  · by_cases op : σ 1055 0 p = -1
    · refine from_X0 h7 h8 _ hp op (from_X0 h7 h8 _ hp op ⟨fun _ => ?_, fun c => absurd rfl c⟩)
      show wpb_X9_doubt _ _ _ _
      unfold wpb_X9_doubt
      exact from_M0 h7 hp op ⟨fun c => absurd rfl c, fun _ => ⟨rfl, hI⟩⟩
    · refine from_X1 h7 h8 hp op ?_
      cases hB : bst (fun k => σ 1055 0 k ≠ -1) (td σ p) p with
      | none =>
        refine from_X h7 h8 _ hp op ⟨fun _ => ?_, fun c => absurd rfl c⟩
        show wpb_X9_doubt _ _ _ _
        unfold wpb_X9_doubt
        refine from_M h7 h8 hp op ?_
        rw [hB]
        exact ⟨fun c => absurd rfl c, fun _ => ⟨rfl, hI⟩⟩
      | some b =>
        obtain ⟨b1, b2, b3⟩ := bst_some hB
        have nb : ¬ enc (some b) = (-1 : Int32) := nI_ne1 (by omega)
        have M : ∀ {r : Int32}, ((∃ j, 0 ≤ j ∧ j < p ∧ j ≠ b ∧ σ 1055 0 j ≠ -1 ∧ td σ p j = td σ p b) → r = 1) → ((¬ ∃ j, 0 ≤ j ∧ j < p ∧ j ≠ b ∧ σ 1055 0 j ≠ -1 ∧ td σ p j = td σ p b) → r = 0) → wpb_X9_doubt g σ (nI p) (fun r2 σ2 => r = r2 ∧ Inv g σ2) := fun {r} m1 m0 => by
          unfold wpb_X9_doubt
          refine from_M h7 h8 hp op ?_
          rw [hB]
          exact ⟨fun _ => ⟨p + 1, doubt_loop h7 h8 hp op b1 b2 (p + 1) 0 (by omega) (by omega) (fun w => ⟨m1 w, hI⟩) (fun w => ⟨m0 w, hI⟩)⟩, fun c => absurd c nb⟩
        refine from_X h7 h8 _ hp op ⟨fun c => absurd c nb, fun _ => ?_⟩
        cases hO : bst (fun k => σ 1055 0 k ≠ -1 ∧ nI k ≠ enc (some b)) (td σ p) p with
        | none =>
          refine ⟨fun _ => M (fun ⟨j, _, j2, j3, j4, _⟩ => ?_) (fun _ => rfl), fun c => absurd rfl c⟩
          exact absurd ⟨j4, fun w => j3 ((nI_eq (by omega) (by omega)).mp w)⟩ (bst_none hO j j2)
        | some o =>
          obtain ⟨o1, ⟨o2, o3⟩, o4⟩ := bst_some hO
          have no : ¬ enc (some o) = (-1 : Int32) := nI_ne1 (by omega)
          have hob : o ≠ b := fun w => o3 (by rw [w]; rfl)
          have l1 := td_le σ p o
          have l2 := td_le σ p b
          refine ⟨fun c => absurd c no, fun _ => ?_⟩
          refine tdist_pos h7 h8 hp (by omega) op b2 ?_
          refine tdist_pos h7 h8 hp (by omega) op o2 ⟨fun c => ?_, fun c => ?_⟩
          · refine M (fun ⟨j, _, j2, j3, j4, j5⟩ => absurd ?_ c) (fun _ => rfl)
            have m1 := o4 j j2 ⟨j4, fun w => j3 ((nI_eq (by omega) (by omega)).mp w)⟩
            have m2 := b3 o o1 o2
            rw [show td σ p b = td σ p o by omega]
          · refine M (fun _ => rfl) (fun w => absurd ⟨o, Nat.zero_le o, o1, hob, o2, ((nI_eq (by omega) (by omega)).mp c).symm⟩ w)
  · refine from_XN h7 _ hp (from_XN h7 _ hp ⟨fun _ => ?_, fun c => absurd rfl c⟩)
    show wpb_X9_doubt _ _ _ _
    unfold wpb_X9_doubt
    exact from_MN h7 hp ⟨fun c => absurd rfl c, fun _ => ⟨rfl, hI⟩⟩
