def wetP (σ : pr_Sg) (p k : Nat) : Prop := ¬ σ 130 p k = (-1 : Int32) ∧ ¬ σ 1023 0 k ≤ σ 520 0 0 - σ 130 p k
theorem wetX_pos {g : Nat → Nat} {σ : pr_Sg} {p k : Nat} {Q : Int32 → pr_Sg → Prop} (h : wetP σ p k) (q : Q 1 σ) : wpb_X2_isWet g σ p k (σ 520 0 0) (σ 1023 0 k) Q := ⟨fun c => absurd c h.1, fun _ => ⟨fun c => absurd c h.2, fun _ => q⟩⟩
theorem wetX_neg {g : Nat → Nat} {σ : pr_Sg} {p k : Nat} {Q : Int32 → pr_Sg → Prop} (h : ¬ wetP σ p k) (q : Q 0 σ) : wpb_X2_isWet g σ p k (σ 520 0 0) (σ 1023 0 k) Q := ⟨fun _ => q, fun c1 => ⟨fun _ => q, fun c2 => absurd ⟨c1, c2⟩ h⟩⟩
theorem wetM_pos {g : Nat → Nat} {σ : pr_Sg} {p k : Nat} {Q : Int32 → pr_Sg → Prop} (hp : p < 40) (hk : k < 5) (e1 : σ 1066 p k = σ 130 p k) (e2 : σ 1043 0 k = σ 1023 0 k) (e3 : σ 576 0 0 = σ 520 0 0) (h : wetP σ p k) (q : Q 1 σ) : wpb_X9_isWet g σ (nI p) (nI k) Q := by
  unfold wpb_X9_isWet
  have v1 : vp_in (nI p) 40 := vp_in_nI hp (by omega)
  have v2 : vp_in (nI k) 5 := vp_in_nI hk (by omega)
  rw [nI_clamp (by omega), nI_clamp (by omega), e1, e2, e3]
  exact ⟨v1, v2, fun c => absurd c h.1, fun _ => ⟨v1, v2, v2, fun c => absurd c h.2, fun _ => q⟩⟩
theorem wetM_neg {g : Nat → Nat} {σ : pr_Sg} {p k : Nat} {Q : Int32 → pr_Sg → Prop} (hp : p < 40) (hk : k < 5) (e1 : σ 1066 p k = σ 130 p k) (e2 : σ 1043 0 k = σ 1023 0 k) (e3 : σ 576 0 0 = σ 520 0 0) (h : ¬ wetP σ p k) (q : Q 0 σ) : wpb_X9_isWet g σ (nI p) (nI k) Q := by
  unfold wpb_X9_isWet
  have v1 : vp_in (nI p) 40 := vp_in_nI hp (by omega)
  have v2 : vp_in (nI k) 5 := vp_in_nI hk (by omega)
  rw [nI_clamp (by omega), nI_clamp (by omega), e1, e2, e3]
  exact ⟨v1, v2, fun _ => q, fun c1 => ⟨v1, v2, v2, fun _ => q, fun c2 => absurd ⟨c1, c2⟩ h⟩⟩
theorem now_eq {σ : pr_Sg} (h : I_now σ) : σ 576 0 0 = σ 520 0 0 := by
  obtain ⟨d, -, q1, q2⟩ := h
  rw [q1, q2]
theorem f_part : pr_fact_part Inv := by
  intro g σ a1 a2 a3 hI
  show wpb_X8_part _ _ _ _ _ _
  unfold wpb_X8_part
  obtain ⟨h1, h2, h3, h4, h5, h6, h7, h8, h9, h10, h11, h12, h13⟩ := id hI
  have b2 := h7.1
  have b4 := h7.2.2.1
  rcases ix a1 (g 2) with ⟨n, hn, rfl⟩ | hn
  · rcases ix a2 5 with ⟨k, hk, rfl⟩ | hk
    · refine part_pos h7 hn hk (o_s2 ?_)
      obtain ⟨y1, y2, y3, y4, -⟩ := h10.1 n hn k hk
      have v1 : vp_in (nI n) 40 := vp_in_nI (by omega) (by omega)
      have v2 : vp_in (nI k) 5 := vp_in_nI hk (by omega)
      have c1 : (nI n).toNatClampNeg = n := nI_clamp (by omega)
      have c2 : (nI k).toNatClampNeg = k := nI_clamp (by omega)
      have M : ∀ {r : Int32}, (a3 = 0 → r = σ 1065 n k) → (a3 = 1 → r = σ 1064 n k - σ 1065 n k) → (a3 = 2 → r = σ 1066 n k) → (a3 = 3 → r = σ 1067 n k) → (a3 = 4 → (wetP σ n k → r = 1) ∧ (¬ wetP σ n k → r = 0)) → (¬ a3 = 0 → ¬ a3 = 1 → ¬ a3 = 2 → ¬ a3 = 3 → ¬ a3 = 4 → r = -1) → wpb_X9_part g σ (nI n) (nI k) a3 (fun r2 σ2 => r = r2 ∧ Inv g σ2) := by
        intro r m0 m1 m2 m3 m4 m5
        unfold wpb_X9_part
        refine ipic_pos b4 b2 hn (z_t ?_)
        refine in_pos 4 rfl (by omega) hk (y_t ?_)
        rw [c1, c2]
        refine ⟨fun c => ⟨v1, v2, m0 c, hI⟩, fun c => ⟨v1, v2, v1, v2, m1 c, hI⟩, fun c => ⟨v1, v2, m2 c, hI⟩, fun c => ⟨v1, v2, m3 c, hI⟩, fun c => ?_, fun e0 e1 e2 e3 e4 => ⟨m5 e0 e1 e2 e3 e4, hI⟩⟩
        by_cases hw : wetP σ n k
        · exact wetM_pos (by omega) hk y3.symm (h4 k hk).symm (now_eq h1) hw (z_t ⟨(m4 c).1 hw, hI⟩)
        · exact wetM_neg (by omega) hk y3.symm (h4 k hk).symm (now_eq h1) hw (z_f ⟨(m4 c).2 hw, hI⟩)
      refine ⟨fun c => ?_, fun c => ?_, fun c => ?_, fun c => ?_, fun c => ⟨v2, ?_⟩, fun e0 e1 e2 e3 e4 => ?_⟩
      · subst c
        refine M (fun _ => y2) ?_ ?_ ?_ ?_ ?_ <;> intro c <;> first | exact absurd c (by decide) | exact absurd rfl c
      · subst c
        refine M ?_ (fun _ => by rw [y1, y2]) ?_ ?_ ?_ ?_ <;> intro c <;> first | exact absurd c (by decide) | (intro c2; exact absurd rfl c2)
      · subst c
        refine M ?_ ?_ (fun _ => y3) ?_ ?_ ?_ <;> intro c <;> first | exact absurd c (by decide) | (intro c2 c3; exact absurd rfl c3)
      · subst c
        refine M ?_ ?_ ?_ (fun _ => y4) ?_ ?_ <;> intro c <;> first | exact absurd c (by decide) | (intro c2 c3 c4; exact absurd rfl c4)
      · subst c
        rw [c2]
        by_cases hw : wetP σ n k
        · refine wetX_pos hw (z_t ?_)
          refine M ?_ ?_ ?_ ?_ (fun _ => ⟨fun _ => rfl, fun q => absurd hw q⟩) ?_ <;> intro c <;> first | exact absurd c (by decide) | (intro c2 c3 c4 c5; exact absurd rfl c5)
        · refine wetX_neg hw (z_f ?_)
          refine M ?_ ?_ ?_ ?_ (fun _ => ⟨fun q => absurd q hw, fun _ => rfl⟩) ?_ <;> intro c <;> first | exact absurd c (by decide) | (intro c2 c3 c4 c5; exact absurd rfl c5)
      · exact M (fun c => absurd c e0) (fun c => absurd c e1) (fun c => absurd c e2) (fun c => absurd c e3) (fun c => absurd c e4) (fun _ _ _ _ _ => rfl)
    · refine part_neg2 h7 hn hk (o_n2 ?_)
      show wpb_X9_part _ _ _ _ _ _
      unfold wpb_X9_part
      refine ipic_pos b4 b2 hn (z_t ?_)
      exact in_neg 4 rfl (by omega) hk (y_f ⟨rfl, hI⟩)
  · refine part_neg1 h7 hn (o_n2 ?_)
    show wpb_X9_part _ _ _ _ _ _
    unfold wpb_X9_part
    exact ipic_neg b4 b2 hn (z_f ⟨rfl, hI⟩)
theorem add0 (x : Int32) : x + (0 : Int32) = x := Int32.add_zero x
theorem told4 {g : Nat → Nat} {σ : pr_Sg} {Q : Int32 → pr_Sg → Prop} {N p : Nat} (hN : N ≤ 200) (h : σ 608 0 0 = nI N) (hQ : Q (nI (cntN (fun i => σ 1058 0 i = nI p) N)) σ) : ∀ d k, k ≤ N → N - k < d → wp_X9_told_L92 g Q d σ (nI p) (4 : Int32) (nI (cntN (fun i => σ 1058 0 i = nI p) k)) (nI k) := by
  intro d
  induction d with
  | zero => intro k _ h2; exact absurd h2 (by omega)
  | succ d ih =>
    intro k hk hd
    unfold wp_X9_told_L92
    rw [h]
    by_cases e : k = N
    · subst e
      exact ⟨fun _ => hQ, fun c => absurd (nI_le (Nat.le_refl k) (by omega)) c⟩
    · refine ⟨fun c => absurd c (nI_ge (by omega) (by omega)), fun _ => ⟨vp_in_nI (by omega) (by omega), ?_⟩⟩
      rw [nI_clamp (by omega), nI_1, nI_1, add0]
      have := ih (k + 1) (by omega) (by omega)
      refine ⟨fun c => ?_, fun c => ⟨fun _ => ?_, fun c2 => absurd rfl c2⟩⟩
      · simpa [cntN, c] using this
      · simpa [cntN, c] using this
theorem told5 {g : Nat → Nat} {σ : pr_Sg} {Q : Int32 → pr_Sg → Prop} {N p : Nat} (hN : N ≤ 200) (h : σ 608 0 0 = nI N) (hz : ∀ i, i < N → σ 1071 0 i = 0 ∨ σ 1071 0 i = 1) (hQ : Q (nI (cntN (fun i => σ 1058 0 i = nI p ∧ σ 1071 0 i = 1) N)) σ) : ∀ d k, k ≤ N → N - k < d → wp_X9_told_L92 g Q d σ (nI p) (5 : Int32) (nI (cntN (fun i => σ 1058 0 i = nI p ∧ σ 1071 0 i = 1) k)) (nI k) := by
  intro d
  induction d with
  | zero => intro k _ h2; exact absurd h2 (by omega)
  | succ d ih =>
    intro k hk hd
    unfold wp_X9_told_L92
    rw [h]
    by_cases e : k = N
    · subst e
      exact ⟨fun _ => hQ, fun c => absurd (nI_le (Nat.le_refl k) (by omega)) c⟩
    · have hv : vp_in (nI k) 200 := vp_in_nI (by omega) (by omega)
      refine ⟨fun c => absurd c (nI_ge (by omega) (by omega)), fun _ => ⟨hv, ?_⟩⟩
      rw [nI_clamp (by omega), nI_1, nI_1, add0]
      have := ih (k + 1) (by omega) (by omega)
      refine ⟨fun c => ?_, fun c => ⟨fun c2 => absurd c2 (by decide), fun _ => ⟨hv, fun c3 => ?_, fun c3 => ?_⟩⟩⟩
      · simpa [cntN, c] using this
      · simpa [cntN, c, c3] using this
      · have c4 : σ 1071 0 k = 1 := (hz k (by omega)).resolve_left c3
        simpa [cntN, c, c4] using this
theorem f_told : pr_fact_told Inv := by
  intro g σ a1 a2 hI
  show wpb_X8_told _ _ _ _ _
  unfold wpb_X8_told
  obtain ⟨h1, h2, h3, h4, h5, h6, h7, h8, h9, h10, h11, h12, h13⟩ := id hI
  have b2 := h7.1
  have b4 := h7.2.2.1
  obtain ⟨N, hN, r1, r2, -, -, -, hz, -, -, -, hcn⟩ := h13
  rcases ix a1 (g 2) with ⟨n, hn, rfl⟩ | hn
  · refine pic_pos h7 hn (o_s ?_)
    obtain ⟨⟨y1, y2, y3, y4, y5⟩, -⟩ := h7.2.2.2 n hn
    have v1 : vp_in (nI n) 40 := vp_in_nI (by omega) (by omega)
    have c1 : (nI n).toNatClampNeg = n := nI_clamp (by omega)
    have M : ∀ {r : Int32}, (a2 = 0 → (¬ σ 1053 0 n = -1 → r = 1) ∧ (σ 1053 0 n = -1 → r = 0)) → (a2 = 1 → r = σ 1051 0 n) → (a2 = 2 → r = σ 1052 0 n) → (a2 = 3 → r = σ 1053 0 n) → (a2 = 4 → r = σ 199 n 0) → (a2 = 5 → r = σ 200 n 0) → (¬ a2 = 0 → ¬ a2 = 1 → ¬ a2 = 2 → ¬ a2 = 3 → ¬ a2 = 4 → ¬ a2 = 5 → r = -1) → wpb_X9_told g σ (nI n) a2 (fun r2 σ2 => r = r2 ∧ Inv g σ2) := by
      intro r m0 m1 m2 m3 m4 m5 m6
      unfold wpb_X9_told
      refine ipic_pos b4 b2 hn (y_t ?_)
      rw [c1]
      refine ⟨fun c => ⟨v1, fun q => ⟨(m0 c).1 q, hI⟩, fun q => ⟨(m0 c).2 q, hI⟩⟩, fun c => ⟨v1, m1 c, hI⟩, fun c => ⟨v1, m2 c, hI⟩, fun c => ⟨v1, m3 c, hI⟩, fun c => ?_, fun c => ?_, fun e0 e1 e2 e3 e4 e5 => ⟨m6 e0 e1 e2 e3 e4 e5, hI⟩⟩
      · subst c
        exact ⟨N + 1, told4 (p := n) hN r2 ⟨by rw [m4 rfl]; exact (hcn n hn).1, hI⟩ (N + 1) 0 (by omega) (by omega)⟩
      · subst c
        exact ⟨N + 1, told5 (p := n) hN r2 hz ⟨by rw [m5 rfl]; exact (hcn n hn).2, hI⟩ (N + 1) 0 (by omega) (by omega)⟩
    refine ⟨fun c => ?_, fun c => ?_, fun c => ?_, fun c => ?_, fun c => ?_, fun c => ?_, fun e0 e1 e2 e3 e4 e5 => ?_⟩
    · subst c
      refine ⟨fun q => z_f ?_, fun q => z_t ?_⟩
      · refine M (fun _ => ⟨fun w => absurd (by rw [← y5]; exact q) w, fun _ => rfl⟩) ?_ ?_ ?_ ?_ ?_ ?_ <;> intro c <;> first | exact absurd c (by decide) | exact absurd rfl c
      · refine M (fun _ => ⟨fun _ => rfl, fun w => absurd (by rw [y5]; exact w) q⟩) ?_ ?_ ?_ ?_ ?_ ?_ <;> intro c <;> first | exact absurd c (by decide) | exact absurd rfl c
    · subst c
      refine M ?_ (fun _ => y3) ?_ ?_ ?_ ?_ ?_ <;> intro c <;> first | exact absurd c (by decide) | (intro c2; exact absurd rfl c2)
    · subst c
      refine M ?_ ?_ (fun _ => y4) ?_ ?_ ?_ ?_ <;> intro c <;> first | exact absurd c (by decide) | (intro c2 c3; exact absurd rfl c3)
    · subst c
      refine M ?_ ?_ ?_ (fun _ => y5) ?_ ?_ ?_ <;> intro c <;> first | exact absurd c (by decide) | (intro c2 c3 c4; exact absurd rfl c4)
    · subst c
      refine M ?_ ?_ ?_ ?_ (fun _ => rfl) ?_ ?_ <;> intro c <;> first | exact absurd c (by decide) | (intro c2 c3 c4 c5; exact absurd rfl c5)
    · subst c
      refine M ?_ ?_ ?_ ?_ ?_ (fun _ => rfl) ?_ <;> intro c <;> first | exact absurd c (by decide) | (intro c2 c3 c4 c5 c6; exact absurd rfl c6)
    · exact M (fun c => absurd c e0) (fun c => absurd c e1) (fun c => absurd c e2) (fun c => absurd c e3) (fun c => absurd c e4) (fun c => absurd c e5) (fun _ _ _ _ _ _ => rfl)
  · refine pic_neg h7 hn (o_n ?_)
    show wpb_X9_told _ _ _ _ _
    unfold wpb_X9_told
    exact ipic_neg b4 b2 hn (y_f ⟨rfl, hI⟩)
/-- the first of those k < n that are ok whose f is least -/
def bst (ok : Nat → Prop) [DecidablePred ok] (f : Nat → Nat) : Nat → Option Nat
  | 0 => none
  | n + 1 => match bst ok f n with
    | none => if ok n then some n else none
    | some b => if ok n ∧ f n < f b then some n else some b
theorem bst_none {ok : Nat → Prop} [DecidablePred ok] {f : Nat → Nat} : ∀ {n : Nat}, bst ok f n = none → ∀ k, k < n → ¬ ok k := by
  intro n
  induction n with
  | zero => intro _ k hk; exact absurd hk (Nat.not_lt_zero k)
  | succ n ih =>
    intro h k hk
    unfold bst at h
    cases hb : bst ok f n with
    | none =>
      rw [hb] at h
      by_cases ho : ok n
      · simp [ho] at h
      · by_cases e : k = n
        · subst e; exact ho
        · exact ih hb k (by omega)
    | some b =>
      rw [hb] at h
      by_cases ho : ok n ∧ f n < f b <;> simp [ho] at h
theorem bst_some {ok : Nat → Prop} [DecidablePred ok] {f : Nat → Nat} : ∀ {n b : Nat}, bst ok f n = some b → b < n ∧ ok b ∧ ∀ k, k < n → ok k → f b ≤ f k := by
  intro n
  induction n with
  | zero => intro b h; simp [bst] at h
  | succ n ih =>
    intro b h
    unfold bst at h
    cases hb : bst ok f n with
    | none =>
      rw [hb] at h
      have hn := bst_none hb
      by_cases ho : ok n
      · simp [ho] at h
        subst h
        refine ⟨by omega, ho, fun k hk hok => ?_⟩
        by_cases e : k = n
        · rw [e]; exact Nat.le_refl _
        · exact absurd hok (hn k (by omega))
      · simp [ho] at h
    | some c =>
      rw [hb] at h
      obtain ⟨i1, i2, i3⟩ := ih hb
      by_cases ho : ok n ∧ f n < f c
      · simp [ho] at h
        subst h
        refine ⟨by omega, ho.1, fun k hk hok => ?_⟩
        by_cases e : k = n
        · rw [e]; exact Nat.le_refl _
        · exact Nat.le_trans (Nat.le_of_lt ho.2) (i3 k (by omega) hok)
      · have h : some c = some b := by
          simpa [ho] using h
        cases h
        refine ⟨by omega, i2, fun k hk hok => ?_⟩
        by_cases e : k = n
        · subst e
          exact Nat.not_lt.mp (fun q => ho ⟨hok, q⟩)
        · exact i3 k (by omega) hok
def enc (o : Option Nat) : Int32 := match o with
  | none => -1
  | some b => nI b
theorem nI_ne1 {b : Nat} (h : b < 2 ^ 31) : nI b ≠ (-1 : Int32) := fun q => by
  have := congrArg Int32.toInt q
  rw [nI_toInt h, show (-1 : Int32).toInt = -1 by decide] at this
  omega
