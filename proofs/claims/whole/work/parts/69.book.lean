def bkX (σ : pr_Sg) (N p : Nat) (s a2 a3 : Int32) : pr_Sg := pr_up (pr_up (pr_up (pr_up (pr_up (pr_up (pr_up σ 1024 0 N (nI p)) 1025 0 N s) 1026 0 N a2) 1027 0 N a3) 1070 0 N 0) 453 0 0 (nI N + 1)) 199 p 0 (σ 199 p 0 + 1)
def bkM (σ : pr_Sg) (N p : Nat) (a2 a3 : Int32) : pr_Sg := pr_up (pr_up (pr_up (pr_up (pr_up σ 1058 0 N (nI p)) 1059 0 N a2) 1060 0 N a3) 1071 0 N 0) 608 0 0 (nI N + 1)
theorem bkX_ag {σ : pr_Sg} {N p : Nat} {s a2 a3 : Int32} : ag [1024, 1025, 1026, 1027, 1070, 453, 199] σ (bkX σ N p s a2 a3) := by
  unfold bkX
  refine ag_up (ag_up (ag_up (ag_up (ag_up (ag_up (ag_up ag_rf _ _ _ _ ?_) _ _ _ _ ?_) _ _ _ _ ?_) _ _ _ _ ?_) _ _ _ _ ?_) _ _ _ _ ?_) _ _ _ _ ?_ <;> decide
theorem bkM_ag {σ : pr_Sg} {N p : Nat} {a2 a3 : Int32} : ag [1058, 1059, 1060, 1071, 608] σ (bkM σ N p a2 a3) := by
  unfold bkM
  refine ag_up (ag_up (ag_up (ag_up (ag_up ag_rf _ _ _ _ ?_) _ _ _ _ ?_) _ _ _ _ ?_) _ _ _ _ ?_) _ _ _ _ ?_ <;> decide
theorem nar0 : vp_nar .boolean (0 : Int32) = 0 := by decide
theorem nar1 : vp_nar .boolean (1 : Int32) = 1 := by decide
theorem addX {g : Nat → Nat} {σ : pr_Sg} {Q : Int32 → pr_Sg → Prop} {N : Nat} {a1 a2 a3 a4 : Int32} (hN : N ≤ 200) (e : σ 453 0 0 = nI N) (q1 : N < 200 → Q 1 (pr_up (pr_up (pr_up (pr_up (pr_up (pr_up σ 1024 0 N a1) 1025 0 N a2) 1026 0 N a3) 1027 0 N a4) 1070 0 N 0) 453 0 0 (nI N + 1))) (q0 : ¬ N < 200 → Q 0 σ) : wpb_X7_add g σ a1 a2 a3 a4 Q := by
  unfold wpb_X7_add
  refine ⟨fun c => ?_, fun c => q0 (fun h => c (by rw [e]; exact nI_lt (b := 200) h (by omega)))⟩
  rw [e] at c
  have h : N < 200 := (nI_ltI (a := N) (b := 200) (by omega) (by omega)).mp c
  have v : vp_in (nI N) 200 := vp_in_nI h (by omega)
  have cl : (nI N).toNatClampNeg = N := nI_clamp (by omega)
  rw [e]
  refine ⟨v, fun σ2 e2 => ?_⟩
  have f2 : σ2 453 0 0 = nI N := by rw [e2, up_tag (by decide)]; exact e
  rw [f2]
  refine ⟨v, fun σ3 e3 => ?_⟩
  have f3 : σ3 453 0 0 = nI N := by rw [e3, up_tag (by decide)]; exact f2
  rw [f3]
  refine ⟨v, fun σ4 e4 => ?_⟩
  have f4 : σ4 453 0 0 = nI N := by rw [e4, up_tag (by decide)]; exact f3
  rw [f4]
  refine ⟨v, fun σ5 e5 => ?_⟩
  have f5 : σ5 453 0 0 = nI N := by rw [e5, up_tag (by decide)]; exact f4
  rw [f5]
  refine ⟨v, fun σ6 e6 => ?_⟩
  have f6 : σ6 453 0 0 = nI N := by rw [e6, up_tag (by decide)]; exact f5
  rw [f6]
  intro σ7 e7
  rw [e7, e6, e5, e4, e3, e2, cl, nar0]
  exact q1 h
def cX (g : Nat → Nat) (σ : pr_Sg) (p s N : Nat) (a2 a3 : Int32) : Prop := σ 197 p 0 = -1 ∧ (¬ a2 < σ 520 0 0 ∧ ¬ (20000 : Int32) < a2) ∧ (¬ a3 < 0 ∧ ¬ LH a2 - 1 < a3) ∧ (¬ a3 < σ 384 s 0 ∧ ¬ σ 385 s 0 < a3) ∧ (¬ ∃ i, i < N ∧ σ 1026 0 i = a2 ∧ σ 1027 0 i = a3) ∧ (¬ ∃ i, i < N ∧ σ 1026 0 i = a2 ∧ σ 1025 0 i = σ 192 p 0) ∧ N < 200
def cM (g : Nat → Nat) (σ : pr_Sg) (p s N : Nat) (a2 a3 : Int32) : Prop := σ 1053 0 p = -1 ∧ (¬ a2 < σ 576 0 0 ∧ ¬ (20000 : Int32) < a2) ∧ ((¬ a3 < 0 ∧ ¬ LH a2 - 1 < a3) ∧ (¬ a3 < σ 1047 0 s ∧ ¬ σ 1048 0 s < a3) ∧ (¬ ∃ i, i < N ∧ σ 1059 0 i = a2 ∧ σ 1060 0 i = a3)) ∧ (¬ ∃ i, i < N ∧ σ 1059 0 i = a2 ∧ σ 1050 0 (σ 1058 0 i).toNatClampNeg = σ 1050 0 p) ∧ N < 200
theorem nol_pos {g : Nat → Nat} {σ : pr_Sg} {a : Int32} {Q : Int32 → pr_Sg → Prop} (h : ¬ a < σ 520 0 0 ∧ ¬ (20000 : Int32) < a) (q : Q 1 σ) : wpb_X8_isNowOrLater g σ a Q := ⟨fun c => absurd c h.1, fun _ => ⟨fun c => absurd c h.2, fun _ => q⟩⟩
theorem nol_neg {g : Nat → Nat} {σ : pr_Sg} {a : Int32} {Q : Int32 → pr_Sg → Prop} (h : ¬ (¬ a < σ 520 0 0 ∧ ¬ (20000 : Int32) < a)) (q : Q 0 σ) : wpb_X8_isNowOrLater g σ a Q := ⟨fun _ => q, fun c1 => ⟨fun _ => q, fun c2 => absurd ⟨c1, c2⟩ h⟩⟩
theorem cc_pos {g : Nat → Nat} {σ : pr_Sg} {i : Nat} {a : Int32} {Q : Int32 → pr_Sg → Prop} (h : ¬ a < σ 384 i 0 ∧ ¬ σ 385 i 0 < a) (q : Q 1 σ) : wpb_X6_canCome g σ i a Q := ⟨fun c => absurd c h.1, fun _ => ⟨fun c => absurd c h.2, fun _ => q⟩⟩
theorem cc_neg {g : Nat → Nat} {σ : pr_Sg} {i : Nat} {a : Int32} {Q : Int32 → pr_Sg → Prop} (h : ¬ (¬ a < σ 384 i 0 ∧ ¬ σ 385 i 0 < a)) (q : Q 0 σ) : wpb_X6_canCome g σ i a Q := ⟨fun _ => q, fun c1 => ⟨fun _ => q, fun c2 => absurd ⟨c1, c2⟩ h⟩⟩
theorem bookX {g : Nat → Nat} {σ : pr_Sg} {Q : Int32 → pr_Sg → Prop} {p s N : Nat} {a2 a3 : Int32} (h6 : I_sit g σ) (h7 : I_pic g σ) (hp : p < g 2) (hs : s < g 1) (es : σ 192 p 0 = nI s) (hN : N ≤ 200) (e : σ 453 0 0 = nI N) (q1 : cX g σ p s N a2 a3 → Q 1 (bkX σ N p (nI s) a2 a3)) (q0 : ¬ cX g σ p s N a2 a3 → Q 0 σ) : wpb_X8_book g σ (nI p) a2 a3 Q := by
  unfold wpb_X8_book
  refine pic_pos h7 hp (o_s ?_)
  by_cases c1 : σ 197 p 0 = -1
  rotate_left
  · exact ⟨fun c => absurd c c1, fun _ => y_t (q0 (fun w => c1 w.1))⟩
  refine ⟨fun _ => y_f ?_, fun c => absurd c1 c⟩
  by_cases c2 : ¬ a2 < σ 520 0 0 ∧ ¬ (20000 : Int32) < a2
  rotate_left
  · exact nol_neg c2 (y_f (q0 (fun w => c2 w.2.1)))
  refine nol_pos c2 (y_t ?_)
  rw [es]
  refine sit_pos h6 hs (o_s ?_)
  show wpb_X8_lightHours _ _ _ _
  unfold wpb_X8_lightHours
  by_cases c3 : ¬ a3 < 0 ∧ ¬ LH a2 - 1 < a3
  rotate_left
  · exact wg_neg c3 (z_f (q0 (fun w => c3 w.2.2.1)))
  refine wg_pos c3 (z_t ?_)
  by_cases c4 : ¬ a3 < σ 384 s 0 ∧ ¬ σ 385 s 0 < a3
  rotate_left
  · exact cc_neg c4 (z_f (q0 (fun w => c4 w.2.2.2.1)))
  refine cc_pos c4 (z_t ?_)
  refine takenX hN e (fun w => y_t (q0 (fun q => q.2.2.2.2.1 w))) (fun c5 => y_f ?_)
  rw [es]
  refine hasX hN e (fun w => y_t (q0 (fun q => q.2.2.2.2.2.1 (by rw [es]; exact w)))) (fun c6 => y_f ?_)
  rw [es]
  refine addX hN e (fun c7 => y_t ?_) (fun c7 => y_f (q0 (fun q => c7 q.2.2.2.2.2.2)))
  intro σ18 e18
  have f : σ18 = bkX σ N p (nI s) a2 a3 := by
    rw [e18]
    unfold bkX
    congr 1
  rw [f]
  exact q1 ⟨c1, c2, c3, c4, c5, by rw [es]; exact c6, c7⟩
theorem bookM {g : Nat → Nat} {σ : pr_Sg} {Q : Int32 → pr_Sg → Prop} {p s N G : Nat} {a2 a3 : Int32} (eG : σ 601 0 0 = nI G) (hG : G ≤ 40) (hp : p < G) (hs : s < 20) (es : σ 1050 0 p = nI s) (hN : N ≤ 200) (e : σ 608 0 0 = nI N) (hm : ∀ i, i < N → ∃ p, p < G ∧ σ 1058 0 i = nI p ∧ ¬ (20000 : Int32) < σ 1059 0 i) (q1 : cM g σ p s N a2 a3 → Q 1 (bkM σ N p a2 a3)) (q0 : ¬ cM g σ p s N a2 a3 → Q 0 σ) : wpb_X9_book g σ (nI p) a2 a3 Q := by
  unfold wpb_X9_book
  refine ipic_pos eG hG hp (z_t ?_)
  have v1 : vp_in (nI p) 40 := vp_in_nI (by omega) (by omega)
  rw [nI_clamp (n := p) (by omega)]
  refine ⟨v1, fun c => q0 (fun w => c w.1), fun c1 => ?_⟩
  by_cases c2 : ¬ a2 < σ 576 0 0 ∧ ¬ (20000 : Int32) < a2
  rotate_left
  · exact ig_neg c2 (z_f (q0 (fun w => c2 w.2.1)))
  refine ig_pos c2 (z_t ?_)
  refine couldM (by omega) hs es hN e (fun c3 => z_t ?_) (fun c3 => z_f (q0 (fun w => c3 w.2.2.1)))
  refine ⟨v1, ?_⟩
  refine sitsM hN e hG hm (fun w => y_t (q0 (fun q => q.2.2.2.1 w))) (fun c6 => y_f ?_)
  refine ⟨fun c => ?_, fun c => q0 (fun w => ?_)⟩
  rotate_left
  · have := (nI_eq (a := N) (b := 200) (by omega) (by omega)).mp (e.symm.trans c)
    have := w.2.2.2.2
    omega
  rw [e] at c
  have h : N < 200 := by
    by_cases q : N = 200
    · subst q
      exact absurd rfl c
    · omega
  have v : vp_in (nI N) 200 := vp_in_nI h (by omega)
  have cl : (nI N).toNatClampNeg = N := nI_clamp (by omega)
  rw [e]
  refine ⟨v, fun σ2 e2 => ?_⟩
  have f2 : σ2 608 0 0 = nI N := by rw [e2, up_tag (by decide)]; exact e
  rw [f2]
  refine ⟨v, fun σ3 e3 => ?_⟩
  have f3 : σ3 608 0 0 = nI N := by rw [e3, up_tag (by decide)]; exact f2
  rw [f3]
  refine ⟨v, fun σ4 e4 => ?_⟩
  have f4 : σ4 608 0 0 = nI N := by rw [e4, up_tag (by decide)]; exact f3
  rw [f4]
  refine ⟨v, fun σ5 e5 => ?_⟩
  have f5 : σ5 608 0 0 = nI N := by rw [e5, up_tag (by decide)]; exact f4
  rw [f5]
  intro σ6 e6
  rw [e6, e5, e4, e3, e2, cl, nar0]
  exact q1 ⟨c1, c2, c3, c6, h⟩
theorem SITS.taken {n G : Nat} {P S D H U P' D' H' U' st bk us : Nat → Int32} (h : SITS n G P S D H U P' D' H' U' st bk us) (b c : Int32) : (∃ i, i < n ∧ D i = b ∧ H i = c) ↔ (∃ i, i < n ∧ D' i = b ∧ H' i = c) := by
  obtain ⟨s1, s2, s3, s4, s5, -⟩ := h
  constructor
  · rintro ⟨i, hi, e1, e2⟩
    obtain ⟨j, hj, -, m2, m3, -⟩ := (s5 (P i) b c (U i)).mp ⟨i, hi, rfl, e1, e2, rfl⟩
    exact ⟨j, hj, m2, m3⟩
  · rintro ⟨i, hi, e1, e2⟩
    obtain ⟨j, hj, -, m2, m3, -⟩ := (s5 (P' i) b c (U' i)).mpr ⟨i, hi, rfl, e1, e2, rfl⟩
    exact ⟨j, hj, m2, m3⟩
theorem SITS.has {n G : Nat} {P S D H U P' D' H' U' st bk us : Nat → Int32} (hG : G ≤ 40) (h : SITS n G P S D H U P' D' H' U' st bk us) (b w : Int32) : (∃ i, i < n ∧ D i = b ∧ S i = w) ↔ (∃ i, i < n ∧ D' i = b ∧ st (P' i).toNatClampNeg = w) := by
  obtain ⟨s1, s2, s3, s4, s5, -⟩ := h
  constructor
  · rintro ⟨i, hi, e1, e2⟩
    obtain ⟨p, hp, f1, f2⟩ := s1 i hi
    obtain ⟨j, hj, m1, m2, m3, -⟩ := (s5 (P i) b (H i) (U i)).mp ⟨i, hi, rfl, e1, rfl, rfl⟩
    refine ⟨j, hj, m2, ?_⟩
    rw [m1, f1, nI_clamp (by omega), ← f2, e2]
  · rintro ⟨i, hi, e1, e2⟩
    obtain ⟨j, hj, m1, m2, m3, -⟩ := (s5 (P' i) b (H' i) (U' i)).mpr ⟨i, hi, rfl, e1, rfl, rfl⟩
    obtain ⟨p, hp, f1, f2⟩ := s1 j hj
    refine ⟨j, hj, m2, ?_⟩
    rw [f2, ← e2, ← m1, f1, nI_clamp (by omega)]
theorem f_book : pr_fact_book Inv := by
  intro g σ a1 a2 a3 hI
  obtain ⟨h1, h2, h3, h4, h5, h6, h7, h8, h9, h10, h11, h12, h13⟩ := id hI
  obtain ⟨N, hN, eX, eM, hS⟩ := sits_iff.mp h13
  obtain ⟨d, hd, e520, e576⟩ := id h1
  have hG := h7.1
  rcases ix a1 (g 2) with ⟨p, hp, rfl⟩ | hn
  rotate_left
  · show wpb_X8_book _ _ _ _ _ _
    unfold wpb_X8_book
    refine pic_neg h7 hn (o_n ?_)
    show wpb_X9_book _ _ _ _ _ _
    unfold wpb_X9_book
    exact ipic_neg h7.2.2.1 hG hn (z_f ⟨rfl, hI⟩)
  obtain ⟨⟨t1, t2, t3, t4, t5⟩, ⟨s, hs, es⟩, -⟩ := h7.2.2.2 p hp
  have es' : σ 1050 0 p = nI s := by rw [← t1]; exact es
  have hG1 := h6.1
  obtain ⟨u1, u2, -⟩ := h6.2.2.2.1 s hs
  have hcc : cX g σ p s N a2 a3 ↔ cM g σ p s N a2 a3 := by
    unfold cX cM
    rw [hS.taken, hS.has hG, t5, e520, e576, u1, u2, t1]
    constructor
    · rintro ⟨r1, r2, r3, r4, r5, r6, r7⟩
      exact ⟨r1, r2, ⟨r3, r4, r5⟩, r6, r7⟩
    · rintro ⟨r1, r2, ⟨r3, r4, r5⟩, r6, r7⟩
      exact ⟨r1, r2, r3, r4, r5, r6, r7⟩
  refine bookX h6 h7 hp hs es hN eX (fun c => ?_) (fun c => ?_)
  rotate_left
  · exact bookM h7.2.2.1 hG hp (by omega) es' hN eM hS.2.1 (fun w => absurd (hcc.mpr w) c) (fun _ => ⟨rfl, hI⟩)
  have ha := bkX_ag (σ := σ) (N := N) (p := p) (s := nI s) (a2 := a2) (a3 := a3)
  have k : ∀ t ∈ ([601, 1050, 608, 1058, 1059, 1060, 1053, 576, 1047, 1048] : List Nat), bkX σ N p (nI s) a2 a3 t = σ t := fun t ht => ha t (by revert t; decide)
  simp only [List.forall_mem_cons] at k
  obtain ⟨k601, k1050, k608, k1058, k1059, k1060, k1053, k576, k1047, k1048, -⟩ := k
  have hcm : cM g (bkX σ N p (nI s) a2 a3) p s N a2 a3 := by
    have := hcc.mp c
    unfold cM at this ⊢
    rw [k1053, k576, k1047, k1048, k1059, k1060, k1050, k1058]
    exact this
  refine bookM (by rw [k601]; exact h7.2.2.1) hG hp (by omega) (by rw [k1050]; exact es') hN (by rw [k608]; exact eM) (by rw [k1058, k1059]; exact hS.2.1) (fun _ => ⟨rfl, ?_⟩) (fun w => absurd hcm w)
  have hb : ag [1024, 1025, 1026, 1027, 1070, 453, 199, 1058, 1059, 1060, 1071, 608] σ (bkM (bkX σ N p (nI s) a2 a3) N p a2 a3) := fun t ht => by
    rw [bkM_ag t (fun q => ht (by revert q; simp; omega)), ha t (fun q => ht (by revert q; simp; omega))]
  refine ⟨h1.cg hb, h2.cg hb, h3.cg hb, h4.cg hb, h5.cg hb, h6.cg hb, h7.cg hb, h8.cg hb, h9.cg hb, h10.cg hb, h11.cg hb, h12.cg hb, ?_⟩
  refine sits_iff.mpr ⟨N + 1, c.2.2.2.2.2.2, ?_, ?_, ?_⟩
  · simp [bkM, bkX, pr_up, nI_1]
  · simp [bkM, bkX, pr_up, nI_1]
  · have e50 : bkM (bkX σ N p (nI s) a2 a3) N p a2 a3 1050 0 = σ 1050 0 := by rw [hb 1050 (by decide)]
    rw [e50]
    refine SITS.add (b := a2) (c := a3) (p := p) hS hG hp (fun w => c.2.2.2.2.2.1 ?_) c.2.1.2 ?_ ?_ ?_ ?_ ?_ ?_ ?_ ?_ ?_ ?_ ?_
    · rw [t1]
      exact w
    · intro i; simp [bkM, bkX, pr_up]
    · intro i; simp [bkM, bkX, pr_up, es']
    · intro i; simp [bkM, bkX, pr_up]
    · intro i; simp [bkM, bkX, pr_up]
    · intro i; simp [bkM, bkX, pr_up]
    · intro i; simp [bkM, bkX, pr_up]
    · intro i; simp [bkM, bkX, pr_up]
    · intro i; simp [bkM, bkX, pr_up]
    · intro i; simp [bkM, bkX, pr_up]
    · intro i; simp [bkM, bkX, pr_up]
    · intro i; simp [bkM, bkX, pr_up]
