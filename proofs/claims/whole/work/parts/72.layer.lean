def S1 (σ τ : pr_Sg) (p k h : Nat) : Prop := ag [129, 130, 131, 2, 1, 525] σ τ ∧ (∀ a b, τ 129 a b = if a = p ∧ b = k then σ 129 p k + 1 else σ 129 a b) ∧ (∀ a b, τ 130 a b = if a = p ∧ b = k then σ 520 0 0 else σ 130 a b) ∧ (∀ a b, τ 131 a b = if a = p ∧ b = k then nI h else σ 131 a b) ∧ (∀ a, τ 2 a 0 = if a = h then (if σ 1 h 0 = σ 520 0 0 then σ 2 h 0 else 0) + 1 else σ 2 a 0) ∧ (∀ a, τ 1 a 0 = if a = h then σ 520 0 0 else σ 1 a 0) ∧ τ 525 0 0 = σ 525 0 0 + 1
def S2 (σ τ : pr_Sg) (p k N : Nat) : Prop := ag [1070, 200, 1028, 1029] σ τ ∧ (k ≠ 0 → τ 1070 = σ 1070 ∧ τ 200 = σ 200) ∧ (k = 0 → ∃ i, i < N ∧ (σ 1024 0 i = nI p ∧ σ 1026 0 i = σ 520 0 0 ∧ σ 1070 0 i = 0) ∧ (∀ x, τ 1070 0 x = if x = i then 1 else σ 1070 0 x) ∧ ∀ a, τ 200 a 0 = if a = p then σ 200 p 0 + 1 else σ 200 a 0) ∧ (∀ r, r < 5 → τ 1028 0 r = if k = 2 ∧ σ 193 p 0 = nI r then nI p else σ 1028 0 r) ∧ (∀ r, r < 5 → τ 1029 0 r = if k = 2 ∧ σ 193 p 0 = nI r then σ 520 0 0 else σ 1029 0 r)
def S3 (σ τ : pr_Sg) (p s : Nat) : Prop := ag [198, 197, 524, 386] σ τ ∧ (∀ a, τ 198 a 0 = if a = p then σ 198 p 0 - 1 else σ 198 a 0) ∧ (¬ σ 198 p 0 - 1 = 0 → τ 197 = σ 197 ∧ τ 524 = σ 524 ∧ τ 386 = σ 386) ∧ (σ 198 p 0 - 1 = 0 → (∀ a, τ 197 a 0 = if a = p then σ 520 0 0 else σ 197 a 0) ∧ τ 524 0 0 = σ 524 0 0 + 1 ∧ ∀ a, τ 386 a 0 = if a = s then σ 386 s 0 + (σ 194 p 0 - σ 194 p 0 / 2) else σ 386 a 0)
theorem up_fn {σ : pr_Sg} {t t' i j : Nat} {v : Int32} (h : t' ≠ t) : pr_up σ t i j v t' = σ t' := by
  funext a b
  exact up_tag h
theorem fin3 {g : Nat → Nat} {σ : pr_Sg} {Q : pr_Sg → Prop} {p s : Nat} (h6 : I_sit g σ) (hs : s < g 1) (es : σ 192 p 0 = nI s) (q : ∀ τ, S3 σ τ p s → Q τ) : ∀ σ15 : pr_Sg, σ15 = pr_up σ 198 p 0 ((σ 198 p 0) - (1 : Int32)) → ((¬ (σ15 198 p 0) = 0 → Q σ15) ∧ ((σ15 198 p 0) = 0 → (wp_X8_finish g σ15 p (fun σ17 => Q σ17)))) := by
  rintro _ rfl
  rw [up_eq]
  refine ⟨fun c => q _ ⟨ag_up ag_rf _ _ _ _ (by decide), fun a => ?_, fun _ => ⟨up_fn (by decide), up_fn (by decide), up_fn (by decide)⟩, fun c' => absurd c' c⟩, fun c => ?_⟩
  · rw [up_if]
    simp
  show wpb_X8_finish _ _ _ _
  unfold wpb_X8_finish
  rintro _ rfl
  rintro _ rfl
  have h6' := h6.cg (ag_up (ag_up (ag_up ag_rf 198 p 0 (σ 198 p 0 - 1) (by decide)) 197 p 0 (pr_up σ 198 p 0 (σ 198 p 0 - 1) 520 0 0) (by decide)) 524 0 0 (pr_up (pr_up σ 198 p 0 (σ 198 p 0 - 1)) 197 p 0 (pr_up σ 198 p 0 (σ 198 p 0 - 1) 520 0 0) 524 0 0 + 1) (by decide) : ag [198, 197, 524] σ _)
  rw [show pr_up (pr_up (pr_up σ 198 p 0 (σ 198 p 0 - 1)) 197 p 0 (pr_up σ 198 p 0 (σ 198 p 0 - 1) 520 0 0)) 524 0 0 (pr_up (pr_up σ 198 p 0 (σ 198 p 0 - 1)) 197 p 0 (pr_up σ 198 p 0 (σ 198 p 0 - 1) 520 0 0) 524 0 0 + 1) 192 p 0 = nI s by rw [up_tag (by decide), up_tag (by decide), up_tag (by decide), es]]
  refine sit_pos h6' hs (o_s ?_)
  rintro _ rfl
  refine q _ ⟨ag_up (ag_up (ag_up (ag_up ag_rf _ _ _ _ (by decide)) _ _ _ _ (by decide)) _ _ _ _ (by decide)) _ _ _ _ (by decide), fun a => ?_, fun c' => absurd c c', fun _ => ⟨fun a => ?_, ?_, fun a => ?_⟩⟩
  · simp [pr_up]
  · simp [pr_up]
  · simp [pr_up]
  · simp [pr_up]
theorem lay117 {g : Nat → Nat} {σ0 σ : pr_Sg} {Q : pr_Sg → Prop} {p k s N : Nat} (hk : k < 5) (h6 : I_sit g σ) (hs : s < g 1) (es : σ 192 p 0 = nI s) (hr : σ 193 p 0 = -1 ∨ ∃ r, r < 5 ∧ σ 193 p 0 = nI r) (ha : ag [1070, 200] σ0 σ) (f1 : k ≠ 0 → σ 1070 = σ0 1070 ∧ σ 200 = σ0 200) (f2 : k = 0 → ∃ i, i < N ∧ (σ0 1024 0 i = nI p ∧ σ0 1026 0 i = σ0 520 0 0 ∧ σ0 1070 0 i = 0) ∧ (∀ x, σ 1070 0 x = if x = i then 1 else σ0 1070 0 x) ∧ ∀ a, σ 200 a 0 = if a = p then σ0 200 p 0 + 1 else σ0 200 a 0) (q : ∀ τ2 τ, S2 σ0 τ2 p k N → S3 τ2 τ p s → Q τ) : wp_X8_addLayer_L117 g Q σ (nI p) (nI k) p := by
  unfold wp_X8_addLayer_L117
  have ha' : ag [1070, 200, 1028, 1029] σ0 σ := fun t ht => ha t (fun w => ht (by revert w; simp; omega))
  have nr : ∀ {r}, ¬ (k = 2 ∧ σ 193 p 0 = nI r) → (σ 1028 0 r = if k = 2 ∧ σ0 193 p 0 = nI r then nI p else σ0 1028 0 r) ∧ (σ 1029 0 r = if k = 2 ∧ σ0 193 p 0 = nI r then σ0 520 0 0 else σ0 1029 0 r) := fun {r} w => by
    rw [ha 193 (by decide)] at w
    rw [if_neg w, if_neg w, ha 1028 (by decide), ha 1029 (by decide)]
    exact ⟨rfl, rfl⟩
  refine ⟨fun k2 => fin3 h6 hs es (fun τ hτ => q σ τ ⟨ha', f1, f2, fun r hr => (nr (fun w => k2 ((nk2 (by omega)).mpr w.1))).1, fun r hr => (nr (fun w => k2 ((nk2 (by omega)).mpr w.1))).2⟩ hτ), fun k2 => ?_⟩
  have k2' := (nk2 (by omega)).mp k2
  show wpb_X5_take _ _ _ _ _ _
  unfold wpb_X5_take
  rcases hr with er | ⟨r, hr, er⟩
  · rw [er]
    refine wg_neg (by decide) (z_f ?_)
    have nn : ∀ r, r < 5 → ¬ (k = 2 ∧ σ 193 p 0 = nI r) := fun r hr w => nI_ne1 (by omega) (w.2.symm.trans er)
    exact fin3 h6 hs es (fun τ hτ => q σ τ ⟨ha', f1, f2, fun r hr => (nr (nn r hr)).1, fun r hr => (nr (nn r hr)).2⟩ hτ)
  · rw [er]
    have v : vp_in (nI r) 5 := vp_in_nI hr (by omega)
    refine w_pos 4 rfl (by omega) hr (z_t ?_)
    rw [nI_clamp (n := r) (by omega)]
    refine ⟨v, ?_⟩
    rintro _ rfl
    refine ⟨v, ?_⟩
    rintro _ rfl
    have hb : ag [1028, 1029] σ (pr_up (pr_up σ 1028 0 r (nI p)) 1029 0 r (σ 520 0 0)) := ag_up (ag_up ag_rf _ _ _ _ (by decide)) _ _ _ _ (by decide)
    refine fin3 (h6.cg hb) hs (by rw [hb 192 (by decide)]; exact es) (fun τ hτ => q _ τ ⟨fun t ht => ?_, fun w => ?_, fun w => ?_, fun r' hr' => ?_, fun r' hr' => ?_⟩ hτ)
    · rw [hb t (fun w => ht (by revert w; simp; omega)), ha t (fun w => ht (by revert w; simp; omega))]
    · rw [hb 1070 (by decide), hb 200 (by decide)]
      exact f1 w
    · rw [hb 1070 (by decide), hb 200 (by decide)]
      exact f2 w
    · rw [up_tag (by decide), up_if, ← ha 193 (by decide), er]
      by_cases c : r' = r
      · subst c
        rw [if_pos ⟨rfl, rfl⟩, if_pos ⟨k2', rfl⟩]
      · rw [if_neg (fun w => c w.2), if_neg (fun w => c ((nI_eq (by omega) (by omega)).mp w.2).symm), ha 1028 (by decide)]
    · rw [up_if, up_tag (by decide), ← ha 193 (by decide), er, ← ha 520 (by decide)]
      by_cases c : r' = r
      · subst c
        rw [if_pos ⟨rfl, rfl⟩, if_pos ⟨k2', rfl⟩]
      · rw [if_neg (fun w => c w.2), if_neg (fun w => c ((nI_eq (by omega) (by omega)).mp w.2).symm), ha 1029 (by decide)]
theorem layX {g : Nat → Nat} {σ : pr_Sg} {Q : pr_Sg → Prop} {p k h s N : Nat} (h5 : I_hand g σ) (h6 : I_sit g σ) (h7 : I_pic g σ) (hp : p < g 2) (hk : k < 5) (hh : h < g 0) (hN : N ≤ 200) (e : σ 453 0 0 = nI N) (hs : s < g 1) (es : σ 192 p 0 = nI s) (hr : σ 193 p 0 = -1 ∨ ∃ r, r < 5 ∧ σ 193 p 0 = nI r) (hu : k = 0 → x5P σ p N) (q : ∀ τ1 τ2 τ, S1 σ τ1 p k h → S2 τ1 τ2 p k N → S3 τ2 τ p s → Q τ) : wpb_X8_addLayer g σ (nI p) (nI k) (nI h) Q := by
  have hG := h7.1
  unfold wpb_X8_addLayer
  refine pic_pos h7 hp (o_s ?_)
  refine part_pos h7 hp hk (o_s2 ?_)
  refine hand_pos h5 hh (o_s ?_)
  intro σ8 e8 σ9 e9 σ10 e10
  have b10 : ag [129, 130, 131] σ σ10 := by
    rw [e10, e9, e8]
    exact ag_up (ag_up (ag_up ag_rf _ _ _ _ (by decide)) _ _ _ _ (by decide)) _ _ _ _ (by decide)
  have key : ∀ σ12, S1 σ σ12 p k h → ((¬ nI k = 0 → wp_X8_addLayer_L117 g Q σ12 (nI p) (nI k) p) ∧ (nI k = 0 → (wp_X7_unusedOf g σ12 (nI p) (σ12 520 0 0) (fun r22 σ22 => (wp_X7_use g σ22 r22 (fun σ23 => (∀ σ24 : pr_Sg, σ24 = pr_up σ23 200 p 0 ((σ23 200 p 0) + (1 : Int32)) → wp_X8_addLayer_L117 g Q σ24 (nI p) (nI k) p))))))) := fun σ12 hS => by
    have ha := hS.1
    have h6' := h6.cg ha
    refine ⟨fun k0 => ?_, fun k0 => ?_⟩
    · exact lay117 hk h6' hs (by rw [ha 192 (by decide)]; exact es) (by rw [ha 193 (by decide)]; exact hr) (ag_rf (ts := [1070, 200])) (fun _ => ⟨rfl, rfl⟩) (fun w => absurd ((nk0 (by omega)).mpr w) k0) (fun τ2 τ r2 r3 => q σ12 τ2 τ hS r2 r3)
    · have k0' := (nk0 (by omega)).mp k0
      have e' : σ12 453 0 0 = nI N := by rw [ha 453 (by decide)]; exact e
      refine unusedX hN e' (fun i hi w => ?_) (fun w => absurd (by have := hu k0'; unfold x5P at this; rw [ha 1024 (by decide), ha 1026 (by decide), ha 1070 (by decide), ha 520 (by decide)]; exact this) w)
      show wpb_X7_use _ _ _ _
      unfold wpb_X7_use
      refine ⟨fun c => absurd c (nI_pos (by omega)), fun _ => ⟨fun c => absurd c (by rw [e']; exact nI_ge hi (by omega)), fun _ => ⟨vp_in_nI (by omega) (by omega), ?_⟩⟩⟩
      rw [nar1, nI_clamp (n := i) (by omega)]
      intro σ23 e23 σ24 e24
      have hb : ag [1070, 200] σ12 σ24 := by
        rw [e24, e23]
        exact ag_up (ag_up ag_rf _ _ _ _ (by decide)) _ _ _ _ (by decide)
      refine lay117 (σ0 := σ12) (N := N) hk (h6'.cg hb) hs (by rw [hb 192 (by decide), ha 192 (by decide)]; exact es) (by rw [hb 193 (by decide), ha 193 (by decide)]; exact hr) hb (fun w => absurd k0' w) (fun _ => ⟨i, hi, w, fun x => ?_, fun a => ?_⟩) (fun τ2 τ r2 r3 => q σ12 τ2 τ hS r2 r3)
      · rw [e24, e23]
        simp [pr_up]
      · rw [e24, e23]
        simp [pr_up]
  have c1 : σ10 1 h 0 = σ 1 h 0 := by rw [b10 1 (by decide)]
  have c2 : σ10 2 h 0 = σ 2 h 0 := by rw [b10 2 (by decide)]
  have c3 : σ10 520 0 0 = σ 520 0 0 := by rw [b10 520 (by decide)]
  have fin : ∀ r σ11' σ11 σ12 : pr_Sg, True := fun _ _ _ _ => trivial
  have goS : ∀ v : Int32, v = (if σ 1 h 0 = σ 520 0 0 then σ 2 h 0 else 0) → S1 σ (pr_up (pr_up (pr_up σ10 2 h 0 (v + 1)) 1 h 0 (σ 520 0 0)) 525 0 0 (pr_up (pr_up σ10 2 h 0 (v + 1)) 1 h 0 (σ 520 0 0) 525 0 0 + 1)) p k h := fun v hv => by
    refine ⟨?_, fun a b => ?_, fun a b => ?_, fun a b => ?_, fun a => ?_, fun a => ?_, ?_⟩
    · refine ag_up (ag_up (ag_up (fun t ht => b10 t (fun w => ht (by revert w; simp; omega))) _ _ _ _ (by decide)) _ _ _ _ (by decide)) _ _ _ _ (by decide)
    · simp [pr_up, e10, e9, e8]
    · simp [pr_up, e10, e9, e8]
    · simp [pr_up, e10, e9, e8]
    · rw [← hv]
      simp [pr_up, e10, e9, e8]
    · simp [pr_up, e10, e9, e8]
    · simp [pr_up, e10, e9, e8]
  show wpb_X0_addLayerOn _ _ _ _ _
  unfold wpb_X0_addLayerOn
  show wpb_X0_layersOn _ _ _ _ _
  unfold wpb_X0_layersOn
  rw [c1, c2, c3]
  refine ⟨fun c => ?_, fun c => ?_⟩
  · rintro _ rfl _ rfl _ rfl
    exact key _ (goS 0 (by rw [if_neg c]))
  · rintro _ rfl _ rfl _ rfl
    exact key _ (goS (σ 2 h 0) (by rw [if_pos c]))
def T2 (σ τ : pr_Sg) (p k N : Nat) : Prop := ag [1071, 1056, 1057] σ τ ∧ (k ≠ 0 → τ 1071 = σ 1071) ∧ (k = 0 → ∃ i, i < N ∧ (σ 1058 0 i = nI p ∧ σ 1059 0 i = σ 576 0 0 ∧ σ 1071 0 i = 0) ∧ ∀ x, τ 1071 0 x = if x = i then 1 else σ 1071 0 x) ∧ (∀ r, r < 5 → τ 1056 0 r = if k = 2 ∧ σ 1054 0 p = nI r then σ 576 0 0 else σ 1056 0 r) ∧ (∀ r, r < 5 → τ 1057 0 r = if k = 2 ∧ σ 1054 0 p = nI r then nI p else σ 1057 0 r)
def T1 (σ τ : pr_Sg) (p k h : Nat) : Prop := ag [1045, 1044, 1065, 1066, 1067, 610] σ τ ∧ (∀ a, τ 1045 0 a = if a = h then (if σ 1044 0 h = σ 576 0 0 then σ 1045 0 h + 1 else 1) else σ 1045 0 a) ∧ (∀ a, τ 1044 0 a = if a = h then σ 576 0 0 else σ 1044 0 a) ∧ (∀ a b, τ 1065 a b = if a = p ∧ b = k then σ 1065 p k + 1 else σ 1065 a b) ∧ (∀ a b, τ 1066 a b = if a = p ∧ b = k then σ 576 0 0 else σ 1066 a b) ∧ (∀ a b, τ 1067 a b = if a = p ∧ b = k then nI h else σ 1067 a b) ∧ τ 610 0 0 = σ 610 0 0 + 1
def T3 (σ τ : pr_Sg) (p s : Nat) : Prop := ag [1053, 1049] σ τ ∧ (¬ (∀ j, j < 5 → σ 1065 p j = σ 1064 p j) → τ = σ) ∧ ((∀ j, j < 5 → σ 1065 p j = σ 1064 p j) → (∀ a, τ 1053 0 a = if a = p then σ 576 0 0 else σ 1053 0 a) ∧ (∀ a, τ 1049 0 a = if a = s then σ 1049 0 s + (σ 1051 0 p - σ 1051 0 p / 2) else σ 1049 0 a))
theorem pnt105 {g : Nat → Nat} {σ : pr_Sg} {Q : Int32 → pr_Sg → Prop} {p k h s : Nat} (hp : p < 40) (hk : k < 5) (hh : h < 7) (hs : s < 20) (es : σ 1050 0 p = nI s) (q : ∀ τ1 τ, T1 σ τ1 p k h → T3 τ1 τ p s → Q 0 τ) : wp_X9_paint_L105 g Q σ (nI p) (nI k) (nI h) := by
  unfold wp_X9_paint_L105
  rw [nI_clamp (n := p) (by omega), nI_clamp (n := k) (by omega), nI_clamp (n := h) (by omega)]
  have v := vp_in_nI hp (by omega)
  have v2 := vp_in_nI hk (by omega)
  have v3 := vp_in_nI hh (by omega)
  have v4 := vp_in_nI hs (by omega)
  have key : ∀ τ1, T1 σ τ1 p k h → (wp_X9_isDone g τ1 (nI p) (fun r21 σ21 => ((r21 = 0 → Q (0 : Int32) σ21) ∧ (¬ r21 = 0 → (vp_in (nI p) 40 ∧ ∀ σ23 : pr_Sg, σ23 = pr_up σ21 1053 0 p (σ21 576 0 0) → (vp_in (nI p) 40 ∧ (vp_in (σ23 1050 0 p) 20 ∧ (vp_in (nI p) 40 ∧ (vp_in (nI p) 40 ∧ (vp_in (σ23 1050 0 p) 20 ∧ ∀ σ24 : pr_Sg, σ24 = pr_up σ23 1049 0 ((σ23 1050 0 p)).toNatClampNeg ((σ23 1049 0 ((σ23 1050 0 p)).toNatClampNeg) + ((σ23 1051 0 p) - ((σ23 1051 0 p) / (2 : Int32)))) → Q (0 : Int32) σ24)))))))))) := fun τ1 hT => by
    refine doneM hp (fun w => z_t ⟨v, ?_⟩) (fun w => z_f (q τ1 τ1 hT ⟨ag_rf, fun _ => rfl, fun w' => absurd w' w⟩))
    rintro _ rfl
    rw [show pr_up τ1 1053 0 p (τ1 576 0 0) 1050 0 p = nI s by rw [up_tag (by decide), hT.1 1050 (by decide), es], nI_clamp (n := s) (by omega)]
    refine ⟨v, v4, v, v, v4, ?_⟩
    rintro _ rfl
    refine q τ1 _ hT ⟨ag_up (ag_up ag_rf _ _ _ _ (by decide)) _ _ _ _ (by decide), fun w' => absurd w w', fun _ => ⟨fun a => ?_, fun a => ?_⟩⟩
    · simp [pr_up]
    · simp [pr_up]
  refine ⟨v3, fun c => ⟨v3, ?_⟩, fun c => ⟨v3, v3, ?_⟩⟩
  · intro σ12 e12
    refine ⟨v3, ?_⟩
    intro σ13 e13
    refine ⟨v, v2, v2, ?_⟩
    intro σ15 e15
    refine ⟨v, v2, ?_⟩
    intro σ17 e17
    refine ⟨v, v2, ?_⟩
    intro σ19 e19 σ20 e20
    refine key σ20 ?_
    subst e12 e13 e15 e17 e19 e20
    refine ⟨?_, fun a => ?_, fun a => ?_, fun a b => ?_, fun a b => ?_, fun a b => ?_, ?_⟩
    · exact ag_up (ag_up (ag_up (ag_up (ag_up (ag_up ag_rf _ _ _ _ (by decide)) _ _ _ _ (by decide)) _ _ _ _ (by decide)) _ _ _ _ (by decide)) _ _ _ _ (by decide)) _ _ _ _ (by decide)
    · rw [if_neg c]
      simp [pr_up]
    · simp [pr_up]
    · simp [pr_up]
    · simp [pr_up]
    · simp [pr_up]
    · simp [pr_up]
  · intro σ12 e12
    refine ⟨v3, ?_⟩
    intro σ13 e13
    refine ⟨v, v2, v2, ?_⟩
    intro σ15 e15
    refine ⟨v, v2, ?_⟩
    intro σ17 e17
    refine ⟨v, v2, ?_⟩
    intro σ19 e19 σ20 e20
    refine key σ20 ?_
    subst e12 e13 e15 e17 e19 e20
    refine ⟨?_, fun a => ?_, fun a => ?_, fun a b => ?_, fun a b => ?_, fun a b => ?_, ?_⟩
    · exact ag_up (ag_up (ag_up (ag_up (ag_up (ag_up ag_rf _ _ _ _ (by decide)) _ _ _ _ (by decide)) _ _ _ _ (by decide)) _ _ _ _ (by decide)) _ _ _ _ (by decide)) _ _ _ _ (by decide)
    · rw [if_pos c]
      simp [pr_up]
    · simp [pr_up]
    · simp [pr_up]
    · simp [pr_up]
    · simp [pr_up]
    · simp [pr_up]
theorem pnt63 {g : Nat → Nat} {σ0 σ : pr_Sg} {Q : Int32 → pr_Sg → Prop} {p k h s N : Nat} (hp : p < 40) (hk : k < 5) (hh : h < 7) (hs : s < 20) (es : σ 1050 0 p = nI s) (hr : σ 1054 0 p = -1 ∨ ∃ r, r < 5 ∧ σ 1054 0 p = nI r) (ha : ag [1071] σ0 σ) (f1 : k ≠ 0 → σ 1071 = σ0 1071) (f2 : k = 0 → ∃ i, i < N ∧ (σ0 1058 0 i = nI p ∧ σ0 1059 0 i = σ0 576 0 0 ∧ σ0 1071 0 i = 0) ∧ ∀ x, σ 1071 0 x = if x = i then 1 else σ0 1071 0 x) (q : ∀ τ1 τ2 τ, T2 σ0 τ1 p k N → T1 τ1 τ2 p k h → T3 τ2 τ p s → Q 0 τ) : wp_X9_paint_L63 g Q σ (nI p) (nI k) (nI h) := by
  unfold wp_X9_paint_L63
  have v := vp_in_nI hp (by omega)
  rw [nI_clamp (n := p) (by omega)]
  have ha' : ag [1071, 1056, 1057] σ0 σ := fun t ht => ha t (fun w => ht (by revert w; simp; omega))
  have nr : ∀ {r}, ¬ (k = 2 ∧ σ 1054 0 p = nI r) → (σ 1056 0 r = if k = 2 ∧ σ0 1054 0 p = nI r then σ0 576 0 0 else σ0 1056 0 r) ∧ (σ 1057 0 r = if k = 2 ∧ σ0 1054 0 p = nI r then nI p else σ0 1057 0 r) := fun {r} w => by
    rw [ha 1054 (by decide)] at w
    rw [if_neg w, if_neg w, ha 1056 (by decide), ha 1057 (by decide)]
    exact ⟨rfl, rfl⟩
  refine ⟨fun k2 => pnt105 hp hk hh hs es (fun τ1 τ r1 r2 => q σ τ1 τ ⟨ha', f1, f2, fun r _ => (nr (fun w => k2 ((nk2 (by omega)).mpr w.1))).1, fun r _ => (nr (fun w => k2 ((nk2 (by omega)).mpr w.1))).2⟩ r1 r2), fun k2 => ⟨v, fun c => ?_, fun c => ?_⟩⟩
  · have nn : ∀ r, r < 5 → ¬ (k = 2 ∧ σ 1054 0 p = nI r) := fun r hr w => nI_ne1 (by omega) (w.2.symm.trans c)
    exact pnt105 hp hk hh hs es (fun τ1 τ r1 r2 => q σ τ1 τ ⟨ha', f1, f2, fun r hr => (nr (nn r hr)).1, fun r hr => (nr (nn r hr)).2⟩ r1 r2)
  · have k2' := (nk2 (by omega)).mp k2
    rcases hr with er | ⟨r, hr, er⟩
    · exact absurd er c
    have v5 : vp_in (nI r) 5 := vp_in_nI hr (by omega)
    rw [er]
    refine ⟨v, v5, ?_⟩
    rw [nI_clamp (n := r) (by omega)]
    rintro _ rfl
    rw [show pr_up σ 1056 0 r (σ 576 0 0) 1054 0 p = nI r by rw [up_tag (by decide), er], nI_clamp (n := r) (by omega)]
    refine ⟨v, v5, ?_⟩
    rintro _ rfl
    have hb : ag [1056, 1057] σ (pr_up (pr_up σ 1056 0 r (σ 576 0 0)) 1057 0 r (nI p)) := ag_up (ag_up ag_rf _ _ _ _ (by decide)) _ _ _ _ (by decide)
    refine pnt105 hp hk hh hs (by rw [hb 1050 (by decide)]; exact es) (fun τ1 τ r1 r2 => q _ τ1 τ ⟨fun t ht => ?_, fun w => ?_, fun w => ?_, fun r' hr' => ?_, fun r' hr' => ?_⟩ r1 r2)
    · rw [hb t (fun w => ht (by revert w; simp; omega)), ha t (fun w => ht (by revert w; simp; omega))]
    · rw [hb 1071 (by decide)]
      exact f1 w
    · rw [hb 1071 (by decide)]
      exact f2 w
    · rw [up_tag (by decide), up_if, ← ha 1054 (by decide), er, ← ha 576 (by decide)]
      by_cases c : r' = r
      · subst c
        rw [if_pos ⟨rfl, rfl⟩, if_pos ⟨k2', rfl⟩]
      · rw [if_neg (fun w => c w.2), if_neg (fun w => c ((nI_eq (by omega) (by omega)).mp w.2).symm), ha 1056 (by decide)]
    · rw [up_if, up_tag (by decide), ← ha 1054 (by decide), er]
      by_cases c : r' = r
      · subst c
        rw [if_pos ⟨rfl, rfl⟩, if_pos ⟨k2', rfl⟩]
      · rw [if_neg (fun w => c w.2), if_neg (fun w => c ((nI_eq (by omega) (by omega)).mp w.2).symm), ha 1057 (by decide)]
