theorem f_light : pr_fact_light Inv := by
  intro g σ a1 hI
  show wpb_X8_light g σ a1 _
  unfold wpb_X8_light
  rcases ix a1 20001 with ⟨n, hn, rfl⟩ | hn
  · refine w_pos 20000 rfl (by omega) hn (z_t ?_)
    show wpb_X8_lightHours _ _ _ _
    unfold wpb_X8_lightHours
    show wpb_X9_light _ _ _ _
    unfold wpb_X9_light
    exact in_pos 20000 rfl (by omega) hn (z_t ⟨rfl, hI⟩)
  · refine w_neg 20000 rfl (by omega) hn (z_f ?_)
    show wpb_X9_light _ _ _ _
    unfold wpb_X9_light
    exact in_neg 20000 rfl (by omega) hn (z_f ⟨rfl, hI⟩)
theorem f_dry : pr_fact_dry Inv := by
  intro g σ a1 a2 hI
  show wpb_X8_dry g σ a1 a2 _
  unfold wpb_X8_dry
  rcases ix a1 5 with ⟨n, hn, rfl⟩ | hn
  · refine w_pos 4 rfl (by omega) hn (z_t ?_)
    rcases ix a2 61 with ⟨m, hm, rfl⟩ | hm
    · refine w_pos 60 rfl (by omega) hm (y_t ⟨vp_in_nI hn (by omega), fun σ5 e5 => ?_⟩)
      show wpb_X9_dry _ _ _ _ _
      unfold wpb_X9_dry
      refine in_pos 4 rfl (by omega) hn (z_t ?_)
      refine in_pos 60 rfl (by omega) hm (y_t ⟨vp_in_nI hn (by omega), fun σ6 e6 => ⟨rfl, ?_⟩⟩)
      subst e5
      subst e6
      rw [nI_clamp (by omega)]
      have ha : ag [1023, 1043] σ (pr_up (pr_up σ 1023 0 n (nI m)) 1043 0 n (nI m)) := ag_up (ag_up ag_rf _ _ _ _ (by decide)) _ _ _ _ (by decide)
      obtain ⟨h1, h2, h3, h4, h5, h6, h7, h8, h9, h10, h11, h12, h13⟩ := hI
      refine ⟨h1.cg ha, h2.cg ha, h3.cg ha, ?_, h5.cg ha, h6.cg ha, h7.cg ha, h8.cg ha, h9.cg ha, h10.cg ha, h11.cg ha, h12.cg ha, h13.cg ha⟩
      intro k hk
      have := h4 k hk
      by_cases e : k = n
      · simp [pr_up, e]
      · simp [pr_up, e, this]
    · refine w_neg 60 rfl (by omega) hm (y_f ?_)
      show wpb_X9_dry _ _ _ _ _
      unfold wpb_X9_dry
      refine in_pos 4 rfl (by omega) hn (z_t ?_)
      exact in_neg 60 rfl (by omega) hm (y_f ⟨rfl, hI⟩)
  · refine w_neg 4 rfl (by omega) hn (z_f ?_)
    show wpb_X9_dry _ _ _ _ _
    unfold wpb_X9_dry
    exact in_neg 4 rfl (by omega) hn (z_f ⟨rfl, hI⟩)
theorem f_margin : pr_fact_margin Inv := by
  intro g σ a1 hI
  show wpb_X8_margin g σ a1 _
  unfold wpb_X8_margin
  rcases ix a1 100 with ⟨n, hn, rfl⟩ | hn
  · refine w_pos 99 rfl (by omega) hn (y_t (fun σ3 e3 => ?_))
    show wpb_X9_margin _ _ _ _
    unfold wpb_X9_margin
    refine in_pos 99 rfl (by omega) hn (y_t (fun σ4 e4 => ⟨rfl, ?_⟩))
    subst e3
    subst e4
    have ha : ag [528, 609] σ (pr_up (pr_up σ 528 0 0 (nI n)) 609 0 0 (nI n)) := ag_up (ag_up ag_rf _ _ _ _ (by decide)) _ _ _ _ (by decide)
    obtain ⟨h1, h2, h3, h4, h5, h6, h7, h8, h9, h10, h11, h12, h13⟩ := hI
    refine ⟨h1.cg ha, ?_, h3.cg ha, h4.cg ha, h5.cg ha, h6.cg ha, h7.cg ha, h8.cg ha, h9.cg ha, h10.cg ha, h11.cg ha, h12.cg ha, h13.cg ha⟩
    obtain ⟨-, -, b, c, d⟩ := h2
    exact ⟨⟨n, by omega, by simp [pr_up]⟩, by simp [pr_up], by simpa [pr_up] using b, by simpa [pr_up] using c, by simpa [pr_up] using d⟩
  · refine w_neg 99 rfl (by omega) hn (y_f ?_)
    show wpb_X9_margin _ _ _ _
    unfold wpb_X9_margin
    exact in_neg 99 rfl (by omega) hn (y_f ⟨rfl, hI⟩)
theorem f_go : pr_fact_go Inv := by
  intro g σ a1 hI
  show wpb_X8_go g σ a1 _
  unfold wpb_X8_go
  rcases ix a1 1001 with ⟨n, hn, rfl⟩ | hn
  · refine w_pos 1000 rfl (by omega) hn (y_t (fun σ3 e3 => ?_))
    show wpb_X9_go _ _ _ _
    unfold wpb_X9_go
    refine in_pos 1000 rfl (by omega) hn (y_t (fun σ4 e4 => ?_))
    obtain ⟨h1, h2, h3, h4, h5, h6, h7, h8, h9, h10, h11, h12, h13⟩ := hI
    obtain ⟨d, hd, q1, q2⟩ := id h1
    have hc : ∀ x y : Nat, x ≤ 21000 → y ≤ 21000 → (nI x < nI y ↔ x < y) := fun x y hx hy => nI_ltI (by omega) (by omega)
    have e5 : (if (20000 : Int32) < σ 520 0 0 + nI n then (20000 : Int32) else σ 520 0 0 + nI n) = nI (min (d + n) 20000) := by
      rw [q1, nI_add, show (20000 : Int32) = nI 20000 from rfl]
      by_cases h : 20000 < d + n
      · rw [if_pos ((hc _ _ (by omega) (by omega)).mpr h), Nat.min_eq_right (by omega)]
      · rw [if_neg (fun q => h ((hc _ _ (by omega) (by omega)).mp q)), Nat.min_eq_left (by omega)]
    have e6 : (if σ 576 0 0 + nI n < (20000 : Int32) then σ 576 0 0 + nI n else (20000 : Int32)) = nI (min (d + n) 20000) := by
      rw [q2, nI_add, show (20000 : Int32) = nI 20000 from rfl]
      by_cases h : d + n < 20000
      · rw [if_pos ((hc _ _ (by omega) (by omega)).mpr h), Nat.min_eq_left (by omega)]
      · rw [if_neg (fun q => h ((hc _ _ (by omega) (by omega)).mp q)), Nat.min_eq_right (by omega)]
    rw [e5] at e3
    have e7 : σ3 576 0 0 = σ 576 0 0 := by rw [e3]; exact up_tag (by decide)
    rw [e7, e6] at e4
    subst e3
    subst e4
    refine ⟨by rw [up_eq, up_eq], ?_⟩
    have ha : ag [520, 576] σ (pr_up (pr_up σ 520 0 0 (nI (min (d + n) 20000))) 576 0 0 (nI (min (d + n) 20000))) := ag_up (ag_up ag_rf _ _ _ _ (by decide)) _ _ _ _ (by decide)
    refine ⟨?_, h2.cg ha, h3.cg ha, h4.cg ha, h5.cg ha, h6.cg ha, h7.cg ha, h8.cg ha, ?_, h10.cg ha, h11.cg ha, h12.cg ha, h13.cg ha⟩
    · exact ⟨min (d + n) 20000, by omega, by simp [pr_up], by simp [pr_up]⟩
    · intro p hp
      obtain ⟨a, b, hab, hb, r1, r2⟩ := h9 p hp
      refine ⟨a, min (d + n) 20000, ?_, by omega, by simpa [pr_up] using r1, by simp [pr_up]⟩
      have : b = d := by
        rw [q1] at r2
        exact ((nI_eq (by omega) (by omega)).mp r2).symm
      omega
  · refine w_neg 1000 rfl (by omega) hn (y_f ?_)
    show wpb_X9_go _ _ _ _
    unfold wpb_X9_go
    exact in_neg 1000 rfl (by omega) hn (y_f ⟨rfl, hI⟩)
theorem f_list : pr_fact_list Inv := by
  intro g σ a1 a2 a3 hI
  show wpb_X8_list g σ a1 a2 a3 _
  unfold wpb_X8_list
  rcases ix a1 55 with ⟨y, hy, rfl⟩ | hy
  · refine w_pos 54 rfl (by omega) hy (z_t ?_)
    rcases ix a2 4 with ⟨z, hz, rfl⟩ | hz
    · refine w_pos 3 rfl (by omega) hz (z_t ?_)
      rcases ix a3 10000 with ⟨c, hc, rfl⟩ | hc
      · refine w_pos 9999 rfl (by omega) hc (z_t ?_)
        obtain ⟨h1, h2, h3, h4, h5, h6, h7, h8, h9, h10, h11, h12, h13⟩ := id hI
        obtain ⟨n, hn, q1, q2, hk⟩ := id h3
        show wpb_X1_add g σ _ _ _ _
        unfold wpb_X1_add
        have h60 : σ 67 0 0 < (60 : Int32) ↔ n < 60 := by rw [q1]; exact nI_ltI (a := n) (b := 60) (by omega) (by omega)
        have h60' : σ 580 0 0 = (60 : Int32) ↔ n = 60 := by rw [q2]; exact nI_eq (a := n) (b := 60) (by omega) (by omega)
        refine ⟨fun c1 => ?_, fun c1 => z_f ?_⟩
        · have hlt := h60.mp c1
          have hin : vp_in (nI n) 60 := vp_in_nI hlt (by omega)
          refine ⟨by rw [q1]; exact hin, fun σ2 e2 => ?_⟩
          rw [q1, nI_clamp (by omega)] at e2
          have r2 : σ2 67 0 0 = nI n := by rw [e2, up_tag (by decide)]; exact q1
          refine ⟨by rw [r2]; exact hin, fun σ3 e3 => ?_⟩
          rw [r2, nI_clamp (by omega)] at e3
          have r3 : σ3 67 0 0 = nI n := by rw [e3, up_tag (by decide)]; exact r2
          refine ⟨by rw [r3]; exact hin, fun σ4 e4 => ?_⟩
          rw [r3, nI_clamp (by omega)] at e4
          have r4 : σ4 67 0 0 = nI n := by rw [e4, up_tag (by decide)]; exact r3
          refine fun σ5 e5 => z_t ?_
          rw [r4, nI_1] at e5
          have s5 : σ5 580 0 0 = nI n := by rw [e5, up_tag (by decide), e4, up_tag (by decide), e3, up_tag (by decide), e2, up_tag (by decide)]; exact q2
          show wpb_X9_list _ _ _ _ _ _
          unfold wpb_X9_list
          refine in_pos 54 rfl (by omega) hy (z_t ?_)
          refine in_pos 3 rfl (by omega) hz (z_t ?_)
          refine in_pos 9999 rfl (by omega) hc (z_t ⟨fun _ => ?_, fun c2 => ?_⟩)
          · refine ⟨by rw [s5]; exact hin, fun σ8 e8 => ?_⟩
            rw [s5, nI_clamp (by omega)] at e8
            have s8 : σ8 580 0 0 = nI n := by rw [e8, up_tag (by decide)]; exact s5
            refine ⟨by rw [s8]; exact hin, fun σ9 e9 => ?_⟩
            rw [s8, nI_clamp (by omega)] at e9
            have s9 : σ9 580 0 0 = nI n := by rw [e9, up_tag (by decide)]; exact s8
            refine ⟨by rw [s9]; exact hin, fun σ10 e10 => ?_⟩
            rw [s9, nI_clamp (by omega)] at e10
            have s10 : σ10 580 0 0 = nI n := by rw [e10, up_tag (by decide)]; exact s9
            refine fun σ11 e11 => ⟨rfl, ?_⟩
            rw [s10, nI_1] at e11
            have ha : ag [67, 580, 1020, 1021, 1022, 1040, 1041, 1042] σ σ11 := by
              rw [e11, e10, e9, e8, e5, e4, e3, e2]
              exact ag_up (ag_up (ag_up (ag_up (ag_up (ag_up (ag_up (ag_up ag_rf _ _ _ _ (by decide)) _ _ _ _ (by decide)) _ _ _ _ (by decide)) _ _ _ _ (by decide)) _ _ _ _ (by decide)) _ _ _ _ (by decide)) _ _ _ _ (by decide)) _ _ _ _ (by decide)
            refine ⟨h1.cg ha, h2.cg ha, ?_, h4.cg ha, h5.cg ha, h6.cg ha, h7.cg ha, h8.cg ha, h9.cg ha, h10.cg ha, h11.cg ha, h12.cg ha, h13.cg ha⟩
            refine ⟨n + 1, by omega, by rw [e11, up_tag (by decide), e10, up_tag (by decide), e9, up_tag (by decide), e8, up_tag (by decide), e5, up_eq], by rw [e11, up_eq], fun k hk1 => ?_⟩
            have t1 : ∀ t, t = 1020 ∨ t = 1021 ∨ t = 1022 → σ11 t = σ4 t := fun t ht => by
              rw [e11, e10, e9, e8, e5]
              funext i j
              unfold pr_up
              simp only [show t ≠ 580 by omega, show t ≠ 1042 by omega, show t ≠ 1041 by omega, show t ≠ 1040 by omega, show t ≠ 67 by omega, false_and, if_false]
            have t2 : ∀ t, t = 1040 ∨ t = 1041 ∨ t = 1042 → σ5 t = σ t := fun t ht => by
              rw [e5, e4, e3, e2]
              funext i j
              unfold pr_up
              simp only [show t ≠ 67 by omega, show t ≠ 1022 by omega, show t ≠ 1021 by omega, show t ≠ 1020 by omega, false_and, if_false]
            have u1 : σ11 1020 0 k = if k = n then nI y else σ 1020 0 k := by rw [t1 _ (by omega), e4, up_tag (by decide), e3, up_tag (by decide), e2, up_if]; simp
            have u2 : σ11 1021 0 k = if k = n then nI z else σ 1021 0 k := by rw [t1 _ (by omega), e4, up_tag (by decide), e3, up_if, e2, up_tag (by decide)]; simp
            have u3 : σ11 1022 0 k = if k = n then nI c else σ 1022 0 k := by rw [t1 _ (by omega), e4, up_if, e3, up_tag (by decide), e2, up_tag (by decide)]; simp
            have v1 : σ11 1040 0 k = if k = n then nI y else σ 1040 0 k := by rw [e11, up_tag (by decide), e10, up_tag (by decide), e9, up_tag (by decide), e8, up_if, t2 _ (by omega)]; simp
            have v2 : σ11 1041 0 k = if k = n then nI z else σ 1041 0 k := by rw [e11, up_tag (by decide), e10, up_tag (by decide), e9, up_if, e8, up_tag (by decide), t2 _ (by omega)]; simp
            have v3 : σ11 1042 0 k = if k = n then nI c else σ 1042 0 k := by rw [e11, up_tag (by decide), e10, up_if, e9, up_tag (by decide), e8, up_tag (by decide), t2 _ (by omega)]; simp
            rw [u1, u2, u3, v1, v2, v3]
            by_cases e : k = n
            · simp only [e, if_true, and_true]
              exact ⟨y, by omega, rfl⟩
            · simp only [e, if_false]
              exact hk k (by omega)
          · exact absurd c2 (by rw [s5]; exact fun q => absurd ((nI_eq (a := n) (b := 60) (by omega) (by omega)).mp q) (by omega))
        · show wpb_X9_list _ _ _ _ _ _
          unfold wpb_X9_list
          refine in_pos 54 rfl (by omega) hy (z_t ?_)
          refine in_pos 3 rfl (by omega) hz (z_t ?_)
          have hn60 : n = 60 := by
            have : ¬ n < 60 := fun q => c1 (h60.mpr q)
            omega
          exact in_pos 9999 rfl (by omega) hc (z_t ⟨fun c2 => absurd (h60'.mpr hn60) c2, fun _ => ⟨rfl, hI⟩⟩)
      · refine w_neg 9999 rfl (by omega) hc (z_f ?_)
        show wpb_X9_list _ _ _ _ _ _
        unfold wpb_X9_list
        refine in_pos 54 rfl (by omega) hy (z_t ?_)
        refine in_pos 3 rfl (by omega) hz (z_t ?_)
        exact in_neg 9999 rfl (by omega) hc (z_f ⟨rfl, hI⟩)
    · refine w_neg 3 rfl (by omega) hz (z_f ?_)
      show wpb_X9_list _ _ _ _ _ _
      unfold wpb_X9_list
      refine in_pos 54 rfl (by omega) hy (z_t ?_)
      exact in_neg 3 rfl (by omega) hz (z_f ⟨rfl, hI⟩)
  · refine w_neg 54 rfl (by omega) hy (z_f ?_)
    show wpb_X9_list _ _ _ _ _ _
    unfold wpb_X9_list
    exact in_neg 54 rfl (by omega) hy (z_f ⟨rfl, hI⟩)
