def rm_X9_isWet : Room := { frames := 0, cells := 0, slots := 0, locals := 0 }
theorem hd_X9_isWet : yX9_isWet.cls = RX9 ∧ yX9_isWet.cls ≠ "java/lang/invoke/MethodHandle" ∧ yX9_isWet.cls ≠ "java/lang/invoke/VarHandle" ∧ (parseMethodDescriptor yX9_isWet.desc).map (fun d => d.parameters.length) = some 2 := ⟨rfl, by decide, by decide, by decide +kernel⟩
def wpb_X9_isWet (g : Nat → Nat) (σ : pr_Sg) (a1 : Int32) (a2 : Int32) (Q : Int32 → pr_Sg → Prop) : Prop :=
  (vp_in a1 40 ∧ (vp_in a2 5 ∧ (((σ 1066 (a1).toNatClampNeg (a2).toNatClampNeg) = (-1 : Int32) → Q (0 : Int32) σ) ∧
  (¬ (σ 1066 (a1).toNatClampNeg (a2).toNatClampNeg) = (-1 : Int32) → (vp_in a1 40 ∧ (vp_in a2 5 ∧ (vp_in a2 5 ∧ (((σ 1043 0 (a2).toNatClampNeg) ≤ ((σ 576 0 0) - (σ 1066 (a1).toNatClampNeg (a2).toNatClampNeg)) → Q (0 : Int32) σ) ∧
  (¬ (σ 1043 0 (a2).toNatClampNeg) ≤ ((σ 576 0 0) - (σ 1066 (a1).toNatClampNeg (a2).toNatClampNeg)) → Q (1 : Int32) σ)))))))))
set_option maxHeartbeats 4000000 in
set_option maxRecDepth 100000 in
theorem t_X9_isWet {p : Program} {l : Launch} {e : Env} {s : State} {m : MethodId} {args : Array Value} {below : List Frame} {meth : Method} {c : Code} {D : va_G} {cs : Nat → ClassId} {A : Nat → Prop} {ad : pr_Ad} {g : Nat → Nat} {Q : Int32 → pr_Sg → Prop} (C : pr_C RX9 cX9_isWet 3 (some .boolean) D cs p s m args meth c) {H : Heap} {locs : List Loc} {ls : Array Slot} {σ : pr_Sg} {a1 : Int32} {a2 : Int32} (h : wpb_X9_isWet g σ a1 a2 Q) (hR : pr_R D cs A ad g σ H) (hS : va_S A s.heap H locs) (hl : lv_has ls 3 [(0, .ref (ad 9 0 0)), (1, .int a1), (2, .int a2)]) : W p l e rm_X9_isWet s m args below meth c H locs 0 0 (MQ below (va_Qi (pr_Qz Q) (pr_E D cs A ad g) A) args s 0 0 A) (F0 m 0 ls []) := by
  unfold wpb_X9_isWet at h
  obtain ⟨hx, hb, hml, hown, hts, hK, hr, hlocks⟩ := id C
  refine lv_aload_n hx hb dX9_isWet_0 rfl (lv_at hl 0 rfl) ?_
  refine gf_RX9_70 C hR pr_l9 dX9_isWet_1 ?_
  refine lv_iload_n hx hb dX9_isWet_4 rfl (lv_at hl 1 rfl) ?_
  refine pr_ldg hx hb hK hR 86 (by omega) (kd := 66) rfl h.1 dX9_isWet_5 (fun hv1 => ?_)
  have h := h.2
  refine lv_iload_n hx hb dX9_isWet_6 rfl (lv_at hl 2 rfl) ?_
  refine pr_ald hx hb hK hR hv1 (by omega) (by omega) (n := 5) (by decide) h.1 dX9_isWet_7 (t := 1066) rfl ?_
  have h := h.2
  refine lv_iconst (v := (-1 : Int32)) hx hb dX9_isWet_8 (by decide) ?_
  refine lv_icmp_eq (tgt := 38) hx hb dX9_isWet_9 (by decide) (fun c2 => ?_) (fun c2 => ?_)
  · have h := h.1 c2
    refine lv_iconst (v := (0 : Int32)) hx hb dX9_isWet_38 (by decide) ?_
    exact pr_retz C (Or.inl rfl) h hR hS dX9_isWet_39
  · have h := h.2 c2
    refine lv_aload_n hx hb dX9_isWet_12 rfl (lv_at hl 0 rfl) ?_
    refine gf_RX9_128 C hR pr_l9 dX9_isWet_13 ?_
    refine lv_aload_n hx hb dX9_isWet_16 rfl (lv_at hl 0 rfl) ?_
    refine gf_RX9_70 C hR pr_l9 dX9_isWet_17 ?_
    refine lv_iload_n hx hb dX9_isWet_20 rfl (lv_at hl 1 rfl) ?_
    refine pr_ldg hx hb hK hR 86 (by omega) (kd := 66) rfl h.1 dX9_isWet_21 (fun hv3 => ?_)
    have h := h.2
    refine lv_iload_n hx hb dX9_isWet_22 rfl (lv_at hl 2 rfl) ?_
    refine pr_ald hx hb hK hR hv3 (by omega) (by omega) (n := 5) (by decide) h.1 dX9_isWet_23 (t := 1066) rfl ?_
    have h := h.2
    refine lv_isub hx hb dX9_isWet_24 ?_
    refine lv_aload_n hx hb dX9_isWet_25 rfl (lv_at hl 0 rfl) ?_
    refine gf_RX9_19 C hR pr_l9 dX9_isWet_26 ?_
    refine lv_iload_n hx hb dX9_isWet_29 rfl (lv_at hl 2 rfl) ?_
    refine pr_ald hx hb hK hR pr_l43 (by omega) (by omega) (n := 5) (by decide) h.1 dX9_isWet_30 (t := 1043) rfl ?_
    have h := h.2
    refine lv_icmp_ge (tgt := 38) hx hb dX9_isWet_31 (by decide) (fun c4 => ?_) (fun c4 => ?_)
    · have h := h.1 c4
      refine lv_iconst (v := (0 : Int32)) hx hb dX9_isWet_38 (by decide) ?_
      exact pr_retz C (Or.inl rfl) h hR hS dX9_isWet_39
    · have h := h.2 c4
      refine lv_iconst (v := (1 : Int32)) hx hb dX9_isWet_34 (by decide) ?_
      refine lv_goto (tgt := 39) hx hb dX9_isWet_35 (by decide) ?_
      exact pr_retz C (Or.inr rfl) h hR hS dX9_isWet_39
abbrev wp_X9_isWet (g : Nat → Nat) (σ : pr_Sg) (a1 : Int32) (a2 : Int32) (Q : Int32 → pr_Sg → Prop) : Prop := wpb_X9_isWet g σ a1 a2 Q
set_option maxHeartbeats 4000000 in
set_option maxRecDepth 100000 in
theorem c_X9_isWet {l : Launch} {D : va_G} {cs : Nat → ClassId} {A : Nat → Prop} {ad : pr_Ad} {g : Nat → Nat} {σ : pr_Sg} {a1 : Int32} {a2 : Int32} {Q : Int32 → pr_Sg → Prop} (h : wp_X9_isWet g σ a1 a2 Q) : pr_Mi l D cs A ad g yX9_isWet cX9_isWet 3 (some .boolean) rm_X9_isWet [.ref (ad 9 0 0), .int a1, .int a2] σ (pr_Qz Q) := by
  refine Met.ofW (cc := cX9_isWet) (maxL := 3) (ret := (some .boolean)) (by decide) rfl ?_
  intro p e s m args below meth c s₁ B hml hv
  obtain ⟨rfl, hR, hK⟩ := hv
  have C : pr_C RX9 cX9_isWet 3 (some .boolean) D cs p s m [.ref (ad 9 0 0), .int a1, .int a2].toArray meth c := pr_C.of B hml hK
  have hS : va_S A s.heap s.heap [] := va_S.rf
  have hl := lv_entry ([.ref (ad 9 0 0), .int a1, .int a2]) (n := 3) (Nat.le_of_ble_eq_true rfl)
  rw [lg_entry_eq]
  generalize (lg_sl ([.ref (ad 9 0 0), .int a1, .int a2]) ++ List.replicate (3 - (lg_sl ([.ref (ad 9 0 0), .int a1, .int a2])).length) Slot.unset).toArray = ls at hl ⊢
  have hl : lv_has ls 3 [(0, .ref (ad 9 0 0)), (1, .int a1), (2, .int a2)] := hl
  exact t_X9_isWet C h hR hS hl
def rm_X9_against : Room := { frames := 1, cells := 0, slots := 0, locals := 23 }
theorem hd_X9_against : yX9_against.cls = RX9 ∧ yX9_against.cls ≠ "java/lang/invoke/MethodHandle" ∧ yX9_against.cls ≠ "java/lang/invoke/VarHandle" ∧ (parseMethodDescriptor yX9_against.desc).map (fun d => d.parameters.length) = some 3 := ⟨rfl, by decide, by decide, by decide +kernel⟩
def wp_X9_against_L86 (g : Nat → Nat) (Q : Int32 → pr_Sg → Prop) (σ : pr_Sg) (x1 : Int32) (x2 : Int32) : Prop :=
  ((¬ x2 = (2 : Int32) → Q (0 : Int32) σ) ∧
  (x2 = (2 : Int32) → (vp_in x1 40 ∧ (((σ 1054 0 (x1).toNatClampNeg) = (-1 : Int32) → Q (0 : Int32) σ) ∧
  (¬ (σ 1054 0 (x1).toNatClampNeg) = (-1 : Int32) → (vp_in x1 40 ∧ (vp_in (σ 1054 0 (x1).toNatClampNeg) 5 ∧ ((¬ (σ 1056 0 ((σ 1054 0 (x1).toNatClampNeg)).toNatClampNeg) = (σ 576 0 0) → Q (0 : Int32) σ) ∧
  ((σ 1056 0 ((σ 1054 0 (x1).toNatClampNeg)).toNatClampNeg) = (σ 576 0 0) → (vp_in x1 40 ∧ (vp_in (σ 1054 0 (x1).toNatClampNeg) 5 ∧ (((σ 1057 0 ((σ 1054 0 (x1).toNatClampNeg)).toNatClampNeg) = x1 → Q (0 : Int32) σ) ∧
  (¬ (σ 1057 0 ((σ 1054 0 (x1).toNatClampNeg)).toNatClampNeg) = x1 → Q (6 : Int32) σ)))))))))))))
set_option maxHeartbeats 4000000 in
set_option maxRecDepth 100000 in
theorem t_X9_against_L86 {p : Program} {l : Launch} {e : Env} {s : State} {m : MethodId} {args : Array Value} {below : List Frame} {meth : Method} {c : Code} {D : va_G} {cs : Nat → ClassId} {A : Nat → Prop} {ad : pr_Ad} {g : Nat → Nat} {Q : Int32 → pr_Sg → Prop} (C : pr_C RX9 cX9_against 4 (some .int) D cs p s m args meth c) {H : Heap} {locs : List Loc} {ls : Array Slot} {σ : pr_Sg} {x1 : Int32} {x2 : Int32} (h : wp_X9_against_L86 g Q σ x1 x2) (hR : pr_R D cs A ad g σ H) (hS : va_S A s.heap H locs) (hl : lv_has ls 4 [(0, .ref (ad 9 0 0)), (1, .int x1), (2, .int x2)]) : W p l e rm_X9_against s m args below meth c H locs 0 0 (MQ below (va_Qi Q (pr_E D cs A ad g) A) args s 0 0 A) (F0 m 86 ls []) := by
  unfold wp_X9_against_L86 at h
  obtain ⟨hx, hb, hml, hown, hts, hK, hr, hlocks⟩ := id C
  refine lv_iload_n hx hb dX9_against_86 rfl (lv_at hl 2 rfl) ?_
  refine lv_iconst (v := (2 : Int32)) hx hb dX9_against_87 (by decide) ?_
  refine lv_icmp_ne (tgt := 139) hx hb dX9_against_88 (by decide) (fun c9 => ?_) (fun c9 => ?_)
  · have h := h.1 c9
    refine lv_iconst (v := (0 : Int32)) hx hb dX9_against_139 (by decide) ?_
    exact pr_reti C h hR hS dX9_against_140
  · have h := h.2 c9
    refine lv_aload_n hx hb dX9_against_91 rfl (lv_at hl 0 rfl) ?_
    refine gf_RX9_56 C hR pr_l9 dX9_against_92 ?_
    refine lv_iload_n hx hb dX9_against_95 rfl (lv_at hl 1 rfl) ?_
    refine pr_ald hx hb hK hR pr_l54 (by omega) (by omega) (n := 40) (by decide) h.1 dX9_against_96 (t := 1054) rfl ?_
    have h := h.2
    refine lv_iconst (v := (-1 : Int32)) hx hb dX9_against_97 (by decide) ?_
    refine lv_icmp_eq (tgt := 139) hx hb dX9_against_98 (by decide) (fun c10 => ?_) (fun c10 => ?_)
    · have h := h.1 c10
      refine lv_iconst (v := (0 : Int32)) hx hb dX9_against_139 (by decide) ?_
      exact pr_reti C h hR hS dX9_against_140
    · have h := h.2 c10
      refine lv_aload_n hx hb dX9_against_101 rfl (lv_at hl 0 rfl) ?_
      refine gf_RX9_79 C hR pr_l9 dX9_against_102 ?_
      refine lv_aload_n hx hb dX9_against_105 rfl (lv_at hl 0 rfl) ?_
      refine gf_RX9_56 C hR pr_l9 dX9_against_106 ?_
      refine lv_iload_n hx hb dX9_against_109 rfl (lv_at hl 1 rfl) ?_
      refine pr_ald hx hb hK hR pr_l54 (by omega) (by omega) (n := 40) (by decide) h.1 dX9_against_110 (t := 1054) rfl ?_
      have h := h.2
      refine pr_ald hx hb hK hR pr_l56 (by omega) (by omega) (n := 5) (by decide) h.1 dX9_against_111 (t := 1056) rfl ?_
      have h := h.2
      refine lv_aload_n hx hb dX9_against_112 rfl (lv_at hl 0 rfl) ?_
      refine gf_RX9_128 C hR pr_l9 dX9_against_113 ?_
      refine lv_icmp_ne (tgt := 139) hx hb dX9_against_116 (by decide) (fun c11 => ?_) (fun c11 => ?_)
      · have h := h.1 c11
        refine lv_iconst (v := (0 : Int32)) hx hb dX9_against_139 (by decide) ?_
        exact pr_reti C h hR hS dX9_against_140
      · have h := h.2 c11
        refine lv_aload_n hx hb dX9_against_119 rfl (lv_at hl 0 rfl) ?_
        refine gf_RX9_82 C hR pr_l9 dX9_against_120 ?_
        refine lv_aload_n hx hb dX9_against_123 rfl (lv_at hl 0 rfl) ?_
        refine gf_RX9_56 C hR pr_l9 dX9_against_124 ?_
        refine lv_iload_n hx hb dX9_against_127 rfl (lv_at hl 1 rfl) ?_
        refine pr_ald hx hb hK hR pr_l54 (by omega) (by omega) (n := 40) (by decide) h.1 dX9_against_128 (t := 1054) rfl ?_
        have h := h.2
        refine pr_ald hx hb hK hR pr_l57 (by omega) (by omega) (n := 5) (by decide) h.1 dX9_against_129 (t := 1057) rfl ?_
        have h := h.2
        refine lv_iload_n hx hb dX9_against_130 rfl (lv_at hl 1 rfl) ?_
        refine lv_icmp_eq (tgt := 139) hx hb dX9_against_131 (by decide) (fun c12 => ?_) (fun c12 => ?_)
        · have h := h.1 c12
          refine lv_iconst (v := (0 : Int32)) hx hb dX9_against_139 (by decide) ?_
          exact pr_reti C h hR hS dX9_against_140
        · have h := h.2 c12
          refine lv_bipush (v := (6 : Int32)) hx hb dX9_against_134 (by decide) ?_
          refine lv_goto (tgt := 140) hx hb dX9_against_136 (by decide) ?_
          exact pr_reti C h hR hS dX9_against_140
def wp_X9_against_L67 (g : Nat → Nat) (Q : Int32 → pr_Sg → Prop) (σ : pr_Sg) (x1 : Int32) (x2 : Int32) : Prop :=
  ((¬ x2 = 0 → wp_X9_against_L86 g Q σ x1 x2) ∧
  (x2 = 0 → (wp_X9_unused g σ x1 (σ 576 0 0) (fun r13 σ13 =>
  ((¬ r13 = (-1 : Int32) → wp_X9_against_L86 g Q σ13 x1 x2) ∧
  (r13 = (-1 : Int32) → Q (5 : Int32) σ13))))))
set_option maxHeartbeats 4000000 in
set_option maxRecDepth 100000 in
theorem t_X9_against_L67 {p : Program} {l : Launch} {e : Env} {s : State} {m : MethodId} {args : Array Value} {below : List Frame} {meth : Method} {c : Code} {D : va_G} {cs : Nat → ClassId} {A : Nat → Prop} {ad : pr_Ad} {g : Nat → Nat} {Q : Int32 → pr_Sg → Prop} (C : pr_C RX9 cX9_against 4 (some .int) D cs p s m args meth c) {H : Heap} {locs : List Loc} {ls : Array Slot} {σ : pr_Sg} {x1 : Int32} {x2 : Int32} (h : wp_X9_against_L67 g Q σ x1 x2) (hR : pr_R D cs A ad g σ H) (hS : va_S A s.heap H locs) (hl : lv_has ls 4 [(0, .ref (ad 9 0 0)), (1, .int x1), (2, .int x2)]) : W p l e rm_X9_against s m args below meth c H locs 0 0 (MQ below (va_Qi Q (pr_E D cs A ad g) A) args s 0 0 A) (F0 m 67 ls []) := by
  unfold wp_X9_against_L67 at h
  obtain ⟨hx, hb, hml, hown, hts, hK, hr, hlocks⟩ := id C
  refine lv_iload_n hx hb dX9_against_67 rfl (lv_at hl 2 rfl) ?_
  refine lv_if_ne (tgt := 86) hx hb dX9_against_68 (by decide) (fun c8 => ?_) (fun c8 => ?_)
  · have h := h.1 c8
    exact t_X9_against_L86 C h hR hS (lv_sub hl [0, 1, 2] rfl)
  · have h := h.2 c8
    refine lv_aload_n hx hb dX9_against_71 rfl (lv_at hl 0 rfl) ?_
    refine lv_iload_n hx hb dX9_against_72 rfl (lv_at hl 1 rfl) ?_
    refine lv_aload_n hx hb dX9_against_73 rfl (lv_at hl 0 rfl) ?_
    refine gf_RX9_128 C hR pr_l9 dX9_against_74 ?_
    refine pr_calli hS (pr_runV (As := [.int x1, .int (σ 576 0 0)]) (rest := []) C hR pr_l9 (by omega) rfl (c_X9_unused h) gw_RX9_166 rfl rfl hd_X9_unused ⟨Nat.le_of_ble_eq_true rfl, Nat.le_of_ble_eq_true rfl⟩ rfl hl.1 rfl (Nat.le_of_ble_eq_true rfl) dX9_against_77 ⟨Nat.zero_le _, Nat.zero_le _⟩) (fun r13 σ13 H locs h hR hS => ?_)
    refine lv_iconst (v := (-1 : Int32)) hx hb dX9_against_80 (by decide) ?_
    refine lv_icmp_ne (tgt := 86) hx hb dX9_against_81 (by decide) (fun c14 => ?_) (fun c14 => ?_)
    · have h := h.1 c14
      exact t_X9_against_L86 C h hR hS (lv_sub hl [0, 1, 2] rfl)
    · have h := h.2 c14
      refine lv_iconst (v := (5 : Int32)) hx hb dX9_against_84 (by decide) ?_
      exact pr_reti C h hR hS dX9_against_85
def wp_X9_against_L42 (g : Nat → Nat) (Q : Int32 → pr_Sg → Prop) (σ : pr_Sg) (x1 : Int32) (x2 : Int32) (x3 : Int32) : Prop :=
  (vp_in x3 7 ∧ ((¬ (σ 1044 0 (x3).toNatClampNeg) = (σ 576 0 0) → wp_X9_against_L67 g Q σ x1 x2) ∧
  ((σ 1044 0 (x3).toNatClampNeg) = (σ 576 0 0) → (vp_in x3 7 ∧ ((¬ (σ 1045 0 (x3).toNatClampNeg) = (3 : Int32) → wp_X9_against_L67 g Q σ x1 x2) ∧
  ((σ 1045 0 (x3).toNatClampNeg) = (3 : Int32) → Q (4 : Int32) σ))))))
set_option maxHeartbeats 4000000 in
set_option maxRecDepth 100000 in
theorem t_X9_against_L42 {p : Program} {l : Launch} {e : Env} {s : State} {m : MethodId} {args : Array Value} {below : List Frame} {meth : Method} {c : Code} {D : va_G} {cs : Nat → ClassId} {A : Nat → Prop} {ad : pr_Ad} {g : Nat → Nat} {Q : Int32 → pr_Sg → Prop} (C : pr_C RX9 cX9_against 4 (some .int) D cs p s m args meth c) {H : Heap} {locs : List Loc} {ls : Array Slot} {σ : pr_Sg} {x1 : Int32} {x2 : Int32} {x3 : Int32} (h : wp_X9_against_L42 g Q σ x1 x2 x3) (hR : pr_R D cs A ad g σ H) (hS : va_S A s.heap H locs) (hl : lv_has ls 4 [(0, .ref (ad 9 0 0)), (1, .int x1), (2, .int x2), (3, .int x3)]) : W p l e rm_X9_against s m args below meth c H locs 0 0 (MQ below (va_Qi Q (pr_E D cs A ad g) A) args s 0 0 A) (F0 m 42 ls []) := by
  unfold wp_X9_against_L42 at h
  obtain ⟨hx, hb, hml, hown, hts, hK, hr, hlocks⟩ := id C
  refine lv_aload_n hx hb dX9_against_42 rfl (lv_at hl 0 rfl) ?_
  refine gf_RX9_22 C hR pr_l9 dX9_against_43 ?_
  refine lv_iload_n hx hb dX9_against_46 rfl (lv_at hl 3 rfl) ?_
  refine pr_ald hx hb hK hR pr_l44 (by omega) (by omega) (n := 7) (by decide) h.1 dX9_against_47 (t := 1044) rfl ?_
  have h := h.2
  refine lv_aload_n hx hb dX9_against_48 rfl (lv_at hl 0 rfl) ?_
  refine gf_RX9_128 C hR pr_l9 dX9_against_49 ?_
  refine lv_icmp_ne (tgt := 67) hx hb dX9_against_52 (by decide) (fun c7 => ?_) (fun c7 => ?_)
  · have h := h.1 c7
    exact t_X9_against_L67 C h hR hS (lv_sub hl [0, 1, 2] rfl)
  · have h := h.2 c7
    refine lv_aload_n hx hb dX9_against_55 rfl (lv_at hl 0 rfl) ?_
    refine gf_RX9_25 C hR pr_l9 dX9_against_56 ?_
    refine lv_iload_n hx hb dX9_against_59 rfl (lv_at hl 3 rfl) ?_
    refine pr_ald hx hb hK hR pr_l45 (by omega) (by omega) (n := 7) (by decide) h.1 dX9_against_60 (t := 1045) rfl ?_
    have h := h.2
    refine lv_iconst (v := (3 : Int32)) hx hb dX9_against_61 (by decide) ?_
    refine lv_icmp_ne (tgt := 67) hx hb dX9_against_62 (by decide) (fun c15 => ?_) (fun c15 => ?_)
    · have h := h.1 c15
      exact t_X9_against_L67 C h hR hS (lv_sub hl [0, 1, 2] rfl)
    · have h := h.2 c15
      refine lv_iconst (v := (4 : Int32)) hx hb dX9_against_65 (by decide) ?_
      exact pr_reti C h hR hS dX9_against_66
def wpb_X9_against (g : Nat → Nat) (σ : pr_Sg) (a1 : Int32) (a2 : Int32) (a3 : Int32) (Q : Int32 → pr_Sg → Prop) : Prop :=
  (vp_in a1 40 ∧ (vp_in a2 5 ∧ (vp_in a1 40 ∧ (vp_in a2 5 ∧ ((¬ (σ 1065 (a1).toNatClampNeg (a2).toNatClampNeg) = (σ 1064 (a1).toNatClampNeg (a2).toNatClampNeg) → (wp_X9_isWet g σ a1 a2 (fun r4 σ4 =>
  ((r4 = 0 → ((¬ a2 = 0 → wp_X9_against_L42 g Q σ4 a1 a2 a3) ∧
  (a2 = 0 → ((a3 = 0 → wp_X9_against_L42 g Q σ4 a1 a2 a3) ∧
  (¬ a3 = 0 → Q (3 : Int32) σ4))))) ∧
  (¬ r4 = 0 → Q (2 : Int32) σ4))))) ∧
  ((σ 1065 (a1).toNatClampNeg (a2).toNatClampNeg) = (σ 1064 (a1).toNatClampNeg (a2).toNatClampNeg) → Q (1 : Int32) σ))))))
set_option maxHeartbeats 4000000 in
set_option maxRecDepth 100000 in
theorem t_X9_against {p : Program} {l : Launch} {e : Env} {s : State} {m : MethodId} {args : Array Value} {below : List Frame} {meth : Method} {c : Code} {D : va_G} {cs : Nat → ClassId} {A : Nat → Prop} {ad : pr_Ad} {g : Nat → Nat} {Q : Int32 → pr_Sg → Prop} (C : pr_C RX9 cX9_against 4 (some .int) D cs p s m args meth c) {H : Heap} {locs : List Loc} {ls : Array Slot} {σ : pr_Sg} {a1 : Int32} {a2 : Int32} {a3 : Int32} (h : wpb_X9_against g σ a1 a2 a3 Q) (hR : pr_R D cs A ad g σ H) (hS : va_S A s.heap H locs) (hl : lv_has ls 4 [(0, .ref (ad 9 0 0)), (1, .int a1), (2, .int a2), (3, .int a3)]) : W p l e rm_X9_against s m args below meth c H locs 0 0 (MQ below (va_Qi Q (pr_E D cs A ad g) A) args s 0 0 A) (F0 m 0 ls []) := by
  unfold wpb_X9_against at h
  obtain ⟨hx, hb, hml, hown, hts, hK, hr, hlocks⟩ := id C
  refine lv_aload_n hx hb dX9_against_0 rfl (lv_at hl 0 rfl) ?_
  refine gf_RX9_67 C hR pr_l9 dX9_against_1 ?_
  refine lv_iload_n hx hb dX9_against_4 rfl (lv_at hl 1 rfl) ?_
  refine pr_ldg hx hb hK hR 85 (by omega) (kd := 65) rfl h.1 dX9_against_5 (fun hv1 => ?_)
  have h := h.2
  refine lv_iload_n hx hb dX9_against_6 rfl (lv_at hl 2 rfl) ?_
  refine pr_ald hx hb hK hR hv1 (by omega) (by omega) (n := 5) (by decide) h.1 dX9_against_7 (t := 1065) rfl ?_
  have h := h.2
  refine lv_aload_n hx hb dX9_against_8 rfl (lv_at hl 0 rfl) ?_
  refine gf_RX9_64 C hR pr_l9 dX9_against_9 ?_
  refine lv_iload_n hx hb dX9_against_12 rfl (lv_at hl 1 rfl) ?_
  refine pr_ldg hx hb hK hR 84 (by omega) (kd := 64) rfl h.1 dX9_against_13 (fun hv2 => ?_)
  have h := h.2
  refine lv_iload_n hx hb dX9_against_14 rfl (lv_at hl 2 rfl) ?_
  refine pr_ald hx hb hK hR hv2 (by omega) (by omega) (n := 5) (by decide) h.1 dX9_against_15 (t := 1064) rfl ?_
  have h := h.2
  refine lv_icmp_ne (tgt := 21) hx hb dX9_against_16 (by decide) (fun c3 => ?_) (fun c3 => ?_)
  · have h := h.1 c3
    refine lv_aload_n hx hb dX9_against_21 rfl (lv_at hl 0 rfl) ?_
    refine lv_iload_n hx hb dX9_against_22 rfl (lv_at hl 1 rfl) ?_
    refine lv_iload_n hx hb dX9_against_23 rfl (lv_at hl 2 rfl) ?_
    refine pr_calli hS (pr_runV (As := [.int a1, .int a2]) (rest := []) C hR pr_l9 (by omega) rfl (c_X9_isWet h) gw_RX9_169 rfl rfl hd_X9_isWet ⟨Nat.le_of_ble_eq_true rfl, Nat.le_of_ble_eq_true rfl⟩ rfl hl.1 rfl (Nat.le_of_ble_eq_true rfl) dX9_against_24 ⟨Nat.zero_le _, Nat.zero_le _⟩) (fun r4 σ4 H locs h hR hS => ?_)
    obtain ⟨hz4, h⟩ := h
    refine lv_if_eq (tgt := 32) hx hb dX9_against_27 (by decide) (fun c5 => ?_) (fun c5 => ?_)
    · have h := h.1 c5
      refine lv_iload_n hx hb dX9_against_32 rfl (lv_at hl 2 rfl) ?_
      refine lv_if_ne (tgt := 42) hx hb dX9_against_33 (by decide) (fun c6 => ?_) (fun c6 => ?_)
      · have h := h.1 c6
        exact t_X9_against_L42 C h hR hS (lv_sub hl [0, 1, 2, 3] rfl)
      · have h := h.2 c6
        refine lv_iload_n hx hb dX9_against_36 rfl (lv_at hl 3 rfl) ?_
        refine lv_if_eq (tgt := 42) hx hb dX9_against_37 (by decide) (fun c16 => ?_) (fun c16 => ?_)
        · have h := h.1 c16
          exact t_X9_against_L42 C h hR hS (lv_sub hl [0, 1, 2, 3] rfl)
        · have h := h.2 c16
          refine lv_iconst (v := (3 : Int32)) hx hb dX9_against_40 (by decide) ?_
          exact pr_reti C h hR hS dX9_against_41
    · have h := h.2 c5
      refine lv_iconst (v := (2 : Int32)) hx hb dX9_against_30 (by decide) ?_
      exact pr_reti C h hR hS dX9_against_31
  · have h := h.2 c3
    refine lv_iconst (v := (1 : Int32)) hx hb dX9_against_19 (by decide) ?_
    exact pr_reti C h hR hS dX9_against_20
abbrev wp_X9_against (g : Nat → Nat) (σ : pr_Sg) (a1 : Int32) (a2 : Int32) (a3 : Int32) (Q : Int32 → pr_Sg → Prop) : Prop := wpb_X9_against g σ a1 a2 a3 Q
set_option maxHeartbeats 4000000 in
set_option maxRecDepth 100000 in
theorem c_X9_against {l : Launch} {D : va_G} {cs : Nat → ClassId} {A : Nat → Prop} {ad : pr_Ad} {g : Nat → Nat} {σ : pr_Sg} {a1 : Int32} {a2 : Int32} {a3 : Int32} {Q : Int32 → pr_Sg → Prop} (h : wp_X9_against g σ a1 a2 a3 Q) : pr_Mi l D cs A ad g yX9_against cX9_against 4 (some .int) rm_X9_against [.ref (ad 9 0 0), .int a1, .int a2, .int a3] σ Q := by
  refine Met.ofW (cc := cX9_against) (maxL := 4) (ret := (some .int)) (by decide) rfl ?_
  intro p e s m args below meth c s₁ B hml hv
  obtain ⟨rfl, hR, hK⟩ := hv
  have C : pr_C RX9 cX9_against 4 (some .int) D cs p s m [.ref (ad 9 0 0), .int a1, .int a2, .int a3].toArray meth c := pr_C.of B hml hK
  have hS : va_S A s.heap s.heap [] := va_S.rf
  have hl := lv_entry ([.ref (ad 9 0 0), .int a1, .int a2, .int a3]) (n := 4) (Nat.le_of_ble_eq_true rfl)
  rw [lg_entry_eq]
  generalize (lg_sl ([.ref (ad 9 0 0), .int a1, .int a2, .int a3]) ++ List.replicate (4 - (lg_sl ([.ref (ad 9 0 0), .int a1, .int a2, .int a3])).length) Slot.unset).toArray = ls at hl ⊢
  have hl : lv_has ls 4 [(0, .ref (ad 9 0 0)), (1, .int a1), (2, .int a2), (3, .int a3)] := hl
  exact t_X9_against C h hR hS hl
def rm_X9_isDone : Room := { frames := 0, cells := 0, slots := 0, locals := 0 }
theorem hd_X9_isDone : yX9_isDone.cls = RX9 ∧ yX9_isDone.cls ≠ "java/lang/invoke/MethodHandle" ∧ yX9_isDone.cls ≠ "java/lang/invoke/VarHandle" ∧ (parseMethodDescriptor yX9_isDone.desc).map (fun d => d.parameters.length) = some 1 := ⟨rfl, by decide, by decide, by decide +kernel⟩
def wp_X9_isDone_L4 (g : Nat → Nat) (Q : Int32 → pr_Sg → Prop) : Nat → pr_Sg → Int32 → Int32 → Int32 → Prop
  | 0, _, _, _, _ => False
  | n + 1, σ, x1, x2, x3 => (((5 : Int32) ≤ x3 → Q x2 σ) ∧
  (¬ (5 : Int32) ≤ x3 → ((x2 = 0 → wp_X9_isDone_L4 g Q n σ x1 (0 : Int32) (x3 + (1 : Int32))) ∧
  (¬ x2 = 0 → (vp_in x1 40 ∧ (vp_in x3 5 ∧ (vp_in x1 40 ∧ (vp_in x3 5 ∧ ((¬ (σ 1065 (x1).toNatClampNeg (x3).toNatClampNeg) = (σ 1064 (x1).toNatClampNeg (x3).toNatClampNeg) → wp_X9_isDone_L4 g Q n σ x1 (0 : Int32) (x3 + (1 : Int32))) ∧
  ((σ 1065 (x1).toNatClampNeg (x3).toNatClampNeg) = (σ 1064 (x1).toNatClampNeg (x3).toNatClampNeg) → wp_X9_isDone_L4 g Q n σ x1 (1 : Int32) (x3 + (1 : Int32))))))))))))
set_option maxHeartbeats 4000000 in
set_option maxRecDepth 100000 in
theorem t_X9_isDone_L4 {p : Program} {l : Launch} {e : Env} {s : State} {m : MethodId} {args : Array Value} {below : List Frame} {meth : Method} {c : Code} {D : va_G} {cs : Nat → ClassId} {A : Nat → Prop} {ad : pr_Ad} {g : Nat → Nat} {Q : Int32 → pr_Sg → Prop} (C : pr_C RX9 cX9_isDone 4 (some .boolean) D cs p s m args meth c) (n : Nat) : ∀ {H : Heap} {locs : List Loc} {ls : Array Slot} {σ : pr_Sg} {x1 : Int32} {x2 : Int32} {x3 : Int32} (_ : wp_X9_isDone_L4 g Q n σ x1 x2 x3) (_ : pr_R D cs A ad g σ H) (_ : va_S A s.heap H locs) (_ : x2 = 0 ∨ x2 = 1) (_ : lv_has ls 4 [(0, .ref (ad 9 0 0)), (1, .int x1), (2, .int x2), (3, .int x3)]), W p l e rm_X9_isDone s m args below meth c H locs 0 0 (MQ below (va_Qi (pr_Qz Q) (pr_E D cs A ad g) A) args s 0 0 A) (F0 m 4 ls []) := by
  induction n with
  | zero =>
    intro H locs ls σ x1 x2 x3 h
    exact False.elim h
  | succ n ih =>
    intro H locs ls σ x1 x2 x3 h hR hS hz2 hl
    unfold wp_X9_isDone_L4 at h
    obtain ⟨hx, hb, hml, hown, hts, hK, hr, hlocks⟩ := id C
    refine lv_iload_n hx hb dX9_isDone_4 rfl (lv_at hl 3 rfl) ?_
    refine lv_iconst (v := (5 : Int32)) hx hb dX9_isDone_5 (by decide) ?_
    refine lv_icmp_ge (tgt := 44) hx hb dX9_isDone_6 (by decide) (fun c1 => ?_) (fun c1 => ?_)
    · have h := h.1 c1
      refine lv_iload_n hx hb dX9_isDone_44 rfl (lv_at hl 2 rfl) ?_
      exact pr_retz C hz2 h hR hS dX9_isDone_45
    · have h := h.2 c1
      refine lv_iload_n hx hb dX9_isDone_9 rfl (lv_at hl 2 rfl) ?_
      refine lv_if_eq (tgt := 36) hx hb dX9_isDone_10 (by decide) (fun c2 => ?_) (fun c2 => ?_)
      · have h := h.1 c2
        refine lv_iconst (v := (0 : Int32)) hx hb dX9_isDone_36 (by decide) ?_
        refine lv_istore_n (lv' := [(2, .int (0 : Int32)), (0, .ref (ad 9 0 0)), (1, .int x1), (3, .int x3)]) hx hb dX9_isDone_37 rfl hl (by decide) rfl (fun ls hl => ?_)
        refine lv_iinc (v := (x3 + (1 : Int32))) (lv' := [(3, .int (x3 + (1 : Int32))), (2, .int (0 : Int32)), (0, .ref (ad 9 0 0)), (1, .int x1)]) hx hb dX9_isDone_38 hl (k := 3) rfl rfl (by decide) rfl (fun ls hl => ?_)
        refine lv_goto (tgt := 4) hx hb dX9_isDone_41 (by decide) ?_
        exact ih h hR hS (Or.inl rfl) (lv_sub hl [2, 3, 1, 0] rfl)
      · have h := h.2 c2
        refine lv_aload_n hx hb dX9_isDone_13 rfl (lv_at hl 0 rfl) ?_
        refine gf_RX9_67 C hR pr_l9 dX9_isDone_14 ?_
        refine lv_iload_n hx hb dX9_isDone_17 rfl (lv_at hl 1 rfl) ?_
        refine pr_ldg hx hb hK hR 85 (by omega) (kd := 65) rfl h.1 dX9_isDone_18 (fun hv3 => ?_)
        have h := h.2
        refine lv_iload_n hx hb dX9_isDone_19 rfl (lv_at hl 3 rfl) ?_
        refine pr_ald hx hb hK hR hv3 (by omega) (by omega) (n := 5) (by decide) h.1 dX9_isDone_20 (t := 1065) rfl ?_
        have h := h.2
        refine lv_aload_n hx hb dX9_isDone_21 rfl (lv_at hl 0 rfl) ?_
        refine gf_RX9_64 C hR pr_l9 dX9_isDone_22 ?_
        refine lv_iload_n hx hb dX9_isDone_25 rfl (lv_at hl 1 rfl) ?_
        refine pr_ldg hx hb hK hR 84 (by omega) (kd := 64) rfl h.1 dX9_isDone_26 (fun hv4 => ?_)
        have h := h.2
        refine lv_iload_n hx hb dX9_isDone_27 rfl (lv_at hl 3 rfl) ?_
        refine pr_ald hx hb hK hR hv4 (by omega) (by omega) (n := 5) (by decide) h.1 dX9_isDone_28 (t := 1064) rfl ?_
        have h := h.2
        refine lv_icmp_ne (tgt := 36) hx hb dX9_isDone_29 (by decide) (fun c5 => ?_) (fun c5 => ?_)
        · have h := h.1 c5
          refine lv_iconst (v := (0 : Int32)) hx hb dX9_isDone_36 (by decide) ?_
          refine lv_istore_n (lv' := [(2, .int (0 : Int32)), (0, .ref (ad 9 0 0)), (1, .int x1), (3, .int x3)]) hx hb dX9_isDone_37 rfl hl (by decide) rfl (fun ls hl => ?_)
          refine lv_iinc (v := (x3 + (1 : Int32))) (lv' := [(3, .int (x3 + (1 : Int32))), (2, .int (0 : Int32)), (0, .ref (ad 9 0 0)), (1, .int x1)]) hx hb dX9_isDone_38 hl (k := 3) rfl rfl (by decide) rfl (fun ls hl => ?_)
          refine lv_goto (tgt := 4) hx hb dX9_isDone_41 (by decide) ?_
          exact ih h hR hS (Or.inl rfl) (lv_sub hl [2, 3, 1, 0] rfl)
        · have h := h.2 c5
          refine lv_iconst (v := (1 : Int32)) hx hb dX9_isDone_32 (by decide) ?_
          refine lv_goto (tgt := 37) hx hb dX9_isDone_33 (by decide) ?_
          refine lv_istore_n (lv' := [(2, .int (1 : Int32)), (0, .ref (ad 9 0 0)), (1, .int x1), (3, .int x3)]) hx hb dX9_isDone_37 rfl hl (by decide) rfl (fun ls hl => ?_)
          refine lv_iinc (v := (x3 + (1 : Int32))) (lv' := [(3, .int (x3 + (1 : Int32))), (2, .int (1 : Int32)), (0, .ref (ad 9 0 0)), (1, .int x1)]) hx hb dX9_isDone_38 hl (k := 3) rfl rfl (by decide) rfl (fun ls hl => ?_)
          refine lv_goto (tgt := 4) hx hb dX9_isDone_41 (by decide) ?_
          exact ih h hR hS (Or.inr rfl) (lv_sub hl [2, 3, 1, 0] rfl)
def wpb_X9_isDone (g : Nat → Nat) (σ : pr_Sg) (a1 : Int32) (Q : Int32 → pr_Sg → Prop) : Prop :=
  (∃ n : Nat, wp_X9_isDone_L4 g Q n σ a1 (1 : Int32) (0 : Int32))
set_option maxHeartbeats 4000000 in
set_option maxRecDepth 100000 in
theorem t_X9_isDone {p : Program} {l : Launch} {e : Env} {s : State} {m : MethodId} {args : Array Value} {below : List Frame} {meth : Method} {c : Code} {D : va_G} {cs : Nat → ClassId} {A : Nat → Prop} {ad : pr_Ad} {g : Nat → Nat} {Q : Int32 → pr_Sg → Prop} (C : pr_C RX9 cX9_isDone 4 (some .boolean) D cs p s m args meth c) {H : Heap} {locs : List Loc} {ls : Array Slot} {σ : pr_Sg} {a1 : Int32} (h : wpb_X9_isDone g σ a1 Q) (hR : pr_R D cs A ad g σ H) (hS : va_S A s.heap H locs) (hl : lv_has ls 4 [(0, .ref (ad 9 0 0)), (1, .int a1)]) : W p l e rm_X9_isDone s m args below meth c H locs 0 0 (MQ below (va_Qi (pr_Qz Q) (pr_E D cs A ad g) A) args s 0 0 A) (F0 m 0 ls []) := by
  unfold wpb_X9_isDone at h
  obtain ⟨hx, hb, hml, hown, hts, hK, hr, hlocks⟩ := id C
  refine lv_iconst (v := (1 : Int32)) hx hb dX9_isDone_0 (by decide) ?_
  refine lv_istore_n (lv' := [(2, .int (1 : Int32)), (0, .ref (ad 9 0 0)), (1, .int a1)]) hx hb dX9_isDone_1 rfl hl (by decide) rfl (fun ls hl => ?_)
  refine lv_iconst (v := (0 : Int32)) hx hb dX9_isDone_2 (by decide) ?_
  refine lv_istore_n (lv' := [(3, .int (0 : Int32)), (2, .int (1 : Int32)), (0, .ref (ad 9 0 0)), (1, .int a1)]) hx hb dX9_isDone_3 rfl hl (by decide) rfl (fun ls hl => ?_)
  obtain ⟨n1, h⟩ := h
  exact t_X9_isDone_L4 C n1 h hR hS (Or.inr rfl) (lv_sub hl [2, 3, 1, 0] rfl)
abbrev wp_X9_isDone (g : Nat → Nat) (σ : pr_Sg) (a1 : Int32) (Q : Int32 → pr_Sg → Prop) : Prop := wpb_X9_isDone g σ a1 Q
set_option maxHeartbeats 4000000 in
set_option maxRecDepth 100000 in
theorem c_X9_isDone {l : Launch} {D : va_G} {cs : Nat → ClassId} {A : Nat → Prop} {ad : pr_Ad} {g : Nat → Nat} {σ : pr_Sg} {a1 : Int32} {Q : Int32 → pr_Sg → Prop} (h : wp_X9_isDone g σ a1 Q) : pr_Mi l D cs A ad g yX9_isDone cX9_isDone 4 (some .boolean) rm_X9_isDone [.ref (ad 9 0 0), .int a1] σ (pr_Qz Q) := by
  refine Met.ofW (cc := cX9_isDone) (maxL := 4) (ret := (some .boolean)) (by decide) rfl ?_
  intro p e s m args below meth c s₁ B hml hv
  obtain ⟨rfl, hR, hK⟩ := hv
  have C : pr_C RX9 cX9_isDone 4 (some .boolean) D cs p s m [.ref (ad 9 0 0), .int a1].toArray meth c := pr_C.of B hml hK
  have hS : va_S A s.heap s.heap [] := va_S.rf
  have hl := lv_entry ([.ref (ad 9 0 0), .int a1]) (n := 4) (Nat.le_of_ble_eq_true rfl)
  rw [lg_entry_eq]
  generalize (lg_sl ([.ref (ad 9 0 0), .int a1]) ++ List.replicate (4 - (lg_sl ([.ref (ad 9 0 0), .int a1])).length) Slot.unset).toArray = ls at hl ⊢
  have hl : lv_has ls 4 [(0, .ref (ad 9 0 0)), (1, .int a1)] := hl
  exact t_X9_isDone C h hR hS hl
def rm_X9_paint : Room := { frames := 2, cells := 0, slots := 0, locals := 46 }
theorem hd_X9_paint : yX9_paint.cls = RX9 ∧ yX9_paint.cls ≠ "java/lang/invoke/MethodHandle" ∧ yX9_paint.cls ≠ "java/lang/invoke/VarHandle" ∧ (parseMethodDescriptor yX9_paint.desc).map (fun d => d.parameters.length) = some 3 := ⟨rfl, by decide, by decide, by decide +kernel⟩
def wp_X9_paint_L105 (g : Nat → Nat) (Q : Int32 → pr_Sg → Prop) (σ : pr_Sg) (x1 : Int32) (x2 : Int32) (x3 : Int32) : Prop :=
  (vp_in x3 7 ∧ ((¬ (σ 1044 0 (x3).toNatClampNeg) = (σ 576 0 0) → (vp_in x3 7 ∧ ∀ σ12 : pr_Sg, σ12 = pr_up σ 1045 0 (x3).toNatClampNeg (1 : Int32) →
  (vp_in x3 7 ∧ ∀ σ13 : pr_Sg, σ13 = pr_up σ12 1044 0 (x3).toNatClampNeg (σ12 576 0 0) →
  (vp_in x1 40 ∧ (vp_in x2 5 ∧ (vp_in x2 5 ∧ ∀ σ15 : pr_Sg, σ15 = pr_up σ13 1065 (x1).toNatClampNeg (x2).toNatClampNeg ((σ13 1065 (x1).toNatClampNeg (x2).toNatClampNeg) + (1 : Int32)) →
  (vp_in x1 40 ∧ (vp_in x2 5 ∧ ∀ σ17 : pr_Sg, σ17 = pr_up σ15 1066 (x1).toNatClampNeg (x2).toNatClampNeg (σ15 576 0 0) →
  (vp_in x1 40 ∧ (vp_in x2 5 ∧ ∀ σ19 : pr_Sg, σ19 = pr_up σ17 1067 (x1).toNatClampNeg (x2).toNatClampNeg x3 →
  (∀ σ20 : pr_Sg, σ20 = pr_up σ19 610 0 0 ((σ19 610 0 0) + (1 : Int32)) →
  (wp_X9_isDone g σ20 x1 (fun r21 σ21 =>
  ((r21 = 0 → Q (0 : Int32) σ21) ∧
  (¬ r21 = 0 → (vp_in x1 40 ∧ ∀ σ23 : pr_Sg, σ23 = pr_up σ21 1053 0 (x1).toNatClampNeg (σ21 576 0 0) →
  (vp_in x1 40 ∧ (vp_in (σ23 1050 0 (x1).toNatClampNeg) 20 ∧ (vp_in x1 40 ∧ (vp_in x1 40 ∧ (vp_in (σ23 1050 0 (x1).toNatClampNeg) 20 ∧ ∀ σ24 : pr_Sg, σ24 = pr_up σ23 1049 0 ((σ23 1050 0 (x1).toNatClampNeg)).toNatClampNeg ((σ23 1049 0 ((σ23 1050 0 (x1).toNatClampNeg)).toNatClampNeg) + ((σ23 1051 0 (x1).toNatClampNeg) - ((σ23 1051 0 (x1).toNatClampNeg) / (2 : Int32)))) →
  Q (0 : Int32) σ24))))))))))))))))))))) ∧
  ((σ 1044 0 (x3).toNatClampNeg) = (σ 576 0 0) → (vp_in x3 7 ∧ (vp_in x3 7 ∧ ∀ σ25 : pr_Sg, σ25 = pr_up σ 1045 0 (x3).toNatClampNeg ((σ 1045 0 (x3).toNatClampNeg) + (1 : Int32)) →
  (vp_in x3 7 ∧ ∀ σ26 : pr_Sg, σ26 = pr_up σ25 1044 0 (x3).toNatClampNeg (σ25 576 0 0) →
  (vp_in x1 40 ∧ (vp_in x2 5 ∧ (vp_in x2 5 ∧ ∀ σ28 : pr_Sg, σ28 = pr_up σ26 1065 (x1).toNatClampNeg (x2).toNatClampNeg ((σ26 1065 (x1).toNatClampNeg (x2).toNatClampNeg) + (1 : Int32)) →
  (vp_in x1 40 ∧ (vp_in x2 5 ∧ ∀ σ30 : pr_Sg, σ30 = pr_up σ28 1066 (x1).toNatClampNeg (x2).toNatClampNeg (σ28 576 0 0) →
  (vp_in x1 40 ∧ (vp_in x2 5 ∧ ∀ σ32 : pr_Sg, σ32 = pr_up σ30 1067 (x1).toNatClampNeg (x2).toNatClampNeg x3 →
  (∀ σ33 : pr_Sg, σ33 = pr_up σ32 610 0 0 ((σ32 610 0 0) + (1 : Int32)) →
  (wp_X9_isDone g σ33 x1 (fun r34 σ34 =>
  ((r34 = 0 → Q (0 : Int32) σ34) ∧
  (¬ r34 = 0 → (vp_in x1 40 ∧ ∀ σ36 : pr_Sg, σ36 = pr_up σ34 1053 0 (x1).toNatClampNeg (σ34 576 0 0) →
  (vp_in x1 40 ∧ (vp_in (σ36 1050 0 (x1).toNatClampNeg) 20 ∧ (vp_in x1 40 ∧ (vp_in x1 40 ∧ (vp_in (σ36 1050 0 (x1).toNatClampNeg) 20 ∧ ∀ σ37 : pr_Sg, σ37 = pr_up σ36 1049 0 ((σ36 1050 0 (x1).toNatClampNeg)).toNatClampNeg ((σ36 1049 0 ((σ36 1050 0 (x1).toNatClampNeg)).toNatClampNeg) + ((σ36 1051 0 (x1).toNatClampNeg) - ((σ36 1051 0 (x1).toNatClampNeg) / (2 : Int32)))) →
  Q (0 : Int32) σ37))))))))))))))))))))))))
set_option maxHeartbeats 4000000 in
set_option maxRecDepth 100000 in
theorem t_X9_paint_L105 {p : Program} {l : Launch} {e : Env} {s : State} {m : MethodId} {args : Array Value} {below : List Frame} {meth : Method} {c : Code} {D : va_G} {cs : Nat → ClassId} {A : Nat → Prop} {ad : pr_Ad} {g : Nat → Nat} {Q : Int32 → pr_Sg → Prop} (C : pr_C RX9 cX9_paint 5 (some .int) D cs p s m args meth c) {H : Heap} {locs : List Loc} {ls : Array Slot} {σ : pr_Sg} {x1 : Int32} {x2 : Int32} {x3 : Int32} (h : wp_X9_paint_L105 g Q σ x1 x2 x3) (hR : pr_R D cs A ad g σ H) (hS : va_S A s.heap H locs) (hl : lv_has ls 5 [(0, .ref (ad 9 0 0)), (1, .int x1), (2, .int x2), (3, .int x3)]) : W p l e rm_X9_paint s m args below meth c H locs 0 0 (MQ below (va_Qi Q (pr_E D cs A ad g) A) args s 0 0 A) (F0 m 105 ls []) := by
  unfold wp_X9_paint_L105 at h
  obtain ⟨hx, hb, hml, hown, hts, hK, hr, hlocks⟩ := id C
  refine lv_aload_n hx hb dX9_paint_105 rfl (lv_at hl 0 rfl) ?_
  refine gf_RX9_25 C hR pr_l9 dX9_paint_106 ?_
  refine lv_iload_n hx hb dX9_paint_109 rfl (lv_at hl 3 rfl) ?_
  refine lv_aload_n hx hb dX9_paint_110 rfl (lv_at hl 0 rfl) ?_
  refine gf_RX9_22 C hR pr_l9 dX9_paint_111 ?_
  refine lv_iload_n hx hb dX9_paint_114 rfl (lv_at hl 3 rfl) ?_
  refine pr_ald hx hb hK hR pr_l44 (by omega) (by omega) (n := 7) (by decide) h.1 dX9_paint_115 (t := 1044) rfl ?_
  have h := h.2
  refine lv_aload_n hx hb dX9_paint_116 rfl (lv_at hl 0 rfl) ?_
  refine gf_RX9_128 C hR pr_l9 dX9_paint_117 ?_
  refine lv_icmp_ne (tgt := 134) hx hb dX9_paint_120 (by decide) (fun c11 => ?_) (fun c11 => ?_)
  · have h := h.1 c11
    refine lv_iconst (v := (1 : Int32)) hx hb dX9_paint_134 (by decide) ?_
    refine pr_ast hx hb hK hR hS pr_l45 (by omega) (by omega) (n := 7) (by decide) h.1 dX9_paint_135 (t := 1045) rfl (fun H locs σ12 e12 hR hS => ?_)
    have h := h.2 σ12 e12
    refine lv_aload_n hx hb dX9_paint_136 rfl (lv_at hl 0 rfl) ?_
    refine gf_RX9_22 C hR pr_l9 dX9_paint_137 ?_
    refine lv_iload_n hx hb dX9_paint_140 rfl (lv_at hl 3 rfl) ?_
    refine lv_aload_n hx hb dX9_paint_141 rfl (lv_at hl 0 rfl) ?_
    refine gf_RX9_128 C hR pr_l9 dX9_paint_142 ?_
    refine pr_ast hx hb hK hR hS pr_l44 (by omega) (by omega) (n := 7) (by decide) h.1 dX9_paint_145 (t := 1044) rfl (fun H locs σ13 e13 hR hS => ?_)
    have h := h.2 σ13 e13
    refine lv_aload_n hx hb dX9_paint_146 rfl (lv_at hl 0 rfl) ?_
    refine gf_RX9_67 C hR pr_l9 dX9_paint_147 ?_
    refine lv_iload_n hx hb dX9_paint_150 rfl (lv_at hl 1 rfl) ?_
    refine pr_ldg hx hb hK hR 85 (by omega) (kd := 65) rfl h.1 dX9_paint_151 (fun hv14 => ?_)
    have h := h.2
    refine lv_iload_n hx hb dX9_paint_152 rfl (lv_at hl 2 rfl) ?_
    refine lv_dup2_11 hx hb dX9_paint_153 rfl rfl ?_
    refine pr_ald hx hb hK hR hv14 (by omega) (by omega) (n := 5) (by decide) h.1 dX9_paint_154 (t := 1065) rfl ?_
    have h := h.2
    refine lv_iconst (v := (1 : Int32)) hx hb dX9_paint_155 (by decide) ?_
    refine lv_iadd hx hb dX9_paint_156 ?_
    refine pr_ast hx hb hK hR hS hv14 (by omega) (by omega) (n := 5) (by decide) h.1 dX9_paint_157 (t := 1065) rfl (fun H locs σ15 e15 hR hS => ?_)
    have h := h.2 σ15 e15
    refine lv_aload_n hx hb dX9_paint_158 rfl (lv_at hl 0 rfl) ?_
    refine gf_RX9_70 C hR pr_l9 dX9_paint_159 ?_
    refine lv_iload_n hx hb dX9_paint_162 rfl (lv_at hl 1 rfl) ?_
    refine pr_ldg hx hb hK hR 86 (by omega) (kd := 66) rfl h.1 dX9_paint_163 (fun hv16 => ?_)
    have h := h.2
    refine lv_iload_n hx hb dX9_paint_164 rfl (lv_at hl 2 rfl) ?_
    refine lv_aload_n hx hb dX9_paint_165 rfl (lv_at hl 0 rfl) ?_
    refine gf_RX9_128 C hR pr_l9 dX9_paint_166 ?_
    refine pr_ast hx hb hK hR hS hv16 (by omega) (by omega) (n := 5) (by decide) h.1 dX9_paint_169 (t := 1066) rfl (fun H locs σ17 e17 hR hS => ?_)
    have h := h.2 σ17 e17
    refine lv_aload_n hx hb dX9_paint_170 rfl (lv_at hl 0 rfl) ?_
    refine gf_RX9_73 C hR pr_l9 dX9_paint_171 ?_
    refine lv_iload_n hx hb dX9_paint_174 rfl (lv_at hl 1 rfl) ?_
    refine pr_ldg hx hb hK hR 87 (by omega) (kd := 67) rfl h.1 dX9_paint_175 (fun hv18 => ?_)
    have h := h.2
    refine lv_iload_n hx hb dX9_paint_176 rfl (lv_at hl 2 rfl) ?_
    refine lv_iload_n hx hb dX9_paint_177 rfl (lv_at hl 3 rfl) ?_
    refine pr_ast hx hb hK hR hS hv18 (by omega) (by omega) (n := 5) (by decide) h.1 dX9_paint_178 (t := 1067) rfl (fun H locs σ19 e19 hR hS => ?_)
    have h := h.2 σ19 e19
    refine lv_aload_n hx hb dX9_paint_179 rfl (lv_at hl 0 rfl) ?_
    refine lv_dup hx hb dX9_paint_180 rfl ?_
    refine gf_RX9_179 C hR pr_l9 dX9_paint_181 ?_
    refine lv_iconst (v := (1 : Int32)) hx hb dX9_paint_184 (by decide) ?_
    refine lv_iadd hx hb dX9_paint_185 ?_
    refine pf_RX9_179 C hR hS pr_l9 dX9_paint_186 (fun H locs σ20 e20 hR hS => ?_)
    have h := h σ20 e20
    refine lv_aload_n hx hb dX9_paint_189 rfl (lv_at hl 0 rfl) ?_
    refine lv_iload_n hx hb dX9_paint_190 rfl (lv_at hl 1 rfl) ?_
    refine pr_calli hS (pr_runV (As := [.int x1]) (rest := []) C hR pr_l9 (by omega) rfl (c_X9_isDone h) gw_RX9_182 rfl rfl hd_X9_isDone ⟨Nat.le_of_ble_eq_true rfl, Nat.le_of_ble_eq_true rfl⟩ rfl hl.1 rfl (Nat.le_of_ble_eq_true rfl) dX9_paint_191 ⟨Nat.zero_le _, Nat.zero_le _⟩) (fun r21 σ21 H locs h hR hS => ?_)
    obtain ⟨hz21, h⟩ := h
    refine lv_if_eq (tgt := 236) hx hb dX9_paint_194 (by decide) (fun c22 => ?_) (fun c22 => ?_)
    · have h := h.1 c22
      refine lv_iconst (v := (0 : Int32)) hx hb dX9_paint_236 (by decide) ?_
      exact pr_reti C h hR hS dX9_paint_237
    · have h := h.2 c22
      refine lv_aload_n hx hb dX9_paint_197 rfl (lv_at hl 0 rfl) ?_
      refine gf_RX9_53 C hR pr_l9 dX9_paint_198 ?_
      refine lv_iload_n hx hb dX9_paint_201 rfl (lv_at hl 1 rfl) ?_
      refine lv_aload_n hx hb dX9_paint_202 rfl (lv_at hl 0 rfl) ?_
      refine gf_RX9_128 C hR pr_l9 dX9_paint_203 ?_
      refine pr_ast hx hb hK hR hS pr_l53 (by omega) (by omega) (n := 40) (by decide) h.1 dX9_paint_206 (t := 1053) rfl (fun H locs σ23 e23 hR hS => ?_)
      have h := h.2 σ23 e23
      refine lv_aload_n hx hb dX9_paint_207 rfl (lv_at hl 0 rfl) ?_
      refine gf_RX9_41 C hR pr_l9 dX9_paint_208 ?_
      refine lv_aload_n hx hb dX9_paint_211 rfl (lv_at hl 0 rfl) ?_
      refine gf_RX9_44 C hR pr_l9 dX9_paint_212 ?_
      refine lv_iload_n hx hb dX9_paint_215 rfl (lv_at hl 1 rfl) ?_
      refine pr_ald hx hb hK hR pr_l50 (by omega) (by omega) (n := 40) (by decide) h.1 dX9_paint_216 (t := 1050) rfl ?_
      have h := h.2
      refine lv_dup2_11 hx hb dX9_paint_217 rfl rfl ?_
      refine pr_ald hx hb hK hR pr_l49 (by omega) (by omega) (n := 20) (by decide) h.1 dX9_paint_218 (t := 1049) rfl ?_
      have h := h.2
      refine lv_aload_n hx hb dX9_paint_219 rfl (lv_at hl 0 rfl) ?_
      refine gf_RX9_47 C hR pr_l9 dX9_paint_220 ?_
      refine lv_iload_n hx hb dX9_paint_223 rfl (lv_at hl 1 rfl) ?_
      refine pr_ald hx hb hK hR pr_l51 (by omega) (by omega) (n := 40) (by decide) h.1 dX9_paint_224 (t := 1051) rfl ?_
      have h := h.2
      refine lv_aload_n hx hb dX9_paint_225 rfl (lv_at hl 0 rfl) ?_
      refine gf_RX9_47 C hR pr_l9 dX9_paint_226 ?_
      refine lv_iload_n hx hb dX9_paint_229 rfl (lv_at hl 1 rfl) ?_
      refine pr_ald hx hb hK hR pr_l51 (by omega) (by omega) (n := 40) (by decide) h.1 dX9_paint_230 (t := 1051) rfl ?_
      have h := h.2
      refine lv_iconst (v := (2 : Int32)) hx hb dX9_paint_231 (by decide) ?_
      refine lv_idiv hx hb dX9_paint_232 (by decide) ?_
      refine lv_isub hx hb dX9_paint_233 ?_
      refine lv_iadd hx hb dX9_paint_234 ?_
      refine pr_ast hx hb hK hR hS pr_l49 (by omega) (by omega) (n := 20) (by decide) h.1 dX9_paint_235 (t := 1049) rfl (fun H locs σ24 e24 hR hS => ?_)
      have h := h.2 σ24 e24
      refine lv_iconst (v := (0 : Int32)) hx hb dX9_paint_236 (by decide) ?_
      exact pr_reti C h hR hS dX9_paint_237
  · have h := h.2 c11
    refine lv_aload_n hx hb dX9_paint_123 rfl (lv_at hl 0 rfl) ?_
    refine gf_RX9_25 C hR pr_l9 dX9_paint_124 ?_
    refine lv_iload_n hx hb dX9_paint_127 rfl (lv_at hl 3 rfl) ?_
    refine pr_ald hx hb hK hR pr_l45 (by omega) (by omega) (n := 7) (by decide) h.1 dX9_paint_128 (t := 1045) rfl ?_
    have h := h.2
    refine lv_iconst (v := (1 : Int32)) hx hb dX9_paint_129 (by decide) ?_
    refine lv_iadd hx hb dX9_paint_130 ?_
    refine lv_goto (tgt := 135) hx hb dX9_paint_131 (by decide) ?_
    refine pr_ast hx hb hK hR hS pr_l45 (by omega) (by omega) (n := 7) (by decide) h.1 dX9_paint_135 (t := 1045) rfl (fun H locs σ25 e25 hR hS => ?_)
    have h := h.2 σ25 e25
    refine lv_aload_n hx hb dX9_paint_136 rfl (lv_at hl 0 rfl) ?_
    refine gf_RX9_22 C hR pr_l9 dX9_paint_137 ?_
    refine lv_iload_n hx hb dX9_paint_140 rfl (lv_at hl 3 rfl) ?_
    refine lv_aload_n hx hb dX9_paint_141 rfl (lv_at hl 0 rfl) ?_
    refine gf_RX9_128 C hR pr_l9 dX9_paint_142 ?_
    refine pr_ast hx hb hK hR hS pr_l44 (by omega) (by omega) (n := 7) (by decide) h.1 dX9_paint_145 (t := 1044) rfl (fun H locs σ26 e26 hR hS => ?_)
    have h := h.2 σ26 e26
    refine lv_aload_n hx hb dX9_paint_146 rfl (lv_at hl 0 rfl) ?_
    refine gf_RX9_67 C hR pr_l9 dX9_paint_147 ?_
    refine lv_iload_n hx hb dX9_paint_150 rfl (lv_at hl 1 rfl) ?_
    refine pr_ldg hx hb hK hR 85 (by omega) (kd := 65) rfl h.1 dX9_paint_151 (fun hv27 => ?_)
    have h := h.2
    refine lv_iload_n hx hb dX9_paint_152 rfl (lv_at hl 2 rfl) ?_
    refine lv_dup2_11 hx hb dX9_paint_153 rfl rfl ?_
    refine pr_ald hx hb hK hR hv27 (by omega) (by omega) (n := 5) (by decide) h.1 dX9_paint_154 (t := 1065) rfl ?_
    have h := h.2
    refine lv_iconst (v := (1 : Int32)) hx hb dX9_paint_155 (by decide) ?_
    refine lv_iadd hx hb dX9_paint_156 ?_
    refine pr_ast hx hb hK hR hS hv27 (by omega) (by omega) (n := 5) (by decide) h.1 dX9_paint_157 (t := 1065) rfl (fun H locs σ28 e28 hR hS => ?_)
    have h := h.2 σ28 e28
    refine lv_aload_n hx hb dX9_paint_158 rfl (lv_at hl 0 rfl) ?_
    refine gf_RX9_70 C hR pr_l9 dX9_paint_159 ?_
    refine lv_iload_n hx hb dX9_paint_162 rfl (lv_at hl 1 rfl) ?_
    refine pr_ldg hx hb hK hR 86 (by omega) (kd := 66) rfl h.1 dX9_paint_163 (fun hv29 => ?_)
    have h := h.2
    refine lv_iload_n hx hb dX9_paint_164 rfl (lv_at hl 2 rfl) ?_
    refine lv_aload_n hx hb dX9_paint_165 rfl (lv_at hl 0 rfl) ?_
    refine gf_RX9_128 C hR pr_l9 dX9_paint_166 ?_
    refine pr_ast hx hb hK hR hS hv29 (by omega) (by omega) (n := 5) (by decide) h.1 dX9_paint_169 (t := 1066) rfl (fun H locs σ30 e30 hR hS => ?_)
    have h := h.2 σ30 e30
    refine lv_aload_n hx hb dX9_paint_170 rfl (lv_at hl 0 rfl) ?_
    refine gf_RX9_73 C hR pr_l9 dX9_paint_171 ?_
    refine lv_iload_n hx hb dX9_paint_174 rfl (lv_at hl 1 rfl) ?_
    refine pr_ldg hx hb hK hR 87 (by omega) (kd := 67) rfl h.1 dX9_paint_175 (fun hv31 => ?_)
    have h := h.2
    refine lv_iload_n hx hb dX9_paint_176 rfl (lv_at hl 2 rfl) ?_
    refine lv_iload_n hx hb dX9_paint_177 rfl (lv_at hl 3 rfl) ?_
    refine pr_ast hx hb hK hR hS hv31 (by omega) (by omega) (n := 5) (by decide) h.1 dX9_paint_178 (t := 1067) rfl (fun H locs σ32 e32 hR hS => ?_)
    have h := h.2 σ32 e32
    refine lv_aload_n hx hb dX9_paint_179 rfl (lv_at hl 0 rfl) ?_
    refine lv_dup hx hb dX9_paint_180 rfl ?_
    refine gf_RX9_179 C hR pr_l9 dX9_paint_181 ?_
    refine lv_iconst (v := (1 : Int32)) hx hb dX9_paint_184 (by decide) ?_
    refine lv_iadd hx hb dX9_paint_185 ?_
    refine pf_RX9_179 C hR hS pr_l9 dX9_paint_186 (fun H locs σ33 e33 hR hS => ?_)
    have h := h σ33 e33
    refine lv_aload_n hx hb dX9_paint_189 rfl (lv_at hl 0 rfl) ?_
    refine lv_iload_n hx hb dX9_paint_190 rfl (lv_at hl 1 rfl) ?_
    refine pr_calli hS (pr_runV (As := [.int x1]) (rest := []) C hR pr_l9 (by omega) rfl (c_X9_isDone h) gw_RX9_182 rfl rfl hd_X9_isDone ⟨Nat.le_of_ble_eq_true rfl, Nat.le_of_ble_eq_true rfl⟩ rfl hl.1 rfl (Nat.le_of_ble_eq_true rfl) dX9_paint_191 ⟨Nat.zero_le _, Nat.zero_le _⟩) (fun r34 σ34 H locs h hR hS => ?_)
    obtain ⟨hz34, h⟩ := h
    refine lv_if_eq (tgt := 236) hx hb dX9_paint_194 (by decide) (fun c35 => ?_) (fun c35 => ?_)
    · have h := h.1 c35
      refine lv_iconst (v := (0 : Int32)) hx hb dX9_paint_236 (by decide) ?_
      exact pr_reti C h hR hS dX9_paint_237
    · have h := h.2 c35
      refine lv_aload_n hx hb dX9_paint_197 rfl (lv_at hl 0 rfl) ?_
      refine gf_RX9_53 C hR pr_l9 dX9_paint_198 ?_
      refine lv_iload_n hx hb dX9_paint_201 rfl (lv_at hl 1 rfl) ?_
      refine lv_aload_n hx hb dX9_paint_202 rfl (lv_at hl 0 rfl) ?_
      refine gf_RX9_128 C hR pr_l9 dX9_paint_203 ?_
      refine pr_ast hx hb hK hR hS pr_l53 (by omega) (by omega) (n := 40) (by decide) h.1 dX9_paint_206 (t := 1053) rfl (fun H locs σ36 e36 hR hS => ?_)
      have h := h.2 σ36 e36
      refine lv_aload_n hx hb dX9_paint_207 rfl (lv_at hl 0 rfl) ?_
      refine gf_RX9_41 C hR pr_l9 dX9_paint_208 ?_
      refine lv_aload_n hx hb dX9_paint_211 rfl (lv_at hl 0 rfl) ?_
      refine gf_RX9_44 C hR pr_l9 dX9_paint_212 ?_
      refine lv_iload_n hx hb dX9_paint_215 rfl (lv_at hl 1 rfl) ?_
      refine pr_ald hx hb hK hR pr_l50 (by omega) (by omega) (n := 40) (by decide) h.1 dX9_paint_216 (t := 1050) rfl ?_
      have h := h.2
      refine lv_dup2_11 hx hb dX9_paint_217 rfl rfl ?_
      refine pr_ald hx hb hK hR pr_l49 (by omega) (by omega) (n := 20) (by decide) h.1 dX9_paint_218 (t := 1049) rfl ?_
      have h := h.2
      refine lv_aload_n hx hb dX9_paint_219 rfl (lv_at hl 0 rfl) ?_
      refine gf_RX9_47 C hR pr_l9 dX9_paint_220 ?_
      refine lv_iload_n hx hb dX9_paint_223 rfl (lv_at hl 1 rfl) ?_
      refine pr_ald hx hb hK hR pr_l51 (by omega) (by omega) (n := 40) (by decide) h.1 dX9_paint_224 (t := 1051) rfl ?_
      have h := h.2
      refine lv_aload_n hx hb dX9_paint_225 rfl (lv_at hl 0 rfl) ?_
      refine gf_RX9_47 C hR pr_l9 dX9_paint_226 ?_
      refine lv_iload_n hx hb dX9_paint_229 rfl (lv_at hl 1 rfl) ?_
      refine pr_ald hx hb hK hR pr_l51 (by omega) (by omega) (n := 40) (by decide) h.1 dX9_paint_230 (t := 1051) rfl ?_
      have h := h.2
      refine lv_iconst (v := (2 : Int32)) hx hb dX9_paint_231 (by decide) ?_
      refine lv_idiv hx hb dX9_paint_232 (by decide) ?_
      refine lv_isub hx hb dX9_paint_233 ?_
      refine lv_iadd hx hb dX9_paint_234 ?_
      refine pr_ast hx hb hK hR hS pr_l49 (by omega) (by omega) (n := 20) (by decide) h.1 dX9_paint_235 (t := 1049) rfl (fun H locs σ37 e37 hR hS => ?_)
      have h := h.2 σ37 e37
      refine lv_iconst (v := (0 : Int32)) hx hb dX9_paint_236 (by decide) ?_
      exact pr_reti C h hR hS dX9_paint_237
def wp_X9_paint_L63 (g : Nat → Nat) (Q : Int32 → pr_Sg → Prop) (σ : pr_Sg) (x1 : Int32) (x2 : Int32) (x3 : Int32) : Prop :=
  ((¬ x2 = (2 : Int32) → wp_X9_paint_L105 g Q σ x1 x2 x3) ∧
  (x2 = (2 : Int32) → (vp_in x1 40 ∧ (((σ 1054 0 (x1).toNatClampNeg) = (-1 : Int32) → wp_X9_paint_L105 g Q σ x1 x2 x3) ∧
  (¬ (σ 1054 0 (x1).toNatClampNeg) = (-1 : Int32) → (vp_in x1 40 ∧ (vp_in (σ 1054 0 (x1).toNatClampNeg) 5 ∧ ∀ σ39 : pr_Sg, σ39 = pr_up σ 1056 0 ((σ 1054 0 (x1).toNatClampNeg)).toNatClampNeg (σ 576 0 0) →
  (vp_in x1 40 ∧ (vp_in (σ39 1054 0 (x1).toNatClampNeg) 5 ∧ ∀ σ40 : pr_Sg, σ40 = pr_up σ39 1057 0 ((σ39 1054 0 (x1).toNatClampNeg)).toNatClampNeg x1 →
  wp_X9_paint_L105 g Q σ40 x1 x2 x3)))))))))
set_option maxHeartbeats 4000000 in
set_option maxRecDepth 100000 in
theorem t_X9_paint_L63 {p : Program} {l : Launch} {e : Env} {s : State} {m : MethodId} {args : Array Value} {below : List Frame} {meth : Method} {c : Code} {D : va_G} {cs : Nat → ClassId} {A : Nat → Prop} {ad : pr_Ad} {g : Nat → Nat} {Q : Int32 → pr_Sg → Prop} (C : pr_C RX9 cX9_paint 5 (some .int) D cs p s m args meth c) {H : Heap} {locs : List Loc} {ls : Array Slot} {σ : pr_Sg} {x1 : Int32} {x2 : Int32} {x3 : Int32} (h : wp_X9_paint_L63 g Q σ x1 x2 x3) (hR : pr_R D cs A ad g σ H) (hS : va_S A s.heap H locs) (hl : lv_has ls 5 [(0, .ref (ad 9 0 0)), (1, .int x1), (2, .int x2), (3, .int x3)]) : W p l e rm_X9_paint s m args below meth c H locs 0 0 (MQ below (va_Qi Q (pr_E D cs A ad g) A) args s 0 0 A) (F0 m 63 ls []) := by
  unfold wp_X9_paint_L63 at h
  obtain ⟨hx, hb, hml, hown, hts, hK, hr, hlocks⟩ := id C
  refine lv_iload_n hx hb dX9_paint_63 rfl (lv_at hl 2 rfl) ?_
  refine lv_iconst (v := (2 : Int32)) hx hb dX9_paint_64 (by decide) ?_
  refine lv_icmp_ne (tgt := 105) hx hb dX9_paint_65 (by decide) (fun c10 => ?_) (fun c10 => ?_)
  · have h := h.1 c10
    exact t_X9_paint_L105 C h hR hS (lv_sub hl [0, 1, 2, 3] rfl)
  · have h := h.2 c10
    refine lv_aload_n hx hb dX9_paint_68 rfl (lv_at hl 0 rfl) ?_
    refine gf_RX9_56 C hR pr_l9 dX9_paint_69 ?_
    refine lv_iload_n hx hb dX9_paint_72 rfl (lv_at hl 1 rfl) ?_
    refine pr_ald hx hb hK hR pr_l54 (by omega) (by omega) (n := 40) (by decide) h.1 dX9_paint_73 (t := 1054) rfl ?_
    have h := h.2
    refine lv_iconst (v := (-1 : Int32)) hx hb dX9_paint_74 (by decide) ?_
    refine lv_icmp_eq (tgt := 105) hx hb dX9_paint_75 (by decide) (fun c38 => ?_) (fun c38 => ?_)
    · have h := h.1 c38
      exact t_X9_paint_L105 C h hR hS (lv_sub hl [0, 1, 2, 3] rfl)
    · have h := h.2 c38
      refine lv_aload_n hx hb dX9_paint_78 rfl (lv_at hl 0 rfl) ?_
      refine gf_RX9_79 C hR pr_l9 dX9_paint_79 ?_
      refine lv_aload_n hx hb dX9_paint_82 rfl (lv_at hl 0 rfl) ?_
      refine gf_RX9_56 C hR pr_l9 dX9_paint_83 ?_
      refine lv_iload_n hx hb dX9_paint_86 rfl (lv_at hl 1 rfl) ?_
      refine pr_ald hx hb hK hR pr_l54 (by omega) (by omega) (n := 40) (by decide) h.1 dX9_paint_87 (t := 1054) rfl ?_
      have h := h.2
      refine lv_aload_n hx hb dX9_paint_88 rfl (lv_at hl 0 rfl) ?_
      refine gf_RX9_128 C hR pr_l9 dX9_paint_89 ?_
      refine pr_ast hx hb hK hR hS pr_l56 (by omega) (by omega) (n := 5) (by decide) h.1 dX9_paint_92 (t := 1056) rfl (fun H locs σ39 e39 hR hS => ?_)
      have h := h.2 σ39 e39
      refine lv_aload_n hx hb dX9_paint_93 rfl (lv_at hl 0 rfl) ?_
      refine gf_RX9_82 C hR pr_l9 dX9_paint_94 ?_
      refine lv_aload_n hx hb dX9_paint_97 rfl (lv_at hl 0 rfl) ?_
      refine gf_RX9_56 C hR pr_l9 dX9_paint_98 ?_
      refine lv_iload_n hx hb dX9_paint_101 rfl (lv_at hl 1 rfl) ?_
      refine pr_ald hx hb hK hR pr_l54 (by omega) (by omega) (n := 40) (by decide) h.1 dX9_paint_102 (t := 1054) rfl ?_
      have h := h.2
      refine lv_iload_n hx hb dX9_paint_103 rfl (lv_at hl 1 rfl) ?_
      refine pr_ast hx hb hK hR hS pr_l57 (by omega) (by omega) (n := 5) (by decide) h.1 dX9_paint_104 (t := 1057) rfl (fun H locs σ40 e40 hR hS => ?_)
      have h := h.2 σ40 e40
      exact t_X9_paint_L105 C h hR hS (lv_sub hl [0, 1, 2, 3] rfl)
def wpb_X9_paint (g : Nat → Nat) (σ : pr_Sg) (a1 : Int32) (a2 : Int32) (a3 : Int32) (Q : Int32 → pr_Sg → Prop) : Prop :=
  (wp_X9_isPicture g σ a1 (fun r1 σ1 =>
  ((r1 = 0 → Q (-1 : Int32) σ1) ∧
  (¬ r1 = 0 → (wp_X9_in g σ1 a2 (0 : Int32) (4 : Int32) (fun r3 σ3 =>
  ((r3 = 0 → Q (-1 : Int32) σ3) ∧
  (¬ r3 = 0 → (wp_X9_isHand g σ3 a3 (fun r5 σ5 =>
  ((¬ r5 = 0 → (wp_X9_against g σ5 a1 a2 a3 (fun r7 σ7 =>
  ((r7 ≤ 0 → ((¬ a2 = 0 → wp_X9_paint_L63 g Q σ7 a1 a2 a3) ∧
  (a2 = 0 → (wp_X9_unused g σ7 a1 (σ7 576 0 0) (fun r41 σ41 =>
  (vp_in r41 200 ∧ ∀ σ42 : pr_Sg, σ42 = pr_up σ41 1071 0 (r41).toNatClampNeg (vp_nar .boolean (1 : Int32)) →
  wp_X9_paint_L63 g Q σ42 a1 a2 a3)))))) ∧
  (¬ r7 ≤ 0 → Q r7 σ7))))) ∧
  (r5 = 0 → Q (-1 : Int32) σ5))))))))))))
set_option maxHeartbeats 4000000 in
set_option maxRecDepth 100000 in
theorem t_X9_paint {p : Program} {l : Launch} {e : Env} {s : State} {m : MethodId} {args : Array Value} {below : List Frame} {meth : Method} {c : Code} {D : va_G} {cs : Nat → ClassId} {A : Nat → Prop} {ad : pr_Ad} {g : Nat → Nat} {Q : Int32 → pr_Sg → Prop} (C : pr_C RX9 cX9_paint 5 (some .int) D cs p s m args meth c) {H : Heap} {locs : List Loc} {ls : Array Slot} {σ : pr_Sg} {a1 : Int32} {a2 : Int32} {a3 : Int32} (h : wpb_X9_paint g σ a1 a2 a3 Q) (hR : pr_R D cs A ad g σ H) (hS : va_S A s.heap H locs) (hl : lv_has ls 5 [(0, .ref (ad 9 0 0)), (1, .int a1), (2, .int a2), (3, .int a3)]) : W p l e rm_X9_paint s m args below meth c H locs 0 0 (MQ below (va_Qi Q (pr_E D cs A ad g) A) args s 0 0 A) (F0 m 0 ls []) := by
  unfold wpb_X9_paint at h
  obtain ⟨hx, hb, hml, hown, hts, hK, hr, hlocks⟩ := id C
  refine lv_aload_n hx hb dX9_paint_0 rfl (lv_at hl 0 rfl) ?_
  refine lv_iload_n hx hb dX9_paint_1 rfl (lv_at hl 1 rfl) ?_
  refine pr_calli hS (pr_runV (As := [.int a1]) (rest := []) C hR pr_l9 (by omega) rfl (c_X9_isPicture h) gw_RX9_157 rfl rfl hd_X9_isPicture ⟨Nat.le_of_ble_eq_true rfl, Nat.le_of_ble_eq_true rfl⟩ rfl hl.1 rfl (Nat.le_of_ble_eq_true rfl) dX9_paint_2 ⟨Nat.zero_le _, Nat.zero_le _⟩) (fun r1 σ1 H locs h hR hS => ?_)
  obtain ⟨hz1, h⟩ := h
  refine lv_if_eq (tgt := 25) hx hb dX9_paint_5 (by decide) (fun c2 => ?_) (fun c2 => ?_)
  · have h := h.1 c2
    refine lv_iconst (v := (-1 : Int32)) hx hb dX9_paint_25 (by decide) ?_
    exact pr_reti C h hR hS dX9_paint_26
  · have h := h.2 c2
    refine lv_iload_n hx hb dX9_paint_8 rfl (lv_at hl 2 rfl) ?_
    refine lv_iconst (v := (0 : Int32)) hx hb dX9_paint_9 (by decide) ?_
    refine lv_iconst (v := (4 : Int32)) hx hb dX9_paint_10 (by decide) ?_
    refine pr_calli hS (pr_runS (As := [.int a2, .int (0 : Int32), .int (4 : Int32)]) (rest := []) C hR (c_X9_in h) gw_RX9_113 rfl rfl hs_X9_in ⟨Nat.le_of_ble_eq_true rfl, Nat.le_of_ble_eq_true rfl⟩ rfl hl.1 rfl (Nat.le_of_ble_eq_true rfl) dX9_paint_11 ⟨Nat.zero_le _, Nat.zero_le _⟩) (fun r3 σ3 H locs h hR hS => ?_)
    obtain ⟨hz3, h⟩ := h
    refine lv_if_eq (tgt := 25) hx hb dX9_paint_14 (by decide) (fun c4 => ?_) (fun c4 => ?_)
    · have h := h.1 c4
      refine lv_iconst (v := (-1 : Int32)) hx hb dX9_paint_25 (by decide) ?_
      exact pr_reti C h hR hS dX9_paint_26
    · have h := h.2 c4
      refine lv_aload_n hx hb dX9_paint_17 rfl (lv_at hl 0 rfl) ?_
      refine lv_iload_n hx hb dX9_paint_18 rfl (lv_at hl 3 rfl) ?_
      refine pr_calli hS (pr_runV (As := [.int a3]) (rest := []) C hR pr_l9 (by omega) rfl (c_X9_isHand h) gw_RX9_172 rfl rfl hd_X9_isHand ⟨Nat.le_of_ble_eq_true rfl, Nat.le_of_ble_eq_true rfl⟩ rfl hl.1 rfl (Nat.le_of_ble_eq_true rfl) dX9_paint_19 ⟨Nat.zero_le _, Nat.zero_le _⟩) (fun r5 σ5 H locs h hR hS => ?_)
      obtain ⟨hz5, h⟩ := h
      refine lv_if_ne (tgt := 27) hx hb dX9_paint_22 (by decide) (fun c6 => ?_) (fun c6 => ?_)
      · have h := h.1 c6
        refine lv_aload_n hx hb dX9_paint_27 rfl (lv_at hl 0 rfl) ?_
        refine lv_iload_n hx hb dX9_paint_28 rfl (lv_at hl 1 rfl) ?_
        refine lv_iload_n hx hb dX9_paint_29 rfl (lv_at hl 2 rfl) ?_
        refine lv_iload_n hx hb dX9_paint_30 rfl (lv_at hl 3 rfl) ?_
        refine pr_calli hS (pr_runV (As := [.int a1, .int a2, .int a3]) (rest := []) C hR pr_l9 (by omega) rfl (c_X9_against h) gw_RX9_175 rfl rfl hd_X9_against ⟨Nat.le_of_ble_eq_true rfl, Nat.le_of_ble_eq_true rfl⟩ rfl hl.1 rfl (Nat.le_of_ble_eq_true rfl) dX9_paint_31 ⟨Nat.zero_le _, Nat.zero_le _⟩) (fun r7 σ7 H locs h hR hS => ?_)
        refine lv_istore (lv' := [(4, .int r7), (0, .ref (ad 9 0 0)), (1, .int a1), (2, .int a2), (3, .int a3)]) hx hb dX9_paint_34 hl (by decide) rfl (fun ls hl => ?_)
        refine lv_iload hx hb dX9_paint_36 (lv_at hl 0 rfl) ?_
        refine lv_if_le (tgt := 44) hx hb dX9_paint_38 (by decide) (fun c8 => ?_) (fun c8 => ?_)
        · have h := h.1 c8
          refine lv_iload_n hx hb dX9_paint_44 rfl (lv_at hl 3 rfl) ?_
          refine lv_if_ne (tgt := 63) hx hb dX9_paint_45 (by decide) (fun c9 => ?_) (fun c9 => ?_)
          · have h := h.1 c9
            exact t_X9_paint_L63 C h hR hS (lv_sub hl [1, 2, 3, 4] rfl)
          · have h := h.2 c9
            refine lv_aload_n hx hb dX9_paint_48 rfl (lv_at hl 1 rfl) ?_
            refine gf_RX9_94 C hR pr_l9 dX9_paint_49 ?_
            refine lv_aload_n hx hb dX9_paint_52 rfl (lv_at hl 1 rfl) ?_
            refine lv_iload_n hx hb dX9_paint_53 rfl (lv_at hl 2 rfl) ?_
            refine lv_aload_n hx hb dX9_paint_54 rfl (lv_at hl 1 rfl) ?_
            refine gf_RX9_128 C hR pr_l9 dX9_paint_55 ?_
            refine pr_calli hS (pr_runV (As := [.int a1, .int (σ7 576 0 0)]) (rest := [.ref (ad 71 0 0)]) C hR pr_l9 (by omega) rfl (c_X9_unused h) gw_RX9_166 rfl rfl hd_X9_unused ⟨Nat.le_of_ble_eq_true rfl, Nat.le_of_ble_eq_true rfl⟩ rfl hl.1 rfl (Nat.le_of_ble_eq_true rfl) dX9_paint_58 ⟨Nat.zero_le _, Nat.zero_le _⟩) (fun r41 σ41 H locs h hR hS => ?_)
            refine lv_iconst (v := (1 : Int32)) hx hb dX9_paint_61 (by decide) ?_
            refine pr_zst hx hb hK hR hS pr_l71 (by omega) (by omega) (n := 200) (by decide) h.1 dX9_paint_62 (t := 1071) rfl (fun H locs σ42 e42 hR hS => ?_)
            have h := h.2 σ42 e42
            exact t_X9_paint_L63 C h hR hS (lv_sub hl [1, 2, 3, 4] rfl)
        · have h := h.2 c8
          refine lv_iload hx hb dX9_paint_41 (lv_at hl 0 rfl) ?_
          exact pr_reti C h hR hS dX9_paint_43
      · have h := h.2 c6
        refine lv_iconst (v := (-1 : Int32)) hx hb dX9_paint_25 (by decide) ?_
        exact pr_reti C h hR hS dX9_paint_26
abbrev wp_X9_paint (g : Nat → Nat) (σ : pr_Sg) (a1 : Int32) (a2 : Int32) (a3 : Int32) (Q : Int32 → pr_Sg → Prop) : Prop := wpb_X9_paint g σ a1 a2 a3 Q
set_option maxHeartbeats 4000000 in
set_option maxRecDepth 100000 in
theorem c_X9_paint {l : Launch} {D : va_G} {cs : Nat → ClassId} {A : Nat → Prop} {ad : pr_Ad} {g : Nat → Nat} {σ : pr_Sg} {a1 : Int32} {a2 : Int32} {a3 : Int32} {Q : Int32 → pr_Sg → Prop} (h : wp_X9_paint g σ a1 a2 a3 Q) : pr_Mi l D cs A ad g yX9_paint cX9_paint 5 (some .int) rm_X9_paint [.ref (ad 9 0 0), .int a1, .int a2, .int a3] σ Q := by
  refine Met.ofW (cc := cX9_paint) (maxL := 5) (ret := (some .int)) (by decide) rfl ?_
  intro p e s m args below meth c s₁ B hml hv
  obtain ⟨rfl, hR, hK⟩ := hv
  have C : pr_C RX9 cX9_paint 5 (some .int) D cs p s m [.ref (ad 9 0 0), .int a1, .int a2, .int a3].toArray meth c := pr_C.of B hml hK
  have hS : va_S A s.heap s.heap [] := va_S.rf
  have hl := lv_entry ([.ref (ad 9 0 0), .int a1, .int a2, .int a3]) (n := 5) (Nat.le_of_ble_eq_true rfl)
  rw [lg_entry_eq]
  generalize (lg_sl ([.ref (ad 9 0 0), .int a1, .int a2, .int a3]) ++ List.replicate (5 - (lg_sl ([.ref (ad 9 0 0), .int a1, .int a2, .int a3])).length) Slot.unset).toArray = ls at hl ⊢
  have hl : lv_has ls 5 [(0, .ref (ad 9 0 0)), (1, .int a1), (2, .int a2), (3, .int a3)] := hl
  exact t_X9_paint C h hR hS hl
def rm_X9_pay : Room := { frames := 2, cells := 0, slots := 0, locals := 43 }
theorem hd_X9_pay : yX9_pay.cls = RX9 ∧ yX9_pay.cls ≠ "java/lang/invoke/MethodHandle" ∧ yX9_pay.cls ≠ "java/lang/invoke/VarHandle" ∧ (parseMethodDescriptor yX9_pay.desc).map (fun d => d.parameters.length) = some 2 := ⟨rfl, by decide, by decide, by decide +kernel⟩
def wpb_X9_pay (g : Nat → Nat) (σ : pr_Sg) (a1 : Int32) (a2 : Int32) (Q : Int32 → pr_Sg → Prop) : Prop :=
  (wp_X9_isSitter g σ a1 (fun r1 σ1 =>
  ((r1 = 0 → Q (-1 : Int32) σ1) ∧
  (¬ r1 = 0 → (vp_in a1 20 ∧ (wp_X9_in g σ1 a2 (1 : Int32) (σ1 1049 0 (a1).toNatClampNeg) (fun r3 σ3 =>
  ((¬ r3 = 0 → (vp_in a1 20 ∧ (vp_in a1 20 ∧ ∀ σ5 : pr_Sg, σ5 = pr_up σ3 1049 0 (a1).toNatClampNeg ((σ3 1049 0 (a1).toNatClampNeg) - a2) →
  (∀ σ6 : pr_Sg, σ6 = pr_up σ5 611 0 0 ((σ5 611 0 0) + a2) →
  (vp_in a1 20 ∧ Q (σ6 1049 0 (a1).toNatClampNeg) σ6))))) ∧
  (r3 = 0 → Q (-1 : Int32) σ3)))))))))
set_option maxHeartbeats 4000000 in
set_option maxRecDepth 100000 in
theorem t_X9_pay {p : Program} {l : Launch} {e : Env} {s : State} {m : MethodId} {args : Array Value} {below : List Frame} {meth : Method} {c : Code} {D : va_G} {cs : Nat → ClassId} {A : Nat → Prop} {ad : pr_Ad} {g : Nat → Nat} {Q : Int32 → pr_Sg → Prop} (C : pr_C RX9 cX9_pay 3 (some .int) D cs p s m args meth c) {H : Heap} {locs : List Loc} {ls : Array Slot} {σ : pr_Sg} {a1 : Int32} {a2 : Int32} (h : wpb_X9_pay g σ a1 a2 Q) (hR : pr_R D cs A ad g σ H) (hS : va_S A s.heap H locs) (hl : lv_has ls 3 [(0, .ref (ad 9 0 0)), (1, .int a1), (2, .int a2)]) : W p l e rm_X9_pay s m args below meth c H locs 0 0 (MQ below (va_Qi Q (pr_E D cs A ad g) A) args s 0 0 A) (F0 m 0 ls []) := by
  unfold wpb_X9_pay at h
  obtain ⟨hx, hb, hml, hown, hts, hK, hr, hlocks⟩ := id C
  refine lv_aload_n hx hb dX9_pay_0 rfl (lv_at hl 0 rfl) ?_
  refine lv_iload_n hx hb dX9_pay_1 rfl (lv_at hl 1 rfl) ?_
  refine pr_calli hS (pr_runV (As := [.int a1]) (rest := []) C hR pr_l9 (by omega) rfl (c_X9_isSitter h) gw_RX9_123 rfl rfl hd_X9_isSitter ⟨Nat.le_of_ble_eq_true rfl, Nat.le_of_ble_eq_true rfl⟩ rfl hl.1 rfl (Nat.le_of_ble_eq_true rfl) dX9_pay_2 ⟨Nat.zero_le _, Nat.zero_le _⟩) (fun r1 σ1 H locs h hR hS => ?_)
  obtain ⟨hz1, h⟩ := h
  refine lv_if_eq (tgt := 22) hx hb dX9_pay_5 (by decide) (fun c2 => ?_) (fun c2 => ?_)
  · have h := h.1 c2
    refine lv_iconst (v := (-1 : Int32)) hx hb dX9_pay_22 (by decide) ?_
    exact pr_reti C h hR hS dX9_pay_23
  · have h := h.2 c2
    refine lv_iload_n hx hb dX9_pay_8 rfl (lv_at hl 2 rfl) ?_
    refine lv_iconst (v := (1 : Int32)) hx hb dX9_pay_9 (by decide) ?_
    refine lv_aload_n hx hb dX9_pay_10 rfl (lv_at hl 0 rfl) ?_
    refine gf_RX9_41 C hR pr_l9 dX9_pay_11 ?_
    refine lv_iload_n hx hb dX9_pay_14 rfl (lv_at hl 1 rfl) ?_
    refine pr_ald hx hb hK hR pr_l49 (by omega) (by omega) (n := 20) (by decide) h.1 dX9_pay_15 (t := 1049) rfl ?_
    have h := h.2
    refine pr_calli hS (pr_runS (As := [.int a2, .int (1 : Int32), .int (σ1 1049 0 (a1).toNatClampNeg)]) (rest := []) C hR (c_X9_in h) gw_RX9_113 rfl rfl hs_X9_in ⟨Nat.le_of_ble_eq_true rfl, Nat.le_of_ble_eq_true rfl⟩ rfl hl.1 rfl (Nat.le_of_ble_eq_true rfl) dX9_pay_16 ⟨Nat.zero_le _, Nat.zero_le _⟩) (fun r3 σ3 H locs h hR hS => ?_)
    obtain ⟨hz3, h⟩ := h
    refine lv_if_ne (tgt := 24) hx hb dX9_pay_19 (by decide) (fun c4 => ?_) (fun c4 => ?_)
    · have h := h.1 c4
      refine lv_aload_n hx hb dX9_pay_24 rfl (lv_at hl 0 rfl) ?_
      refine gf_RX9_41 C hR pr_l9 dX9_pay_25 ?_
      refine lv_iload_n hx hb dX9_pay_28 rfl (lv_at hl 1 rfl) ?_
      refine lv_dup2_11 hx hb dX9_pay_29 rfl rfl ?_
      refine pr_ald hx hb hK hR pr_l49 (by omega) (by omega) (n := 20) (by decide) h.1 dX9_pay_30 (t := 1049) rfl ?_
      have h := h.2
      refine lv_iload_n hx hb dX9_pay_31 rfl (lv_at hl 2 rfl) ?_
      refine lv_isub hx hb dX9_pay_32 ?_
      refine pr_ast hx hb hK hR hS pr_l49 (by omega) (by omega) (n := 20) (by decide) h.1 dX9_pay_33 (t := 1049) rfl (fun H locs σ5 e5 hR hS => ?_)
      have h := h.2 σ5 e5
      refine lv_aload_n hx hb dX9_pay_34 rfl (lv_at hl 0 rfl) ?_
      refine lv_dup hx hb dX9_pay_35 rfl ?_
      refine gf_RX9_185 C hR pr_l9 dX9_pay_36 ?_
      refine lv_iload_n hx hb dX9_pay_39 rfl (lv_at hl 2 rfl) ?_
      refine lv_iadd hx hb dX9_pay_40 ?_
      refine pf_RX9_185 C hR hS pr_l9 dX9_pay_41 (fun H locs σ6 e6 hR hS => ?_)
      have h := h σ6 e6
      refine lv_aload_n hx hb dX9_pay_44 rfl (lv_at hl 0 rfl) ?_
      refine gf_RX9_41 C hR pr_l9 dX9_pay_45 ?_
      refine lv_iload_n hx hb dX9_pay_48 rfl (lv_at hl 1 rfl) ?_
      refine pr_ald hx hb hK hR pr_l49 (by omega) (by omega) (n := 20) (by decide) h.1 dX9_pay_49 (t := 1049) rfl ?_
      have h := h.2
      exact pr_reti C h hR hS dX9_pay_50
    · have h := h.2 c4
      refine lv_iconst (v := (-1 : Int32)) hx hb dX9_pay_22 (by decide) ?_
      exact pr_reti C h hR hS dX9_pay_23
abbrev wp_X9_pay (g : Nat → Nat) (σ : pr_Sg) (a1 : Int32) (a2 : Int32) (Q : Int32 → pr_Sg → Prop) : Prop := wpb_X9_pay g σ a1 a2 Q
set_option maxHeartbeats 4000000 in
set_option maxRecDepth 100000 in
theorem c_X9_pay {l : Launch} {D : va_G} {cs : Nat → ClassId} {A : Nat → Prop} {ad : pr_Ad} {g : Nat → Nat} {σ : pr_Sg} {a1 : Int32} {a2 : Int32} {Q : Int32 → pr_Sg → Prop} (h : wp_X9_pay g σ a1 a2 Q) : pr_Mi l D cs A ad g yX9_pay cX9_pay 3 (some .int) rm_X9_pay [.ref (ad 9 0 0), .int a1, .int a2] σ Q := by
  refine Met.ofW (cc := cX9_pay) (maxL := 3) (ret := (some .int)) (by decide) rfl ?_
  intro p e s m args below meth c s₁ B hml hv
  obtain ⟨rfl, hR, hK⟩ := hv
  have C : pr_C RX9 cX9_pay 3 (some .int) D cs p s m [.ref (ad 9 0 0), .int a1, .int a2].toArray meth c := pr_C.of B hml hK
  have hS : va_S A s.heap s.heap [] := va_S.rf
  have hl := lv_entry ([.ref (ad 9 0 0), .int a1, .int a2]) (n := 3) (Nat.le_of_ble_eq_true rfl)
  rw [lg_entry_eq]
  generalize (lg_sl ([.ref (ad 9 0 0), .int a1, .int a2]) ++ List.replicate (3 - (lg_sl ([.ref (ad 9 0 0), .int a1, .int a2])).length) Slot.unset).toArray = ls at hl ⊢
  have hl : lv_has ls 3 [(0, .ref (ad 9 0 0)), (1, .int a1), (2, .int a2)] := hl
  exact t_X9_pay C h hR hS hl
def rm_X9_tries (d : Nat) : Room := { frames := d + 3, cells := 0, slots := 0, locals := 27 * d + 58 }
theorem hd_X9_tries : yX9_tries.cls = RX9 ∧ yX9_tries.cls ≠ "java/lang/invoke/MethodHandle" ∧ yX9_tries.cls ≠ "java/lang/invoke/VarHandle" ∧ (parseMethodDescriptor yX9_tries.desc).map (fun d => d.parameters.length) = some 4 := ⟨rfl, by decide, by decide, by decide +kernel⟩
def wp_X9_tries_L210 (g : Nat → Nat) (rec : pr_Sg → Int32 → Int32 → Int32 → Int32 → (pr_Sg → Prop) → Prop) (Q : pr_Sg → Prop) (σ : pr_Sg) (x1 : Int32) (x2 : Int32) (x3 : Int32) (x4 : Int32) : Prop :=
  (vp_in x1 5 ∧ ∀ σ4 : pr_Sg, σ4 = pr_up σ 1062 0 (x1).toNatClampNeg (-1 : Int32) →
  (rec σ4 (x1 + (1 : Int32)) x2 x3 x4 (fun σ5 =>
  Q σ5)))
set_option maxHeartbeats 4000000 in
set_option maxRecDepth 100000 in
theorem t_X9_tries_L210 {p : Program} {l : Launch} {e : Env} {s : State} {m : MethodId} {args : Array Value} {below : List Frame} {meth : Method} {c : Code} {D : va_G} {cs : Nat → ClassId} {A : Nat → Prop} {ad : pr_Ad} {g : Nat → Nat} {Q : pr_Sg → Prop} {rec : pr_Sg → Int32 → Int32 → Int32 → Int32 → (pr_Sg → Prop) → Prop} {d : Nat} (hrec : ∀ (σ : pr_Sg) (a1 : Int32) (a2 : Int32) (a3 : Int32) (a4 : Int32) (Q : pr_Sg → Prop), rec σ a1 a2 a3 a4 Q → pr_Mv l D cs A ad g yX9_tries cX9_tries 8 (rm_X9_tries d) [.ref (ad 9 0 0), .int a1, .int a2, .int a3, .int a4] σ Q) (C : pr_C RX9 cX9_tries 8 none D cs p s m args meth c) {H : Heap} {locs : List Loc} {ls : Array Slot} {σ : pr_Sg} {x1 : Int32} {x2 : Int32} {x3 : Int32} {x4 : Int32} (h : wp_X9_tries_L210 g rec Q σ x1 x2 x3 x4) (hR : pr_R D cs A ad g σ H) (hS : va_S A s.heap H locs) (hl : lv_has ls 8 [(0, .ref (ad 9 0 0)), (1, .int x1), (2, .int x2), (3, .int x3), (4, .int x4)]) : W p l e (rm_X9_tries (d + 1)) s m args below meth c H locs 0 0 (MQ below (va_Qv Q (pr_E D cs A ad g) A) args s 0 0 A) (F0 m 210 ls []) := by
  unfold wp_X9_tries_L210 at h
  obtain ⟨hx, hb, hml, hown, hts, hK, hr, hlocks⟩ := id C
  refine lv_aload_n hx hb dX9_tries_210 rfl (lv_at hl 0 rfl) ?_
  refine gf_RX9_104 C hR pr_l9 dX9_tries_211 ?_
  refine lv_iload_n hx hb dX9_tries_214 rfl (lv_at hl 1 rfl) ?_
  refine lv_iconst (v := (-1 : Int32)) hx hb dX9_tries_215 (by decide) ?_
  refine pr_ast hx hb hK hR hS pr_l62 (by omega) (by omega) (n := 5) (by decide) h.1 dX9_tries_216 (t := 1062) rfl (fun H locs σ4 e4 hR hS => ?_)
  have h := h.2 σ4 e4
  refine lv_aload_n hx hb dX9_tries_217 rfl (lv_at hl 0 rfl) ?_
  refine lv_iload_n hx hb dX9_tries_218 rfl (lv_at hl 1 rfl) ?_
  refine lv_iconst (v := (1 : Int32)) hx hb dX9_tries_219 (by decide) ?_
  refine lv_iadd hx hb dX9_tries_220 ?_
  refine lv_iload_n hx hb dX9_tries_221 rfl (lv_at hl 2 rfl) ?_
  refine lv_iload_n hx hb dX9_tries_222 rfl (lv_at hl 3 rfl) ?_
  refine lv_iload hx hb dX9_tries_223 (lv_at hl 4 rfl) ?_
  refine pr_callv hS (pr_runV (As := [.int (x1 + (1 : Int32)), .int x2, .int x3, .int x4]) (rest := []) C hR pr_l9 (by omega) rfl (hrec _ _ _ _ _ _ h) gw_RX9_194 rfl rfl hd_X9_tries ⟨by show _ + 1 ≤ d + 1 + 3; unfold rm_X9_tries; dsimp only; omega, by show 8 + (8 + 11) + _ ≤ 27 * (d + 1) + 58; unfold rm_X9_tries; dsimp only; omega⟩ rfl hl.1 rfl (Nat.le_of_ble_eq_true rfl) dX9_tries_225 ⟨Nat.zero_le _, Nat.zero_le _⟩) (fun σ5 H locs h hR hS => ?_)
  exact pr_retv C h hR hS dX9_tries_228
def wp_X9_tries_L128 (g : Nat → Nat) (rec : pr_Sg → Int32 → Int32 → Int32 → Int32 → (pr_Sg → Prop) → Prop) (Q : pr_Sg → Prop) : Nat → pr_Sg → Int32 → Int32 → Int32 → Int32 → Int32 → Int32 → Int32 → Prop
  | 0, _, _, _, _, _, _, _, _ => False
  | n + 1, σ, x1, x2, x3, x4, x5, x6, x7 => (((6 : Int32) ≤ x7 → wp_X9_tries_L210 g rec Q σ x1 x2 x3 x4) ∧
  (¬ (6 : Int32) ≤ x7 → ((¬ x6 = 0 → wp_X9_tries_L210 g rec Q σ x1 x2 x3 x4) ∧
  (x6 = 0 → ((((x3 >>> (x7 &&& 31)) &&& (1 : Int32)) = (1 : Int32) → wp_X9_tries_L128 g rec Q n σ x1 x2 x3 x4 x5 x6 (x7 + (1 : Int32))) ∧
  (¬ ((x3 >>> (x7 &&& 31)) &&& (1 : Int32)) = (1 : Int32) → (wp_X9_couldBe g σ x5 x2 x7 (fun r8 σ8 =>
  ((¬ r8 = 0 → (vp_in x1 5 ∧ ∀ σ10 : pr_Sg, σ10 = pr_up σ8 1062 0 (x1).toNatClampNeg x7 →
  (vp_in x5 40 ∧ (rec σ10 (x1 + (1 : Int32)) x2 (x3 ||| ((1 : Int32) <<< (x7 &&& 31))) (((x4 + (1 : Int32)) + (σ10 576 0 0)) - (σ10 1052 0 (x5).toNatClampNeg)) (fun σ11 =>
  wp_X9_tries_L128 g rec Q n σ11 x1 x2 x3 x4 x5 x6 (x7 + (1 : Int32))))))) ∧
  (r8 = 0 → wp_X9_tries_L128 g rec Q n σ8 x1 x2 x3 x4 x5 x6 (x7 + (1 : Int32))))))))))))
set_option maxHeartbeats 4000000 in
set_option maxRecDepth 100000 in
theorem t_X9_tries_L128 {p : Program} {l : Launch} {e : Env} {s : State} {m : MethodId} {args : Array Value} {below : List Frame} {meth : Method} {c : Code} {D : va_G} {cs : Nat → ClassId} {A : Nat → Prop} {ad : pr_Ad} {g : Nat → Nat} {Q : pr_Sg → Prop} {rec : pr_Sg → Int32 → Int32 → Int32 → Int32 → (pr_Sg → Prop) → Prop} {d : Nat} (hrec : ∀ (σ : pr_Sg) (a1 : Int32) (a2 : Int32) (a3 : Int32) (a4 : Int32) (Q : pr_Sg → Prop), rec σ a1 a2 a3 a4 Q → pr_Mv l D cs A ad g yX9_tries cX9_tries 8 (rm_X9_tries d) [.ref (ad 9 0 0), .int a1, .int a2, .int a3, .int a4] σ Q) (C : pr_C RX9 cX9_tries 8 none D cs p s m args meth c) (n : Nat) : ∀ {H : Heap} {locs : List Loc} {ls : Array Slot} {σ : pr_Sg} {x1 : Int32} {x2 : Int32} {x3 : Int32} {x4 : Int32} {x5 : Int32} {x6 : Int32} {x7 : Int32} (_ : wp_X9_tries_L128 g rec Q n σ x1 x2 x3 x4 x5 x6 x7) (_ : pr_R D cs A ad g σ H) (_ : va_S A s.heap H locs) (_ : lv_has ls 8 [(0, .ref (ad 9 0 0)), (1, .int x1), (2, .int x2), (3, .int x3), (4, .int x4), (5, .int x5), (6, .int x6), (7, .int x7)]), W p l e (rm_X9_tries (d + 1)) s m args below meth c H locs 0 0 (MQ below (va_Qv Q (pr_E D cs A ad g) A) args s 0 0 A) (F0 m 128 ls []) := by
  induction n with
  | zero =>
    intro H locs ls σ x1 x2 x3 x4 x5 x6 x7 h
    exact False.elim h
  | succ n ih =>
    intro H locs ls σ x1 x2 x3 x4 x5 x6 x7 h hR hS hl
    unfold wp_X9_tries_L128 at h
    obtain ⟨hx, hb, hml, hown, hts, hK, hr, hlocks⟩ := id C
    refine lv_iload hx hb dX9_tries_128 (lv_at hl 7 rfl) ?_
    refine lv_bipush (v := (6 : Int32)) hx hb dX9_tries_130 (by decide) ?_
    refine lv_icmp_ge (tgt := 210) hx hb dX9_tries_132 (by decide) (fun c3 => ?_) (fun c3 => ?_)
    · have h := h.1 c3
      exact t_X9_tries_L210 hrec C h hR hS (lv_sub hl [0, 1, 2, 3, 4] rfl)
    · have h := h.2 c3
      refine lv_iload hx hb dX9_tries_135 (lv_at hl 6 rfl) ?_
      refine lv_if_ne (tgt := 210) hx hb dX9_tries_137 (by decide) (fun c6 => ?_) (fun c6 => ?_)
      · have h := h.1 c6
        exact t_X9_tries_L210 hrec C h hR hS (lv_sub hl [0, 1, 2, 3, 4] rfl)
      · have h := h.2 c6
        refine lv_iload_n hx hb dX9_tries_140 rfl (lv_at hl 3 rfl) ?_
        refine lv_iload hx hb dX9_tries_141 (lv_at hl 7 rfl) ?_
        refine lv_ishr hx hb dX9_tries_143 ?_
        refine lv_iconst (v := (1 : Int32)) hx hb dX9_tries_144 (by decide) ?_
        refine lv_iand hx hb dX9_tries_145 ?_
        refine lv_iconst (v := (1 : Int32)) hx hb dX9_tries_146 (by decide) ?_
        refine lv_icmp_eq (tgt := 204) hx hb dX9_tries_147 (by decide) (fun c7 => ?_) (fun c7 => ?_)
        · have h := h.1 c7
          refine lv_iinc (v := (x7 + (1 : Int32))) (lv' := [(7, .int (x7 + (1 : Int32))), (0, .ref (ad 9 0 0)), (1, .int x1), (2, .int x2), (3, .int x3), (4, .int x4), (5, .int x5), (6, .int x6)]) hx hb dX9_tries_204 hl (k := 7) rfl rfl (by decide) rfl (fun ls hl => ?_)
          refine lv_goto (tgt := 128) hx hb dX9_tries_207 (by decide) ?_
          exact ih h hR hS (lv_sub hl [1, 2, 3, 4, 5, 6, 7, 0] rfl)
        · have h := h.2 c7
          refine lv_aload_n hx hb dX9_tries_150 rfl (lv_at hl 0 rfl) ?_
          refine lv_iload hx hb dX9_tries_151 (lv_at hl 5 rfl) ?_
          refine lv_iload_n hx hb dX9_tries_153 rfl (lv_at hl 2 rfl) ?_
          refine lv_iload hx hb dX9_tries_154 (lv_at hl 7 rfl) ?_
          refine pr_calli hS (pr_runV (As := [.int x5, .int x2, .int x7]) (rest := []) C hR pr_l9 (by omega) rfl (c_X9_couldBe h) gw_RX9_160 rfl rfl hd_X9_couldBe ⟨by show _ + 1 ≤ d + 1 + 3; unfold rm_X9_couldBe; dsimp only; omega, by show 8 + (4 + 11) + _ ≤ 27 * (d + 1) + 58; unfold rm_X9_couldBe; dsimp only; omega⟩ rfl hl.1 rfl (Nat.le_of_ble_eq_true rfl) dX9_tries_156 ⟨Nat.zero_le _, Nat.zero_le _⟩) (fun r8 σ8 H locs h hR hS => ?_)
          obtain ⟨hz8, h⟩ := h
          refine lv_if_ne (tgt := 165) hx hb dX9_tries_159 (by decide) (fun c9 => ?_) (fun c9 => ?_)
          · have h := h.1 c9
            refine lv_aload_n hx hb dX9_tries_165 rfl (lv_at hl 0 rfl) ?_
            refine gf_RX9_104 C hR pr_l9 dX9_tries_166 ?_
            refine lv_iload_n hx hb dX9_tries_169 rfl (lv_at hl 1 rfl) ?_
            refine lv_iload hx hb dX9_tries_170 (lv_at hl 7 rfl) ?_
            refine pr_ast hx hb hK hR hS pr_l62 (by omega) (by omega) (n := 5) (by decide) h.1 dX9_tries_172 (t := 1062) rfl (fun H locs σ10 e10 hR hS => ?_)
            have h := h.2 σ10 e10
            refine lv_aload_n hx hb dX9_tries_173 rfl (lv_at hl 0 rfl) ?_
            refine lv_iload_n hx hb dX9_tries_174 rfl (lv_at hl 1 rfl) ?_
            refine lv_iconst (v := (1 : Int32)) hx hb dX9_tries_175 (by decide) ?_
            refine lv_iadd hx hb dX9_tries_176 ?_
            refine lv_iload_n hx hb dX9_tries_177 rfl (lv_at hl 2 rfl) ?_
            refine lv_iload_n hx hb dX9_tries_178 rfl (lv_at hl 3 rfl) ?_
            refine lv_iconst (v := (1 : Int32)) hx hb dX9_tries_179 (by decide) ?_
            refine lv_iload hx hb dX9_tries_180 (lv_at hl 7 rfl) ?_
            refine lv_ishl hx hb dX9_tries_182 ?_
            refine lv_ior hx hb dX9_tries_183 ?_
            refine lv_iload hx hb dX9_tries_184 (lv_at hl 4 rfl) ?_
            refine lv_iconst (v := (1 : Int32)) hx hb dX9_tries_186 (by decide) ?_
            refine lv_iadd hx hb dX9_tries_187 ?_
            refine lv_aload_n hx hb dX9_tries_188 rfl (lv_at hl 0 rfl) ?_
            refine gf_RX9_128 C hR pr_l9 dX9_tries_189 ?_
            refine lv_iadd hx hb dX9_tries_192 ?_
            refine lv_aload_n hx hb dX9_tries_193 rfl (lv_at hl 0 rfl) ?_
            refine gf_RX9_50 C hR pr_l9 dX9_tries_194 ?_
            refine lv_iload hx hb dX9_tries_197 (lv_at hl 5 rfl) ?_
            refine pr_ald hx hb hK hR pr_l52 (by omega) (by omega) (n := 40) (by decide) h.1 dX9_tries_199 (t := 1052) rfl ?_
            have h := h.2
            refine lv_isub hx hb dX9_tries_200 ?_
            refine pr_callv hS (pr_runV (As := [.int (x1 + (1 : Int32)), .int x2, .int (x3 ||| ((1 : Int32) <<< (x7 &&& 31))), .int (((x4 + (1 : Int32)) + (σ10 576 0 0)) - (σ10 1052 0 (x5).toNatClampNeg))]) (rest := []) C hR pr_l9 (by omega) rfl (hrec _ _ _ _ _ _ h) gw_RX9_194 rfl rfl hd_X9_tries ⟨by show _ + 1 ≤ d + 1 + 3; unfold rm_X9_tries; dsimp only; omega, by show 8 + (8 + 11) + _ ≤ 27 * (d + 1) + 58; unfold rm_X9_tries; dsimp only; omega⟩ rfl hl.1 rfl (Nat.le_of_ble_eq_true rfl) dX9_tries_201 ⟨Nat.zero_le _, Nat.zero_le _⟩) (fun σ11 H locs h hR hS => ?_)
            refine lv_iinc (v := (x7 + (1 : Int32))) (lv' := [(7, .int (x7 + (1 : Int32))), (0, .ref (ad 9 0 0)), (1, .int x1), (2, .int x2), (3, .int x3), (4, .int x4), (5, .int x5), (6, .int x6)]) hx hb dX9_tries_204 hl (k := 7) rfl rfl (by decide) rfl (fun ls hl => ?_)
            refine lv_goto (tgt := 128) hx hb dX9_tries_207 (by decide) ?_
            exact ih h hR hS (lv_sub hl [1, 2, 3, 4, 5, 6, 7, 0] rfl)
          · have h := h.2 c9
            refine lv_goto (tgt := 204) hx hb dX9_tries_162 (by decide) ?_
            refine lv_iinc (v := (x7 + (1 : Int32))) (lv' := [(7, .int (x7 + (1 : Int32))), (0, .ref (ad 9 0 0)), (1, .int x1), (2, .int x2), (3, .int x3), (4, .int x4), (5, .int x5), (6, .int x6)]) hx hb dX9_tries_204 hl (k := 7) rfl rfl (by decide) rfl (fun ls hl => ?_)
            refine lv_goto (tgt := 128) hx hb dX9_tries_207 (by decide) ?_
            exact ih h hR hS (lv_sub hl [1, 2, 3, 4, 5, 6, 7, 0] rfl)
def wp_X9_tries_L68 (g : Nat → Nat) (rec : pr_Sg → Int32 → Int32 → Int32 → Int32 → (pr_Sg → Prop) → Prop) (Q : pr_Sg → Prop) : Nat → pr_Sg → Int32 → Int32 → Int32 → Int32 → Int32 → Int32 → Int32 → Prop
  | 0, _, _, _, _, _, _, _, _ => False
  | n + 1, σ, x1, x2, x3, x4, x5, x6, x7 => ((x1 ≤ x7 → (∃ n : Nat, wp_X9_tries_L128 g rec Q n σ x1 x2 x3 x4 x5 x6 (0 : Int32))) ∧
  (¬ x1 ≤ x7 → ((¬ x6 = 0 → wp_X9_tries_L68 g rec Q n σ x1 x2 x3 x4 x5 (1 : Int32) (x7 + (1 : Int32))) ∧
  (x6 = 0 → (vp_in x7 5 ∧ (((σ 1062 0 (x7).toNatClampNeg) = (-1 : Int32) → wp_X9_tries_L68 g rec Q n σ x1 x2 x3 x4 x5 (0 : Int32) (x7 + (1 : Int32))) ∧
  (¬ (σ 1062 0 (x7).toNatClampNeg) = (-1 : Int32) → (vp_in x7 5 ∧ (vp_in (σ 1061 0 (x7).toNatClampNeg) 40 ∧ (vp_in x5 40 ∧ ((¬ (σ 1050 0 ((σ 1061 0 (x7).toNatClampNeg)).toNatClampNeg) = (σ 1050 0 (x5).toNatClampNeg) → wp_X9_tries_L68 g rec Q n σ x1 x2 x3 x4 x5 (0 : Int32) (x7 + (1 : Int32))) ∧
  ((σ 1050 0 ((σ 1061 0 (x7).toNatClampNeg)).toNatClampNeg) = (σ 1050 0 (x5).toNatClampNeg) → wp_X9_tries_L68 g rec Q n σ x1 x2 x3 x4 x5 (1 : Int32) (x7 + (1 : Int32))))))))))))))
set_option maxHeartbeats 4000000 in
set_option maxRecDepth 100000 in
theorem t_X9_tries_L68 {p : Program} {l : Launch} {e : Env} {s : State} {m : MethodId} {args : Array Value} {below : List Frame} {meth : Method} {c : Code} {D : va_G} {cs : Nat → ClassId} {A : Nat → Prop} {ad : pr_Ad} {g : Nat → Nat} {Q : pr_Sg → Prop} {rec : pr_Sg → Int32 → Int32 → Int32 → Int32 → (pr_Sg → Prop) → Prop} {d : Nat} (hrec : ∀ (σ : pr_Sg) (a1 : Int32) (a2 : Int32) (a3 : Int32) (a4 : Int32) (Q : pr_Sg → Prop), rec σ a1 a2 a3 a4 Q → pr_Mv l D cs A ad g yX9_tries cX9_tries 8 (rm_X9_tries d) [.ref (ad 9 0 0), .int a1, .int a2, .int a3, .int a4] σ Q) (C : pr_C RX9 cX9_tries 8 none D cs p s m args meth c) (n : Nat) : ∀ {H : Heap} {locs : List Loc} {ls : Array Slot} {σ : pr_Sg} {x1 : Int32} {x2 : Int32} {x3 : Int32} {x4 : Int32} {x5 : Int32} {x6 : Int32} {x7 : Int32} (_ : wp_X9_tries_L68 g rec Q n σ x1 x2 x3 x4 x5 x6 x7) (_ : pr_R D cs A ad g σ H) (_ : va_S A s.heap H locs) (_ : lv_has ls 8 [(0, .ref (ad 9 0 0)), (1, .int x1), (2, .int x2), (3, .int x3), (4, .int x4), (5, .int x5), (6, .int x6), (7, .int x7)]), W p l e (rm_X9_tries (d + 1)) s m args below meth c H locs 0 0 (MQ below (va_Qv Q (pr_E D cs A ad g) A) args s 0 0 A) (F0 m 68 ls []) := by
  induction n with
  | zero =>
    intro H locs ls σ x1 x2 x3 x4 x5 x6 x7 h
    exact False.elim h
  | succ n ih =>
    intro H locs ls σ x1 x2 x3 x4 x5 x6 x7 h hR hS hl
    unfold wp_X9_tries_L68 at h
    obtain ⟨hx, hb, hml, hown, hts, hK, hr, hlocks⟩ := id C
    refine lv_iload hx hb dX9_tries_68 (lv_at hl 7 rfl) ?_
    refine lv_iload_n hx hb dX9_tries_70 rfl (lv_at hl 1 rfl) ?_
    refine lv_icmp_ge (tgt := 125) hx hb dX9_tries_71 (by decide) (fun c2 => ?_) (fun c2 => ?_)
    · have h := h.1 c2
      refine lv_iconst (v := (0 : Int32)) hx hb dX9_tries_125 (by decide) ?_
      refine lv_istore (lv' := [(7, .int (0 : Int32)), (0, .ref (ad 9 0 0)), (1, .int x1), (2, .int x2), (3, .int x3), (4, .int x4), (5, .int x5), (6, .int x6)]) hx hb dX9_tries_126 hl (by decide) rfl (fun ls hl => ?_)
      obtain ⟨n1, h⟩ := h
      exact t_X9_tries_L128 hrec C n1 h hR hS (lv_sub hl [1, 2, 3, 4, 5, 6, 7, 0] rfl)
    · have h := h.2 c2
      refine lv_iload hx hb dX9_tries_74 (lv_at hl 6 rfl) ?_
      refine lv_if_ne (tgt := 112) hx hb dX9_tries_76 (by decide) (fun c12 => ?_) (fun c12 => ?_)
      · have h := h.1 c12
        refine lv_iconst (v := (1 : Int32)) hx hb dX9_tries_112 (by decide) ?_
        refine lv_goto (tgt := 117) hx hb dX9_tries_113 (by decide) ?_
        refine lv_istore (lv' := [(6, .int (1 : Int32)), (0, .ref (ad 9 0 0)), (1, .int x1), (2, .int x2), (3, .int x3), (4, .int x4), (5, .int x5), (7, .int x7)]) hx hb dX9_tries_117 hl (by decide) rfl (fun ls hl => ?_)
        refine lv_iinc (v := (x7 + (1 : Int32))) (lv' := [(7, .int (x7 + (1 : Int32))), (6, .int (1 : Int32)), (0, .ref (ad 9 0 0)), (1, .int x1), (2, .int x2), (3, .int x3), (4, .int x4), (5, .int x5)]) hx hb dX9_tries_119 hl (k := 7) rfl rfl (by decide) rfl (fun ls hl => ?_)
        refine lv_goto (tgt := 68) hx hb dX9_tries_122 (by decide) ?_
        exact ih h hR hS (lv_sub hl [2, 3, 4, 5, 6, 7, 1, 0] rfl)
      · have h := h.2 c12
        refine lv_aload_n hx hb dX9_tries_79 rfl (lv_at hl 0 rfl) ?_
        refine gf_RX9_104 C hR pr_l9 dX9_tries_80 ?_
        refine lv_iload hx hb dX9_tries_83 (lv_at hl 7 rfl) ?_
        refine pr_ald hx hb hK hR pr_l62 (by omega) (by omega) (n := 5) (by decide) h.1 dX9_tries_85 (t := 1062) rfl ?_
        have h := h.2
        refine lv_iconst (v := (-1 : Int32)) hx hb dX9_tries_86 (by decide) ?_
        refine lv_icmp_eq (tgt := 116) hx hb dX9_tries_87 (by decide) (fun c13 => ?_) (fun c13 => ?_)
        · have h := h.1 c13
          refine lv_iconst (v := (0 : Int32)) hx hb dX9_tries_116 (by decide) ?_
          refine lv_istore (lv' := [(6, .int (0 : Int32)), (0, .ref (ad 9 0 0)), (1, .int x1), (2, .int x2), (3, .int x3), (4, .int x4), (5, .int x5), (7, .int x7)]) hx hb dX9_tries_117 hl (by decide) rfl (fun ls hl => ?_)
          refine lv_iinc (v := (x7 + (1 : Int32))) (lv' := [(7, .int (x7 + (1 : Int32))), (6, .int (0 : Int32)), (0, .ref (ad 9 0 0)), (1, .int x1), (2, .int x2), (3, .int x3), (4, .int x4), (5, .int x5)]) hx hb dX9_tries_119 hl (k := 7) rfl rfl (by decide) rfl (fun ls hl => ?_)
          refine lv_goto (tgt := 68) hx hb dX9_tries_122 (by decide) ?_
          exact ih h hR hS (lv_sub hl [2, 3, 4, 5, 6, 7, 1, 0] rfl)
        · have h := h.2 c13
          refine lv_aload_n hx hb dX9_tries_90 rfl (lv_at hl 0 rfl) ?_
          refine gf_RX9_44 C hR pr_l9 dX9_tries_91 ?_
          refine lv_aload_n hx hb dX9_tries_94 rfl (lv_at hl 0 rfl) ?_
          refine gf_RX9_101 C hR pr_l9 dX9_tries_95 ?_
          refine lv_iload hx hb dX9_tries_98 (lv_at hl 7 rfl) ?_
          refine pr_ald hx hb hK hR pr_l61 (by omega) (by omega) (n := 5) (by decide) h.1 dX9_tries_100 (t := 1061) rfl ?_
          have h := h.2
          refine pr_ald hx hb hK hR pr_l50 (by omega) (by omega) (n := 40) (by decide) h.1 dX9_tries_101 (t := 1050) rfl ?_
          have h := h.2
          refine lv_aload_n hx hb dX9_tries_102 rfl (lv_at hl 0 rfl) ?_
          refine gf_RX9_44 C hR pr_l9 dX9_tries_103 ?_
          refine lv_iload hx hb dX9_tries_106 (lv_at hl 5 rfl) ?_
          refine pr_ald hx hb hK hR pr_l50 (by omega) (by omega) (n := 40) (by decide) h.1 dX9_tries_108 (t := 1050) rfl ?_
          have h := h.2
          refine lv_icmp_ne (tgt := 116) hx hb dX9_tries_109 (by decide) (fun c14 => ?_) (fun c14 => ?_)
          · have h := h.1 c14
            refine lv_iconst (v := (0 : Int32)) hx hb dX9_tries_116 (by decide) ?_
            refine lv_istore (lv' := [(6, .int (0 : Int32)), (0, .ref (ad 9 0 0)), (1, .int x1), (2, .int x2), (3, .int x3), (4, .int x4), (5, .int x5), (7, .int x7)]) hx hb dX9_tries_117 hl (by decide) rfl (fun ls hl => ?_)
            refine lv_iinc (v := (x7 + (1 : Int32))) (lv' := [(7, .int (x7 + (1 : Int32))), (6, .int (0 : Int32)), (0, .ref (ad 9 0 0)), (1, .int x1), (2, .int x2), (3, .int x3), (4, .int x4), (5, .int x5)]) hx hb dX9_tries_119 hl (k := 7) rfl rfl (by decide) rfl (fun ls hl => ?_)
            refine lv_goto (tgt := 68) hx hb dX9_tries_122 (by decide) ?_
            exact ih h hR hS (lv_sub hl [2, 3, 4, 5, 6, 7, 1, 0] rfl)
          · have h := h.2 c14
            refine lv_iconst (v := (1 : Int32)) hx hb dX9_tries_112 (by decide) ?_
            refine lv_goto (tgt := 117) hx hb dX9_tries_113 (by decide) ?_
            refine lv_istore (lv' := [(6, .int (1 : Int32)), (0, .ref (ad 9 0 0)), (1, .int x1), (2, .int x2), (3, .int x3), (4, .int x4), (5, .int x5), (7, .int x7)]) hx hb dX9_tries_117 hl (by decide) rfl (fun ls hl => ?_)
            refine lv_iinc (v := (x7 + (1 : Int32))) (lv' := [(7, .int (x7 + (1 : Int32))), (6, .int (1 : Int32)), (0, .ref (ad 9 0 0)), (1, .int x1), (2, .int x2), (3, .int x3), (4, .int x4), (5, .int x5)]) hx hb dX9_tries_119 hl (k := 7) rfl rfl (by decide) rfl (fun ls hl => ?_)
            refine lv_goto (tgt := 68) hx hb dX9_tries_122 (by decide) ?_
            exact ih h hR hS (lv_sub hl [2, 3, 4, 5, 6, 7, 1, 0] rfl)
def wp_X9_tries_L27 (g : Nat → Nat) (rec : pr_Sg → Int32 → Int32 → Int32 → Int32 → (pr_Sg → Prop) → Prop) (Q : pr_Sg → Prop) : Nat → pr_Sg → Int32 → Int32 → Prop
  | 0, _, _, _ => False
  | n + 1, σ, x1, x5 => ((x1 ≤ x5 → Q σ) ∧
  (¬ x1 ≤ x5 → (vp_in x5 5 ∧ (vp_in x5 5 ∧ ∀ σ18 : pr_Sg, σ18 = pr_up σ 1063 0 (x5).toNatClampNeg (σ 1062 0 (x5).toNatClampNeg) →
  wp_X9_tries_L27 g rec Q n σ18 x1 (x5 + (1 : Int32))))))
set_option maxHeartbeats 4000000 in
set_option maxRecDepth 100000 in
theorem t_X9_tries_L27 {p : Program} {l : Launch} {e : Env} {s : State} {m : MethodId} {args : Array Value} {below : List Frame} {meth : Method} {c : Code} {D : va_G} {cs : Nat → ClassId} {A : Nat → Prop} {ad : pr_Ad} {g : Nat → Nat} {Q : pr_Sg → Prop} {rec : pr_Sg → Int32 → Int32 → Int32 → Int32 → (pr_Sg → Prop) → Prop} {d : Nat} (hrec : ∀ (σ : pr_Sg) (a1 : Int32) (a2 : Int32) (a3 : Int32) (a4 : Int32) (Q : pr_Sg → Prop), rec σ a1 a2 a3 a4 Q → pr_Mv l D cs A ad g yX9_tries cX9_tries 8 (rm_X9_tries d) [.ref (ad 9 0 0), .int a1, .int a2, .int a3, .int a4] σ Q) (C : pr_C RX9 cX9_tries 8 none D cs p s m args meth c) (n : Nat) : ∀ {H : Heap} {locs : List Loc} {ls : Array Slot} {σ : pr_Sg} {x1 : Int32} {x5 : Int32} (_ : wp_X9_tries_L27 g rec Q n σ x1 x5) (_ : pr_R D cs A ad g σ H) (_ : va_S A s.heap H locs) (_ : lv_has ls 8 [(0, .ref (ad 9 0 0)), (1, .int x1), (5, .int x5)]), W p l e (rm_X9_tries (d + 1)) s m args below meth c H locs 0 0 (MQ below (va_Qv Q (pr_E D cs A ad g) A) args s 0 0 A) (F0 m 27 ls []) := by
  induction n with
  | zero =>
    intro H locs ls σ x1 x5 h
    exact False.elim h
  | succ n ih =>
    intro H locs ls σ x1 x5 h hR hS hl
    unfold wp_X9_tries_L27 at h
    obtain ⟨hx, hb, hml, hown, hts, hK, hr, hlocks⟩ := id C
    refine lv_iload hx hb dX9_tries_27 (lv_at hl 2 rfl) ?_
    refine lv_iload_n hx hb dX9_tries_29 rfl (lv_at hl 1 rfl) ?_
    refine lv_icmp_ge (tgt := 53) hx hb dX9_tries_30 (by decide) (fun c17 => ?_) (fun c17 => ?_)
    · have h := h.1 c17
      exact pr_retv C h hR hS dX9_tries_53
    · have h := h.2 c17
      refine lv_aload_n hx hb dX9_tries_33 rfl (lv_at hl 0 rfl) ?_
      refine gf_RX9_107 C hR pr_l9 dX9_tries_34 ?_
      refine lv_iload hx hb dX9_tries_37 (lv_at hl 2 rfl) ?_
      refine lv_aload_n hx hb dX9_tries_39 rfl (lv_at hl 0 rfl) ?_
      refine gf_RX9_104 C hR pr_l9 dX9_tries_40 ?_
      refine lv_iload hx hb dX9_tries_43 (lv_at hl 2 rfl) ?_
      refine pr_ald hx hb hK hR pr_l62 (by omega) (by omega) (n := 5) (by decide) h.1 dX9_tries_45 (t := 1062) rfl ?_
      have h := h.2
      refine pr_ast hx hb hK hR hS pr_l63 (by omega) (by omega) (n := 5) (by decide) h.1 dX9_tries_46 (t := 1063) rfl (fun H locs σ18 e18 hR hS => ?_)
      have h := h.2 σ18 e18
      refine lv_iinc (v := (x5 + (1 : Int32))) (lv' := [(5, .int (x5 + (1 : Int32))), (0, .ref (ad 9 0 0)), (1, .int x1)]) hx hb dX9_tries_47 hl (k := 2) rfl rfl (by decide) rfl (fun ls hl => ?_)
      refine lv_goto (tgt := 27) hx hb dX9_tries_50 (by decide) ?_
      exact ih h hR hS (lv_sub hl [1, 2, 0] rfl)
def wpb_X9_tries (g : Nat → Nat) (rec : pr_Sg → Int32 → Int32 → Int32 → Int32 → (pr_Sg → Prop) → Prop) (σ : pr_Sg) (a1 : Int32) (a2 : Int32) (a3 : Int32) (a4 : Int32) (Q : pr_Sg → Prop) : Prop :=
  ((¬ a1 = (σ 616 0 0) → (vp_in a1 5 ∧ (∃ n : Nat, wp_X9_tries_L68 g rec Q n σ a1 a2 a3 a4 (σ 1061 0 (a1).toNatClampNeg) (0 : Int32) (0 : Int32)))) ∧
  (a1 = (σ 616 0 0) → (((σ 617 0 0) < a4 → (∀ σ16 : pr_Sg, σ16 = pr_up σ 617 0 0 a4 →
  (∃ n : Nat, wp_X9_tries_L27 g rec Q n σ16 a1 (0 : Int32)))) ∧
  (¬ (σ 617 0 0) < a4 → Q σ))))
set_option maxHeartbeats 4000000 in
set_option maxRecDepth 100000 in
theorem t_X9_tries {p : Program} {l : Launch} {e : Env} {s : State} {m : MethodId} {args : Array Value} {below : List Frame} {meth : Method} {c : Code} {D : va_G} {cs : Nat → ClassId} {A : Nat → Prop} {ad : pr_Ad} {g : Nat → Nat} {Q : pr_Sg → Prop} {rec : pr_Sg → Int32 → Int32 → Int32 → Int32 → (pr_Sg → Prop) → Prop} {d : Nat} (hrec : ∀ (σ : pr_Sg) (a1 : Int32) (a2 : Int32) (a3 : Int32) (a4 : Int32) (Q : pr_Sg → Prop), rec σ a1 a2 a3 a4 Q → pr_Mv l D cs A ad g yX9_tries cX9_tries 8 (rm_X9_tries d) [.ref (ad 9 0 0), .int a1, .int a2, .int a3, .int a4] σ Q) (C : pr_C RX9 cX9_tries 8 none D cs p s m args meth c) {H : Heap} {locs : List Loc} {ls : Array Slot} {σ : pr_Sg} {a1 : Int32} {a2 : Int32} {a3 : Int32} {a4 : Int32} (h : wpb_X9_tries g rec σ a1 a2 a3 a4 Q) (hR : pr_R D cs A ad g σ H) (hS : va_S A s.heap H locs) (hl : lv_has ls 8 [(0, .ref (ad 9 0 0)), (1, .int a1), (2, .int a2), (3, .int a3), (4, .int a4)]) : W p l e (rm_X9_tries (d + 1)) s m args below meth c H locs 0 0 (MQ below (va_Qv Q (pr_E D cs A ad g) A) args s 0 0 A) (F0 m 0 ls []) := by
  unfold wpb_X9_tries at h
  obtain ⟨hx, hb, hml, hown, hts, hK, hr, hlocks⟩ := id C
  refine lv_iload_n hx hb dX9_tries_0 rfl (lv_at hl 1 rfl) ?_
  refine lv_aload_n hx hb dX9_tries_1 rfl (lv_at hl 0 rfl) ?_
  refine gf_RX9_188 C hR pr_l9 dX9_tries_2 ?_
  refine lv_icmp_ne (tgt := 54) hx hb dX9_tries_5 (by decide) (fun c1 => ?_) (fun c1 => ?_)
  · have h := h.1 c1
    refine lv_aload_n hx hb dX9_tries_54 rfl (lv_at hl 0 rfl) ?_
    refine gf_RX9_101 C hR pr_l9 dX9_tries_55 ?_
    refine lv_iload_n hx hb dX9_tries_58 rfl (lv_at hl 1 rfl) ?_
    refine pr_ald hx hb hK hR pr_l61 (by omega) (by omega) (n := 5) (by decide) h.1 dX9_tries_59 (t := 1061) rfl ?_
    have h := h.2
    refine lv_istore (lv' := [(5, .int (σ 1061 0 (a1).toNatClampNeg)), (0, .ref (ad 9 0 0)), (1, .int a1), (2, .int a2), (3, .int a3), (4, .int a4)]) hx hb dX9_tries_60 hl (by decide) rfl (fun ls hl => ?_)
    refine lv_iconst (v := (0 : Int32)) hx hb dX9_tries_62 (by decide) ?_
    refine lv_istore (lv' := [(6, .int (0 : Int32)), (5, .int (σ 1061 0 (a1).toNatClampNeg)), (0, .ref (ad 9 0 0)), (1, .int a1), (2, .int a2), (3, .int a3), (4, .int a4)]) hx hb dX9_tries_63 hl (by decide) rfl (fun ls hl => ?_)
    refine lv_iconst (v := (0 : Int32)) hx hb dX9_tries_65 (by decide) ?_
    refine lv_istore (lv' := [(7, .int (0 : Int32)), (6, .int (0 : Int32)), (5, .int (σ 1061 0 (a1).toNatClampNeg)), (0, .ref (ad 9 0 0)), (1, .int a1), (2, .int a2), (3, .int a3), (4, .int a4)]) hx hb dX9_tries_66 hl (by decide) rfl (fun ls hl => ?_)
    obtain ⟨n1, h⟩ := h
    exact t_X9_tries_L68 hrec C n1 h hR hS (lv_sub hl [3, 4, 5, 6, 7, 2, 1, 0] rfl)
  · have h := h.2 c1
    refine lv_iload hx hb dX9_tries_8 (lv_at hl 4 rfl) ?_
    refine lv_aload_n hx hb dX9_tries_10 rfl (lv_at hl 0 rfl) ?_
    refine gf_RX9_191 C hR pr_l9 dX9_tries_11 ?_
    refine lv_icmp_gt (tgt := 18) hx hb dX9_tries_14 (by decide) (fun c15 => ?_) (fun c15 => ?_)
    · have h := h.1 c15
      refine lv_aload_n hx hb dX9_tries_18 rfl (lv_at hl 0 rfl) ?_
      refine lv_iload hx hb dX9_tries_19 (lv_at hl 4 rfl) ?_
      refine pf_RX9_191 C hR hS pr_l9 dX9_tries_21 (fun H locs σ16 e16 hR hS => ?_)
      have h := h σ16 e16
      refine lv_iconst (v := (0 : Int32)) hx hb dX9_tries_24 (by decide) ?_
      refine lv_istore (lv' := [(5, .int (0 : Int32)), (0, .ref (ad 9 0 0)), (1, .int a1), (2, .int a2), (3, .int a3), (4, .int a4)]) hx hb dX9_tries_25 hl (by decide) rfl (fun ls hl => ?_)
      obtain ⟨n1, h⟩ := h
      exact t_X9_tries_L27 hrec C n1 h hR hS (lv_sub hl [1, 2, 0] rfl)
    · have h := h.2 c15
      exact pr_retv C h hR hS dX9_tries_17
def wp_X9_tries (g : Nat → Nat) : Nat → pr_Sg → Int32 → Int32 → Int32 → Int32 → (pr_Sg → Prop) → Prop
  | 0, _, _, _, _, _, _ => False
  | d + 1, σ, a1, a2, a3, a4, Q => wpb_X9_tries g (wp_X9_tries g d) σ a1 a2 a3 a4 Q
set_option maxHeartbeats 4000000 in
set_option maxRecDepth 100000 in
theorem c_X9_tries {l : Launch} {D : va_G} {cs : Nat → ClassId} {A : Nat → Prop} {ad : pr_Ad} {g : Nat → Nat} (d : Nat) : ∀ {σ : pr_Sg} {a1 : Int32} {a2 : Int32} {a3 : Int32} {a4 : Int32} {Q : pr_Sg → Prop} (_ : wp_X9_tries g d σ a1 a2 a3 a4 Q), pr_Mv l D cs A ad g yX9_tries cX9_tries 8 (rm_X9_tries d) [.ref (ad 9 0 0), .int a1, .int a2, .int a3, .int a4] σ Q := by
  induction d with
  | zero =>
    intro σ a1 a2 a3 a4 Q h
    exact False.elim h
  | succ d ih =>
    intro σ a1 a2 a3 a4 Q h
    unfold wp_X9_tries at h
    refine Met.ofW (cc := cX9_tries) (maxL := 8) (ret := none) (by decide) rfl ?_
    intro p e s m args below meth c s₁ B hml hv
    obtain ⟨rfl, hR, hK⟩ := hv
    have C : pr_C RX9 cX9_tries 8 none D cs p s m [.ref (ad 9 0 0), .int a1, .int a2, .int a3, .int a4].toArray meth c := pr_C.of B hml hK
    have hS : va_S A s.heap s.heap [] := va_S.rf
    have hl := lv_entry ([.ref (ad 9 0 0), .int a1, .int a2, .int a3, .int a4]) (n := 8) (Nat.le_of_ble_eq_true rfl)
    rw [lg_entry_eq]
    generalize (lg_sl ([.ref (ad 9 0 0), .int a1, .int a2, .int a3, .int a4]) ++ List.replicate (8 - (lg_sl ([.ref (ad 9 0 0), .int a1, .int a2, .int a3, .int a4])).length) Slot.unset).toArray = ls at hl ⊢
    have hl : lv_has ls 8 [(0, .ref (ad 9 0 0)), (1, .int a1), (2, .int a2), (3, .int a3), (4, .int a4)] := hl
    exact t_X9_tries (fun _ _ _ _ _ _ h => ih h) C h hR hS hl
def rm_X9_plans : Room := { frames := 11, cells := 0, slots := 0, locals := 274 }
theorem hd_X9_plans : yX9_plans.cls = RX9 ∧ yX9_plans.cls ≠ "java/lang/invoke/MethodHandle" ∧ yX9_plans.cls ≠ "java/lang/invoke/VarHandle" ∧ (parseMethodDescriptor yX9_plans.desc).map (fun d => d.parameters.length) = some 1 := ⟨rfl, by decide, by decide, by decide +kernel⟩
def wp_X9_plans_L23 (g : Nat → Nat) (Q : Int32 → pr_Sg → Prop) : Nat → pr_Sg → Int32 → Int32 → Prop
  | 0, _, _, _ => False
  | n + 1, σ, x1, x2 => (((σ 601 0 0) ≤ x2 → ((¬ (σ 616 0 0) = 0 → (∀ σ6 : pr_Sg, σ6 = pr_up σ 617 0 0 (-1 : Int32) →
  (wp_X9_tries g 7 σ6 (0 : Int32) x1 (0 : Int32) (0 : Int32) (fun σ7 =>
  Q (1 : Int32) σ7)))) ∧
  ((σ 616 0 0) = 0 → Q (0 : Int32) σ))) ∧
  (¬ (σ 601 0 0) ≤ x2 → (vp_in x2 40 ∧ ((¬ (σ 1053 0 (x2).toNatClampNeg) = (-1 : Int32) → wp_X9_plans_L23 g Q n σ x1 (x2 + (1 : Int32))) ∧
  ((σ 1053 0 (x2).toNatClampNeg) = (-1 : Int32) → (vp_in x2 40 ∧ (vp_in (0 : Int32) 5 ∧ (vp_in x2 40 ∧ (vp_in (0 : Int32) 5 ∧ (((σ 1065 (x2).toNatClampNeg ((0 : Int32)).toNatClampNeg) = (σ 1064 (x2).toNatClampNeg ((0 : Int32)).toNatClampNeg) → wp_X9_plans_L23 g Q n σ x1 (x2 + (1 : Int32))) ∧
  (¬ (σ 1065 (x2).toNatClampNeg ((0 : Int32)).toNatClampNeg) = (σ 1064 (x2).toNatClampNeg ((0 : Int32)).toNatClampNeg) → (vp_in x2 40 ∧ (wp_X9_sits g σ (σ 1050 0 (x2).toNatClampNeg) x1 (fun r12 σ12 =>
  ((r12 = 0 → ((¬ (σ12 616 0 0) = (5 : Int32) → (vp_in (σ12 616 0 0) 5 ∧ ∀ σ15 : pr_Sg, σ15 = pr_up σ12 1061 0 ((σ12 616 0 0)).toNatClampNeg x2 →
  (∀ σ16 : pr_Sg, σ16 = pr_up σ15 616 0 0 ((σ15 616 0 0) + (1 : Int32)) →
  wp_X9_plans_L23 g Q n σ16 x1 (x2 + (1 : Int32))))) ∧
  ((σ12 616 0 0) = (5 : Int32) → Q (0 : Int32) σ12))) ∧
  (¬ r12 = 0 → wp_X9_plans_L23 g Q n σ12 x1 (x2 + (1 : Int32))))))))))))))))))
set_option maxHeartbeats 4000000 in
set_option maxRecDepth 100000 in
theorem t_X9_plans_L23 {p : Program} {l : Launch} {e : Env} {s : State} {m : MethodId} {args : Array Value} {below : List Frame} {meth : Method} {c : Code} {D : va_G} {cs : Nat → ClassId} {A : Nat → Prop} {ad : pr_Ad} {g : Nat → Nat} {Q : Int32 → pr_Sg → Prop} (C : pr_C RX9 cX9_plans 3 (some .boolean) D cs p s m args meth c) (n : Nat) : ∀ {H : Heap} {locs : List Loc} {ls : Array Slot} {σ : pr_Sg} {x1 : Int32} {x2 : Int32} (_ : wp_X9_plans_L23 g Q n σ x1 x2) (_ : pr_R D cs A ad g σ H) (_ : va_S A s.heap H locs) (_ : lv_has ls 3 [(0, .ref (ad 9 0 0)), (1, .int x1), (2, .int x2)]), W p l e rm_X9_plans s m args below meth c H locs 0 0 (MQ below (va_Qi (pr_Qz Q) (pr_E D cs A ad g) A) args s 0 0 A) (F0 m 23 ls []) := by
  induction n with
  | zero =>
    intro H locs ls σ x1 x2 h
    exact False.elim h
  | succ n ih =>
    intro H locs ls σ x1 x2 h hR hS hl
    unfold wp_X9_plans_L23 at h
    obtain ⟨hx, hb, hml, hown, hts, hK, hr, hlocks⟩ := id C
    refine lv_iload_n hx hb dX9_plans_23 rfl (lv_at hl 2 rfl) ?_
    refine lv_aload_n hx hb dX9_plans_24 rfl (lv_at hl 0 rfl) ?_
    refine gf_RX9_110 C hR pr_l9 dX9_plans_25 ?_
    refine lv_icmp_ge (tgt := 113) hx hb dX9_plans_28 (by decide) (fun c4 => ?_) (fun c4 => ?_)
    · have h := h.1 c4
      refine lv_aload_n hx hb dX9_plans_113 rfl (lv_at hl 0 rfl) ?_
      refine gf_RX9_188 C hR pr_l9 dX9_plans_114 ?_
      refine lv_if_ne (tgt := 122) hx hb dX9_plans_117 (by decide) (fun c5 => ?_) (fun c5 => ?_)
      · have h := h.1 c5
        refine lv_aload_n hx hb dX9_plans_122 rfl (lv_at hl 0 rfl) ?_
        refine lv_iconst (v := (-1 : Int32)) hx hb dX9_plans_123 (by decide) ?_
        refine pf_RX9_191 C hR hS pr_l9 dX9_plans_124 (fun H locs σ6 e6 hR hS => ?_)
        have h := h σ6 e6
        refine lv_aload_n hx hb dX9_plans_127 rfl (lv_at hl 0 rfl) ?_
        refine lv_iconst (v := (0 : Int32)) hx hb dX9_plans_128 (by decide) ?_
        refine lv_iload_n hx hb dX9_plans_129 rfl (lv_at hl 1 rfl) ?_
        refine lv_iconst (v := (0 : Int32)) hx hb dX9_plans_130 (by decide) ?_
        refine lv_iconst (v := (0 : Int32)) hx hb dX9_plans_131 (by decide) ?_
        refine pr_callv hS (pr_runV (As := [.int (0 : Int32), .int x1, .int (0 : Int32), .int (0 : Int32)]) (rest := []) C hR pr_l9 (by omega) rfl (c_X9_tries _ h) gw_RX9_194 rfl rfl hd_X9_tries ⟨Nat.le_of_ble_eq_true rfl, Nat.le_of_ble_eq_true rfl⟩ rfl hl.1 rfl (Nat.le_of_ble_eq_true rfl) dX9_plans_132 ⟨Nat.zero_le _, Nat.zero_le _⟩) (fun σ7 H locs h hR hS => ?_)
        refine lv_iconst (v := (1 : Int32)) hx hb dX9_plans_135 (by decide) ?_
        exact pr_retz C (Or.inr rfl) h hR hS dX9_plans_136
      · have h := h.2 c5
        refine lv_iconst (v := (0 : Int32)) hx hb dX9_plans_120 (by decide) ?_
        exact pr_retz C (Or.inl rfl) h hR hS dX9_plans_121
    · have h := h.2 c4
      refine lv_aload_n hx hb dX9_plans_31 rfl (lv_at hl 0 rfl) ?_
      refine gf_RX9_53 C hR pr_l9 dX9_plans_32 ?_
      refine lv_iload_n hx hb dX9_plans_35 rfl (lv_at hl 2 rfl) ?_
      refine pr_ald hx hb hK hR pr_l53 (by omega) (by omega) (n := 40) (by decide) h.1 dX9_plans_36 (t := 1053) rfl ?_
      have h := h.2
      refine lv_iconst (v := (-1 : Int32)) hx hb dX9_plans_37 (by decide) ?_
      refine lv_icmp_ne (tgt := 107) hx hb dX9_plans_38 (by decide) (fun c8 => ?_) (fun c8 => ?_)
      · have h := h.1 c8
        refine lv_iinc (v := (x2 + (1 : Int32))) (lv' := [(2, .int (x2 + (1 : Int32))), (0, .ref (ad 9 0 0)), (1, .int x1)]) hx hb dX9_plans_107 hl (k := 2) rfl rfl (by decide) rfl (fun ls hl => ?_)
        refine lv_goto (tgt := 23) hx hb dX9_plans_110 (by decide) ?_
        exact ih h hR hS (lv_sub hl [1, 2, 0] rfl)
      · have h := h.2 c8
        refine lv_aload_n hx hb dX9_plans_41 rfl (lv_at hl 0 rfl) ?_
        refine gf_RX9_67 C hR pr_l9 dX9_plans_42 ?_
        refine lv_iload_n hx hb dX9_plans_45 rfl (lv_at hl 2 rfl) ?_
        refine pr_ldg hx hb hK hR 85 (by omega) (kd := 65) rfl h.1 dX9_plans_46 (fun hv9 => ?_)
        have h := h.2
        refine lv_iconst (v := (0 : Int32)) hx hb dX9_plans_47 (by decide) ?_
        refine pr_ald hx hb hK hR hv9 (by omega) (by omega) (n := 5) (by decide) h.1 dX9_plans_48 (t := 1065) rfl ?_
        have h := h.2
        refine lv_aload_n hx hb dX9_plans_49 rfl (lv_at hl 0 rfl) ?_
        refine gf_RX9_64 C hR pr_l9 dX9_plans_50 ?_
        refine lv_iload_n hx hb dX9_plans_53 rfl (lv_at hl 2 rfl) ?_
        refine pr_ldg hx hb hK hR 84 (by omega) (kd := 64) rfl h.1 dX9_plans_54 (fun hv10 => ?_)
        have h := h.2
        refine lv_iconst (v := (0 : Int32)) hx hb dX9_plans_55 (by decide) ?_
        refine pr_ald hx hb hK hR hv10 (by omega) (by omega) (n := 5) (by decide) h.1 dX9_plans_56 (t := 1064) rfl ?_
        have h := h.2
        refine lv_icmp_eq (tgt := 107) hx hb dX9_plans_57 (by decide) (fun c11 => ?_) (fun c11 => ?_)
        · have h := h.1 c11
          refine lv_iinc (v := (x2 + (1 : Int32))) (lv' := [(2, .int (x2 + (1 : Int32))), (0, .ref (ad 9 0 0)), (1, .int x1)]) hx hb dX9_plans_107 hl (k := 2) rfl rfl (by decide) rfl (fun ls hl => ?_)
          refine lv_goto (tgt := 23) hx hb dX9_plans_110 (by decide) ?_
          exact ih h hR hS (lv_sub hl [1, 2, 0] rfl)
        · have h := h.2 c11
          refine lv_aload_n hx hb dX9_plans_60 rfl (lv_at hl 0 rfl) ?_
          refine lv_aload_n hx hb dX9_plans_61 rfl (lv_at hl 0 rfl) ?_
          refine gf_RX9_44 C hR pr_l9 dX9_plans_62 ?_
          refine lv_iload_n hx hb dX9_plans_65 rfl (lv_at hl 2 rfl) ?_
          refine pr_ald hx hb hK hR pr_l50 (by omega) (by omega) (n := 40) (by decide) h.1 dX9_plans_66 (t := 1050) rfl ?_
          have h := h.2
          refine lv_iload_n hx hb dX9_plans_67 rfl (lv_at hl 1 rfl) ?_
          refine pr_calli hS (pr_runV (As := [.int (σ 1050 0 (x2).toNatClampNeg), .int x1]) (rest := []) C hR pr_l9 (by omega) rfl (c_X9_sits h) gw_RX9_163 rfl rfl hd_X9_sits ⟨Nat.le_of_ble_eq_true rfl, Nat.le_of_ble_eq_true rfl⟩ rfl hl.1 rfl (Nat.le_of_ble_eq_true rfl) dX9_plans_68 ⟨Nat.zero_le _, Nat.zero_le _⟩) (fun r12 σ12 H locs h hR hS => ?_)
          obtain ⟨hz12, h⟩ := h
          refine lv_if_eq (tgt := 77) hx hb dX9_plans_71 (by decide) (fun c13 => ?_) (fun c13 => ?_)
          · have h := h.1 c13
            refine lv_aload_n hx hb dX9_plans_77 rfl (lv_at hl 0 rfl) ?_
            refine gf_RX9_188 C hR pr_l9 dX9_plans_78 ?_
            refine lv_iconst (v := (5 : Int32)) hx hb dX9_plans_81 (by decide) ?_
            refine lv_icmp_ne (tgt := 87) hx hb dX9_plans_82 (by decide) (fun c14 => ?_) (fun c14 => ?_)
            · have h := h.1 c14
              refine lv_aload_n hx hb dX9_plans_87 rfl (lv_at hl 0 rfl) ?_
              refine gf_RX9_101 C hR pr_l9 dX9_plans_88 ?_
              refine lv_aload_n hx hb dX9_plans_91 rfl (lv_at hl 0 rfl) ?_
              refine gf_RX9_188 C hR pr_l9 dX9_plans_92 ?_
              refine lv_iload_n hx hb dX9_plans_95 rfl (lv_at hl 2 rfl) ?_
              refine pr_ast hx hb hK hR hS pr_l61 (by omega) (by omega) (n := 5) (by decide) h.1 dX9_plans_96 (t := 1061) rfl (fun H locs σ15 e15 hR hS => ?_)
              have h := h.2 σ15 e15
              refine lv_aload_n hx hb dX9_plans_97 rfl (lv_at hl 0 rfl) ?_
              refine lv_dup hx hb dX9_plans_98 rfl ?_
              refine gf_RX9_188 C hR pr_l9 dX9_plans_99 ?_
              refine lv_iconst (v := (1 : Int32)) hx hb dX9_plans_102 (by decide) ?_
              refine lv_iadd hx hb dX9_plans_103 ?_
              refine pf_RX9_188 C hR hS pr_l9 dX9_plans_104 (fun H locs σ16 e16 hR hS => ?_)
              have h := h σ16 e16
              refine lv_iinc (v := (x2 + (1 : Int32))) (lv' := [(2, .int (x2 + (1 : Int32))), (0, .ref (ad 9 0 0)), (1, .int x1)]) hx hb dX9_plans_107 hl (k := 2) rfl rfl (by decide) rfl (fun ls hl => ?_)
              refine lv_goto (tgt := 23) hx hb dX9_plans_110 (by decide) ?_
              exact ih h hR hS (lv_sub hl [1, 2, 0] rfl)
            · have h := h.2 c14
              refine lv_iconst (v := (0 : Int32)) hx hb dX9_plans_85 (by decide) ?_
              exact pr_retz C (Or.inl rfl) h hR hS dX9_plans_86
          · have h := h.2 c13
            refine lv_goto (tgt := 107) hx hb dX9_plans_74 (by decide) ?_
            refine lv_iinc (v := (x2 + (1 : Int32))) (lv' := [(2, .int (x2 + (1 : Int32))), (0, .ref (ad 9 0 0)), (1, .int x1)]) hx hb dX9_plans_107 hl (k := 2) rfl rfl (by decide) rfl (fun ls hl => ?_)
            refine lv_goto (tgt := 23) hx hb dX9_plans_110 (by decide) ?_
            exact ih h hR hS (lv_sub hl [1, 2, 0] rfl)
def wpb_X9_plans (g : Nat → Nat) (σ : pr_Sg) (a1 : Int32) (Q : Int32 → pr_Sg → Prop) : Prop :=
  (wp_X9_in g σ a1 (σ 576 0 0) (20000 : Int32) (fun r1 σ1 =>
  ((¬ r1 = 0 → (∀ σ3 : pr_Sg, σ3 = pr_up σ1 616 0 0 (0 : Int32) →
  (∃ n : Nat, wp_X9_plans_L23 g Q n σ3 a1 (0 : Int32)))) ∧
  (r1 = 0 → Q (0 : Int32) σ1))))
set_option maxHeartbeats 4000000 in
set_option maxRecDepth 100000 in
theorem t_X9_plans {p : Program} {l : Launch} {e : Env} {s : State} {m : MethodId} {args : Array Value} {below : List Frame} {meth : Method} {c : Code} {D : va_G} {cs : Nat → ClassId} {A : Nat → Prop} {ad : pr_Ad} {g : Nat → Nat} {Q : Int32 → pr_Sg → Prop} (C : pr_C RX9 cX9_plans 3 (some .boolean) D cs p s m args meth c) {H : Heap} {locs : List Loc} {ls : Array Slot} {σ : pr_Sg} {a1 : Int32} (h : wpb_X9_plans g σ a1 Q) (hR : pr_R D cs A ad g σ H) (hS : va_S A s.heap H locs) (hl : lv_has ls 3 [(0, .ref (ad 9 0 0)), (1, .int a1)]) : W p l e rm_X9_plans s m args below meth c H locs 0 0 (MQ below (va_Qi (pr_Qz Q) (pr_E D cs A ad g) A) args s 0 0 A) (F0 m 0 ls []) := by
  unfold wpb_X9_plans at h
  obtain ⟨hx, hb, hml, hown, hts, hK, hr, hlocks⟩ := id C
  refine lv_iload_n hx hb dX9_plans_0 rfl (lv_at hl 1 rfl) ?_
  refine lv_aload_n hx hb dX9_plans_1 rfl (lv_at hl 0 rfl) ?_
  refine gf_RX9_128 C hR pr_l9 dX9_plans_2 ?_
  refine lv_sipush (v := (20000 : Int32)) hx hb dX9_plans_5 (by decide) ?_
  refine pr_calli hS (pr_runS (As := [.int a1, .int (σ 576 0 0), .int (20000 : Int32)]) (rest := []) C hR (c_X9_in h) gw_RX9_113 rfl rfl hs_X9_in ⟨Nat.le_of_ble_eq_true rfl, Nat.le_of_ble_eq_true rfl⟩ rfl hl.1 rfl (Nat.le_of_ble_eq_true rfl) dX9_plans_8 ⟨Nat.zero_le _, Nat.zero_le _⟩) (fun r1 σ1 H locs h hR hS => ?_)
  obtain ⟨hz1, h⟩ := h
  refine lv_if_ne (tgt := 16) hx hb dX9_plans_11 (by decide) (fun c2 => ?_) (fun c2 => ?_)
  · have h := h.1 c2
    refine lv_aload_n hx hb dX9_plans_16 rfl (lv_at hl 0 rfl) ?_
    refine lv_iconst (v := (0 : Int32)) hx hb dX9_plans_17 (by decide) ?_
    refine pf_RX9_188 C hR hS pr_l9 dX9_plans_18 (fun H locs σ3 e3 hR hS => ?_)
    have h := h σ3 e3
    refine lv_iconst (v := (0 : Int32)) hx hb dX9_plans_21 (by decide) ?_
    refine lv_istore_n (lv' := [(2, .int (0 : Int32)), (0, .ref (ad 9 0 0)), (1, .int a1)]) hx hb dX9_plans_22 rfl hl (by decide) rfl (fun ls hl => ?_)
    obtain ⟨n1, h⟩ := h
    exact t_X9_plans_L23 C n1 h hR hS (lv_sub hl [1, 2, 0] rfl)
  · have h := h.2 c2
    refine lv_iconst (v := (0 : Int32)) hx hb dX9_plans_14 (by decide) ?_
    exact pr_retz C (Or.inl rfl) h hR hS dX9_plans_15
abbrev wp_X9_plans (g : Nat → Nat) (σ : pr_Sg) (a1 : Int32) (Q : Int32 → pr_Sg → Prop) : Prop := wpb_X9_plans g σ a1 Q
set_option maxHeartbeats 4000000 in
set_option maxRecDepth 100000 in
theorem c_X9_plans {l : Launch} {D : va_G} {cs : Nat → ClassId} {A : Nat → Prop} {ad : pr_Ad} {g : Nat → Nat} {σ : pr_Sg} {a1 : Int32} {Q : Int32 → pr_Sg → Prop} (h : wp_X9_plans g σ a1 Q) : pr_Mi l D cs A ad g yX9_plans cX9_plans 3 (some .boolean) rm_X9_plans [.ref (ad 9 0 0), .int a1] σ (pr_Qz Q) := by
  refine Met.ofW (cc := cX9_plans) (maxL := 3) (ret := (some .boolean)) (by decide) rfl ?_
  intro p e s m args below meth c s₁ B hml hv
  obtain ⟨rfl, hR, hK⟩ := hv
  have C : pr_C RX9 cX9_plans 3 (some .boolean) D cs p s m [.ref (ad 9 0 0), .int a1].toArray meth c := pr_C.of B hml hK
  have hS : va_S A s.heap s.heap [] := va_S.rf
  have hl := lv_entry ([.ref (ad 9 0 0), .int a1]) (n := 3) (Nat.le_of_ble_eq_true rfl)
  rw [lg_entry_eq]
  generalize (lg_sl ([.ref (ad 9 0 0), .int a1]) ++ List.replicate (3 - (lg_sl ([.ref (ad 9 0 0), .int a1])).length) Slot.unset).toArray = ls at hl ⊢
  have hl : lv_has ls 3 [(0, .ref (ad 9 0 0)), (1, .int a1)] := hl
  exact t_X9_plans C h hR hS hl
def rm_X9_planned : Room := { frames := 12, cells := 0, slots := 0, locals := 296 }
theorem hd_X9_planned : yX9_planned.cls = RX9 ∧ yX9_planned.cls ≠ "java/lang/invoke/MethodHandle" ∧ yX9_planned.cls ≠ "java/lang/invoke/VarHandle" ∧ (parseMethodDescriptor yX9_planned.desc).map (fun d => d.parameters.length) = some 2 := ⟨rfl, by decide, by decide, by decide +kernel⟩
def wp_X9_planned_L12 (g : Nat → Nat) (Q : Int32 → pr_Sg → Prop) : Nat → pr_Sg → Int32 → Int32 → Prop
  | 0, _, _, _ => False
  | n + 1, σ, x2, x3 => (((σ 616 0 0) ≤ x3 → Q (-1 : Int32) σ) ∧
  (¬ (σ 616 0 0) ≤ x3 → (vp_in x3 5 ∧ ((¬ (σ 1061 0 (x3).toNatClampNeg) = x2 → wp_X9_planned_L12 g Q n σ x2 (x3 + (1 : Int32))) ∧
  ((σ 1061 0 (x3).toNatClampNeg) = x2 → (vp_in x3 5 ∧ Q (σ 1063 0 (x3).toNatClampNeg) σ))))))
set_option maxHeartbeats 4000000 in
set_option maxRecDepth 100000 in
theorem t_X9_planned_L12 {p : Program} {l : Launch} {e : Env} {s : State} {m : MethodId} {args : Array Value} {below : List Frame} {meth : Method} {c : Code} {D : va_G} {cs : Nat → ClassId} {A : Nat → Prop} {ad : pr_Ad} {g : Nat → Nat} {Q : Int32 → pr_Sg → Prop} (C : pr_C RX9 cX9_planned 4 (some .int) D cs p s m args meth c) (n : Nat) : ∀ {H : Heap} {locs : List Loc} {ls : Array Slot} {σ : pr_Sg} {x2 : Int32} {x3 : Int32} (_ : wp_X9_planned_L12 g Q n σ x2 x3) (_ : pr_R D cs A ad g σ H) (_ : va_S A s.heap H locs) (_ : lv_has ls 4 [(0, .ref (ad 9 0 0)), (2, .int x2), (3, .int x3)]), W p l e rm_X9_planned s m args below meth c H locs 0 0 (MQ below (va_Qi Q (pr_E D cs A ad g) A) args s 0 0 A) (F0 m 12 ls []) := by
  induction n with
  | zero =>
    intro H locs ls σ x2 x3 h
    exact False.elim h
  | succ n ih =>
    intro H locs ls σ x2 x3 h hR hS hl
    unfold wp_X9_planned_L12 at h
    obtain ⟨hx, hb, hml, hown, hts, hK, hr, hlocks⟩ := id C
    refine lv_iload_n hx hb dX9_planned_12 rfl (lv_at hl 2 rfl) ?_
    refine lv_aload_n hx hb dX9_planned_13 rfl (lv_at hl 0 rfl) ?_
    refine gf_RX9_188 C hR pr_l9 dX9_planned_14 ?_
    refine lv_icmp_ge (tgt := 43) hx hb dX9_planned_17 (by decide) (fun c3 => ?_) (fun c3 => ?_)
    · have h := h.1 c3
      refine lv_iconst (v := (-1 : Int32)) hx hb dX9_planned_43 (by decide) ?_
      exact pr_reti C h hR hS dX9_planned_44
    · have h := h.2 c3
      refine lv_aload_n hx hb dX9_planned_20 rfl (lv_at hl 0 rfl) ?_
      refine gf_RX9_101 C hR pr_l9 dX9_planned_21 ?_
      refine lv_iload_n hx hb dX9_planned_24 rfl (lv_at hl 2 rfl) ?_
      refine pr_ald hx hb hK hR pr_l61 (by omega) (by omega) (n := 5) (by decide) h.1 dX9_planned_25 (t := 1061) rfl ?_
      have h := h.2
      refine lv_iload_n hx hb dX9_planned_26 rfl (lv_at hl 1 rfl) ?_
      refine lv_icmp_ne (tgt := 37) hx hb dX9_planned_27 (by decide) (fun c4 => ?_) (fun c4 => ?_)
      · have h := h.1 c4
        refine lv_iinc (v := (x3 + (1 : Int32))) (lv' := [(3, .int (x3 + (1 : Int32))), (0, .ref (ad 9 0 0)), (2, .int x2)]) hx hb dX9_planned_37 hl (k := 2) rfl rfl (by decide) rfl (fun ls hl => ?_)
        refine lv_goto (tgt := 12) hx hb dX9_planned_40 (by decide) ?_
        exact ih h hR hS (lv_sub hl [1, 2, 0] rfl)
      · have h := h.2 c4
        refine lv_aload_n hx hb dX9_planned_30 rfl (lv_at hl 0 rfl) ?_
        refine gf_RX9_107 C hR pr_l9 dX9_planned_31 ?_
        refine lv_iload_n hx hb dX9_planned_34 rfl (lv_at hl 2 rfl) ?_
        refine pr_ald hx hb hK hR pr_l63 (by omega) (by omega) (n := 5) (by decide) h.1 dX9_planned_35 (t := 1063) rfl ?_
        have h := h.2
        exact pr_reti C h hR hS dX9_planned_36
def wpb_X9_planned (g : Nat → Nat) (σ : pr_Sg) (a1 : Int32) (a2 : Int32) (Q : Int32 → pr_Sg → Prop) : Prop :=
  (wp_X9_plans g σ a1 (fun r1 σ1 =>
  ((¬ r1 = 0 → (∃ n : Nat, wp_X9_planned_L12 g Q n σ1 a2 (0 : Int32))) ∧
  (r1 = 0 → Q (-1 : Int32) σ1))))
set_option maxHeartbeats 4000000 in
set_option maxRecDepth 100000 in
theorem t_X9_planned {p : Program} {l : Launch} {e : Env} {s : State} {m : MethodId} {args : Array Value} {below : List Frame} {meth : Method} {c : Code} {D : va_G} {cs : Nat → ClassId} {A : Nat → Prop} {ad : pr_Ad} {g : Nat → Nat} {Q : Int32 → pr_Sg → Prop} (C : pr_C RX9 cX9_planned 4 (some .int) D cs p s m args meth c) {H : Heap} {locs : List Loc} {ls : Array Slot} {σ : pr_Sg} {a1 : Int32} {a2 : Int32} (h : wpb_X9_planned g σ a1 a2 Q) (hR : pr_R D cs A ad g σ H) (hS : va_S A s.heap H locs) (hl : lv_has ls 4 [(0, .ref (ad 9 0 0)), (1, .int a1), (2, .int a2)]) : W p l e rm_X9_planned s m args below meth c H locs 0 0 (MQ below (va_Qi Q (pr_E D cs A ad g) A) args s 0 0 A) (F0 m 0 ls []) := by
  unfold wpb_X9_planned at h
  obtain ⟨hx, hb, hml, hown, hts, hK, hr, hlocks⟩ := id C
  refine lv_aload_n hx hb dX9_planned_0 rfl (lv_at hl 0 rfl) ?_
  refine lv_iload_n hx hb dX9_planned_1 rfl (lv_at hl 1 rfl) ?_
  refine pr_calli hS (pr_runV (As := [.int a1]) (rest := []) C hR pr_l9 (by omega) rfl (c_X9_plans h) gw_RX9_198 rfl rfl hd_X9_plans ⟨Nat.le_of_ble_eq_true rfl, Nat.le_of_ble_eq_true rfl⟩ rfl hl.1 rfl (Nat.le_of_ble_eq_true rfl) dX9_planned_2 ⟨Nat.zero_le _, Nat.zero_le _⟩) (fun r1 σ1 H locs h hR hS => ?_)
  obtain ⟨hz1, h⟩ := h
  refine lv_if_ne (tgt := 10) hx hb dX9_planned_5 (by decide) (fun c2 => ?_) (fun c2 => ?_)
  · have h := h.1 c2
    refine lv_iconst (v := (0 : Int32)) hx hb dX9_planned_10 (by decide) ?_
    refine lv_istore_n (lv' := [(3, .int (0 : Int32)), (0, .ref (ad 9 0 0)), (1, .int a1), (2, .int a2)]) hx hb dX9_planned_11 rfl hl (by decide) rfl (fun ls hl => ?_)
    obtain ⟨n1, h⟩ := h
    exact t_X9_planned_L12 C n1 h hR hS (lv_sub hl [1, 3, 0] rfl)
  · have h := h.2 c2
    refine lv_iconst (v := (-1 : Int32)) hx hb dX9_planned_8 (by decide) ?_
    exact pr_reti C h hR hS dX9_planned_9
abbrev wp_X9_planned (g : Nat → Nat) (σ : pr_Sg) (a1 : Int32) (a2 : Int32) (Q : Int32 → pr_Sg → Prop) : Prop := wpb_X9_planned g σ a1 a2 Q
set_option maxHeartbeats 4000000 in
set_option maxRecDepth 100000 in
theorem c_X9_planned {l : Launch} {D : va_G} {cs : Nat → ClassId} {A : Nat → Prop} {ad : pr_Ad} {g : Nat → Nat} {σ : pr_Sg} {a1 : Int32} {a2 : Int32} {Q : Int32 → pr_Sg → Prop} (h : wp_X9_planned g σ a1 a2 Q) : pr_Mi l D cs A ad g yX9_planned cX9_planned 4 (some .int) rm_X9_planned [.ref (ad 9 0 0), .int a1, .int a2] σ Q := by
  refine Met.ofW (cc := cX9_planned) (maxL := 4) (ret := (some .int)) (by decide) rfl ?_
  intro p e s m args below meth c s₁ B hml hv
  obtain ⟨rfl, hR, hK⟩ := hv
  have C : pr_C RX9 cX9_planned 4 (some .int) D cs p s m [.ref (ad 9 0 0), .int a1, .int a2].toArray meth c := pr_C.of B hml hK
  have hS : va_S A s.heap s.heap [] := va_S.rf
  have hl := lv_entry ([.ref (ad 9 0 0), .int a1, .int a2]) (n := 4) (Nat.le_of_ble_eq_true rfl)
  rw [lg_entry_eq]
  generalize (lg_sl ([.ref (ad 9 0 0), .int a1, .int a2]) ++ List.replicate (4 - (lg_sl ([.ref (ad 9 0 0), .int a1, .int a2])).length) Slot.unset).toArray = ls at hl ⊢
  have hl : lv_has ls 4 [(0, .ref (ad 9 0 0)), (1, .int a1), (2, .int a2)] := hl
  exact t_X9_planned C h hR hS hl
def rm_X9_worth : Room := { frames := 12, cells := 0, slots := 0, locals := 296 }
theorem hd_X9_worth : yX9_worth.cls = RX9 ∧ yX9_worth.cls ≠ "java/lang/invoke/MethodHandle" ∧ yX9_worth.cls ≠ "java/lang/invoke/VarHandle" ∧ (parseMethodDescriptor yX9_worth.desc).map (fun d => d.parameters.length) = some 1 := ⟨rfl, by decide, by decide, by decide +kernel⟩
def wpb_X9_worth (g : Nat → Nat) (σ : pr_Sg) (a1 : Int32) (Q : Int32 → pr_Sg → Prop) : Prop :=
  (wp_X9_plans g σ a1 (fun r1 σ1 =>
  ((r1 = 0 → Q (-1 : Int32) σ1) ∧
  (¬ r1 = 0 → Q (σ1 617 0 0) σ1))))
set_option maxHeartbeats 4000000 in
set_option maxRecDepth 100000 in
theorem t_X9_worth {p : Program} {l : Launch} {e : Env} {s : State} {m : MethodId} {args : Array Value} {below : List Frame} {meth : Method} {c : Code} {D : va_G} {cs : Nat → ClassId} {A : Nat → Prop} {ad : pr_Ad} {g : Nat → Nat} {Q : Int32 → pr_Sg → Prop} (C : pr_C RX9 cX9_worth 2 (some .int) D cs p s m args meth c) {H : Heap} {locs : List Loc} {ls : Array Slot} {σ : pr_Sg} {a1 : Int32} (h : wpb_X9_worth g σ a1 Q) (hR : pr_R D cs A ad g σ H) (hS : va_S A s.heap H locs) (hl : lv_has ls 2 [(0, .ref (ad 9 0 0)), (1, .int a1)]) : W p l e rm_X9_worth s m args below meth c H locs 0 0 (MQ below (va_Qi Q (pr_E D cs A ad g) A) args s 0 0 A) (F0 m 0 ls []) := by
  unfold wpb_X9_worth at h
  obtain ⟨hx, hb, hml, hown, hts, hK, hr, hlocks⟩ := id C
  refine lv_aload_n hx hb dX9_worth_0 rfl (lv_at hl 0 rfl) ?_
  refine lv_iload_n hx hb dX9_worth_1 rfl (lv_at hl 1 rfl) ?_
  refine pr_calli hS (pr_runV (As := [.int a1]) (rest := []) C hR pr_l9 (by omega) rfl (c_X9_plans h) gw_RX9_198 rfl rfl hd_X9_plans ⟨Nat.le_of_ble_eq_true rfl, Nat.le_of_ble_eq_true rfl⟩ rfl hl.1 rfl (Nat.le_of_ble_eq_true rfl) dX9_worth_2 ⟨Nat.zero_le _, Nat.zero_le _⟩) (fun r1 σ1 H locs h hR hS => ?_)
  obtain ⟨hz1, h⟩ := h
  refine lv_if_eq (tgt := 15) hx hb dX9_worth_5 (by decide) (fun c2 => ?_) (fun c2 => ?_)
  · have h := h.1 c2
    refine lv_iconst (v := (-1 : Int32)) hx hb dX9_worth_15 (by decide) ?_
    exact pr_reti C h hR hS dX9_worth_16
  · have h := h.2 c2
    refine lv_aload_n hx hb dX9_worth_8 rfl (lv_at hl 0 rfl) ?_
    refine gf_RX9_191 C hR pr_l9 dX9_worth_9 ?_
    refine lv_goto (tgt := 16) hx hb dX9_worth_12 (by decide) ?_
    exact pr_reti C h hR hS dX9_worth_16
abbrev wp_X9_worth (g : Nat → Nat) (σ : pr_Sg) (a1 : Int32) (Q : Int32 → pr_Sg → Prop) : Prop := wpb_X9_worth g σ a1 Q
set_option maxHeartbeats 4000000 in
set_option maxRecDepth 100000 in
theorem c_X9_worth {l : Launch} {D : va_G} {cs : Nat → ClassId} {A : Nat → Prop} {ad : pr_Ad} {g : Nat → Nat} {σ : pr_Sg} {a1 : Int32} {Q : Int32 → pr_Sg → Prop} (h : wp_X9_worth g σ a1 Q) : pr_Mi l D cs A ad g yX9_worth cX9_worth 2 (some .int) rm_X9_worth [.ref (ad 9 0 0), .int a1] σ Q := by
  refine Met.ofW (cc := cX9_worth) (maxL := 2) (ret := (some .int)) (by decide) rfl ?_
  intro p e s m args below meth c s₁ B hml hv
  obtain ⟨rfl, hR, hK⟩ := hv
  have C : pr_C RX9 cX9_worth 2 (some .int) D cs p s m [.ref (ad 9 0 0), .int a1].toArray meth c := pr_C.of B hml hK
  have hS : va_S A s.heap s.heap [] := va_S.rf
  have hl := lv_entry ([.ref (ad 9 0 0), .int a1]) (n := 2) (Nat.le_of_ble_eq_true rfl)
  rw [lg_entry_eq]
  generalize (lg_sl ([.ref (ad 9 0 0), .int a1]) ++ List.replicate (2 - (lg_sl ([.ref (ad 9 0 0), .int a1])).length) Slot.unset).toArray = ls at hl ⊢
  have hl : lv_has ls 2 [(0, .ref (ad 9 0 0)), (1, .int a1)] := hl
  exact t_X9_worth C h hR hS hl
