def rm_X8_lightHours : Room := { frames := 1, cells := 0, slots := 0, locals := 15 }
theorem hs_X8_lightHours : yX8_lightHours.cls ≠ "java/lang/invoke/MethodHandle" ∧ yX8_lightHours.cls ≠ "java/lang/invoke/VarHandle" ∧ (parseMethodDescriptor yX8_lightHours.desc).map (fun d => d.parameters.length) = some 1 := ⟨by decide, by decide, by decide +kernel⟩
def wpb_X8_lightHours (g : Nat → Nat) (σ : pr_Sg) (a1 : Int32) (Q : Int32 → pr_Sg → Prop) : Prop :=
  Q ((6 : Int32) - ((if 0 ≤ ((a1 - a1 / (365 : Int32) * (365 : Int32)) - (182 : Int32)) then ((a1 - a1 / (365 : Int32) * (365 : Int32)) - (182 : Int32)) else 0 - ((a1 - a1 / (365 : Int32) * (365 : Int32)) - (182 : Int32))) / (46 : Int32))) σ
set_option maxHeartbeats 4000000 in
set_option maxRecDepth 100000 in
theorem t_X8_lightHours {p : Program} {l : Launch} {e : Env} {s : State} {m : MethodId} {args : Array Value} {below : List Frame} {meth : Method} {c : Code} {D : va_G} {cs : Nat → ClassId} {A : Nat → Prop} {ad : pr_Ad} {g : Nat → Nat} {Q : Int32 → pr_Sg → Prop} (C : pr_C RX8 cX8_lightHours 1 (some .int) D cs p s m args meth c) {H : Heap} {locs : List Loc} {ls : Array Slot} {σ : pr_Sg} {a1 : Int32} (h : wpb_X8_lightHours g σ a1 Q) (hR : pr_R D cs A ad g σ H) (hS : va_S A s.heap H locs) (hl : lv_has ls 1 [(0, .int a1)]) : W p l e rm_X8_lightHours s m args below meth c H locs 0 0 (MQ below (va_Qi Q (pr_E D cs A ad g) A) args s 0 0 A) (F0 m 0 ls []) := by
  unfold wpb_X8_lightHours at h
  obtain ⟨hx, hb, hml, hown, hts, hK, hr, hlocks⟩ := id C
  refine lv_bipush (v := (6 : Int32)) hx hb dX8_lightHours_0 (by decide) ?_
  refine lv_iload_n hx hb dX8_lightHours_2 rfl (lv_at hl 0 rfl) ?_
  refine lv_sipush (v := (365 : Int32)) hx hb dX8_lightHours_3 (by decide) ?_
  refine lv_irem hx hb dX8_lightHours_6 (by decide) ?_
  refine lv_sipush (v := (182 : Int32)) hx hb dX8_lightHours_7 (by decide) ?_
  refine lv_isub hx hb dX8_lightHours_10 ?_
  refine va_mabs hx hb (by rw [hml]; exact hl.1.symm) hown (hts _ (pr_in11 _ (List.mem_of_getElem? (i := 10) rfl))) (hts _ (pr_in11 _ (List.mem_of_getElem? (i := 11) rfl))) (hts _ (pr_in10 _ (List.mem_of_getElem? (i := 20) rfl))) (hts _ (pr_in11 _ (List.mem_of_getElem? (i := 12) rfl))) (Nat.le_of_ble_eq_true rfl) (Nat.le_of_ble_eq_true rfl) (Nat.zero_le _) (Nat.zero_le _) dX8_lightHours_11 ?_
  refine lv_bipush (v := (46 : Int32)) hx hb dX8_lightHours_14 (by decide) ?_
  refine lv_idiv hx hb dX8_lightHours_16 (by decide) ?_
  refine lv_isub hx hb dX8_lightHours_17 ?_
  exact pr_reti C h hR hS dX8_lightHours_18
abbrev wp_X8_lightHours (g : Nat → Nat) (σ : pr_Sg) (a1 : Int32) (Q : Int32 → pr_Sg → Prop) : Prop := wpb_X8_lightHours g σ a1 Q
set_option maxHeartbeats 4000000 in
set_option maxRecDepth 100000 in
theorem c_X8_lightHours {l : Launch} {D : va_G} {cs : Nat → ClassId} {A : Nat → Prop} {ad : pr_Ad} {g : Nat → Nat} {σ : pr_Sg} {a1 : Int32} {Q : Int32 → pr_Sg → Prop} (h : wp_X8_lightHours g σ a1 Q) : pr_Mi l D cs A ad g yX8_lightHours cX8_lightHours 1 (some .int) rm_X8_lightHours [.int a1] σ Q := by
  refine Met.ofW (cc := cX8_lightHours) (maxL := 1) (ret := (some .int)) (by decide) rfl ?_
  intro p e s m args below meth c s₁ B hml hv
  obtain ⟨rfl, hR, hK⟩ := hv
  have C : pr_C RX8 cX8_lightHours 1 (some .int) D cs p s m [.int a1].toArray meth c := pr_C.of B hml hK
  have hS : va_S A s.heap s.heap [] := va_S.rf
  have hl := lv_entry ([.int a1]) (n := 1) (Nat.le_of_ble_eq_true rfl)
  rw [lg_entry_eq]
  generalize (lg_sl ([.int a1]) ++ List.replicate (1 - (lg_sl ([.int a1])).length) Slot.unset).toArray = ls at hl ⊢
  have hl : lv_has ls 1 [(0, .int a1)] := hl
  exact t_X8_lightHours C h hR hS hl
def rm_X8_layersCanBe : Room := { frames := 0, cells := 0, slots := 0, locals := 0 }
theorem hs_X8_layersCanBe : yX8_layersCanBe.cls ≠ "java/lang/invoke/MethodHandle" ∧ yX8_layersCanBe.cls ≠ "java/lang/invoke/VarHandle" ∧ (parseMethodDescriptor yX8_layersCanBe.desc).map (fun d => d.parameters.length) = some 1 := ⟨by decide, by decide, by decide +kernel⟩
def wp_X8_layersCanBe_L13 (g : Nat → Nat) (Q : Int32 → pr_Sg → Prop) : Nat → pr_Sg → Int32 → Int32 → Prop
  | 0, _, _, _ => False
  | n + 1, σ, x1, x2 => (((5 : Int32) ≤ x2 → ((¬ x1 = 0 → Q (0 : Int32) σ) ∧
  (x1 = 0 → Q (1 : Int32) σ))) ∧
  (¬ (5 : Int32) ≤ x2 → (((x1 - x1 / (10 : Int32) * (10 : Int32)) ≤ (3 : Int32) → wp_X8_layersCanBe_L13 g Q n σ (x1 / (10 : Int32)) (x2 + (1 : Int32))) ∧
  (¬ (x1 - x1 / (10 : Int32) * (10 : Int32)) ≤ (3 : Int32) → Q (0 : Int32) σ))))
set_option maxHeartbeats 4000000 in
set_option maxRecDepth 100000 in
theorem t_X8_layersCanBe_L13 {p : Program} {l : Launch} {e : Env} {s : State} {m : MethodId} {args : Array Value} {below : List Frame} {meth : Method} {c : Code} {D : va_G} {cs : Nat → ClassId} {A : Nat → Prop} {ad : pr_Ad} {g : Nat → Nat} {Q : Int32 → pr_Sg → Prop} (C : pr_C RX8 cX8_layersCanBe 3 (some .boolean) D cs p s m args meth c) (n : Nat) : ∀ {H : Heap} {locs : List Loc} {ls : Array Slot} {σ : pr_Sg} {x1 : Int32} {x2 : Int32} (_ : wp_X8_layersCanBe_L13 g Q n σ x1 x2) (_ : pr_R D cs A ad g σ H) (_ : va_S A s.heap H locs) (_ : lv_has ls 3 [(1, .int x1), (2, .int x2)]), W p l e rm_X8_layersCanBe s m args below meth c H locs 0 0 (MQ below (va_Qi (pr_Qz Q) (pr_E D cs A ad g) A) args s 0 0 A) (F0 m 13 ls []) := by
  induction n with
  | zero =>
    intro H locs ls σ x1 x2 h
    exact False.elim h
  | succ n ih =>
    intro H locs ls σ x1 x2 h hR hS hl
    unfold wp_X8_layersCanBe_L13 at h
    obtain ⟨hx, hb, hml, hown, hts, hK, hr, hlocks⟩ := id C
    refine lv_iload_n hx hb dX8_layersCanBe_13 rfl (lv_at hl 1 rfl) ?_
    refine lv_iconst (v := (5 : Int32)) hx hb dX8_layersCanBe_14 (by decide) ?_
    refine lv_icmp_ge (tgt := 39) hx hb dX8_layersCanBe_15 (by decide) (fun c2 => ?_) (fun c2 => ?_)
    · have h := h.1 c2
      refine lv_iload_n hx hb dX8_layersCanBe_39 rfl (lv_at hl 0 rfl) ?_
      refine lv_if_ne (tgt := 47) hx hb dX8_layersCanBe_40 (by decide) (fun c3 => ?_) (fun c3 => ?_)
      · have h := h.1 c3
        refine lv_iconst (v := (0 : Int32)) hx hb dX8_layersCanBe_47 (by decide) ?_
        exact pr_retz C (Or.inl rfl) h hR hS dX8_layersCanBe_48
      · have h := h.2 c3
        refine lv_iconst (v := (1 : Int32)) hx hb dX8_layersCanBe_43 (by decide) ?_
        refine lv_goto (tgt := 48) hx hb dX8_layersCanBe_44 (by decide) ?_
        exact pr_retz C (Or.inr rfl) h hR hS dX8_layersCanBe_48
    · have h := h.2 c2
      refine lv_iload_n hx hb dX8_layersCanBe_18 rfl (lv_at hl 0 rfl) ?_
      refine lv_bipush (v := (10 : Int32)) hx hb dX8_layersCanBe_19 (by decide) ?_
      refine lv_irem hx hb dX8_layersCanBe_21 (by decide) ?_
      refine lv_iconst (v := (3 : Int32)) hx hb dX8_layersCanBe_22 (by decide) ?_
      refine lv_icmp_le (tgt := 28) hx hb dX8_layersCanBe_23 (by decide) (fun c4 => ?_) (fun c4 => ?_)
      · have h := h.1 c4
        refine lv_iload_n hx hb dX8_layersCanBe_28 rfl (lv_at hl 0 rfl) ?_
        refine lv_bipush (v := (10 : Int32)) hx hb dX8_layersCanBe_29 (by decide) ?_
        refine lv_idiv hx hb dX8_layersCanBe_31 (by decide) ?_
        refine lv_istore_n (lv' := [(1, .int (x1 / (10 : Int32))), (2, .int x2)]) hx hb dX8_layersCanBe_32 rfl hl (by decide) rfl (fun ls hl => ?_)
        refine lv_iinc (v := (x2 + (1 : Int32))) (lv' := [(2, .int (x2 + (1 : Int32))), (1, .int (x1 / (10 : Int32)))]) hx hb dX8_layersCanBe_33 hl (k := 1) rfl rfl (by decide) rfl (fun ls hl => ?_)
        refine lv_goto (tgt := 13) hx hb dX8_layersCanBe_36 (by decide) ?_
        exact ih h hR hS (lv_sub hl [1, 0] rfl)
      · have h := h.2 c4
        refine lv_iconst (v := (0 : Int32)) hx hb dX8_layersCanBe_26 (by decide) ?_
        exact pr_retz C (Or.inl rfl) h hR hS dX8_layersCanBe_27
def wpb_X8_layersCanBe (g : Nat → Nat) (σ : pr_Sg) (a1 : Int32) (Q : Int32 → pr_Sg → Prop) : Prop :=
  (((10000 : Int32) ≤ a1 → (∃ n : Nat, wp_X8_layersCanBe_L13 g Q n σ a1 (0 : Int32))) ∧
  (¬ (10000 : Int32) ≤ a1 → Q (0 : Int32) σ))
set_option maxHeartbeats 4000000 in
set_option maxRecDepth 100000 in
theorem t_X8_layersCanBe {p : Program} {l : Launch} {e : Env} {s : State} {m : MethodId} {args : Array Value} {below : List Frame} {meth : Method} {c : Code} {D : va_G} {cs : Nat → ClassId} {A : Nat → Prop} {ad : pr_Ad} {g : Nat → Nat} {Q : Int32 → pr_Sg → Prop} (C : pr_C RX8 cX8_layersCanBe 3 (some .boolean) D cs p s m args meth c) {H : Heap} {locs : List Loc} {ls : Array Slot} {σ : pr_Sg} {a1 : Int32} (h : wpb_X8_layersCanBe g σ a1 Q) (hR : pr_R D cs A ad g σ H) (hS : va_S A s.heap H locs) (hl : lv_has ls 3 [(0, .int a1)]) : W p l e rm_X8_layersCanBe s m args below meth c H locs 0 0 (MQ below (va_Qi (pr_Qz Q) (pr_E D cs A ad g) A) args s 0 0 A) (F0 m 0 ls []) := by
  unfold wpb_X8_layersCanBe at h
  obtain ⟨hx, hb, hml, hown, hts, hK, hr, hlocks⟩ := id C
  refine lv_iload_n hx hb dX8_layersCanBe_0 rfl (lv_at hl 0 rfl) ?_
  refine lv_sipush (v := (10000 : Int32)) hx hb dX8_layersCanBe_1 (by decide) ?_
  refine lv_icmp_ge (tgt := 9) hx hb dX8_layersCanBe_4 (by decide) (fun c1 => ?_) (fun c1 => ?_)
  · have h := h.1 c1
    refine lv_iload_n hx hb dX8_layersCanBe_9 rfl (lv_at hl 0 rfl) ?_
    refine lv_istore_n (lv' := [(1, .int a1), (0, .int a1)]) hx hb dX8_layersCanBe_10 rfl hl (by decide) rfl (fun ls hl => ?_)
    refine lv_iconst (v := (0 : Int32)) hx hb dX8_layersCanBe_11 (by decide) ?_
    refine lv_istore_n (lv' := [(2, .int (0 : Int32)), (1, .int a1), (0, .int a1)]) hx hb dX8_layersCanBe_12 rfl hl (by decide) rfl (fun ls hl => ?_)
    obtain ⟨n1, h⟩ := h
    exact t_X8_layersCanBe_L13 C n1 h hR hS (lv_sub hl [1, 0] rfl)
  · have h := h.2 c1
    refine lv_iconst (v := (0 : Int32)) hx hb dX8_layersCanBe_7 (by decide) ?_
    exact pr_retz C (Or.inl rfl) h hR hS dX8_layersCanBe_8
abbrev wp_X8_layersCanBe (g : Nat → Nat) (σ : pr_Sg) (a1 : Int32) (Q : Int32 → pr_Sg → Prop) : Prop := wpb_X8_layersCanBe g σ a1 Q
set_option maxHeartbeats 4000000 in
set_option maxRecDepth 100000 in
theorem c_X8_layersCanBe {l : Launch} {D : va_G} {cs : Nat → ClassId} {A : Nat → Prop} {ad : pr_Ad} {g : Nat → Nat} {σ : pr_Sg} {a1 : Int32} {Q : Int32 → pr_Sg → Prop} (h : wp_X8_layersCanBe g σ a1 Q) : pr_Mi l D cs A ad g yX8_layersCanBe cX8_layersCanBe 3 (some .boolean) rm_X8_layersCanBe [.int a1] σ (pr_Qz Q) := by
  refine Met.ofW (cc := cX8_layersCanBe) (maxL := 3) (ret := (some .boolean)) (by decide) rfl ?_
  intro p e s m args below meth c s₁ B hml hv
  obtain ⟨rfl, hR, hK⟩ := hv
  have C : pr_C RX8 cX8_layersCanBe 3 (some .boolean) D cs p s m [.int a1].toArray meth c := pr_C.of B hml hK
  have hS : va_S A s.heap s.heap [] := va_S.rf
  have hl := lv_entry ([.int a1]) (n := 3) (Nat.le_of_ble_eq_true rfl)
  rw [lg_entry_eq]
  generalize (lg_sl ([.int a1]) ++ List.replicate (3 - (lg_sl ([.int a1])).length) Slot.unset).toArray = ls at hl ⊢
  have hl : lv_has ls 3 [(0, .int a1)] := hl
  exact t_X8_layersCanBe C h hR hS hl
def rm_X8_isNowOrLater : Room := { frames := 0, cells := 0, slots := 0, locals := 0 }
theorem hd_X8_isNowOrLater : yX8_isNowOrLater.cls = RX8 ∧ yX8_isNowOrLater.cls ≠ "java/lang/invoke/MethodHandle" ∧ yX8_isNowOrLater.cls ≠ "java/lang/invoke/VarHandle" ∧ (parseMethodDescriptor yX8_isNowOrLater.desc).map (fun d => d.parameters.length) = some 1 := ⟨rfl, by decide, by decide, by decide +kernel⟩
def wpb_X8_isNowOrLater (g : Nat → Nat) (σ : pr_Sg) (a1 : Int32) (Q : Int32 → pr_Sg → Prop) : Prop :=
  ((a1 < (σ 520 0 0) → Q (0 : Int32) σ) ∧
  (¬ a1 < (σ 520 0 0) → (((20000 : Int32) < a1 → Q (0 : Int32) σ) ∧
  (¬ (20000 : Int32) < a1 → Q (1 : Int32) σ))))
set_option maxHeartbeats 4000000 in
set_option maxRecDepth 100000 in
theorem t_X8_isNowOrLater {p : Program} {l : Launch} {e : Env} {s : State} {m : MethodId} {args : Array Value} {below : List Frame} {meth : Method} {c : Code} {D : va_G} {cs : Nat → ClassId} {A : Nat → Prop} {ad : pr_Ad} {g : Nat → Nat} {Q : Int32 → pr_Sg → Prop} (C : pr_C RX8 cX8_isNowOrLater 2 (some .boolean) D cs p s m args meth c) {H : Heap} {locs : List Loc} {ls : Array Slot} {σ : pr_Sg} {a1 : Int32} (h : wpb_X8_isNowOrLater g σ a1 Q) (hR : pr_R D cs A ad g σ H) (hS : va_S A s.heap H locs) (hl : lv_has ls 2 [(0, .ref (ad 8 0 0)), (1, .int a1)]) : W p l e rm_X8_isNowOrLater s m args below meth c H locs 0 0 (MQ below (va_Qi (pr_Qz Q) (pr_E D cs A ad g) A) args s 0 0 A) (F0 m 0 ls []) := by
  unfold wpb_X8_isNowOrLater at h
  obtain ⟨hx, hb, hml, hown, hts, hK, hr, hlocks⟩ := id C
  refine lv_iload_n hx hb dX8_isNowOrLater_0 rfl (lv_at hl 1 rfl) ?_
  refine lv_aload_n hx hb dX8_isNowOrLater_1 rfl (lv_at hl 0 rfl) ?_
  refine gf_RX8_92 C hR pr_l8 dX8_isNowOrLater_2 ?_
  refine lv_icmp_lt (tgt := 19) hx hb dX8_isNowOrLater_5 (by decide) (fun c1 => ?_) (fun c1 => ?_)
  · have h := h.1 c1
    refine lv_iconst (v := (0 : Int32)) hx hb dX8_isNowOrLater_19 (by decide) ?_
    exact pr_retz C (Or.inl rfl) h hR hS dX8_isNowOrLater_20
  · have h := h.2 c1
    refine lv_iload_n hx hb dX8_isNowOrLater_8 rfl (lv_at hl 1 rfl) ?_
    refine lv_sipush (v := (20000 : Int32)) hx hb dX8_isNowOrLater_9 (by decide) ?_
    refine lv_icmp_gt (tgt := 19) hx hb dX8_isNowOrLater_12 (by decide) (fun c2 => ?_) (fun c2 => ?_)
    · have h := h.1 c2
      refine lv_iconst (v := (0 : Int32)) hx hb dX8_isNowOrLater_19 (by decide) ?_
      exact pr_retz C (Or.inl rfl) h hR hS dX8_isNowOrLater_20
    · have h := h.2 c2
      refine lv_iconst (v := (1 : Int32)) hx hb dX8_isNowOrLater_15 (by decide) ?_
      refine lv_goto (tgt := 20) hx hb dX8_isNowOrLater_16 (by decide) ?_
      exact pr_retz C (Or.inr rfl) h hR hS dX8_isNowOrLater_20
abbrev wp_X8_isNowOrLater (g : Nat → Nat) (σ : pr_Sg) (a1 : Int32) (Q : Int32 → pr_Sg → Prop) : Prop := wpb_X8_isNowOrLater g σ a1 Q
set_option maxHeartbeats 4000000 in
set_option maxRecDepth 100000 in
theorem c_X8_isNowOrLater {l : Launch} {D : va_G} {cs : Nat → ClassId} {A : Nat → Prop} {ad : pr_Ad} {g : Nat → Nat} {σ : pr_Sg} {a1 : Int32} {Q : Int32 → pr_Sg → Prop} (h : wp_X8_isNowOrLater g σ a1 Q) : pr_Mi l D cs A ad g yX8_isNowOrLater cX8_isNowOrLater 2 (some .boolean) rm_X8_isNowOrLater [.ref (ad 8 0 0), .int a1] σ (pr_Qz Q) := by
  refine Met.ofW (cc := cX8_isNowOrLater) (maxL := 2) (ret := (some .boolean)) (by decide) rfl ?_
  intro p e s m args below meth c s₁ B hml hv
  obtain ⟨rfl, hR, hK⟩ := hv
  have C : pr_C RX8 cX8_isNowOrLater 2 (some .boolean) D cs p s m [.ref (ad 8 0 0), .int a1].toArray meth c := pr_C.of B hml hK
  have hS : va_S A s.heap s.heap [] := va_S.rf
  have hl := lv_entry ([.ref (ad 8 0 0), .int a1]) (n := 2) (Nat.le_of_ble_eq_true rfl)
  rw [lg_entry_eq]
  generalize (lg_sl ([.ref (ad 8 0 0), .int a1]) ++ List.replicate (2 - (lg_sl ([.ref (ad 8 0 0), .int a1])).length) Slot.unset).toArray = ls at hl ⊢
  have hl : lv_has ls 2 [(0, .ref (ad 8 0 0)), (1, .int a1)] := hl
  exact t_X8_isNowOrLater C h hR hS hl
def rm_X8_handAt : Room := { frames := 0, cells := 0, slots := 0, locals := 0 }
theorem hd_X8_handAt : yX8_handAt.cls = RX8 ∧ yX8_handAt.cls ≠ "java/lang/invoke/MethodHandle" ∧ yX8_handAt.cls ≠ "java/lang/invoke/VarHandle" ∧ (parseMethodDescriptor yX8_handAt.desc).map (fun d => d.parameters.length) = some 1 := ⟨rfl, by decide, by decide, by decide +kernel⟩
def wpb_X8_handAt (g : Nat → Nat) (σ : pr_Sg) (a1 : Int32) (Q : Option (Nat × Nat) → pr_Sg → Prop) : Prop :=
  ((a1 < 0 → Q none σ) ∧
  (¬ a1 < 0 → (((σ 521 0 0) ≤ a1 → Q none σ) ∧
  (¬ (σ 521 0 0) ≤ a1 → (vp_in a1 7 ∧ ((¬ (a1).toNatClampNeg < g 0 → Q none σ) ∧
  ((a1).toNatClampNeg < g 0 → Q (some ((a1).toNatClampNeg, 0)) σ)))))))
set_option maxHeartbeats 4000000 in
set_option maxRecDepth 100000 in
theorem t_X8_handAt {p : Program} {l : Launch} {e : Env} {s : State} {m : MethodId} {args : Array Value} {below : List Frame} {meth : Method} {c : Code} {D : va_G} {cs : Nat → ClassId} {A : Nat → Prop} {ad : pr_Ad} {g : Nat → Nat} {Q : Option (Nat × Nat) → pr_Sg → Prop} (C : pr_C RX8 cX8_handAt 2 (some (.object "PortraitRooms$Hand")) D cs p s m args meth c) {H : Heap} {locs : List Loc} {ls : Array Slot} {σ : pr_Sg} {a1 : Int32} (h : wpb_X8_handAt g σ a1 Q) (hR : pr_R D cs A ad g σ H) (hS : va_S A s.heap H locs) (hl : lv_has ls 2 [(0, .ref (ad 8 0 0)), (1, .int a1)]) : W p l e rm_X8_handAt s m args below meth c H locs 0 0 (MQ below (pr_Qr g ad 0 Q (pr_E D cs A ad g) A) args s 0 0 A) (F0 m 0 ls []) := by
  unfold wpb_X8_handAt at h
  obtain ⟨hx, hb, hml, hown, hts, hK, hr, hlocks⟩ := id C
  refine lv_iload_n hx hb dX8_handAt_0 rfl (lv_at hl 1 rfl) ?_
  refine lv_if_lt (tgt := 21) hx hb dX8_handAt_1 (by decide) (fun c1 => ?_) (fun c1 => ?_)
  · have h := h.1 c1
    refine lv_null hx hb dX8_handAt_21 ?_
    exact pr_retr C none (fun _ q => by cases q) h hR hS dX8_handAt_22
  · have h := h.2 c1
    refine lv_iload_n hx hb dX8_handAt_4 rfl (lv_at hl 1 rfl) ?_
    refine lv_aload_n hx hb dX8_handAt_5 rfl (lv_at hl 0 rfl) ?_
    refine gf_RX8_60 C hR pr_l8 dX8_handAt_6 ?_
    refine lv_icmp_ge (tgt := 21) hx hb dX8_handAt_9 (by decide) (fun c2 => ?_) (fun c2 => ?_)
    · have h := h.1 c2
      refine lv_null hx hb dX8_handAt_21 ?_
      exact pr_retr C none (fun _ q => by cases q) h hR hS dX8_handAt_22
    · have h := h.2 c2
      refine lv_aload_n hx hb dX8_handAt_12 rfl (lv_at hl 0 rfl) ?_
      refine gf_RX8_22 C hR pr_l8 dX8_handAt_13 ?_
      refine lv_iload_n hx hb dX8_handAt_16 rfl (lv_at hl 1 rfl) ?_
      refine pr_ldo hx hb hK hR 80 (by omega) (n := 7) (t0 := 2) (kd := 0) (cn := g 0) (by decide) rfl rfl rfl h.1 dX8_handAt_17 (fun c3 => ?_) (fun c3 hv3 => ?_)
      · have h := h.2.1 c3
        refine lv_goto (tgt := 22) hx hb dX8_handAt_18 (by decide) ?_
        exact pr_retr C none (fun _ q => by cases q) h hR hS dX8_handAt_22
      · have h := h.2.2 c3
        refine lv_goto (tgt := 22) hx hb dX8_handAt_18 (by decide) ?_
        exact pr_retr C (some ((a1).toNatClampNeg, 0)) (fun _ q => by cases q; exact hv3) h hR hS dX8_handAt_22
abbrev wp_X8_handAt (g : Nat → Nat) (σ : pr_Sg) (a1 : Int32) (Q : Option (Nat × Nat) → pr_Sg → Prop) : Prop := wpb_X8_handAt g σ a1 Q
set_option maxHeartbeats 4000000 in
set_option maxRecDepth 100000 in
theorem c_X8_handAt {l : Launch} {D : va_G} {cs : Nat → ClassId} {A : Nat → Prop} {ad : pr_Ad} {g : Nat → Nat} {σ : pr_Sg} {a1 : Int32} {Q : Option (Nat × Nat) → pr_Sg → Prop} (h : wp_X8_handAt g σ a1 Q) : pr_Mr l D cs A ad g 0 yX8_handAt cX8_handAt 2 (some (.object "PortraitRooms$Hand")) rm_X8_handAt [.ref (ad 8 0 0), .int a1] σ Q := by
  refine Met.ofW (cc := cX8_handAt) (maxL := 2) (ret := (some (.object "PortraitRooms$Hand"))) (by decide) rfl ?_
  intro p e s m args below meth c s₁ B hml hv
  obtain ⟨rfl, hR, hK⟩ := hv
  have C : pr_C RX8 cX8_handAt 2 (some (.object "PortraitRooms$Hand")) D cs p s m [.ref (ad 8 0 0), .int a1].toArray meth c := pr_C.of B hml hK
  have hS : va_S A s.heap s.heap [] := va_S.rf
  have hl := lv_entry ([.ref (ad 8 0 0), .int a1]) (n := 2) (Nat.le_of_ble_eq_true rfl)
  rw [lg_entry_eq]
  generalize (lg_sl ([.ref (ad 8 0 0), .int a1]) ++ List.replicate (2 - (lg_sl ([.ref (ad 8 0 0), .int a1])).length) Slot.unset).toArray = ls at hl ⊢
  have hl : lv_has ls 2 [(0, .ref (ad 8 0 0)), (1, .int a1)] := hl
  exact t_X8_handAt C h hR hS hl
def rm_X8_sitterAt : Room := { frames := 0, cells := 0, slots := 0, locals := 0 }
theorem hd_X8_sitterAt : yX8_sitterAt.cls = RX8 ∧ yX8_sitterAt.cls ≠ "java/lang/invoke/MethodHandle" ∧ yX8_sitterAt.cls ≠ "java/lang/invoke/VarHandle" ∧ (parseMethodDescriptor yX8_sitterAt.desc).map (fun d => d.parameters.length) = some 1 := ⟨rfl, by decide, by decide, by decide +kernel⟩
def wpb_X8_sitterAt (g : Nat → Nat) (σ : pr_Sg) (a1 : Int32) (Q : Option (Nat × Nat) → pr_Sg → Prop) : Prop :=
  ((a1 < 0 → Q none σ) ∧
  (¬ a1 < 0 → (((σ 522 0 0) ≤ a1 → Q none σ) ∧
  (¬ (σ 522 0 0) ≤ a1 → (vp_in a1 20 ∧ ((¬ (a1).toNatClampNeg < g 1 → Q none σ) ∧
  ((a1).toNatClampNeg < g 1 → Q (some ((a1).toNatClampNeg, 0)) σ)))))))
set_option maxHeartbeats 4000000 in
set_option maxRecDepth 100000 in
theorem t_X8_sitterAt {p : Program} {l : Launch} {e : Env} {s : State} {m : MethodId} {args : Array Value} {below : List Frame} {meth : Method} {c : Code} {D : va_G} {cs : Nat → ClassId} {A : Nat → Prop} {ad : pr_Ad} {g : Nat → Nat} {Q : Option (Nat × Nat) → pr_Sg → Prop} (C : pr_C RX8 cX8_sitterAt 2 (some (.object "PortraitRooms$Sitter")) D cs p s m args meth c) {H : Heap} {locs : List Loc} {ls : Array Slot} {σ : pr_Sg} {a1 : Int32} (h : wpb_X8_sitterAt g σ a1 Q) (hR : pr_R D cs A ad g σ H) (hS : va_S A s.heap H locs) (hl : lv_has ls 2 [(0, .ref (ad 8 0 0)), (1, .int a1)]) : W p l e rm_X8_sitterAt s m args below meth c H locs 0 0 (MQ below (pr_Qr g ad 6 Q (pr_E D cs A ad g) A) args s 0 0 A) (F0 m 0 ls []) := by
  unfold wpb_X8_sitterAt at h
  obtain ⟨hx, hb, hml, hown, hts, hK, hr, hlocks⟩ := id C
  refine lv_iload_n hx hb dX8_sitterAt_0 rfl (lv_at hl 1 rfl) ?_
  refine lv_if_lt (tgt := 21) hx hb dX8_sitterAt_1 (by decide) (fun c1 => ?_) (fun c1 => ?_)
  · have h := h.1 c1
    refine lv_null hx hb dX8_sitterAt_21 ?_
    exact pr_retr C none (fun _ q => by cases q) h hR hS dX8_sitterAt_22
  · have h := h.2 c1
    refine lv_iload_n hx hb dX8_sitterAt_4 rfl (lv_at hl 1 rfl) ?_
    refine lv_aload_n hx hb dX8_sitterAt_5 rfl (lv_at hl 0 rfl) ?_
    refine gf_RX8_75 C hR pr_l8 dX8_sitterAt_6 ?_
    refine lv_icmp_ge (tgt := 21) hx hb dX8_sitterAt_9 (by decide) (fun c2 => ?_) (fun c2 => ?_)
    · have h := h.1 c2
      refine lv_null hx hb dX8_sitterAt_21 ?_
      exact pr_retr C none (fun _ q => by cases q) h hR hS dX8_sitterAt_22
    · have h := h.2 c2
      refine lv_aload_n hx hb dX8_sitterAt_12 rfl (lv_at hl 0 rfl) ?_
      refine gf_RX8_28 C hR pr_l8 dX8_sitterAt_13 ?_
      refine lv_iload_n hx hb dX8_sitterAt_16 rfl (lv_at hl 1 rfl) ?_
      refine pr_ldo hx hb hK hR 81 (by omega) (n := 20) (t0 := 3) (kd := 6) (cn := g 1) (by decide) rfl rfl rfl h.1 dX8_sitterAt_17 (fun c3 => ?_) (fun c3 hv3 => ?_)
      · have h := h.2.1 c3
        refine lv_goto (tgt := 22) hx hb dX8_sitterAt_18 (by decide) ?_
        exact pr_retr C none (fun _ q => by cases q) h hR hS dX8_sitterAt_22
      · have h := h.2.2 c3
        refine lv_goto (tgt := 22) hx hb dX8_sitterAt_18 (by decide) ?_
        exact pr_retr C (some ((a1).toNatClampNeg, 0)) (fun _ q => by cases q; exact hv3) h hR hS dX8_sitterAt_22
abbrev wp_X8_sitterAt (g : Nat → Nat) (σ : pr_Sg) (a1 : Int32) (Q : Option (Nat × Nat) → pr_Sg → Prop) : Prop := wpb_X8_sitterAt g σ a1 Q
set_option maxHeartbeats 4000000 in
set_option maxRecDepth 100000 in
theorem c_X8_sitterAt {l : Launch} {D : va_G} {cs : Nat → ClassId} {A : Nat → Prop} {ad : pr_Ad} {g : Nat → Nat} {σ : pr_Sg} {a1 : Int32} {Q : Option (Nat × Nat) → pr_Sg → Prop} (h : wp_X8_sitterAt g σ a1 Q) : pr_Mr l D cs A ad g 6 yX8_sitterAt cX8_sitterAt 2 (some (.object "PortraitRooms$Sitter")) rm_X8_sitterAt [.ref (ad 8 0 0), .int a1] σ Q := by
  refine Met.ofW (cc := cX8_sitterAt) (maxL := 2) (ret := (some (.object "PortraitRooms$Sitter"))) (by decide) rfl ?_
  intro p e s m args below meth c s₁ B hml hv
  obtain ⟨rfl, hR, hK⟩ := hv
  have C : pr_C RX8 cX8_sitterAt 2 (some (.object "PortraitRooms$Sitter")) D cs p s m [.ref (ad 8 0 0), .int a1].toArray meth c := pr_C.of B hml hK
  have hS : va_S A s.heap s.heap [] := va_S.rf
  have hl := lv_entry ([.ref (ad 8 0 0), .int a1]) (n := 2) (Nat.le_of_ble_eq_true rfl)
  rw [lg_entry_eq]
  generalize (lg_sl ([.ref (ad 8 0 0), .int a1]) ++ List.replicate (2 - (lg_sl ([.ref (ad 8 0 0), .int a1])).length) Slot.unset).toArray = ls at hl ⊢
  have hl : lv_has ls 2 [(0, .ref (ad 8 0 0)), (1, .int a1)] := hl
  exact t_X8_sitterAt C h hR hS hl
def rm_X8_pictureAt : Room := { frames := 0, cells := 0, slots := 0, locals := 0 }
theorem hd_X8_pictureAt : yX8_pictureAt.cls = RX8 ∧ yX8_pictureAt.cls ≠ "java/lang/invoke/MethodHandle" ∧ yX8_pictureAt.cls ≠ "java/lang/invoke/VarHandle" ∧ (parseMethodDescriptor yX8_pictureAt.desc).map (fun d => d.parameters.length) = some 1 := ⟨rfl, by decide, by decide, by decide +kernel⟩
def wpb_X8_pictureAt (g : Nat → Nat) (σ : pr_Sg) (a1 : Int32) (Q : Option (Nat × Nat) → pr_Sg → Prop) : Prop :=
  ((a1 < 0 → Q none σ) ∧
  (¬ a1 < 0 → (((σ 523 0 0) ≤ a1 → Q none σ) ∧
  (¬ (σ 523 0 0) ≤ a1 → (vp_in a1 40 ∧ ((¬ (a1).toNatClampNeg < g 2 → Q none σ) ∧
  ((a1).toNatClampNeg < g 2 → Q (some ((a1).toNatClampNeg, 0)) σ)))))))
set_option maxHeartbeats 4000000 in
set_option maxRecDepth 100000 in
theorem t_X8_pictureAt {p : Program} {l : Launch} {e : Env} {s : State} {m : MethodId} {args : Array Value} {below : List Frame} {meth : Method} {c : Code} {D : va_G} {cs : Nat → ClassId} {A : Nat → Prop} {ad : pr_Ad} {g : Nat → Nat} {Q : Option (Nat × Nat) → pr_Sg → Prop} (C : pr_C RX8 cX8_pictureAt 2 (some (.object "PortraitRooms$Picture")) D cs p s m args meth c) {H : Heap} {locs : List Loc} {ls : Array Slot} {σ : pr_Sg} {a1 : Int32} (h : wpb_X8_pictureAt g σ a1 Q) (hR : pr_R D cs A ad g σ H) (hS : va_S A s.heap H locs) (hl : lv_has ls 2 [(0, .ref (ad 8 0 0)), (1, .int a1)]) : W p l e rm_X8_pictureAt s m args below meth c H locs 0 0 (MQ below (pr_Qr g ad 3 Q (pr_E D cs A ad g) A) args s 0 0 A) (F0 m 0 ls []) := by
  unfold wpb_X8_pictureAt at h
  obtain ⟨hx, hb, hml, hown, hts, hK, hr, hlocks⟩ := id C
  refine lv_iload_n hx hb dX8_pictureAt_0 rfl (lv_at hl 1 rfl) ?_
  refine lv_if_lt (tgt := 21) hx hb dX8_pictureAt_1 (by decide) (fun c1 => ?_) (fun c1 => ?_)
  · have h := h.1 c1
    refine lv_null hx hb dX8_pictureAt_21 ?_
    exact pr_retr C none (fun _ q => by cases q) h hR hS dX8_pictureAt_22
  · have h := h.2 c1
    refine lv_iload_n hx hb dX8_pictureAt_4 rfl (lv_at hl 1 rfl) ?_
    refine lv_aload_n hx hb dX8_pictureAt_5 rfl (lv_at hl 0 rfl) ?_
    refine gf_RX8_89 C hR pr_l8 dX8_pictureAt_6 ?_
    refine lv_icmp_ge (tgt := 21) hx hb dX8_pictureAt_9 (by decide) (fun c2 => ?_) (fun c2 => ?_)
    · have h := h.1 c2
      refine lv_null hx hb dX8_pictureAt_21 ?_
      exact pr_retr C none (fun _ q => by cases q) h hR hS dX8_pictureAt_22
    · have h := h.2 c2
      refine lv_aload_n hx hb dX8_pictureAt_12 rfl (lv_at hl 0 rfl) ?_
      refine gf_RX8_34 C hR pr_l8 dX8_pictureAt_13 ?_
      refine lv_iload_n hx hb dX8_pictureAt_16 rfl (lv_at hl 1 rfl) ?_
      refine pr_ldo hx hb hK hR 82 (by omega) (n := 40) (t0 := 4) (kd := 3) (cn := g 2) (by decide) rfl rfl rfl h.1 dX8_pictureAt_17 (fun c3 => ?_) (fun c3 hv3 => ?_)
      · have h := h.2.1 c3
        refine lv_goto (tgt := 22) hx hb dX8_pictureAt_18 (by decide) ?_
        exact pr_retr C none (fun _ q => by cases q) h hR hS dX8_pictureAt_22
      · have h := h.2.2 c3
        refine lv_goto (tgt := 22) hx hb dX8_pictureAt_18 (by decide) ?_
        exact pr_retr C (some ((a1).toNatClampNeg, 0)) (fun _ q => by cases q; exact hv3) h hR hS dX8_pictureAt_22
abbrev wp_X8_pictureAt (g : Nat → Nat) (σ : pr_Sg) (a1 : Int32) (Q : Option (Nat × Nat) → pr_Sg → Prop) : Prop := wpb_X8_pictureAt g σ a1 Q
set_option maxHeartbeats 4000000 in
set_option maxRecDepth 100000 in
theorem c_X8_pictureAt {l : Launch} {D : va_G} {cs : Nat → ClassId} {A : Nat → Prop} {ad : pr_Ad} {g : Nat → Nat} {σ : pr_Sg} {a1 : Int32} {Q : Option (Nat × Nat) → pr_Sg → Prop} (h : wp_X8_pictureAt g σ a1 Q) : pr_Mr l D cs A ad g 3 yX8_pictureAt cX8_pictureAt 2 (some (.object "PortraitRooms$Picture")) rm_X8_pictureAt [.ref (ad 8 0 0), .int a1] σ Q := by
  refine Met.ofW (cc := cX8_pictureAt) (maxL := 2) (ret := (some (.object "PortraitRooms$Picture"))) (by decide) rfl ?_
  intro p e s m args below meth c s₁ B hml hv
  obtain ⟨rfl, hR, hK⟩ := hv
  have C : pr_C RX8 cX8_pictureAt 2 (some (.object "PortraitRooms$Picture")) D cs p s m [.ref (ad 8 0 0), .int a1].toArray meth c := pr_C.of B hml hK
  have hS : va_S A s.heap s.heap [] := va_S.rf
  have hl := lv_entry ([.ref (ad 8 0 0), .int a1]) (n := 2) (Nat.le_of_ble_eq_true rfl)
  rw [lg_entry_eq]
  generalize (lg_sl ([.ref (ad 8 0 0), .int a1]) ++ List.replicate (2 - (lg_sl ([.ref (ad 8 0 0), .int a1])).length) Slot.unset).toArray = ls at hl ⊢
  have hl : lv_has ls 2 [(0, .ref (ad 8 0 0)), (1, .int a1)] := hl
  exact t_X8_pictureAt C h hR hS hl
def rm_X8_partAt : Room := { frames := 1, cells := 0, slots := 0, locals := 21 }
theorem hd_X8_partAt : yX8_partAt.cls = RX8 ∧ yX8_partAt.cls ≠ "java/lang/invoke/MethodHandle" ∧ yX8_partAt.cls ≠ "java/lang/invoke/VarHandle" ∧ (parseMethodDescriptor yX8_partAt.desc).map (fun d => d.parameters.length) = some 2 := ⟨rfl, by decide, by decide, by decide +kernel⟩
def wpb_X8_partAt (g : Nat → Nat) (σ : pr_Sg) (a1 : Int32) (a2 : Int32) (Q : Option (Nat × Nat) → pr_Sg → Prop) : Prop :=
  (wp_X8_pictureAt g σ a1 (fun x1 σ1 =>
  (x1 = none → Q none σ1) ∧
  (∀ i1q : Nat, x1 = some (i1q, 0) → (wp_X8_within g σ1 a2 (4 : Int32) (fun r2 σ2 =>
  ((r2 = 0 → Q none σ2) ∧
  (¬ r2 = 0 → (vp_in a2 5 ∧ Q (some (i1q, (a2).toNatClampNeg)) σ2))))))))
set_option maxHeartbeats 4000000 in
set_option maxRecDepth 100000 in
theorem t_X8_partAt {p : Program} {l : Launch} {e : Env} {s : State} {m : MethodId} {args : Array Value} {below : List Frame} {meth : Method} {c : Code} {D : va_G} {cs : Nat → ClassId} {A : Nat → Prop} {ad : pr_Ad} {g : Nat → Nat} {Q : Option (Nat × Nat) → pr_Sg → Prop} (C : pr_C RX8 cX8_partAt 4 (some (.object "PortraitRooms$Part")) D cs p s m args meth c) {H : Heap} {locs : List Loc} {ls : Array Slot} {σ : pr_Sg} {a1 : Int32} {a2 : Int32} (h : wpb_X8_partAt g σ a1 a2 Q) (hR : pr_R D cs A ad g σ H) (hS : va_S A s.heap H locs) (hl : lv_has ls 4 [(0, .ref (ad 8 0 0)), (1, .int a1), (2, .int a2)]) : W p l e rm_X8_partAt s m args below meth c H locs 0 0 (MQ below (pr_Qr g ad 2 Q (pr_E D cs A ad g) A) args s 0 0 A) (F0 m 0 ls []) := by
  unfold wpb_X8_partAt at h
  obtain ⟨hx, hb, hml, hown, hts, hK, hr, hlocks⟩ := id C
  refine lv_aload_n hx hb dX8_partAt_0 rfl (lv_at hl 0 rfl) ?_
  refine lv_iload_n hx hb dX8_partAt_1 rfl (lv_at hl 1 rfl) ?_
  refine pr_callr hS (pr_runV (As := [.int a1]) (rest := []) C hR pr_l8 (by omega) rfl (c_X8_pictureAt h) gw_RX8_117 rfl rfl hd_X8_pictureAt ⟨Nat.le_of_ble_eq_true rfl, Nat.le_of_ble_eq_true rfl⟩ rfl hl.1 rfl (Nat.le_of_ble_eq_true rfl) dX8_partAt_2 ⟨Nat.zero_le _, Nat.zero_le _⟩) (fun σ1 H locs h hR hS => ?_) (fun i1q j1q σ1 H locs h hv1 hR hS => ?_)
  · have h := h.1 rfl
    refine lv_astore_nN (lv' := [(3, .null), (0, .ref (ad 8 0 0)), (1, .int a1), (2, .int a2)]) hx hb dX8_partAt_5 rfl hl (by decide) rfl (fun ls hl => ?_)
    refine lv_aload_nN hx hb dX8_partAt_6 rfl (lv_at hl 0 rfl) ?_
    refine lv_ifnullN (tgt := 27) hx hb dX8_partAt_7 (by decide) ?_
    refine lv_null hx hb dX8_partAt_27 ?_
    exact pr_retr C none (fun _ q => by cases q) h hR hS dX8_partAt_28
  · obtain rfl : j1q = 0 := pr_lvj (by decide) hv1
    have h := h.2 i1q rfl
    refine lv_astore_n (lv' := [(3, .ref (ad 3 i1q 0)), (0, .ref (ad 8 0 0)), (1, .int a1), (2, .int a2)]) hx hb dX8_partAt_5 rfl hl (by decide) rfl (fun ls hl => ?_)
    refine lv_aload_n hx hb dX8_partAt_6 rfl (lv_at hl 0 rfl) ?_
    refine lv_ifnull hx hb dX8_partAt_7 ?_
    refine lv_iload_n hx hb dX8_partAt_10 rfl (lv_at hl 3 rfl) ?_
    refine lv_iconst (v := (4 : Int32)) hx hb dX8_partAt_11 (by decide) ?_
    refine pr_calli hS (pr_runS (As := [.int a2, .int (4 : Int32)]) (rest := []) C hR (c_X8_within h) gw_RX8_67 rfl rfl hs_X8_within ⟨Nat.le_of_ble_eq_true rfl, Nat.le_of_ble_eq_true rfl⟩ rfl hl.1 rfl (Nat.le_of_ble_eq_true rfl) dX8_partAt_12 ⟨Nat.zero_le _, Nat.zero_le _⟩) (fun r2 σ2 H locs h hR hS => ?_)
    obtain ⟨hz2, h⟩ := h
    refine lv_if_eq (tgt := 27) hx hb dX8_partAt_15 (by decide) (fun c3 => ?_) (fun c3 => ?_)
    · have h := h.1 c3
      refine lv_null hx hb dX8_partAt_27 ?_
      exact pr_retr C none (fun _ q => by cases q) h hR hS dX8_partAt_28
    · have h := h.2 c3
      refine lv_aload_n hx hb dX8_partAt_18 rfl (lv_at hl 0 rfl) ?_
      refine gf_RX8_244 C hR hv1 dX8_partAt_19 ?_
      refine lv_iload_n hx hb dX8_partAt_22 rfl (lv_at hl 3 rfl) ?_
      refine pr_ldp hx hb hK hR (pr_l83 hv1) h.1 dX8_partAt_23 (fun hv4 => ?_)
      have h := h.2
      refine lv_goto (tgt := 28) hx hb dX8_partAt_24 (by decide) ?_
      exact pr_retr C (some (i1q, (a2).toNatClampNeg)) (fun _ q => by cases q; exact hv4) h hR hS dX8_partAt_28
abbrev wp_X8_partAt (g : Nat → Nat) (σ : pr_Sg) (a1 : Int32) (a2 : Int32) (Q : Option (Nat × Nat) → pr_Sg → Prop) : Prop := wpb_X8_partAt g σ a1 a2 Q
set_option maxHeartbeats 4000000 in
set_option maxRecDepth 100000 in
theorem c_X8_partAt {l : Launch} {D : va_G} {cs : Nat → ClassId} {A : Nat → Prop} {ad : pr_Ad} {g : Nat → Nat} {σ : pr_Sg} {a1 : Int32} {a2 : Int32} {Q : Option (Nat × Nat) → pr_Sg → Prop} (h : wp_X8_partAt g σ a1 a2 Q) : pr_Mr l D cs A ad g 2 yX8_partAt cX8_partAt 4 (some (.object "PortraitRooms$Part")) rm_X8_partAt [.ref (ad 8 0 0), .int a1, .int a2] σ Q := by
  refine Met.ofW (cc := cX8_partAt) (maxL := 4) (ret := (some (.object "PortraitRooms$Part"))) (by decide) rfl ?_
  intro p e s m args below meth c s₁ B hml hv
  obtain ⟨rfl, hR, hK⟩ := hv
  have C : pr_C RX8 cX8_partAt 4 (some (.object "PortraitRooms$Part")) D cs p s m [.ref (ad 8 0 0), .int a1, .int a2].toArray meth c := pr_C.of B hml hK
  have hS : va_S A s.heap s.heap [] := va_S.rf
  have hl := lv_entry ([.ref (ad 8 0 0), .int a1, .int a2]) (n := 4) (Nat.le_of_ble_eq_true rfl)
  rw [lg_entry_eq]
  generalize (lg_sl ([.ref (ad 8 0 0), .int a1, .int a2]) ++ List.replicate (4 - (lg_sl ([.ref (ad 8 0 0), .int a1, .int a2])).length) Slot.unset).toArray = ls at hl ⊢
  have hl : lv_has ls 4 [(0, .ref (ad 8 0 0)), (1, .int a1), (2, .int a2)] := hl
  exact t_X8_partAt C h hR hS hl
def rm_X8_list : Room := { frames := 1, cells := 0, slots := 0, locals := 23 }
theorem hd_X8_list : yX8_list.cls = RX8 ∧ yX8_list.cls ≠ "java/lang/invoke/MethodHandle" ∧ yX8_list.cls ≠ "java/lang/invoke/VarHandle" ∧ (parseMethodDescriptor yX8_list.desc).map (fun d => d.parameters.length) = some 3 := ⟨rfl, by decide, by decide, by decide +kernel⟩
def wpb_X8_list (g : Nat → Nat) (σ : pr_Sg) (a1 : Int32) (a2 : Int32) (a3 : Int32) (Q : Int32 → pr_Sg → Prop) : Prop :=
  (wp_X8_within g σ a1 (54 : Int32) (fun r1 σ1 =>
  ((r1 = 0 → Q (0 : Int32) σ1) ∧
  (¬ r1 = 0 → (wp_X8_within g σ1 a2 (3 : Int32) (fun r3 σ3 =>
  ((r3 = 0 → Q (0 : Int32) σ3) ∧
  (¬ r3 = 0 → (wp_X8_within g σ3 a3 (9999 : Int32) (fun r5 σ5 =>
  ((r5 = 0 → Q (0 : Int32) σ5) ∧
  (¬ r5 = 0 → (wp_X1_add g σ5 a1 a2 a3 (fun r7 σ7 =>
  ((r7 = 0 → Q (0 : Int32) σ7) ∧
  (¬ r7 = 0 → Q (1 : Int32) σ7))))))))))))))))
set_option maxHeartbeats 4000000 in
set_option maxRecDepth 100000 in
theorem t_X8_list {p : Program} {l : Launch} {e : Env} {s : State} {m : MethodId} {args : Array Value} {below : List Frame} {meth : Method} {c : Code} {D : va_G} {cs : Nat → ClassId} {A : Nat → Prop} {ad : pr_Ad} {g : Nat → Nat} {Q : Int32 → pr_Sg → Prop} (C : pr_C RX8 cX8_list 4 (some .boolean) D cs p s m args meth c) {H : Heap} {locs : List Loc} {ls : Array Slot} {σ : pr_Sg} {a1 : Int32} {a2 : Int32} {a3 : Int32} (h : wpb_X8_list g σ a1 a2 a3 Q) (hR : pr_R D cs A ad g σ H) (hS : va_S A s.heap H locs) (hl : lv_has ls 4 [(0, .ref (ad 8 0 0)), (1, .int a1), (2, .int a2), (3, .int a3)]) : W p l e rm_X8_list s m args below meth c H locs 0 0 (MQ below (va_Qi (pr_Qz Q) (pr_E D cs A ad g) A) args s 0 0 A) (F0 m 0 ls []) := by
  unfold wpb_X8_list at h
  obtain ⟨hx, hb, hml, hown, hts, hK, hr, hlocks⟩ := id C
  refine lv_iload_n hx hb dX8_list_0 rfl (lv_at hl 1 rfl) ?_
  refine lv_bipush (v := (54 : Int32)) hx hb dX8_list_1 (by decide) ?_
  refine pr_calli hS (pr_runS (As := [.int a1, .int (54 : Int32)]) (rest := []) C hR (c_X8_within h) gw_RX8_67 rfl rfl hs_X8_within ⟨Nat.le_of_ble_eq_true rfl, Nat.le_of_ble_eq_true rfl⟩ rfl hl.1 rfl (Nat.le_of_ble_eq_true rfl) dX8_list_3 ⟨Nat.zero_le _, Nat.zero_le _⟩) (fun r1 σ1 H locs h hR hS => ?_)
  obtain ⟨hz1, h⟩ := h
  refine lv_if_eq (tgt := 44) hx hb dX8_list_6 (by decide) (fun c2 => ?_) (fun c2 => ?_)
  · have h := h.1 c2
    refine lv_iconst (v := (0 : Int32)) hx hb dX8_list_44 (by decide) ?_
    exact pr_retz C (Or.inl rfl) h hR hS dX8_list_45
  · have h := h.2 c2
    refine lv_iload_n hx hb dX8_list_9 rfl (lv_at hl 2 rfl) ?_
    refine lv_iconst (v := (3 : Int32)) hx hb dX8_list_10 (by decide) ?_
    refine pr_calli hS (pr_runS (As := [.int a2, .int (3 : Int32)]) (rest := []) C hR (c_X8_within h) gw_RX8_67 rfl rfl hs_X8_within ⟨Nat.le_of_ble_eq_true rfl, Nat.le_of_ble_eq_true rfl⟩ rfl hl.1 rfl (Nat.le_of_ble_eq_true rfl) dX8_list_11 ⟨Nat.zero_le _, Nat.zero_le _⟩) (fun r3 σ3 H locs h hR hS => ?_)
    obtain ⟨hz3, h⟩ := h
    refine lv_if_eq (tgt := 44) hx hb dX8_list_14 (by decide) (fun c4 => ?_) (fun c4 => ?_)
    · have h := h.1 c4
      refine lv_iconst (v := (0 : Int32)) hx hb dX8_list_44 (by decide) ?_
      exact pr_retz C (Or.inl rfl) h hR hS dX8_list_45
    · have h := h.2 c4
      refine lv_iload_n hx hb dX8_list_17 rfl (lv_at hl 3 rfl) ?_
      refine lv_sipush (v := (9999 : Int32)) hx hb dX8_list_18 (by decide) ?_
      refine pr_calli hS (pr_runS (As := [.int a3, .int (9999 : Int32)]) (rest := []) C hR (c_X8_within h) gw_RX8_67 rfl rfl hs_X8_within ⟨Nat.le_of_ble_eq_true rfl, Nat.le_of_ble_eq_true rfl⟩ rfl hl.1 rfl (Nat.le_of_ble_eq_true rfl) dX8_list_21 ⟨Nat.zero_le _, Nat.zero_le _⟩) (fun r5 σ5 H locs h hR hS => ?_)
      obtain ⟨hz5, h⟩ := h
      refine lv_if_eq (tgt := 44) hx hb dX8_list_24 (by decide) (fun c6 => ?_) (fun c6 => ?_)
      · have h := h.1 c6
        refine lv_iconst (v := (0 : Int32)) hx hb dX8_list_44 (by decide) ?_
        exact pr_retz C (Or.inl rfl) h hR hS dX8_list_45
      · have h := h.2 c6
        refine lv_aload_n hx hb dX8_list_27 rfl (lv_at hl 0 rfl) ?_
        refine gf_RX8_12 C hR pr_l8 dX8_list_28 ?_
        refine lv_iload_n hx hb dX8_list_31 rfl (lv_at hl 1 rfl) ?_
        refine lv_iload_n hx hb dX8_list_32 rfl (lv_at hl 2 rfl) ?_
        refine lv_iload_n hx hb dX8_list_33 rfl (lv_at hl 3 rfl) ?_
        refine pr_calli hS (pr_runV (As := [.int a1, .int a2, .int a3]) (rest := []) C hR pr_l1 (by omega) rfl (c_X1_add h) gw_RX8_71 rfl rfl hd_X1_add ⟨Nat.le_of_ble_eq_true rfl, Nat.le_of_ble_eq_true rfl⟩ rfl hl.1 rfl (Nat.le_of_ble_eq_true rfl) dX8_list_34 ⟨Nat.zero_le _, Nat.zero_le _⟩) (fun r7 σ7 H locs h hR hS => ?_)
        obtain ⟨hz7, h⟩ := h
        refine lv_if_eq (tgt := 44) hx hb dX8_list_37 (by decide) (fun c8 => ?_) (fun c8 => ?_)
        · have h := h.1 c8
          refine lv_iconst (v := (0 : Int32)) hx hb dX8_list_44 (by decide) ?_
          exact pr_retz C (Or.inl rfl) h hR hS dX8_list_45
        · have h := h.2 c8
          refine lv_iconst (v := (1 : Int32)) hx hb dX8_list_40 (by decide) ?_
          refine lv_goto (tgt := 45) hx hb dX8_list_41 (by decide) ?_
          exact pr_retz C (Or.inr rfl) h hR hS dX8_list_45
abbrev wp_X8_list (g : Nat → Nat) (σ : pr_Sg) (a1 : Int32) (a2 : Int32) (a3 : Int32) (Q : Int32 → pr_Sg → Prop) : Prop := wpb_X8_list g σ a1 a2 a3 Q
set_option maxHeartbeats 4000000 in
set_option maxRecDepth 100000 in
theorem c_X8_list {l : Launch} {D : va_G} {cs : Nat → ClassId} {A : Nat → Prop} {ad : pr_Ad} {g : Nat → Nat} {σ : pr_Sg} {a1 : Int32} {a2 : Int32} {a3 : Int32} {Q : Int32 → pr_Sg → Prop} (h : wp_X8_list g σ a1 a2 a3 Q) : pr_Mi l D cs A ad g yX8_list cX8_list 4 (some .boolean) rm_X8_list [.ref (ad 8 0 0), .int a1, .int a2, .int a3] σ (pr_Qz Q) := by
  refine Met.ofW (cc := cX8_list) (maxL := 4) (ret := (some .boolean)) (by decide) rfl ?_
  intro p e s m args below meth c s₁ B hml hv
  obtain ⟨rfl, hR, hK⟩ := hv
  have C : pr_C RX8 cX8_list 4 (some .boolean) D cs p s m [.ref (ad 8 0 0), .int a1, .int a2, .int a3].toArray meth c := pr_C.of B hml hK
  have hS : va_S A s.heap s.heap [] := va_S.rf
  have hl := lv_entry ([.ref (ad 8 0 0), .int a1, .int a2, .int a3]) (n := 4) (Nat.le_of_ble_eq_true rfl)
  rw [lg_entry_eq]
  generalize (lg_sl ([.ref (ad 8 0 0), .int a1, .int a2, .int a3]) ++ List.replicate (4 - (lg_sl ([.ref (ad 8 0 0), .int a1, .int a2, .int a3])).length) Slot.unset).toArray = ls at hl ⊢
  have hl : lv_has ls 4 [(0, .ref (ad 8 0 0)), (1, .int a1), (2, .int a2), (3, .int a3)] := hl
  exact t_X8_list C h hR hS hl
def rm_X8_dry : Room := { frames := 1, cells := 0, slots := 0, locals := 21 }
theorem hd_X8_dry : yX8_dry.cls = RX8 ∧ yX8_dry.cls ≠ "java/lang/invoke/MethodHandle" ∧ yX8_dry.cls ≠ "java/lang/invoke/VarHandle" ∧ (parseMethodDescriptor yX8_dry.desc).map (fun d => d.parameters.length) = some 2 := ⟨rfl, by decide, by decide, by decide +kernel⟩
def wpb_X8_dry (g : Nat → Nat) (σ : pr_Sg) (a1 : Int32) (a2 : Int32) (Q : Int32 → pr_Sg → Prop) : Prop :=
  (wp_X8_within g σ a1 (4 : Int32) (fun r1 σ1 =>
  ((r1 = 0 → Q (0 : Int32) σ1) ∧
  (¬ r1 = 0 → (wp_X8_within g σ1 a2 (60 : Int32) (fun r3 σ3 =>
  ((¬ r3 = 0 → (vp_in a1 5 ∧ ∀ σ5 : pr_Sg, σ5 = pr_up σ3 1023 0 (a1).toNatClampNeg a2 →
  Q (1 : Int32) σ5)) ∧
  (r3 = 0 → Q (0 : Int32) σ3))))))))
set_option maxHeartbeats 4000000 in
set_option maxRecDepth 100000 in
theorem t_X8_dry {p : Program} {l : Launch} {e : Env} {s : State} {m : MethodId} {args : Array Value} {below : List Frame} {meth : Method} {c : Code} {D : va_G} {cs : Nat → ClassId} {A : Nat → Prop} {ad : pr_Ad} {g : Nat → Nat} {Q : Int32 → pr_Sg → Prop} (C : pr_C RX8 cX8_dry 3 (some .boolean) D cs p s m args meth c) {H : Heap} {locs : List Loc} {ls : Array Slot} {σ : pr_Sg} {a1 : Int32} {a2 : Int32} (h : wpb_X8_dry g σ a1 a2 Q) (hR : pr_R D cs A ad g σ H) (hS : va_S A s.heap H locs) (hl : lv_has ls 3 [(0, .ref (ad 8 0 0)), (1, .int a1), (2, .int a2)]) : W p l e rm_X8_dry s m args below meth c H locs 0 0 (MQ below (va_Qi (pr_Qz Q) (pr_E D cs A ad g) A) args s 0 0 A) (F0 m 0 ls []) := by
  unfold wpb_X8_dry at h
  obtain ⟨hx, hb, hml, hown, hts, hK, hr, hlocks⟩ := id C
  refine lv_iload_n hx hb dX8_dry_0 rfl (lv_at hl 1 rfl) ?_
  refine lv_iconst (v := (4 : Int32)) hx hb dX8_dry_1 (by decide) ?_
  refine pr_calli hS (pr_runS (As := [.int a1, .int (4 : Int32)]) (rest := []) C hR (c_X8_within h) gw_RX8_67 rfl rfl hs_X8_within ⟨Nat.le_of_ble_eq_true rfl, Nat.le_of_ble_eq_true rfl⟩ rfl hl.1 rfl (Nat.le_of_ble_eq_true rfl) dX8_dry_2 ⟨Nat.zero_le _, Nat.zero_le _⟩) (fun r1 σ1 H locs h hR hS => ?_)
  obtain ⟨hz1, h⟩ := h
  refine lv_if_eq (tgt := 17) hx hb dX8_dry_5 (by decide) (fun c2 => ?_) (fun c2 => ?_)
  · have h := h.1 c2
    refine lv_iconst (v := (0 : Int32)) hx hb dX8_dry_17 (by decide) ?_
    exact pr_retz C (Or.inl rfl) h hR hS dX8_dry_18
  · have h := h.2 c2
    refine lv_iload_n hx hb dX8_dry_8 rfl (lv_at hl 2 rfl) ?_
    refine lv_bipush (v := (60 : Int32)) hx hb dX8_dry_9 (by decide) ?_
    refine pr_calli hS (pr_runS (As := [.int a2, .int (60 : Int32)]) (rest := []) C hR (c_X8_within h) gw_RX8_67 rfl rfl hs_X8_within ⟨Nat.le_of_ble_eq_true rfl, Nat.le_of_ble_eq_true rfl⟩ rfl hl.1 rfl (Nat.le_of_ble_eq_true rfl) dX8_dry_11 ⟨Nat.zero_le _, Nat.zero_le _⟩) (fun r3 σ3 H locs h hR hS => ?_)
    obtain ⟨hz3, h⟩ := h
    refine lv_if_ne (tgt := 19) hx hb dX8_dry_14 (by decide) (fun c4 => ?_) (fun c4 => ?_)
    · have h := h.1 c4
      refine lv_aload_n hx hb dX8_dry_19 rfl (lv_at hl 0 rfl) ?_
      refine gf_RX8_16 C hR pr_l8 dX8_dry_20 ?_
      refine lv_iload_n hx hb dX8_dry_23 rfl (lv_at hl 1 rfl) ?_
      refine lv_iload_n hx hb dX8_dry_24 rfl (lv_at hl 2 rfl) ?_
      refine pr_ast hx hb hK hR hS pr_l23 (by omega) (by omega) (n := 5) (by decide) h.1 dX8_dry_25 (t := 1023) rfl (fun H locs σ5 e5 hR hS => ?_)
      have h := h.2 σ5 e5
      refine lv_iconst (v := (1 : Int32)) hx hb dX8_dry_26 (by decide) ?_
      exact pr_retz C (Or.inr rfl) h hR hS dX8_dry_27
    · have h := h.2 c4
      refine lv_iconst (v := (0 : Int32)) hx hb dX8_dry_17 (by decide) ?_
      exact pr_retz C (Or.inl rfl) h hR hS dX8_dry_18
abbrev wp_X8_dry (g : Nat → Nat) (σ : pr_Sg) (a1 : Int32) (a2 : Int32) (Q : Int32 → pr_Sg → Prop) : Prop := wpb_X8_dry g σ a1 a2 Q
set_option maxHeartbeats 4000000 in
set_option maxRecDepth 100000 in
theorem c_X8_dry {l : Launch} {D : va_G} {cs : Nat → ClassId} {A : Nat → Prop} {ad : pr_Ad} {g : Nat → Nat} {σ : pr_Sg} {a1 : Int32} {a2 : Int32} {Q : Int32 → pr_Sg → Prop} (h : wp_X8_dry g σ a1 a2 Q) : pr_Mi l D cs A ad g yX8_dry cX8_dry 3 (some .boolean) rm_X8_dry [.ref (ad 8 0 0), .int a1, .int a2] σ (pr_Qz Q) := by
  refine Met.ofW (cc := cX8_dry) (maxL := 3) (ret := (some .boolean)) (by decide) rfl ?_
  intro p e s m args below meth c s₁ B hml hv
  obtain ⟨rfl, hR, hK⟩ := hv
  have C : pr_C RX8 cX8_dry 3 (some .boolean) D cs p s m [.ref (ad 8 0 0), .int a1, .int a2].toArray meth c := pr_C.of B hml hK
  have hS : va_S A s.heap s.heap [] := va_S.rf
  have hl := lv_entry ([.ref (ad 8 0 0), .int a1, .int a2]) (n := 3) (Nat.le_of_ble_eq_true rfl)
  rw [lg_entry_eq]
  generalize (lg_sl ([.ref (ad 8 0 0), .int a1, .int a2]) ++ List.replicate (3 - (lg_sl ([.ref (ad 8 0 0), .int a1, .int a2])).length) Slot.unset).toArray = ls at hl ⊢
  have hl : lv_has ls 3 [(0, .ref (ad 8 0 0)), (1, .int a1), (2, .int a2)] := hl
  exact t_X8_dry C h hR hS hl
def rm_X8_go : Room := { frames := 1, cells := 0, slots := 0, locals := 21 }
theorem hd_X8_go : yX8_go.cls = RX8 ∧ yX8_go.cls ≠ "java/lang/invoke/MethodHandle" ∧ yX8_go.cls ≠ "java/lang/invoke/VarHandle" ∧ (parseMethodDescriptor yX8_go.desc).map (fun d => d.parameters.length) = some 1 := ⟨rfl, by decide, by decide, by decide +kernel⟩
def wpb_X8_go (g : Nat → Nat) (σ : pr_Sg) (a1 : Int32) (Q : Int32 → pr_Sg → Prop) : Prop :=
  (wp_X8_within g σ a1 (1000 : Int32) (fun r1 σ1 =>
  ((¬ r1 = 0 → (∀ σ3 : pr_Sg, σ3 = pr_up σ1 520 0 0 (if (20000 : Int32) < ((σ1 520 0 0) + a1) then (20000 : Int32) else ((σ1 520 0 0) + a1)) →
  Q (σ3 520 0 0) σ3)) ∧
  (r1 = 0 → Q (-1 : Int32) σ1))))
set_option maxHeartbeats 4000000 in
set_option maxRecDepth 100000 in
theorem t_X8_go {p : Program} {l : Launch} {e : Env} {s : State} {m : MethodId} {args : Array Value} {below : List Frame} {meth : Method} {c : Code} {D : va_G} {cs : Nat → ClassId} {A : Nat → Prop} {ad : pr_Ad} {g : Nat → Nat} {Q : Int32 → pr_Sg → Prop} (C : pr_C RX8 cX8_go 2 (some .int) D cs p s m args meth c) {H : Heap} {locs : List Loc} {ls : Array Slot} {σ : pr_Sg} {a1 : Int32} (h : wpb_X8_go g σ a1 Q) (hR : pr_R D cs A ad g σ H) (hS : va_S A s.heap H locs) (hl : lv_has ls 2 [(0, .ref (ad 8 0 0)), (1, .int a1)]) : W p l e rm_X8_go s m args below meth c H locs 0 0 (MQ below (va_Qi Q (pr_E D cs A ad g) A) args s 0 0 A) (F0 m 0 ls []) := by
  unfold wpb_X8_go at h
  obtain ⟨hx, hb, hml, hown, hts, hK, hr, hlocks⟩ := id C
  refine lv_iload_n hx hb dX8_go_0 rfl (lv_at hl 1 rfl) ?_
  refine lv_sipush (v := (1000 : Int32)) hx hb dX8_go_1 (by decide) ?_
  refine pr_calli hS (pr_runS (As := [.int a1, .int (1000 : Int32)]) (rest := []) C hR (c_X8_within h) gw_RX8_67 rfl rfl hs_X8_within ⟨Nat.le_of_ble_eq_true rfl, Nat.le_of_ble_eq_true rfl⟩ rfl hl.1 rfl (Nat.le_of_ble_eq_true rfl) dX8_go_4 ⟨Nat.zero_le _, Nat.zero_le _⟩) (fun r1 σ1 H locs h hR hS => ?_)
  obtain ⟨hz1, h⟩ := h
  refine lv_if_ne (tgt := 12) hx hb dX8_go_7 (by decide) (fun c2 => ?_) (fun c2 => ?_)
  · have h := h.1 c2
    refine lv_aload_n hx hb dX8_go_12 rfl (lv_at hl 0 rfl) ?_
    refine lv_aload_n hx hb dX8_go_13 rfl (lv_at hl 0 rfl) ?_
    refine gf_RX8_92 C hR pr_l8 dX8_go_14 ?_
    refine lv_iload_n hx hb dX8_go_17 rfl (lv_at hl 1 rfl) ?_
    refine lv_iadd hx hb dX8_go_18 ?_
    refine lv_sipush (v := (20000 : Int32)) hx hb dX8_go_19 (by decide) ?_
    refine va_mmin hx hb (by rw [hml]; exact hl.1.symm) hown (hts _ (pr_in10 _ (List.mem_of_getElem? (i := 18) rfl))) (hts _ (pr_in10 _ (List.mem_of_getElem? (i := 19) rfl))) (hts _ (pr_in10 _ (List.mem_of_getElem? (i := 20) rfl))) (hts _ (pr_in10 _ (List.mem_of_getElem? (i := 21) rfl))) (Nat.le_of_ble_eq_true rfl) (Nat.le_of_ble_eq_true rfl) (Nat.zero_le _) (Nat.zero_le _) dX8_go_22 ?_
    refine pf_RX8_92 C hR hS pr_l8 dX8_go_25 (fun H locs σ3 e3 hR hS => ?_)
    have h := h σ3 e3
    refine lv_aload_n hx hb dX8_go_28 rfl (lv_at hl 0 rfl) ?_
    refine gf_RX8_92 C hR pr_l8 dX8_go_29 ?_
    exact pr_reti C h hR hS dX8_go_32
  · have h := h.2 c2
    refine lv_iconst (v := (-1 : Int32)) hx hb dX8_go_10 (by decide) ?_
    exact pr_reti C h hR hS dX8_go_11
abbrev wp_X8_go (g : Nat → Nat) (σ : pr_Sg) (a1 : Int32) (Q : Int32 → pr_Sg → Prop) : Prop := wpb_X8_go g σ a1 Q
set_option maxHeartbeats 4000000 in
set_option maxRecDepth 100000 in
theorem c_X8_go {l : Launch} {D : va_G} {cs : Nat → ClassId} {A : Nat → Prop} {ad : pr_Ad} {g : Nat → Nat} {σ : pr_Sg} {a1 : Int32} {Q : Int32 → pr_Sg → Prop} (h : wp_X8_go g σ a1 Q) : pr_Mi l D cs A ad g yX8_go cX8_go 2 (some .int) rm_X8_go [.ref (ad 8 0 0), .int a1] σ Q := by
  refine Met.ofW (cc := cX8_go) (maxL := 2) (ret := (some .int)) (by decide) rfl ?_
  intro p e s m args below meth c s₁ B hml hv
  obtain ⟨rfl, hR, hK⟩ := hv
  have C : pr_C RX8 cX8_go 2 (some .int) D cs p s m [.ref (ad 8 0 0), .int a1].toArray meth c := pr_C.of B hml hK
  have hS : va_S A s.heap s.heap [] := va_S.rf
  have hl := lv_entry ([.ref (ad 8 0 0), .int a1]) (n := 2) (Nat.le_of_ble_eq_true rfl)
  rw [lg_entry_eq]
  generalize (lg_sl ([.ref (ad 8 0 0), .int a1]) ++ List.replicate (2 - (lg_sl ([.ref (ad 8 0 0), .int a1])).length) Slot.unset).toArray = ls at hl ⊢
  have hl : lv_has ls 2 [(0, .ref (ad 8 0 0)), (1, .int a1)] := hl
  exact t_X8_go C h hR hS hl
def rm_X8_light : Room := { frames := 2, cells := 0, slots := 0, locals := 35 }
theorem hd_X8_light : yX8_light.cls = RX8 ∧ yX8_light.cls ≠ "java/lang/invoke/MethodHandle" ∧ yX8_light.cls ≠ "java/lang/invoke/VarHandle" ∧ (parseMethodDescriptor yX8_light.desc).map (fun d => d.parameters.length) = some 1 := ⟨rfl, by decide, by decide, by decide +kernel⟩
def wpb_X8_light (g : Nat → Nat) (σ : pr_Sg) (a1 : Int32) (Q : Int32 → pr_Sg → Prop) : Prop :=
  (wp_X8_within g σ a1 (20000 : Int32) (fun r1 σ1 =>
  ((r1 = 0 → Q (-1 : Int32) σ1) ∧
  (¬ r1 = 0 → (wp_X8_lightHours g σ1 a1 (fun r3 σ3 =>
  Q r3 σ3))))))
set_option maxHeartbeats 4000000 in
set_option maxRecDepth 100000 in
theorem t_X8_light {p : Program} {l : Launch} {e : Env} {s : State} {m : MethodId} {args : Array Value} {below : List Frame} {meth : Method} {c : Code} {D : va_G} {cs : Nat → ClassId} {A : Nat → Prop} {ad : pr_Ad} {g : Nat → Nat} {Q : Int32 → pr_Sg → Prop} (C : pr_C RX8 cX8_light 2 (some .int) D cs p s m args meth c) {H : Heap} {locs : List Loc} {ls : Array Slot} {σ : pr_Sg} {a1 : Int32} (h : wpb_X8_light g σ a1 Q) (hR : pr_R D cs A ad g σ H) (hS : va_S A s.heap H locs) (hl : lv_has ls 2 [(0, .ref (ad 8 0 0)), (1, .int a1)]) : W p l e rm_X8_light s m args below meth c H locs 0 0 (MQ below (va_Qi Q (pr_E D cs A ad g) A) args s 0 0 A) (F0 m 0 ls []) := by
  unfold wpb_X8_light at h
  obtain ⟨hx, hb, hml, hown, hts, hK, hr, hlocks⟩ := id C
  refine lv_iload_n hx hb dX8_light_0 rfl (lv_at hl 1 rfl) ?_
  refine lv_sipush (v := (20000 : Int32)) hx hb dX8_light_1 (by decide) ?_
  refine pr_calli hS (pr_runS (As := [.int a1, .int (20000 : Int32)]) (rest := []) C hR (c_X8_within h) gw_RX8_67 rfl rfl hs_X8_within ⟨Nat.le_of_ble_eq_true rfl, Nat.le_of_ble_eq_true rfl⟩ rfl hl.1 rfl (Nat.le_of_ble_eq_true rfl) dX8_light_4 ⟨Nat.zero_le _, Nat.zero_le _⟩) (fun r1 σ1 H locs h hR hS => ?_)
  obtain ⟨hz1, h⟩ := h
  refine lv_if_eq (tgt := 17) hx hb dX8_light_7 (by decide) (fun c2 => ?_) (fun c2 => ?_)
  · have h := h.1 c2
    refine lv_iconst (v := (-1 : Int32)) hx hb dX8_light_17 (by decide) ?_
    exact pr_reti C h hR hS dX8_light_18
  · have h := h.2 c2
    refine lv_iload_n hx hb dX8_light_10 rfl (lv_at hl 1 rfl) ?_
    refine pr_calli hS (pr_runS (As := [.int a1]) (rest := []) C hR (c_X8_lightHours h) gw_RX8_113 rfl rfl hs_X8_lightHours ⟨Nat.le_of_ble_eq_true rfl, Nat.le_of_ble_eq_true rfl⟩ rfl hl.1 rfl (Nat.le_of_ble_eq_true rfl) dX8_light_11 ⟨Nat.zero_le _, Nat.zero_le _⟩) (fun r3 σ3 H locs h hR hS => ?_)
    refine lv_goto (tgt := 18) hx hb dX8_light_14 (by decide) ?_
    exact pr_reti C h hR hS dX8_light_18
abbrev wp_X8_light (g : Nat → Nat) (σ : pr_Sg) (a1 : Int32) (Q : Int32 → pr_Sg → Prop) : Prop := wpb_X8_light g σ a1 Q
set_option maxHeartbeats 4000000 in
set_option maxRecDepth 100000 in
theorem c_X8_light {l : Launch} {D : va_G} {cs : Nat → ClassId} {A : Nat → Prop} {ad : pr_Ad} {g : Nat → Nat} {σ : pr_Sg} {a1 : Int32} {Q : Int32 → pr_Sg → Prop} (h : wp_X8_light g σ a1 Q) : pr_Mi l D cs A ad g yX8_light cX8_light 2 (some .int) rm_X8_light [.ref (ad 8 0 0), .int a1] σ Q := by
  refine Met.ofW (cc := cX8_light) (maxL := 2) (ret := (some .int)) (by decide) rfl ?_
  intro p e s m args below meth c s₁ B hml hv
  obtain ⟨rfl, hR, hK⟩ := hv
  have C : pr_C RX8 cX8_light 2 (some .int) D cs p s m [.ref (ad 8 0 0), .int a1].toArray meth c := pr_C.of B hml hK
  have hS : va_S A s.heap s.heap [] := va_S.rf
  have hl := lv_entry ([.ref (ad 8 0 0), .int a1]) (n := 2) (Nat.le_of_ble_eq_true rfl)
  rw [lg_entry_eq]
  generalize (lg_sl ([.ref (ad 8 0 0), .int a1]) ++ List.replicate (2 - (lg_sl ([.ref (ad 8 0 0), .int a1])).length) Slot.unset).toArray = ls at hl ⊢
  have hl : lv_has ls 2 [(0, .ref (ad 8 0 0)), (1, .int a1)] := hl
  exact t_X8_light C h hR hS hl
def rm_X8_book : Room := { frames := 2, cells := 0, slots := 0, locals := 35 }
theorem hd_X8_book : yX8_book.cls = RX8 ∧ yX8_book.cls ≠ "java/lang/invoke/MethodHandle" ∧ yX8_book.cls ≠ "java/lang/invoke/VarHandle" ∧ (parseMethodDescriptor yX8_book.desc).map (fun d => d.parameters.length) = some 3 := ⟨rfl, by decide, by decide, by decide +kernel⟩
def wpb_X8_book (g : Nat → Nat) (σ : pr_Sg) (a1 : Int32) (a2 : Int32) (a3 : Int32) (Q : Int32 → pr_Sg → Prop) : Prop :=
  (wp_X8_pictureAt g σ a1 (fun x1 σ1 =>
  (x1 = none → Q (0 : Int32) σ1) ∧
  (∀ i1q : Nat, x1 = some (i1q, 0) → (wp_X3_isDone g σ1 i1q (fun r2 σ2 =>
  ((¬ r2 = 0 → Q (0 : Int32) σ2) ∧
  (r2 = 0 → (wp_X8_isNowOrLater g σ2 a2 (fun r4 σ4 =>
  ((¬ r4 = 0 → (wp_X8_sitterAt g σ4 (σ4 192 i1q 0) (fun x6 σ6 =>
  (x6 = none → Q (0 : Int32) σ6) ∧
  (∀ i6q : Nat, x6 = some (i6q, 0) → (wp_X8_lightHours g σ6 a2 (fun r7 σ7 =>
  (wp_X8_within g σ7 a3 (r7 - (1 : Int32)) (fun r8 σ8 =>
  ((r8 = 0 → Q (0 : Int32) σ8) ∧
  (¬ r8 = 0 → (wp_X6_canCome g σ8 i6q a3 (fun r10 σ10 =>
  ((r10 = 0 → Q (0 : Int32) σ10) ∧
  (¬ r10 = 0 → (wp_X7_isTaken g σ10 a2 a3 (fun r12 σ12 =>
  ((¬ r12 = 0 → Q (0 : Int32) σ12) ∧
  (r12 = 0 → (wp_X7_hasSitter g σ12 a2 (σ12 192 i1q 0) (fun r14 σ14 =>
  ((¬ r14 = 0 → Q (0 : Int32) σ14) ∧
  (r14 = 0 → (wp_X7_add g σ14 a1 (σ14 192 i1q 0) a2 a3 (fun r16 σ16 =>
  ((¬ r16 = 0 → (∀ σ18 : pr_Sg, σ18 = pr_up σ16 199 i1q 0 ((σ16 199 i1q 0) + (1 : Int32)) →
  Q (1 : Int32) σ18)) ∧
  (r16 = 0 → Q (0 : Int32) σ16)))))))))))))))))))))))))) ∧
  (r4 = 0 → Q (0 : Int32) σ4)))))))))))
set_option maxHeartbeats 4000000 in
set_option maxRecDepth 100000 in
theorem t_X8_book {p : Program} {l : Launch} {e : Env} {s : State} {m : MethodId} {args : Array Value} {below : List Frame} {meth : Method} {c : Code} {D : va_G} {cs : Nat → ClassId} {A : Nat → Prop} {ad : pr_Ad} {g : Nat → Nat} {Q : Int32 → pr_Sg → Prop} (C : pr_C RX8 cX8_book 6 (some .boolean) D cs p s m args meth c) {H : Heap} {locs : List Loc} {ls : Array Slot} {σ : pr_Sg} {a1 : Int32} {a2 : Int32} {a3 : Int32} (h : wpb_X8_book g σ a1 a2 a3 Q) (hR : pr_R D cs A ad g σ H) (hS : va_S A s.heap H locs) (hl : lv_has ls 6 [(0, .ref (ad 8 0 0)), (1, .int a1), (2, .int a2), (3, .int a3)]) : W p l e rm_X8_book s m args below meth c H locs 0 0 (MQ below (va_Qi (pr_Qz Q) (pr_E D cs A ad g) A) args s 0 0 A) (F0 m 0 ls []) := by
  unfold wpb_X8_book at h
  obtain ⟨hx, hb, hml, hown, hts, hK, hr, hlocks⟩ := id C
  refine lv_aload_n hx hb dX8_book_0 rfl (lv_at hl 0 rfl) ?_
  refine lv_iload_n hx hb dX8_book_1 rfl (lv_at hl 1 rfl) ?_
  refine pr_callr hS (pr_runV (As := [.int a1]) (rest := []) C hR pr_l8 (by omega) rfl (c_X8_pictureAt h) gw_RX8_117 rfl rfl hd_X8_pictureAt ⟨Nat.le_of_ble_eq_true rfl, Nat.le_of_ble_eq_true rfl⟩ rfl hl.1 rfl (Nat.le_of_ble_eq_true rfl) dX8_book_2 ⟨Nat.zero_le _, Nat.zero_le _⟩) (fun σ1 H locs h hR hS => ?_) (fun i1q j1q σ1 H locs h hv1 hR hS => ?_)
  · have h := h.1 rfl
    refine lv_astoreN (lv' := [(4, .null), (0, .ref (ad 8 0 0)), (1, .int a1), (2, .int a2), (3, .int a3)]) hx hb dX8_book_5 hl (by decide) rfl (fun ls hl => ?_)
    refine lv_aloadN hx hb dX8_book_7 (lv_at hl 0 rfl) ?_
    refine lv_ifnullN (tgt := 28) hx hb dX8_book_9 (by decide) ?_
    refine lv_iconst (v := (0 : Int32)) hx hb dX8_book_28 (by decide) ?_
    exact pr_retz C (Or.inl rfl) h hR hS dX8_book_29
  · obtain rfl : j1q = 0 := pr_lvj (by decide) hv1
    have h := h.2 i1q rfl
    refine lv_astore (lv' := [(4, .ref (ad 3 i1q 0)), (0, .ref (ad 8 0 0)), (1, .int a1), (2, .int a2), (3, .int a3)]) hx hb dX8_book_5 hl (by decide) rfl (fun ls hl => ?_)
    refine lv_aload hx hb dX8_book_7 (lv_at hl 0 rfl) ?_
    refine lv_ifnull hx hb dX8_book_9 ?_
    refine lv_aload hx hb dX8_book_12 (lv_at hl 0 rfl) ?_
    refine pr_calli hS (pr_runV (As := []) (rest := []) C hR hv1 (by omega) rfl (c_X3_isDone hv1 h) gw_RX8_121 rfl rfl hd_X3_isDone ⟨Nat.le_of_ble_eq_true rfl, Nat.le_of_ble_eq_true rfl⟩ rfl hl.1 rfl (Nat.le_of_ble_eq_true rfl) dX8_book_14 ⟨Nat.zero_le _, Nat.zero_le _⟩) (fun r2 σ2 H locs h hR hS => ?_)
    obtain ⟨hz2, h⟩ := h
    refine lv_if_ne (tgt := 28) hx hb dX8_book_17 (by decide) (fun c3 => ?_) (fun c3 => ?_)
    · have h := h.1 c3
      refine lv_iconst (v := (0 : Int32)) hx hb dX8_book_28 (by decide) ?_
      exact pr_retz C (Or.inl rfl) h hR hS dX8_book_29
    · have h := h.2 c3
      refine lv_aload_n hx hb dX8_book_20 rfl (lv_at hl 1 rfl) ?_
      refine lv_iload_n hx hb dX8_book_21 rfl (lv_at hl 3 rfl) ?_
      refine pr_calli hS (pr_runV (As := [.int a2]) (rest := []) C hR pr_l8 (by omega) rfl (c_X8_isNowOrLater h) gw_RX8_125 rfl rfl hd_X8_isNowOrLater ⟨Nat.le_of_ble_eq_true rfl, Nat.le_of_ble_eq_true rfl⟩ rfl hl.1 rfl (Nat.le_of_ble_eq_true rfl) dX8_book_22 ⟨Nat.zero_le _, Nat.zero_le _⟩) (fun r4 σ4 H locs h hR hS => ?_)
      obtain ⟨hz4, h⟩ := h
      refine lv_if_ne (tgt := 30) hx hb dX8_book_25 (by decide) (fun c5 => ?_) (fun c5 => ?_)
      · have h := h.1 c5
        refine lv_aload_n hx hb dX8_book_30 rfl (lv_at hl 1 rfl) ?_
        refine lv_aload hx hb dX8_book_31 (lv_at hl 0 rfl) ?_
        refine gf_RX8_128 C hR hv1 dX8_book_33 ?_
        refine pr_callr hS (pr_runV (As := [.int (σ4 192 i1q 0)]) (rest := []) C hR pr_l8 (by omega) rfl (c_X8_sitterAt h) gw_RX8_81 rfl rfl hd_X8_sitterAt ⟨Nat.le_of_ble_eq_true rfl, Nat.le_of_ble_eq_true rfl⟩ rfl hl.1 rfl (Nat.le_of_ble_eq_true rfl) dX8_book_36 ⟨Nat.zero_le _, Nat.zero_le _⟩) (fun σ6 H locs h hR hS => ?_) (fun i6q j6q σ6 H locs h hv6 hR hS => ?_)
        · have h := h.1 rfl
          refine lv_astoreN (lv' := [(5, .null), (4, .ref (ad 3 i1q 0)), (0, .ref (ad 8 0 0)), (1, .int a1), (2, .int a2), (3, .int a3)]) hx hb dX8_book_39 hl (by decide) rfl (fun ls hl => ?_)
          refine lv_aloadN hx hb dX8_book_41 (lv_at hl 0 rfl) ?_
          refine lv_ifnullN (tgt := 114) hx hb dX8_book_43 (by decide) ?_
          refine lv_iconst (v := (0 : Int32)) hx hb dX8_book_114 (by decide) ?_
          exact pr_retz C (Or.inl rfl) h hR hS dX8_book_115
        · obtain rfl : j6q = 0 := pr_lvj (by decide) hv6
          have h := h.2 i6q rfl
          refine lv_astore (lv' := [(5, .ref (ad 6 i6q 0)), (4, .ref (ad 3 i1q 0)), (0, .ref (ad 8 0 0)), (1, .int a1), (2, .int a2), (3, .int a3)]) hx hb dX8_book_39 hl (by decide) rfl (fun ls hl => ?_)
          refine lv_aload hx hb dX8_book_41 (lv_at hl 0 rfl) ?_
          refine lv_ifnull hx hb dX8_book_43 ?_
          refine lv_iload_n hx hb dX8_book_46 rfl (lv_at hl 5 rfl) ?_
          refine lv_iload_n hx hb dX8_book_47 rfl (lv_at hl 4 rfl) ?_
          refine pr_calli hS (pr_runS (As := [.int a2]) (rest := [.int a3]) C hR (c_X8_lightHours h) gw_RX8_113 rfl rfl hs_X8_lightHours ⟨Nat.le_of_ble_eq_true rfl, Nat.le_of_ble_eq_true rfl⟩ rfl hl.1 rfl (Nat.le_of_ble_eq_true rfl) dX8_book_48 ⟨Nat.zero_le _, Nat.zero_le _⟩) (fun r7 σ7 H locs h hR hS => ?_)
          refine lv_iconst (v := (1 : Int32)) hx hb dX8_book_51 (by decide) ?_
          refine lv_isub hx hb dX8_book_52 ?_
          refine pr_calli hS (pr_runS (As := [.int a3, .int (r7 - (1 : Int32))]) (rest := []) C hR (c_X8_within h) gw_RX8_67 rfl rfl hs_X8_within ⟨Nat.le_of_ble_eq_true rfl, Nat.le_of_ble_eq_true rfl⟩ rfl hl.1 rfl (Nat.le_of_ble_eq_true rfl) dX8_book_53 ⟨Nat.zero_le _, Nat.zero_le _⟩) (fun r8 σ8 H locs h hR hS => ?_)
          obtain ⟨hz8, h⟩ := h
          refine lv_if_eq (tgt := 114) hx hb dX8_book_56 (by decide) (fun c9 => ?_) (fun c9 => ?_)
          · have h := h.1 c9
            refine lv_iconst (v := (0 : Int32)) hx hb dX8_book_114 (by decide) ?_
            exact pr_retz C (Or.inl rfl) h hR hS dX8_book_115
          · have h := h.2 c9
            refine lv_aload hx hb dX8_book_59 (lv_at hl 0 rfl) ?_
            refine lv_iload_n hx hb dX8_book_61 rfl (lv_at hl 5 rfl) ?_
            refine pr_calli hS (pr_runV (As := [.int a3]) (rest := []) C hR hv6 (by omega) rfl (c_X6_canCome hv6 h) gw_RX8_131 rfl rfl hd_X6_canCome ⟨Nat.le_of_ble_eq_true rfl, Nat.le_of_ble_eq_true rfl⟩ rfl hl.1 rfl (Nat.le_of_ble_eq_true rfl) dX8_book_62 ⟨Nat.zero_le _, Nat.zero_le _⟩) (fun r10 σ10 H locs h hR hS => ?_)
            obtain ⟨hz10, h⟩ := h
            refine lv_if_eq (tgt := 114) hx hb dX8_book_65 (by decide) (fun c11 => ?_) (fun c11 => ?_)
            · have h := h.1 c11
              refine lv_iconst (v := (0 : Int32)) hx hb dX8_book_114 (by decide) ?_
              exact pr_retz C (Or.inl rfl) h hR hS dX8_book_115
            · have h := h.2 c11
              refine lv_aload_n hx hb dX8_book_68 rfl (lv_at hl 2 rfl) ?_
              refine gf_RX8_41 C hR pr_l8 dX8_book_69 ?_
              refine lv_iload_n hx hb dX8_book_72 rfl (lv_at hl 4 rfl) ?_
              refine lv_iload_n hx hb dX8_book_73 rfl (lv_at hl 5 rfl) ?_
              refine pr_calli hS (pr_runV (As := [.int a2, .int a3]) (rest := []) C hR pr_l7 (by omega) rfl (c_X7_isTaken h) gw_RX8_134 rfl rfl hd_X7_isTaken ⟨Nat.le_of_ble_eq_true rfl, Nat.le_of_ble_eq_true rfl⟩ rfl hl.1 rfl (Nat.le_of_ble_eq_true rfl) dX8_book_74 ⟨Nat.zero_le _, Nat.zero_le _⟩) (fun r12 σ12 H locs h hR hS => ?_)
              obtain ⟨hz12, h⟩ := h
              refine lv_if_ne (tgt := 114) hx hb dX8_book_77 (by decide) (fun c13 => ?_) (fun c13 => ?_)
              · have h := h.1 c13
                refine lv_iconst (v := (0 : Int32)) hx hb dX8_book_114 (by decide) ?_
                exact pr_retz C (Or.inl rfl) h hR hS dX8_book_115
              · have h := h.2 c13
                refine lv_aload_n hx hb dX8_book_80 rfl (lv_at hl 2 rfl) ?_
                refine gf_RX8_41 C hR pr_l8 dX8_book_81 ?_
                refine lv_iload_n hx hb dX8_book_84 rfl (lv_at hl 4 rfl) ?_
                refine lv_aload hx hb dX8_book_85 (lv_at hl 1 rfl) ?_
                refine gf_RX8_128 C hR hv1 dX8_book_87 ?_
                refine pr_calli hS (pr_runV (As := [.int a2, .int (σ12 192 i1q 0)]) (rest := []) C hR pr_l7 (by omega) rfl (c_X7_hasSitter h) gw_RX8_137 rfl rfl hd_X7_hasSitter ⟨Nat.le_of_ble_eq_true rfl, Nat.le_of_ble_eq_true rfl⟩ rfl hl.1 rfl (Nat.le_of_ble_eq_true rfl) dX8_book_90 ⟨Nat.zero_le _, Nat.zero_le _⟩) (fun r14 σ14 H locs h hR hS => ?_)
                obtain ⟨hz14, h⟩ := h
                refine lv_if_ne (tgt := 114) hx hb dX8_book_93 (by decide) (fun c15 => ?_) (fun c15 => ?_)
                · have h := h.1 c15
                  refine lv_iconst (v := (0 : Int32)) hx hb dX8_book_114 (by decide) ?_
                  exact pr_retz C (Or.inl rfl) h hR hS dX8_book_115
                · have h := h.2 c15
                  refine lv_aload_n hx hb dX8_book_96 rfl (lv_at hl 2 rfl) ?_
                  refine gf_RX8_41 C hR pr_l8 dX8_book_97 ?_
                  refine lv_iload_n hx hb dX8_book_100 rfl (lv_at hl 3 rfl) ?_
                  refine lv_aload hx hb dX8_book_101 (lv_at hl 1 rfl) ?_
                  refine gf_RX8_128 C hR hv1 dX8_book_103 ?_
                  refine lv_iload_n hx hb dX8_book_106 rfl (lv_at hl 4 rfl) ?_
                  refine lv_iload_n hx hb dX8_book_107 rfl (lv_at hl 5 rfl) ?_
                  refine pr_calli hS (pr_runV (As := [.int a1, .int (σ14 192 i1q 0), .int a2, .int a3]) (rest := []) C hR pr_l7 (by omega) rfl (c_X7_add h) gw_RX8_140 rfl rfl hd_X7_add ⟨Nat.le_of_ble_eq_true rfl, Nat.le_of_ble_eq_true rfl⟩ rfl hl.1 rfl (Nat.le_of_ble_eq_true rfl) dX8_book_108 ⟨Nat.zero_le _, Nat.zero_le _⟩) (fun r16 σ16 H locs h hR hS => ?_)
                  obtain ⟨hz16, h⟩ := h
                  refine lv_if_ne (tgt := 116) hx hb dX8_book_111 (by decide) (fun c17 => ?_) (fun c17 => ?_)
                  · have h := h.1 c17
                    refine lv_aload hx hb dX8_book_116 (lv_at hl 1 rfl) ?_
                    refine lv_dup hx hb dX8_book_118 rfl ?_
                    refine gf_RX8_143 C hR hv1 dX8_book_119 ?_
                    refine lv_iconst (v := (1 : Int32)) hx hb dX8_book_122 (by decide) ?_
                    refine lv_iadd hx hb dX8_book_123 ?_
                    refine pf_RX8_143 C hR hS hv1 dX8_book_124 (fun H locs σ18 e18 hR hS => ?_)
                    have h := h σ18 e18
                    refine lv_iconst (v := (1 : Int32)) hx hb dX8_book_127 (by decide) ?_
                    exact pr_retz C (Or.inr rfl) h hR hS dX8_book_128
                  · have h := h.2 c17
                    refine lv_iconst (v := (0 : Int32)) hx hb dX8_book_114 (by decide) ?_
                    exact pr_retz C (Or.inl rfl) h hR hS dX8_book_115
      · have h := h.2 c5
        refine lv_iconst (v := (0 : Int32)) hx hb dX8_book_28 (by decide) ?_
        exact pr_retz C (Or.inl rfl) h hR hS dX8_book_29
abbrev wp_X8_book (g : Nat → Nat) (σ : pr_Sg) (a1 : Int32) (a2 : Int32) (a3 : Int32) (Q : Int32 → pr_Sg → Prop) : Prop := wpb_X8_book g σ a1 a2 a3 Q
set_option maxHeartbeats 4000000 in
set_option maxRecDepth 100000 in
theorem c_X8_book {l : Launch} {D : va_G} {cs : Nat → ClassId} {A : Nat → Prop} {ad : pr_Ad} {g : Nat → Nat} {σ : pr_Sg} {a1 : Int32} {a2 : Int32} {a3 : Int32} {Q : Int32 → pr_Sg → Prop} (h : wp_X8_book g σ a1 a2 a3 Q) : pr_Mi l D cs A ad g yX8_book cX8_book 6 (some .boolean) rm_X8_book [.ref (ad 8 0 0), .int a1, .int a2, .int a3] σ (pr_Qz Q) := by
  refine Met.ofW (cc := cX8_book) (maxL := 6) (ret := (some .boolean)) (by decide) rfl ?_
  intro p e s m args below meth c s₁ B hml hv
  obtain ⟨rfl, hR, hK⟩ := hv
  have C : pr_C RX8 cX8_book 6 (some .boolean) D cs p s m [.ref (ad 8 0 0), .int a1, .int a2, .int a3].toArray meth c := pr_C.of B hml hK
  have hS : va_S A s.heap s.heap [] := va_S.rf
  have hl := lv_entry ([.ref (ad 8 0 0), .int a1, .int a2, .int a3]) (n := 6) (Nat.le_of_ble_eq_true rfl)
  rw [lg_entry_eq]
  generalize (lg_sl ([.ref (ad 8 0 0), .int a1, .int a2, .int a3]) ++ List.replicate (6 - (lg_sl ([.ref (ad 8 0 0), .int a1, .int a2, .int a3])).length) Slot.unset).toArray = ls at hl ⊢
  have hl : lv_has ls 6 [(0, .ref (ad 8 0 0)), (1, .int a1), (2, .int a2), (3, .int a3)] := hl
  exact t_X8_book C h hR hS hl
def rm_X8_unbook : Room := { frames := 1, cells := 0, slots := 0, locals := 23 }
theorem hd_X8_unbook : yX8_unbook.cls = RX8 ∧ yX8_unbook.cls ≠ "java/lang/invoke/MethodHandle" ∧ yX8_unbook.cls ≠ "java/lang/invoke/VarHandle" ∧ (parseMethodDescriptor yX8_unbook.desc).map (fun d => d.parameters.length) = some 2 := ⟨rfl, by decide, by decide, by decide +kernel⟩
def wpb_X8_unbook (g : Nat → Nat) (σ : pr_Sg) (a1 : Int32) (a2 : Int32) (Q : Int32 → pr_Sg → Prop) : Prop :=
  (wp_X8_pictureAt g σ a1 (fun x1 σ1 =>
  (x1 = none → Q (0 : Int32) σ1) ∧
  (∀ i1q : Nat, x1 = some (i1q, 0) → (wp_X8_isNowOrLater g σ1 a2 (fun r2 σ2 =>
  ((¬ r2 = 0 → (wp_X7_unusedOf g σ2 a1 a2 (fun r4 σ4 =>
  ((¬ r4 = (-1 : Int32) → (wp_X7_remove g σ4 r4 (fun σ6 =>
  (∀ σ7 : pr_Sg, σ7 = pr_up σ6 199 i1q 0 ((σ6 199 i1q 0) - (1 : Int32)) →
  Q (1 : Int32) σ7)))) ∧
  (r4 = (-1 : Int32) → Q (0 : Int32) σ4))))) ∧
  (r2 = 0 → Q (0 : Int32) σ2)))))))
set_option maxHeartbeats 4000000 in
set_option maxRecDepth 100000 in
theorem t_X8_unbook {p : Program} {l : Launch} {e : Env} {s : State} {m : MethodId} {args : Array Value} {below : List Frame} {meth : Method} {c : Code} {D : va_G} {cs : Nat → ClassId} {A : Nat → Prop} {ad : pr_Ad} {g : Nat → Nat} {Q : Int32 → pr_Sg → Prop} (C : pr_C RX8 cX8_unbook 5 (some .boolean) D cs p s m args meth c) {H : Heap} {locs : List Loc} {ls : Array Slot} {σ : pr_Sg} {a1 : Int32} {a2 : Int32} (h : wpb_X8_unbook g σ a1 a2 Q) (hR : pr_R D cs A ad g σ H) (hS : va_S A s.heap H locs) (hl : lv_has ls 5 [(0, .ref (ad 8 0 0)), (1, .int a1), (2, .int a2)]) : W p l e rm_X8_unbook s m args below meth c H locs 0 0 (MQ below (va_Qi (pr_Qz Q) (pr_E D cs A ad g) A) args s 0 0 A) (F0 m 0 ls []) := by
  unfold wpb_X8_unbook at h
  obtain ⟨hx, hb, hml, hown, hts, hK, hr, hlocks⟩ := id C
  refine lv_aload_n hx hb dX8_unbook_0 rfl (lv_at hl 0 rfl) ?_
  refine lv_iload_n hx hb dX8_unbook_1 rfl (lv_at hl 1 rfl) ?_
  refine pr_callr hS (pr_runV (As := [.int a1]) (rest := []) C hR pr_l8 (by omega) rfl (c_X8_pictureAt h) gw_RX8_117 rfl rfl hd_X8_pictureAt ⟨Nat.le_of_ble_eq_true rfl, Nat.le_of_ble_eq_true rfl⟩ rfl hl.1 rfl (Nat.le_of_ble_eq_true rfl) dX8_unbook_2 ⟨Nat.zero_le _, Nat.zero_le _⟩) (fun σ1 H locs h hR hS => ?_) (fun i1q j1q σ1 H locs h hv1 hR hS => ?_)
  · have h := h.1 rfl
    refine lv_astore_nN (lv' := [(3, .null), (0, .ref (ad 8 0 0)), (1, .int a1), (2, .int a2)]) hx hb dX8_unbook_5 rfl hl (by decide) rfl (fun ls hl => ?_)
    refine lv_aload_nN hx hb dX8_unbook_6 rfl (lv_at hl 0 rfl) ?_
    refine lv_ifnullN (tgt := 18) hx hb dX8_unbook_7 (by decide) ?_
    refine lv_iconst (v := (0 : Int32)) hx hb dX8_unbook_18 (by decide) ?_
    exact pr_retz C (Or.inl rfl) h hR hS dX8_unbook_19
  · obtain rfl : j1q = 0 := pr_lvj (by decide) hv1
    have h := h.2 i1q rfl
    refine lv_astore_n (lv' := [(3, .ref (ad 3 i1q 0)), (0, .ref (ad 8 0 0)), (1, .int a1), (2, .int a2)]) hx hb dX8_unbook_5 rfl hl (by decide) rfl (fun ls hl => ?_)
    refine lv_aload_n hx hb dX8_unbook_6 rfl (lv_at hl 0 rfl) ?_
    refine lv_ifnull hx hb dX8_unbook_7 ?_
    refine lv_aload_n hx hb dX8_unbook_10 rfl (lv_at hl 1 rfl) ?_
    refine lv_iload_n hx hb dX8_unbook_11 rfl (lv_at hl 3 rfl) ?_
    refine pr_calli hS (pr_runV (As := [.int a2]) (rest := []) C hR pr_l8 (by omega) rfl (c_X8_isNowOrLater h) gw_RX8_125 rfl rfl hd_X8_isNowOrLater ⟨Nat.le_of_ble_eq_true rfl, Nat.le_of_ble_eq_true rfl⟩ rfl hl.1 rfl (Nat.le_of_ble_eq_true rfl) dX8_unbook_12 ⟨Nat.zero_le _, Nat.zero_le _⟩) (fun r2 σ2 H locs h hR hS => ?_)
    obtain ⟨hz2, h⟩ := h
    refine lv_if_ne (tgt := 20) hx hb dX8_unbook_15 (by decide) (fun c3 => ?_) (fun c3 => ?_)
    · have h := h.1 c3
      refine lv_aload_n hx hb dX8_unbook_20 rfl (lv_at hl 1 rfl) ?_
      refine gf_RX8_41 C hR pr_l8 dX8_unbook_21 ?_
      refine lv_iload_n hx hb dX8_unbook_24 rfl (lv_at hl 2 rfl) ?_
      refine lv_iload_n hx hb dX8_unbook_25 rfl (lv_at hl 3 rfl) ?_
      refine pr_calli hS (pr_runV (As := [.int a1, .int a2]) (rest := []) C hR pr_l7 (by omega) rfl (c_X7_unusedOf h) gw_RX8_146 rfl rfl hd_X7_unusedOf ⟨Nat.le_of_ble_eq_true rfl, Nat.le_of_ble_eq_true rfl⟩ rfl hl.1 rfl (Nat.le_of_ble_eq_true rfl) dX8_unbook_26 ⟨Nat.zero_le _, Nat.zero_le _⟩) (fun r4 σ4 H locs h hR hS => ?_)
      refine lv_istore (lv' := [(4, .int r4), (3, .ref (ad 3 i1q 0)), (0, .ref (ad 8 0 0)), (1, .int a1), (2, .int a2)]) hx hb dX8_unbook_29 hl (by decide) rfl (fun ls hl => ?_)
      refine lv_iload hx hb dX8_unbook_31 (lv_at hl 0 rfl) ?_
      refine lv_iconst (v := (-1 : Int32)) hx hb dX8_unbook_33 (by decide) ?_
      refine lv_icmp_ne (tgt := 39) hx hb dX8_unbook_34 (by decide) (fun c5 => ?_) (fun c5 => ?_)
      · have h := h.1 c5
        refine lv_aload_n hx hb dX8_unbook_39 rfl (lv_at hl 2 rfl) ?_
        refine gf_RX8_41 C hR pr_l8 dX8_unbook_40 ?_
        refine lv_iload hx hb dX8_unbook_43 (lv_at hl 0 rfl) ?_
        refine pr_callv hS (pr_runV (As := [.int r4]) (rest := []) C hR pr_l7 (by omega) rfl (c_X7_remove h) gw_RX8_149 rfl rfl hd_X7_remove ⟨Nat.le_of_ble_eq_true rfl, Nat.le_of_ble_eq_true rfl⟩ rfl hl.1 rfl (Nat.le_of_ble_eq_true rfl) dX8_unbook_45 ⟨Nat.zero_le _, Nat.zero_le _⟩) (fun σ6 H locs h hR hS => ?_)
        refine lv_aload_n hx hb dX8_unbook_48 rfl (lv_at hl 1 rfl) ?_
        refine lv_dup hx hb dX8_unbook_49 rfl ?_
        refine gf_RX8_143 C hR hv1 dX8_unbook_50 ?_
        refine lv_iconst (v := (1 : Int32)) hx hb dX8_unbook_53 (by decide) ?_
        refine lv_isub hx hb dX8_unbook_54 ?_
        refine pf_RX8_143 C hR hS hv1 dX8_unbook_55 (fun H locs σ7 e7 hR hS => ?_)
        have h := h σ7 e7
        refine lv_iconst (v := (1 : Int32)) hx hb dX8_unbook_58 (by decide) ?_
        exact pr_retz C (Or.inr rfl) h hR hS dX8_unbook_59
      · have h := h.2 c5
        refine lv_iconst (v := (0 : Int32)) hx hb dX8_unbook_37 (by decide) ?_
        exact pr_retz C (Or.inl rfl) h hR hS dX8_unbook_38
    · have h := h.2 c3
      refine lv_iconst (v := (0 : Int32)) hx hb dX8_unbook_18 (by decide) ?_
      exact pr_retz C (Or.inl rfl) h hR hS dX8_unbook_19
abbrev wp_X8_unbook (g : Nat → Nat) (σ : pr_Sg) (a1 : Int32) (a2 : Int32) (Q : Int32 → pr_Sg → Prop) : Prop := wpb_X8_unbook g σ a1 a2 Q
set_option maxHeartbeats 4000000 in
set_option maxRecDepth 100000 in
theorem c_X8_unbook {l : Launch} {D : va_G} {cs : Nat → ClassId} {A : Nat → Prop} {ad : pr_Ad} {g : Nat → Nat} {σ : pr_Sg} {a1 : Int32} {a2 : Int32} {Q : Int32 → pr_Sg → Prop} (h : wp_X8_unbook g σ a1 a2 Q) : pr_Mi l D cs A ad g yX8_unbook cX8_unbook 5 (some .boolean) rm_X8_unbook [.ref (ad 8 0 0), .int a1, .int a2] σ (pr_Qz Q) := by
  refine Met.ofW (cc := cX8_unbook) (maxL := 5) (ret := (some .boolean)) (by decide) rfl ?_
  intro p e s m args below meth c s₁ B hml hv
  obtain ⟨rfl, hR, hK⟩ := hv
  have C : pr_C RX8 cX8_unbook 5 (some .boolean) D cs p s m [.ref (ad 8 0 0), .int a1, .int a2].toArray meth c := pr_C.of B hml hK
  have hS : va_S A s.heap s.heap [] := va_S.rf
  have hl := lv_entry ([.ref (ad 8 0 0), .int a1, .int a2]) (n := 5) (Nat.le_of_ble_eq_true rfl)
  rw [lg_entry_eq]
  generalize (lg_sl ([.ref (ad 8 0 0), .int a1, .int a2]) ++ List.replicate (5 - (lg_sl ([.ref (ad 8 0 0), .int a1, .int a2])).length) Slot.unset).toArray = ls at hl ⊢
  have hl : lv_has ls 5 [(0, .ref (ad 8 0 0)), (1, .int a1), (2, .int a2)] := hl
  exact t_X8_unbook C h hR hS hl
def rm_X8_standsAgainst : Room := { frames := 2, cells := 0, slots := 0, locals := 44 }
theorem hd_X8_standsAgainst : yX8_standsAgainst.cls = RX8 ∧ yX8_standsAgainst.cls ≠ "java/lang/invoke/MethodHandle" ∧ yX8_standsAgainst.cls ≠ "java/lang/invoke/VarHandle" ∧ (parseMethodDescriptor yX8_standsAgainst.desc).map (fun d => d.parameters.length) = some 3 := ⟨rfl, by decide, by decide, by decide +kernel⟩
def wp_X8_standsAgainst_L116 (g : Nat → Nat) (Q : Int32 → pr_Sg → Prop) (σ : pr_Sg) (x1 : Int32) (x2 : Int32) (i4 : Nat) : Prop :=
  ((¬ x2 = (2 : Int32) → Q (0 : Int32) σ) ∧
  (x2 = (2 : Int32) → (wp_X5_isAway g σ (σ 193 i4 0) x1 (σ 520 0 0) (fun r17 σ17 =>
  ((r17 = 0 → Q (0 : Int32) σ17) ∧
  (¬ r17 = 0 → Q (6 : Int32) σ17))))))
set_option maxHeartbeats 4000000 in
set_option maxRecDepth 100000 in
theorem t_X8_standsAgainst_L116 {p : Program} {l : Launch} {e : Env} {s : State} {m : MethodId} {args : Array Value} {below : List Frame} {meth : Method} {c : Code} {D : va_G} {cs : Nat → ClassId} {A : Nat → Prop} {ad : pr_Ad} {g : Nat → Nat} {Q : Int32 → pr_Sg → Prop} (C : pr_C RX8 cX8_standsAgainst 7 (some .int) D cs p s m args meth c) {H : Heap} {locs : List Loc} {ls : Array Slot} {σ : pr_Sg} {x1 : Int32} {x2 : Int32} {i4 : Nat} (h : wp_X8_standsAgainst_L116 g Q σ x1 x2 i4) (hR : pr_R D cs A ad g σ H) (hS : va_S A s.heap H locs) (hi4 : pr_lv g 3 i4 0) (hl : lv_has ls 7 [(0, .ref (ad 8 0 0)), (1, .int x1), (2, .int x2), (4, .ref (ad 3 i4 0))]) : W p l e rm_X8_standsAgainst s m args below meth c H locs 0 0 (MQ below (va_Qi Q (pr_E D cs A ad g) A) args s 0 0 A) (F0 m 116 ls []) := by
  unfold wp_X8_standsAgainst_L116 at h
  obtain ⟨hx, hb, hml, hown, hts, hK, hr, hlocks⟩ := id C
  refine lv_iload_n hx hb dX8_standsAgainst_116 rfl (lv_at hl 2 rfl) ?_
  refine lv_iconst (v := (2 : Int32)) hx hb dX8_standsAgainst_117 (by decide) ?_
  refine lv_icmp_ne (tgt := 144) hx hb dX8_standsAgainst_118 (by decide) (fun c16 => ?_) (fun c16 => ?_)
  · have h := h.1 c16
    refine lv_iconst (v := (0 : Int32)) hx hb dX8_standsAgainst_144 (by decide) ?_
    exact pr_reti C h hR hS dX8_standsAgainst_145
  · have h := h.2 c16
    refine lv_aload_n hx hb dX8_standsAgainst_121 rfl (lv_at hl 0 rfl) ?_
    refine gf_RX8_48 C hR pr_l8 dX8_standsAgainst_122 ?_
    refine lv_aload hx hb dX8_standsAgainst_125 (lv_at hl 3 rfl) ?_
    refine gf_RX8_254 C hR hi4 dX8_standsAgainst_127 ?_
    refine lv_iload_n hx hb dX8_standsAgainst_130 rfl (lv_at hl 1 rfl) ?_
    refine lv_aload_n hx hb dX8_standsAgainst_131 rfl (lv_at hl 0 rfl) ?_
    refine gf_RX8_92 C hR pr_l8 dX8_standsAgainst_132 ?_
    refine pr_calli hS (pr_runV (As := [.int (σ 193 i4 0), .int x1, .int (σ 520 0 0)]) (rest := []) C hR pr_l5 (by omega) rfl (c_X5_isAway h) gw_RX8_257 rfl rfl hd_X5_isAway ⟨Nat.le_of_ble_eq_true rfl, Nat.le_of_ble_eq_true rfl⟩ rfl hl.1 rfl (Nat.le_of_ble_eq_true rfl) dX8_standsAgainst_135 ⟨Nat.zero_le _, Nat.zero_le _⟩) (fun r17 σ17 H locs h hR hS => ?_)
    obtain ⟨hz17, h⟩ := h
    refine lv_if_eq (tgt := 144) hx hb dX8_standsAgainst_138 (by decide) (fun c18 => ?_) (fun c18 => ?_)
    · have h := h.1 c18
      refine lv_iconst (v := (0 : Int32)) hx hb dX8_standsAgainst_144 (by decide) ?_
      exact pr_reti C h hR hS dX8_standsAgainst_145
    · have h := h.2 c18
      refine lv_bipush (v := (6 : Int32)) hx hb dX8_standsAgainst_141 (by decide) ?_
      exact pr_reti C h hR hS dX8_standsAgainst_143
def wp_X8_standsAgainst_L79 (g : Nat → Nat) (Q : Int32 → pr_Sg → Prop) (σ : pr_Sg) (x1 : Int32) (x2 : Int32) (i4 : Nat) (i6 : Nat) : Prop :=
  (wp_X0_layersOn g σ i6 (σ 520 0 0) (fun r13 σ13 =>
  ((r13 < (3 : Int32) → ((¬ x2 = 0 → wp_X8_standsAgainst_L116 g Q σ13 x1 x2 i4) ∧
  (x2 = 0 → (wp_X7_unusedOf g σ13 x1 (σ13 520 0 0) (fun r19 σ19 =>
  ((¬ r19 = (-1 : Int32) → wp_X8_standsAgainst_L116 g Q σ19 x1 x2 i4) ∧
  (r19 = (-1 : Int32) → Q (5 : Int32) σ19))))))) ∧
  (¬ r13 < (3 : Int32) → Q (4 : Int32) σ13))))
set_option maxHeartbeats 4000000 in
set_option maxRecDepth 100000 in
theorem t_X8_standsAgainst_L79 {p : Program} {l : Launch} {e : Env} {s : State} {m : MethodId} {args : Array Value} {below : List Frame} {meth : Method} {c : Code} {D : va_G} {cs : Nat → ClassId} {A : Nat → Prop} {ad : pr_Ad} {g : Nat → Nat} {Q : Int32 → pr_Sg → Prop} (C : pr_C RX8 cX8_standsAgainst 7 (some .int) D cs p s m args meth c) {H : Heap} {locs : List Loc} {ls : Array Slot} {σ : pr_Sg} {x1 : Int32} {x2 : Int32} {i4 : Nat} {i6 : Nat} (h : wp_X8_standsAgainst_L79 g Q σ x1 x2 i4 i6) (hR : pr_R D cs A ad g σ H) (hS : va_S A s.heap H locs) (hi4 : pr_lv g 3 i4 0) (hi6 : pr_lv g 0 i6 0) (hl : lv_has ls 7 [(0, .ref (ad 8 0 0)), (1, .int x1), (2, .int x2), (4, .ref (ad 3 i4 0)), (6, .ref (ad 0 i6 0))]) : W p l e rm_X8_standsAgainst s m args below meth c H locs 0 0 (MQ below (va_Qi Q (pr_E D cs A ad g) A) args s 0 0 A) (F0 m 79 ls []) := by
  unfold wp_X8_standsAgainst_L79 at h
  obtain ⟨hx, hb, hml, hown, hts, hK, hr, hlocks⟩ := id C
  refine lv_aload hx hb dX8_standsAgainst_79 (lv_at hl 4 rfl) ?_
  refine lv_aload_n hx hb dX8_standsAgainst_81 rfl (lv_at hl 0 rfl) ?_
  refine gf_RX8_92 C hR pr_l8 dX8_standsAgainst_82 ?_
  refine pr_calli hS (pr_runV (As := [.int (σ 520 0 0)]) (rest := []) C hR hi6 (by omega) rfl (c_X0_layersOn hi6 h) gw_RX8_251 rfl rfl hd_X0_layersOn ⟨Nat.le_of_ble_eq_true rfl, Nat.le_of_ble_eq_true rfl⟩ rfl hl.1 rfl (Nat.le_of_ble_eq_true rfl) dX8_standsAgainst_85 ⟨Nat.zero_le _, Nat.zero_le _⟩) (fun r13 σ13 H locs h hR hS => ?_)
  refine lv_iconst (v := (3 : Int32)) hx hb dX8_standsAgainst_88 (by decide) ?_
  refine lv_icmp_lt (tgt := 94) hx hb dX8_standsAgainst_89 (by decide) (fun c14 => ?_) (fun c14 => ?_)
  · have h := h.1 c14
    refine lv_iload_n hx hb dX8_standsAgainst_94 rfl (lv_at hl 2 rfl) ?_
    refine lv_if_ne (tgt := 116) hx hb dX8_standsAgainst_95 (by decide) (fun c15 => ?_) (fun c15 => ?_)
    · have h := h.1 c15
      exact t_X8_standsAgainst_L116 C h hR hS hi4 (lv_sub hl [0, 1, 2, 3] rfl)
    · have h := h.2 c15
      refine lv_aload_n hx hb dX8_standsAgainst_98 rfl (lv_at hl 0 rfl) ?_
      refine gf_RX8_41 C hR pr_l8 dX8_standsAgainst_99 ?_
      refine lv_iload_n hx hb dX8_standsAgainst_102 rfl (lv_at hl 1 rfl) ?_
      refine lv_aload_n hx hb dX8_standsAgainst_103 rfl (lv_at hl 0 rfl) ?_
      refine gf_RX8_92 C hR pr_l8 dX8_standsAgainst_104 ?_
      refine pr_calli hS (pr_runV (As := [.int x1, .int (σ13 520 0 0)]) (rest := []) C hR pr_l7 (by omega) rfl (c_X7_unusedOf h) gw_RX8_146 rfl rfl hd_X7_unusedOf ⟨Nat.le_of_ble_eq_true rfl, Nat.le_of_ble_eq_true rfl⟩ rfl hl.1 rfl (Nat.le_of_ble_eq_true rfl) dX8_standsAgainst_107 ⟨Nat.zero_le _, Nat.zero_le _⟩) (fun r19 σ19 H locs h hR hS => ?_)
      refine lv_iconst (v := (-1 : Int32)) hx hb dX8_standsAgainst_110 (by decide) ?_
      refine lv_icmp_ne (tgt := 116) hx hb dX8_standsAgainst_111 (by decide) (fun c20 => ?_) (fun c20 => ?_)
      · have h := h.1 c20
        exact t_X8_standsAgainst_L116 C h hR hS hi4 (lv_sub hl [0, 1, 2, 3] rfl)
      · have h := h.2 c20
        refine lv_iconst (v := (5 : Int32)) hx hb dX8_standsAgainst_114 (by decide) ?_
        exact pr_reti C h hR hS dX8_standsAgainst_115
  · have h := h.2 c14
    refine lv_iconst (v := (4 : Int32)) hx hb dX8_standsAgainst_92 (by decide) ?_
    exact pr_reti C h hR hS dX8_standsAgainst_93
def wpb_X8_standsAgainst (g : Nat → Nat) (σ : pr_Sg) (a1 : Int32) (a2 : Int32) (a3 : Int32) (Q : Int32 → pr_Sg → Prop) : Prop :=
  (wp_X8_pictureAt g σ a1 (fun x1 σ1 =>
  (x1 = none → (wp_X8_partAt g σ1 a1 a2 (fun x2 σ2 =>
  (x2 = none → (wp_X8_handAt g σ2 a3 (fun x3 σ3 =>
  (x3 = none → Q (-1 : Int32) σ3) ∧
  (∀ i3q : Nat, x3 = some (i3q, 0) → Q (-1 : Int32) σ3)))) ∧
  (∀ i2q j2q : Nat, x2 = some (i2q, j2q) → (wp_X8_handAt g σ2 a3 (fun x4 σ4 =>
  (x4 = none → Q (-1 : Int32) σ4) ∧
  (∀ i4q : Nat, x4 = some (i4q, 0) → Q (-1 : Int32) σ4))))))) ∧
  (∀ i1q : Nat, x1 = some (i1q, 0) → (wp_X8_partAt g σ1 a1 a2 (fun x5 σ5 =>
  (x5 = none → (wp_X8_handAt g σ5 a3 (fun x6 σ6 =>
  (x6 = none → Q (-1 : Int32) σ6) ∧
  (∀ i6q : Nat, x6 = some (i6q, 0) → Q (-1 : Int32) σ6)))) ∧
  (∀ i5q j5q : Nat, x5 = some (i5q, j5q) → (wp_X8_handAt g σ5 a3 (fun x7 σ7 =>
  (x7 = none → Q (-1 : Int32) σ7) ∧
  (∀ i7q : Nat, x7 = some (i7q, 0) → (wp_X2_wantsMore g σ7 i5q j5q (fun r8 σ8 =>
  ((¬ r8 = 0 → (vp_in a2 5 ∧ (wp_X2_isWet g σ8 i5q j5q (σ8 520 0 0) (σ8 1023 0 (a2).toNatClampNeg) (fun r10 σ10 =>
  ((r10 = 0 → ((¬ a2 = 0 → wp_X8_standsAgainst_L79 g Q σ10 a1 a2 i1q i7q) ∧
  (a2 = 0 → ((a3 = 0 → wp_X8_standsAgainst_L79 g Q σ10 a1 a2 i1q i7q) ∧
  (¬ a3 = 0 → Q (3 : Int32) σ10))))) ∧
  (¬ r10 = 0 → Q (2 : Int32) σ10)))))) ∧
  (r8 = 0 → Q (1 : Int32) σ8)))))))))))))
set_option maxHeartbeats 4000000 in
set_option maxRecDepth 100000 in
theorem t_X8_standsAgainst {p : Program} {l : Launch} {e : Env} {s : State} {m : MethodId} {args : Array Value} {below : List Frame} {meth : Method} {c : Code} {D : va_G} {cs : Nat → ClassId} {A : Nat → Prop} {ad : pr_Ad} {g : Nat → Nat} {Q : Int32 → pr_Sg → Prop} (C : pr_C RX8 cX8_standsAgainst 7 (some .int) D cs p s m args meth c) {H : Heap} {locs : List Loc} {ls : Array Slot} {σ : pr_Sg} {a1 : Int32} {a2 : Int32} {a3 : Int32} (h : wpb_X8_standsAgainst g σ a1 a2 a3 Q) (hR : pr_R D cs A ad g σ H) (hS : va_S A s.heap H locs) (hl : lv_has ls 7 [(0, .ref (ad 8 0 0)), (1, .int a1), (2, .int a2), (3, .int a3)]) : W p l e rm_X8_standsAgainst s m args below meth c H locs 0 0 (MQ below (va_Qi Q (pr_E D cs A ad g) A) args s 0 0 A) (F0 m 0 ls []) := by
  unfold wpb_X8_standsAgainst at h
  obtain ⟨hx, hb, hml, hown, hts, hK, hr, hlocks⟩ := id C
  refine lv_aload_n hx hb dX8_standsAgainst_0 rfl (lv_at hl 0 rfl) ?_
  refine lv_iload_n hx hb dX8_standsAgainst_1 rfl (lv_at hl 1 rfl) ?_
  refine pr_callr hS (pr_runV (As := [.int a1]) (rest := []) C hR pr_l8 (by omega) rfl (c_X8_pictureAt h) gw_RX8_117 rfl rfl hd_X8_pictureAt ⟨Nat.le_of_ble_eq_true rfl, Nat.le_of_ble_eq_true rfl⟩ rfl hl.1 rfl (Nat.le_of_ble_eq_true rfl) dX8_standsAgainst_2 ⟨Nat.zero_le _, Nat.zero_le _⟩) (fun σ1 H locs h hR hS => ?_) (fun i1q j1q σ1 H locs h hv1 hR hS => ?_)
  · have h := h.1 rfl
    refine lv_astoreN (lv' := [(4, .null), (0, .ref (ad 8 0 0)), (1, .int a1), (2, .int a2), (3, .int a3)]) hx hb dX8_standsAgainst_5 hl (by decide) rfl (fun ls hl => ?_)
    refine lv_aload_n hx hb dX8_standsAgainst_7 rfl (lv_at hl 1 rfl) ?_
    refine lv_iload_n hx hb dX8_standsAgainst_8 rfl (lv_at hl 2 rfl) ?_
    refine lv_iload_n hx hb dX8_standsAgainst_9 rfl (lv_at hl 3 rfl) ?_
    refine pr_callr hS (pr_runV (As := [.int a1, .int a2]) (rest := []) C hR pr_l8 (by omega) rfl (c_X8_partAt h) gw_RX8_190 rfl rfl hd_X8_partAt ⟨Nat.le_of_ble_eq_true rfl, Nat.le_of_ble_eq_true rfl⟩ rfl hl.1 rfl (Nat.le_of_ble_eq_true rfl) dX8_standsAgainst_10 ⟨Nat.zero_le _, Nat.zero_le _⟩) (fun σ2 H locs h hR hS => ?_) (fun i2q j2q σ2 H locs h hv2 hR hS => ?_)
    · have h := h.1 rfl
      refine lv_astoreN (lv' := [(5, .null), (4, .null), (0, .ref (ad 8 0 0)), (1, .int a1), (2, .int a2), (3, .int a3)]) hx hb dX8_standsAgainst_13 hl (by decide) rfl (fun ls hl => ?_)
      refine lv_aload_n hx hb dX8_standsAgainst_15 rfl (lv_at hl 2 rfl) ?_
      refine lv_iload_n hx hb dX8_standsAgainst_16 rfl (lv_at hl 5 rfl) ?_
      refine pr_callr hS (pr_runV (As := [.int a3]) (rest := []) C hR pr_l8 (by omega) rfl (c_X8_handAt h) gw_RX8_183 rfl rfl hd_X8_handAt ⟨Nat.le_of_ble_eq_true rfl, Nat.le_of_ble_eq_true rfl⟩ rfl hl.1 rfl (Nat.le_of_ble_eq_true rfl) dX8_standsAgainst_17 ⟨Nat.zero_le _, Nat.zero_le _⟩) (fun σ3 H locs h hR hS => ?_) (fun i3q j3q σ3 H locs h hv3 hR hS => ?_)
      · have h := h.1 rfl
        refine lv_astoreN (lv' := [(6, .null), (5, .null), (4, .null), (0, .ref (ad 8 0 0)), (1, .int a1), (2, .int a2), (3, .int a3)]) hx hb dX8_standsAgainst_20 hl (by decide) rfl (fun ls hl => ?_)
        refine lv_aloadN hx hb dX8_standsAgainst_22 (lv_at hl 2 rfl) ?_
        refine lv_ifnullN (tgt := 37) hx hb dX8_standsAgainst_24 (by decide) ?_
        refine lv_iconst (v := (-1 : Int32)) hx hb dX8_standsAgainst_37 (by decide) ?_
        exact pr_reti C h hR hS dX8_standsAgainst_38
      · obtain rfl : j3q = 0 := pr_lvj (by decide) hv3
        have h := h.2 i3q rfl
        refine lv_astore (lv' := [(6, .ref (ad 0 i3q 0)), (5, .null), (4, .null), (0, .ref (ad 8 0 0)), (1, .int a1), (2, .int a2), (3, .int a3)]) hx hb dX8_standsAgainst_20 hl (by decide) rfl (fun ls hl => ?_)
        refine lv_aloadN hx hb dX8_standsAgainst_22 (lv_at hl 2 rfl) ?_
        refine lv_ifnullN (tgt := 37) hx hb dX8_standsAgainst_24 (by decide) ?_
        refine lv_iconst (v := (-1 : Int32)) hx hb dX8_standsAgainst_37 (by decide) ?_
        exact pr_reti C h hR hS dX8_standsAgainst_38
    · have h := h.2 i2q j2q rfl
      refine lv_astore (lv' := [(5, .ref (ad 2 i2q j2q)), (4, .null), (0, .ref (ad 8 0 0)), (1, .int a1), (2, .int a2), (3, .int a3)]) hx hb dX8_standsAgainst_13 hl (by decide) rfl (fun ls hl => ?_)
      refine lv_aload_n hx hb dX8_standsAgainst_15 rfl (lv_at hl 2 rfl) ?_
      refine lv_iload_n hx hb dX8_standsAgainst_16 rfl (lv_at hl 5 rfl) ?_
      refine pr_callr hS (pr_runV (As := [.int a3]) (rest := []) C hR pr_l8 (by omega) rfl (c_X8_handAt h) gw_RX8_183 rfl rfl hd_X8_handAt ⟨Nat.le_of_ble_eq_true rfl, Nat.le_of_ble_eq_true rfl⟩ rfl hl.1 rfl (Nat.le_of_ble_eq_true rfl) dX8_standsAgainst_17 ⟨Nat.zero_le _, Nat.zero_le _⟩) (fun σ4 H locs h hR hS => ?_) (fun i4q j4q σ4 H locs h hv4 hR hS => ?_)
      · have h := h.1 rfl
        refine lv_astoreN (lv' := [(6, .null), (5, .ref (ad 2 i2q j2q)), (4, .null), (0, .ref (ad 8 0 0)), (1, .int a1), (2, .int a2), (3, .int a3)]) hx hb dX8_standsAgainst_20 hl (by decide) rfl (fun ls hl => ?_)
        refine lv_aloadN hx hb dX8_standsAgainst_22 (lv_at hl 2 rfl) ?_
        refine lv_ifnullN (tgt := 37) hx hb dX8_standsAgainst_24 (by decide) ?_
        refine lv_iconst (v := (-1 : Int32)) hx hb dX8_standsAgainst_37 (by decide) ?_
        exact pr_reti C h hR hS dX8_standsAgainst_38
      · obtain rfl : j4q = 0 := pr_lvj (by decide) hv4
        have h := h.2 i4q rfl
        refine lv_astore (lv' := [(6, .ref (ad 0 i4q 0)), (5, .ref (ad 2 i2q j2q)), (4, .null), (0, .ref (ad 8 0 0)), (1, .int a1), (2, .int a2), (3, .int a3)]) hx hb dX8_standsAgainst_20 hl (by decide) rfl (fun ls hl => ?_)
        refine lv_aloadN hx hb dX8_standsAgainst_22 (lv_at hl 2 rfl) ?_
        refine lv_ifnullN (tgt := 37) hx hb dX8_standsAgainst_24 (by decide) ?_
        refine lv_iconst (v := (-1 : Int32)) hx hb dX8_standsAgainst_37 (by decide) ?_
        exact pr_reti C h hR hS dX8_standsAgainst_38
  · obtain rfl : j1q = 0 := pr_lvj (by decide) hv1
    have h := h.2 i1q rfl
    refine lv_astore (lv' := [(4, .ref (ad 3 i1q 0)), (0, .ref (ad 8 0 0)), (1, .int a1), (2, .int a2), (3, .int a3)]) hx hb dX8_standsAgainst_5 hl (by decide) rfl (fun ls hl => ?_)
    refine lv_aload_n hx hb dX8_standsAgainst_7 rfl (lv_at hl 1 rfl) ?_
    refine lv_iload_n hx hb dX8_standsAgainst_8 rfl (lv_at hl 2 rfl) ?_
    refine lv_iload_n hx hb dX8_standsAgainst_9 rfl (lv_at hl 3 rfl) ?_
    refine pr_callr hS (pr_runV (As := [.int a1, .int a2]) (rest := []) C hR pr_l8 (by omega) rfl (c_X8_partAt h) gw_RX8_190 rfl rfl hd_X8_partAt ⟨Nat.le_of_ble_eq_true rfl, Nat.le_of_ble_eq_true rfl⟩ rfl hl.1 rfl (Nat.le_of_ble_eq_true rfl) dX8_standsAgainst_10 ⟨Nat.zero_le _, Nat.zero_le _⟩) (fun σ5 H locs h hR hS => ?_) (fun i5q j5q σ5 H locs h hv5 hR hS => ?_)
    · have h := h.1 rfl
      refine lv_astoreN (lv' := [(5, .null), (4, .ref (ad 3 i1q 0)), (0, .ref (ad 8 0 0)), (1, .int a1), (2, .int a2), (3, .int a3)]) hx hb dX8_standsAgainst_13 hl (by decide) rfl (fun ls hl => ?_)
      refine lv_aload_n hx hb dX8_standsAgainst_15 rfl (lv_at hl 2 rfl) ?_
      refine lv_iload_n hx hb dX8_standsAgainst_16 rfl (lv_at hl 5 rfl) ?_
      refine pr_callr hS (pr_runV (As := [.int a3]) (rest := []) C hR pr_l8 (by omega) rfl (c_X8_handAt h) gw_RX8_183 rfl rfl hd_X8_handAt ⟨Nat.le_of_ble_eq_true rfl, Nat.le_of_ble_eq_true rfl⟩ rfl hl.1 rfl (Nat.le_of_ble_eq_true rfl) dX8_standsAgainst_17 ⟨Nat.zero_le _, Nat.zero_le _⟩) (fun σ6 H locs h hR hS => ?_) (fun i6q j6q σ6 H locs h hv6 hR hS => ?_)
      · have h := h.1 rfl
        refine lv_astoreN (lv' := [(6, .null), (5, .null), (4, .ref (ad 3 i1q 0)), (0, .ref (ad 8 0 0)), (1, .int a1), (2, .int a2), (3, .int a3)]) hx hb dX8_standsAgainst_20 hl (by decide) rfl (fun ls hl => ?_)
        refine lv_aload hx hb dX8_standsAgainst_22 (lv_at hl 2 rfl) ?_
        refine lv_ifnull hx hb dX8_standsAgainst_24 ?_
        refine lv_aloadN hx hb dX8_standsAgainst_27 (lv_at hl 1 rfl) ?_
        refine lv_ifnullN (tgt := 37) hx hb dX8_standsAgainst_29 (by decide) ?_
        refine lv_iconst (v := (-1 : Int32)) hx hb dX8_standsAgainst_37 (by decide) ?_
        exact pr_reti C h hR hS dX8_standsAgainst_38
      · obtain rfl : j6q = 0 := pr_lvj (by decide) hv6
        have h := h.2 i6q rfl
        refine lv_astore (lv' := [(6, .ref (ad 0 i6q 0)), (5, .null), (4, .ref (ad 3 i1q 0)), (0, .ref (ad 8 0 0)), (1, .int a1), (2, .int a2), (3, .int a3)]) hx hb dX8_standsAgainst_20 hl (by decide) rfl (fun ls hl => ?_)
        refine lv_aload hx hb dX8_standsAgainst_22 (lv_at hl 2 rfl) ?_
        refine lv_ifnull hx hb dX8_standsAgainst_24 ?_
        refine lv_aloadN hx hb dX8_standsAgainst_27 (lv_at hl 1 rfl) ?_
        refine lv_ifnullN (tgt := 37) hx hb dX8_standsAgainst_29 (by decide) ?_
        refine lv_iconst (v := (-1 : Int32)) hx hb dX8_standsAgainst_37 (by decide) ?_
        exact pr_reti C h hR hS dX8_standsAgainst_38
    · have h := h.2 i5q j5q rfl
      refine lv_astore (lv' := [(5, .ref (ad 2 i5q j5q)), (4, .ref (ad 3 i1q 0)), (0, .ref (ad 8 0 0)), (1, .int a1), (2, .int a2), (3, .int a3)]) hx hb dX8_standsAgainst_13 hl (by decide) rfl (fun ls hl => ?_)
      refine lv_aload_n hx hb dX8_standsAgainst_15 rfl (lv_at hl 2 rfl) ?_
      refine lv_iload_n hx hb dX8_standsAgainst_16 rfl (lv_at hl 5 rfl) ?_
      refine pr_callr hS (pr_runV (As := [.int a3]) (rest := []) C hR pr_l8 (by omega) rfl (c_X8_handAt h) gw_RX8_183 rfl rfl hd_X8_handAt ⟨Nat.le_of_ble_eq_true rfl, Nat.le_of_ble_eq_true rfl⟩ rfl hl.1 rfl (Nat.le_of_ble_eq_true rfl) dX8_standsAgainst_17 ⟨Nat.zero_le _, Nat.zero_le _⟩) (fun σ7 H locs h hR hS => ?_) (fun i7q j7q σ7 H locs h hv7 hR hS => ?_)
      · have h := h.1 rfl
        refine lv_astoreN (lv' := [(6, .null), (5, .ref (ad 2 i5q j5q)), (4, .ref (ad 3 i1q 0)), (0, .ref (ad 8 0 0)), (1, .int a1), (2, .int a2), (3, .int a3)]) hx hb dX8_standsAgainst_20 hl (by decide) rfl (fun ls hl => ?_)
        refine lv_aload hx hb dX8_standsAgainst_22 (lv_at hl 2 rfl) ?_
        refine lv_ifnull hx hb dX8_standsAgainst_24 ?_
        refine lv_aload hx hb dX8_standsAgainst_27 (lv_at hl 1 rfl) ?_
        refine lv_ifnull hx hb dX8_standsAgainst_29 ?_
        refine lv_aloadN hx hb dX8_standsAgainst_32 (lv_at hl 0 rfl) ?_
        refine lv_ifnonnullN hx hb dX8_standsAgainst_34 ?_
        refine lv_iconst (v := (-1 : Int32)) hx hb dX8_standsAgainst_37 (by decide) ?_
        exact pr_reti C h hR hS dX8_standsAgainst_38
      · obtain rfl : j7q = 0 := pr_lvj (by decide) hv7
        have h := h.2 i7q rfl
        refine lv_astore (lv' := [(6, .ref (ad 0 i7q 0)), (5, .ref (ad 2 i5q j5q)), (4, .ref (ad 3 i1q 0)), (0, .ref (ad 8 0 0)), (1, .int a1), (2, .int a2), (3, .int a3)]) hx hb dX8_standsAgainst_20 hl (by decide) rfl (fun ls hl => ?_)
        refine lv_aload hx hb dX8_standsAgainst_22 (lv_at hl 2 rfl) ?_
        refine lv_ifnull hx hb dX8_standsAgainst_24 ?_
        refine lv_aload hx hb dX8_standsAgainst_27 (lv_at hl 1 rfl) ?_
        refine lv_ifnull hx hb dX8_standsAgainst_29 ?_
        refine lv_aload hx hb dX8_standsAgainst_32 (lv_at hl 0 rfl) ?_
        refine lv_ifnonnull (tgt := 39) hx hb dX8_standsAgainst_34 (by decide) ?_
        refine lv_aload hx hb dX8_standsAgainst_39 (lv_at hl 1 rfl) ?_
        refine pr_calli hS (pr_runV (As := []) (rest := []) C hR hv5 (by omega) rfl (c_X2_wantsMore hv5 h) gw_RX8_248 rfl rfl hd_X2_wantsMore ⟨Nat.le_of_ble_eq_true rfl, Nat.le_of_ble_eq_true rfl⟩ rfl hl.1 rfl (Nat.le_of_ble_eq_true rfl) dX8_standsAgainst_41 ⟨Nat.zero_le _, Nat.zero_le _⟩) (fun r8 σ8 H locs h hR hS => ?_)
        obtain ⟨hz8, h⟩ := h
        refine lv_if_ne (tgt := 49) hx hb dX8_standsAgainst_44 (by decide) (fun c9 => ?_) (fun c9 => ?_)
        · have h := h.1 c9
          refine lv_aload hx hb dX8_standsAgainst_49 (lv_at hl 1 rfl) ?_
          refine lv_aload_n hx hb dX8_standsAgainst_51 rfl (lv_at hl 3 rfl) ?_
          refine gf_RX8_92 C hR pr_l8 dX8_standsAgainst_52 ?_
          refine lv_aload_n hx hb dX8_standsAgainst_55 rfl (lv_at hl 3 rfl) ?_
          refine gf_RX8_16 C hR pr_l8 dX8_standsAgainst_56 ?_
          refine lv_iload_n hx hb dX8_standsAgainst_59 rfl (lv_at hl 5 rfl) ?_
          refine pr_ald hx hb hK hR pr_l23 (by omega) (by omega) (n := 5) (by decide) h.1 dX8_standsAgainst_60 (t := 1023) rfl ?_
          have h := h.2
          refine pr_calli hS (pr_runV (As := [.int (σ8 520 0 0), .int (σ8 1023 0 (a2).toNatClampNeg)]) (rest := []) C hR hv5 (by omega) rfl (c_X2_isWet hv5 h) gw_RX8_229 rfl rfl hd_X2_isWet ⟨Nat.le_of_ble_eq_true rfl, Nat.le_of_ble_eq_true rfl⟩ rfl hl.1 rfl (Nat.le_of_ble_eq_true rfl) dX8_standsAgainst_61 ⟨Nat.zero_le _, Nat.zero_le _⟩) (fun r10 σ10 H locs h hR hS => ?_)
          obtain ⟨hz10, h⟩ := h
          refine lv_if_eq (tgt := 69) hx hb dX8_standsAgainst_64 (by decide) (fun c11 => ?_) (fun c11 => ?_)
          · have h := h.1 c11
            refine lv_iload_n hx hb dX8_standsAgainst_69 rfl (lv_at hl 5 rfl) ?_
            refine lv_if_ne (tgt := 79) hx hb dX8_standsAgainst_70 (by decide) (fun c12 => ?_) (fun c12 => ?_)
            · have h := h.1 c12
              exact t_X8_standsAgainst_L79 C h hR hS hv1 hv7 (lv_sub hl [3, 4, 5, 2, 0] rfl)
            · have h := h.2 c12
              refine lv_iload_n hx hb dX8_standsAgainst_73 rfl (lv_at hl 6 rfl) ?_
              refine lv_if_eq (tgt := 79) hx hb dX8_standsAgainst_74 (by decide) (fun c21 => ?_) (fun c21 => ?_)
              · have h := h.1 c21
                exact t_X8_standsAgainst_L79 C h hR hS hv1 hv7 (lv_sub hl [3, 4, 5, 2, 0] rfl)
              · have h := h.2 c21
                refine lv_iconst (v := (3 : Int32)) hx hb dX8_standsAgainst_77 (by decide) ?_
                exact pr_reti C h hR hS dX8_standsAgainst_78
          · have h := h.2 c11
            refine lv_iconst (v := (2 : Int32)) hx hb dX8_standsAgainst_67 (by decide) ?_
            exact pr_reti C h hR hS dX8_standsAgainst_68
        · have h := h.2 c9
          refine lv_iconst (v := (1 : Int32)) hx hb dX8_standsAgainst_47 (by decide) ?_
          exact pr_reti C h hR hS dX8_standsAgainst_48
abbrev wp_X8_standsAgainst (g : Nat → Nat) (σ : pr_Sg) (a1 : Int32) (a2 : Int32) (a3 : Int32) (Q : Int32 → pr_Sg → Prop) : Prop := wpb_X8_standsAgainst g σ a1 a2 a3 Q
set_option maxHeartbeats 4000000 in
set_option maxRecDepth 100000 in
theorem c_X8_standsAgainst {l : Launch} {D : va_G} {cs : Nat → ClassId} {A : Nat → Prop} {ad : pr_Ad} {g : Nat → Nat} {σ : pr_Sg} {a1 : Int32} {a2 : Int32} {a3 : Int32} {Q : Int32 → pr_Sg → Prop} (h : wp_X8_standsAgainst g σ a1 a2 a3 Q) : pr_Mi l D cs A ad g yX8_standsAgainst cX8_standsAgainst 7 (some .int) rm_X8_standsAgainst [.ref (ad 8 0 0), .int a1, .int a2, .int a3] σ Q := by
  refine Met.ofW (cc := cX8_standsAgainst) (maxL := 7) (ret := (some .int)) (by decide) rfl ?_
  intro p e s m args below meth c s₁ B hml hv
  obtain ⟨rfl, hR, hK⟩ := hv
  have C : pr_C RX8 cX8_standsAgainst 7 (some .int) D cs p s m [.ref (ad 8 0 0), .int a1, .int a2, .int a3].toArray meth c := pr_C.of B hml hK
  have hS : va_S A s.heap s.heap [] := va_S.rf
  have hl := lv_entry ([.ref (ad 8 0 0), .int a1, .int a2, .int a3]) (n := 7) (Nat.le_of_ble_eq_true rfl)
  rw [lg_entry_eq]
  generalize (lg_sl ([.ref (ad 8 0 0), .int a1, .int a2, .int a3]) ++ List.replicate (7 - (lg_sl ([.ref (ad 8 0 0), .int a1, .int a2, .int a3])).length) Slot.unset).toArray = ls at hl ⊢
  have hl : lv_has ls 7 [(0, .ref (ad 8 0 0)), (1, .int a1), (2, .int a2), (3, .int a3)] := hl
  exact t_X8_standsAgainst C h hR hS hl
def rm_X8_finish : Room := { frames := 1, cells := 0, slots := 0, locals := 21 }
theorem hd_X8_finish : yX8_finish.cls = RX8 ∧ yX8_finish.cls ≠ "java/lang/invoke/MethodHandle" ∧ yX8_finish.cls ≠ "java/lang/invoke/VarHandle" ∧ (parseMethodDescriptor yX8_finish.desc).map (fun d => d.parameters.length) = some 1 := ⟨rfl, by decide, by decide, by decide +kernel⟩
def wpb_X8_finish (g : Nat → Nat) (σ : pr_Sg) (i1 : Nat) (Q : pr_Sg → Prop) : Prop :=
  (∀ σ1 : pr_Sg, σ1 = pr_up σ 197 i1 0 (σ 520 0 0) →
  (∀ σ2 : pr_Sg, σ2 = pr_up σ1 524 0 0 ((σ1 524 0 0) + (1 : Int32)) →
  (wp_X8_sitterAt g σ2 (σ2 192 i1 0) (fun x3 σ3 =>
  (x3 = none → Q σ3) ∧
  (∀ i3q : Nat, x3 = some (i3q, 0) → (∀ σ4 : pr_Sg, σ4 = pr_up σ3 386 i3q 0 ((σ3 386 i3q 0) + ((σ3 194 i1 0) - ((σ3 194 i1 0) / (2 : Int32)))) →
  Q σ4))))))
set_option maxHeartbeats 4000000 in
set_option maxRecDepth 100000 in
theorem t_X8_finish {p : Program} {l : Launch} {e : Env} {s : State} {m : MethodId} {args : Array Value} {below : List Frame} {meth : Method} {c : Code} {D : va_G} {cs : Nat → ClassId} {A : Nat → Prop} {ad : pr_Ad} {g : Nat → Nat} {Q : pr_Sg → Prop} (C : pr_C RX8 cX8_finish 3 none D cs p s m args meth c) {H : Heap} {locs : List Loc} {ls : Array Slot} {σ : pr_Sg} {i1 : Nat} (h : wpb_X8_finish g σ i1 Q) (hR : pr_R D cs A ad g σ H) (hS : va_S A s.heap H locs) (hi1 : pr_lv g 3 i1 0) (hl : lv_has ls 3 [(0, .ref (ad 8 0 0)), (1, .ref (ad 3 i1 0))]) : W p l e rm_X8_finish s m args below meth c H locs 0 0 (MQ below (va_Qv Q (pr_E D cs A ad g) A) args s 0 0 A) (F0 m 0 ls []) := by
  unfold wpb_X8_finish at h
  obtain ⟨hx, hb, hml, hown, hts, hK, hr, hlocks⟩ := id C
  refine lv_aload_n hx hb dX8_finish_0 rfl (lv_at hl 1 rfl) ?_
  refine lv_aload_n hx hb dX8_finish_1 rfl (lv_at hl 0 rfl) ?_
  refine gf_RX8_92 C hR pr_l8 dX8_finish_2 ?_
  refine pf_RX8_211 C hR hS hi1 dX8_finish_5 (fun H locs σ1 e1 hR hS => ?_)
  have h := h σ1 e1
  refine lv_aload_n hx hb dX8_finish_8 rfl (lv_at hl 0 rfl) ?_
  refine lv_dup hx hb dX8_finish_9 rfl ?_
  refine gf_RX8_232 C hR pr_l8 dX8_finish_10 ?_
  refine lv_iconst (v := (1 : Int32)) hx hb dX8_finish_13 (by decide) ?_
  refine lv_iadd hx hb dX8_finish_14 ?_
  refine pf_RX8_232 C hR hS pr_l8 dX8_finish_15 (fun H locs σ2 e2 hR hS => ?_)
  have h := h σ2 e2
  refine lv_aload_n hx hb dX8_finish_18 rfl (lv_at hl 0 rfl) ?_
  refine lv_aload_n hx hb dX8_finish_19 rfl (lv_at hl 1 rfl) ?_
  refine gf_RX8_128 C hR hi1 dX8_finish_20 ?_
  refine pr_callr hS (pr_runV (As := [.int (σ2 192 i1 0)]) (rest := []) C hR pr_l8 (by omega) rfl (c_X8_sitterAt h) gw_RX8_81 rfl rfl hd_X8_sitterAt ⟨Nat.le_of_ble_eq_true rfl, Nat.le_of_ble_eq_true rfl⟩ rfl hl.1 rfl (Nat.le_of_ble_eq_true rfl) dX8_finish_23 ⟨Nat.zero_le _, Nat.zero_le _⟩) (fun σ3 H locs h hR hS => ?_) (fun i3q j3q σ3 H locs h hv3 hR hS => ?_)
  · have h := h.1 rfl
    refine lv_astore_nN (lv' := [(2, .null), (0, .ref (ad 8 0 0)), (1, .ref (ad 3 i1 0))]) hx hb dX8_finish_26 rfl hl (by decide) rfl (fun ls hl => ?_)
    refine lv_aload_nN hx hb dX8_finish_27 rfl (lv_at hl 0 rfl) ?_
    refine lv_ifnullN (tgt := 51) hx hb dX8_finish_28 (by decide) ?_
    exact pr_retv C h hR hS dX8_finish_51
  · obtain rfl : j3q = 0 := pr_lvj (by decide) hv3
    have h := h.2 i3q rfl
    refine lv_astore_n (lv' := [(2, .ref (ad 6 i3q 0)), (0, .ref (ad 8 0 0)), (1, .ref (ad 3 i1 0))]) hx hb dX8_finish_26 rfl hl (by decide) rfl (fun ls hl => ?_)
    refine lv_aload_n hx hb dX8_finish_27 rfl (lv_at hl 0 rfl) ?_
    refine lv_ifnull hx hb dX8_finish_28 ?_
    refine lv_aload_n hx hb dX8_finish_31 rfl (lv_at hl 0 rfl) ?_
    refine lv_dup hx hb dX8_finish_32 rfl ?_
    refine gf_RX8_105 C hR hv3 dX8_finish_33 ?_
    refine lv_aload_n hx hb dX8_finish_36 rfl (lv_at hl 2 rfl) ?_
    refine gf_RX8_205 C hR hi1 dX8_finish_37 ?_
    refine lv_aload_n hx hb dX8_finish_40 rfl (lv_at hl 2 rfl) ?_
    refine gf_RX8_205 C hR hi1 dX8_finish_41 ?_
    refine lv_iconst (v := (2 : Int32)) hx hb dX8_finish_44 (by decide) ?_
    refine lv_idiv hx hb dX8_finish_45 (by decide) ?_
    refine lv_isub hx hb dX8_finish_46 ?_
    refine lv_iadd hx hb dX8_finish_47 ?_
    refine pf_RX8_105 C hR hS hv3 dX8_finish_48 (fun H locs σ4 e4 hR hS => ?_)
    have h := h σ4 e4
    exact pr_retv C h hR hS dX8_finish_51
abbrev wp_X8_finish (g : Nat → Nat) (σ : pr_Sg) (i1 : Nat) (Q : pr_Sg → Prop) : Prop := wpb_X8_finish g σ i1 Q
set_option maxHeartbeats 4000000 in
set_option maxRecDepth 100000 in
theorem c_X8_finish {l : Launch} {D : va_G} {cs : Nat → ClassId} {A : Nat → Prop} {ad : pr_Ad} {g : Nat → Nat} {σ : pr_Sg} {i1 : Nat} {Q : pr_Sg → Prop} (hi1 : pr_lv g 3 i1 0) (h : wp_X8_finish g σ i1 Q) : pr_Mv l D cs A ad g yX8_finish cX8_finish 3 rm_X8_finish [.ref (ad 8 0 0), .ref (ad 3 i1 0)] σ Q := by
  refine Met.ofW (cc := cX8_finish) (maxL := 3) (ret := none) (by decide) rfl ?_
  intro p e s m args below meth c s₁ B hml hv
  obtain ⟨rfl, hR, hK⟩ := hv
  have C : pr_C RX8 cX8_finish 3 none D cs p s m [.ref (ad 8 0 0), .ref (ad 3 i1 0)].toArray meth c := pr_C.of B hml hK
  have hS : va_S A s.heap s.heap [] := va_S.rf
  have hl := lv_entry ([.ref (ad 8 0 0), .ref (ad 3 i1 0)]) (n := 3) (Nat.le_of_ble_eq_true rfl)
  rw [lg_entry_eq]
  generalize (lg_sl ([.ref (ad 8 0 0), .ref (ad 3 i1 0)]) ++ List.replicate (3 - (lg_sl ([.ref (ad 8 0 0), .ref (ad 3 i1 0)])).length) Slot.unset).toArray = ls at hl ⊢
  have hl : lv_has ls 3 [(0, .ref (ad 8 0 0)), (1, .ref (ad 3 i1 0))] := hl
  exact t_X8_finish C h hR hS hi1 hl
def rm_X8_addLayer : Room := { frames := 2, cells := 0, slots := 0, locals := 44 }
theorem hd_X8_addLayer : yX8_addLayer.cls = RX8 ∧ yX8_addLayer.cls ≠ "java/lang/invoke/MethodHandle" ∧ yX8_addLayer.cls ≠ "java/lang/invoke/VarHandle" ∧ (parseMethodDescriptor yX8_addLayer.desc).map (fun d => d.parameters.length) = some 3 := ⟨rfl, by decide, by decide, by decide +kernel⟩
def wp_X8_addLayer_L117 (g : Nat → Nat) (Q : pr_Sg → Prop) (σ : pr_Sg) (x1 : Int32) (x2 : Int32) (i4 : Nat) : Prop :=
  ((¬ x2 = (2 : Int32) → (∀ σ15 : pr_Sg, σ15 = pr_up σ 198 i4 0 ((σ 198 i4 0) - (1 : Int32)) →
  ((¬ (σ15 198 i4 0) = 0 → Q σ15) ∧
  ((σ15 198 i4 0) = 0 → (wp_X8_finish g σ15 i4 (fun σ17 =>
  Q σ17)))))) ∧
  (x2 = (2 : Int32) → (wp_X5_take g σ (σ 193 i4 0) x1 (σ 520 0 0) (fun σ18 =>
  (∀ σ19 : pr_Sg, σ19 = pr_up σ18 198 i4 0 ((σ18 198 i4 0) - (1 : Int32)) →
  ((¬ (σ19 198 i4 0) = 0 → Q σ19) ∧
  ((σ19 198 i4 0) = 0 → (wp_X8_finish g σ19 i4 (fun σ21 =>
  Q σ21)))))))))
set_option maxHeartbeats 4000000 in
set_option maxRecDepth 100000 in
theorem t_X8_addLayer_L117 {p : Program} {l : Launch} {e : Env} {s : State} {m : MethodId} {args : Array Value} {below : List Frame} {meth : Method} {c : Code} {D : va_G} {cs : Nat → ClassId} {A : Nat → Prop} {ad : pr_Ad} {g : Nat → Nat} {Q : pr_Sg → Prop} (C : pr_C RX8 cX8_addLayer 7 none D cs p s m args meth c) {H : Heap} {locs : List Loc} {ls : Array Slot} {σ : pr_Sg} {x1 : Int32} {x2 : Int32} {i4 : Nat} (h : wp_X8_addLayer_L117 g Q σ x1 x2 i4) (hR : pr_R D cs A ad g σ H) (hS : va_S A s.heap H locs) (hi4 : pr_lv g 3 i4 0) (hl : lv_has ls 7 [(0, .ref (ad 8 0 0)), (1, .int x1), (2, .int x2), (4, .ref (ad 3 i4 0))]) : W p l e rm_X8_addLayer s m args below meth c H locs 0 0 (MQ below (va_Qv Q (pr_E D cs A ad g) A) args s 0 0 A) (F0 m 117 ls []) := by
  unfold wp_X8_addLayer_L117 at h
  obtain ⟨hx, hb, hml, hown, hts, hK, hr, hlocks⟩ := id C
  refine lv_iload_n hx hb dX8_addLayer_117 rfl (lv_at hl 2 rfl) ?_
  refine lv_iconst (v := (2 : Int32)) hx hb dX8_addLayer_118 (by decide) ?_
  refine lv_icmp_ne (tgt := 139) hx hb dX8_addLayer_119 (by decide) (fun c14 => ?_) (fun c14 => ?_)
  · have h := h.1 c14
    refine lv_aload hx hb dX8_addLayer_139 (lv_at hl 3 rfl) ?_
    refine lv_dup hx hb dX8_addLayer_141 rfl ?_
    refine gf_RX8_269 C hR hi4 dX8_addLayer_142 ?_
    refine lv_iconst (v := (1 : Int32)) hx hb dX8_addLayer_145 (by decide) ?_
    refine lv_isub hx hb dX8_addLayer_146 ?_
    refine pf_RX8_269 C hR hS hi4 dX8_addLayer_147 (fun H locs σ15 e15 hR hS => ?_)
    have h := h σ15 e15
    refine lv_aload hx hb dX8_addLayer_150 (lv_at hl 3 rfl) ?_
    refine gf_RX8_269 C hR hi4 dX8_addLayer_152 ?_
    refine lv_if_ne (tgt := 164) hx hb dX8_addLayer_155 (by decide) (fun c16 => ?_) (fun c16 => ?_)
    · have h := h.1 c16
      exact pr_retv C h hR hS dX8_addLayer_164
    · have h := h.2 c16
      refine lv_aload_n hx hb dX8_addLayer_158 rfl (lv_at hl 0 rfl) ?_
      refine lv_aload hx hb dX8_addLayer_159 (lv_at hl 3 rfl) ?_
      refine pr_callv hS (pr_runV (As := [.ref (ad 3 i4 0)]) (rest := []) C hR pr_l8 (by omega) rfl (c_X8_finish hi4 h) gw_RX8_272 rfl rfl hd_X8_finish ⟨Nat.le_of_ble_eq_true rfl, Nat.le_of_ble_eq_true rfl⟩ rfl hl.1 rfl (Nat.le_of_ble_eq_true rfl) dX8_addLayer_161 ⟨Nat.zero_le _, Nat.zero_le _⟩) (fun σ17 H locs h hR hS => ?_)
      exact pr_retv C h hR hS dX8_addLayer_164
  · have h := h.2 c14
    refine lv_aload_n hx hb dX8_addLayer_122 rfl (lv_at hl 0 rfl) ?_
    refine gf_RX8_48 C hR pr_l8 dX8_addLayer_123 ?_
    refine lv_aload hx hb dX8_addLayer_126 (lv_at hl 3 rfl) ?_
    refine gf_RX8_254 C hR hi4 dX8_addLayer_128 ?_
    refine lv_iload_n hx hb dX8_addLayer_131 rfl (lv_at hl 1 rfl) ?_
    refine lv_aload_n hx hb dX8_addLayer_132 rfl (lv_at hl 0 rfl) ?_
    refine gf_RX8_92 C hR pr_l8 dX8_addLayer_133 ?_
    refine pr_callv hS (pr_runV (As := [.int (σ 193 i4 0), .int x1, .int (σ 520 0 0)]) (rest := []) C hR pr_l5 (by omega) rfl (c_X5_take h) gw_RX8_266 rfl rfl hd_X5_take ⟨Nat.le_of_ble_eq_true rfl, Nat.le_of_ble_eq_true rfl⟩ rfl hl.1 rfl (Nat.le_of_ble_eq_true rfl) dX8_addLayer_136 ⟨Nat.zero_le _, Nat.zero_le _⟩) (fun σ18 H locs h hR hS => ?_)
    refine lv_aload hx hb dX8_addLayer_139 (lv_at hl 3 rfl) ?_
    refine lv_dup hx hb dX8_addLayer_141 rfl ?_
    refine gf_RX8_269 C hR hi4 dX8_addLayer_142 ?_
    refine lv_iconst (v := (1 : Int32)) hx hb dX8_addLayer_145 (by decide) ?_
    refine lv_isub hx hb dX8_addLayer_146 ?_
    refine pf_RX8_269 C hR hS hi4 dX8_addLayer_147 (fun H locs σ19 e19 hR hS => ?_)
    have h := h σ19 e19
    refine lv_aload hx hb dX8_addLayer_150 (lv_at hl 3 rfl) ?_
    refine gf_RX8_269 C hR hi4 dX8_addLayer_152 ?_
    refine lv_if_ne (tgt := 164) hx hb dX8_addLayer_155 (by decide) (fun c20 => ?_) (fun c20 => ?_)
    · have h := h.1 c20
      exact pr_retv C h hR hS dX8_addLayer_164
    · have h := h.2 c20
      refine lv_aload_n hx hb dX8_addLayer_158 rfl (lv_at hl 0 rfl) ?_
      refine lv_aload hx hb dX8_addLayer_159 (lv_at hl 3 rfl) ?_
      refine pr_callv hS (pr_runV (As := [.ref (ad 3 i4 0)]) (rest := []) C hR pr_l8 (by omega) rfl (c_X8_finish hi4 h) gw_RX8_272 rfl rfl hd_X8_finish ⟨Nat.le_of_ble_eq_true rfl, Nat.le_of_ble_eq_true rfl⟩ rfl hl.1 rfl (Nat.le_of_ble_eq_true rfl) dX8_addLayer_161 ⟨Nat.zero_le _, Nat.zero_le _⟩) (fun σ21 H locs h hR hS => ?_)
      exact pr_retv C h hR hS dX8_addLayer_164
def wpb_X8_addLayer (g : Nat → Nat) (σ : pr_Sg) (a1 : Int32) (a2 : Int32) (a3 : Int32) (Q : pr_Sg → Prop) : Prop :=
  (wp_X8_pictureAt g σ a1 (fun x1 σ1 =>
  (x1 = none → (wp_X8_partAt g σ1 a1 a2 (fun x2 σ2 =>
  (x2 = none → (wp_X8_handAt g σ2 a3 (fun x3 σ3 =>
  (x3 = none → Q σ3) ∧
  (∀ i3q : Nat, x3 = some (i3q, 0) → Q σ3)))) ∧
  (∀ i2q j2q : Nat, x2 = some (i2q, j2q) → (wp_X8_handAt g σ2 a3 (fun x4 σ4 =>
  (x4 = none → Q σ4) ∧
  (∀ i4q : Nat, x4 = some (i4q, 0) → Q σ4))))))) ∧
  (∀ i1q : Nat, x1 = some (i1q, 0) → (wp_X8_partAt g σ1 a1 a2 (fun x5 σ5 =>
  (x5 = none → (wp_X8_handAt g σ5 a3 (fun x6 σ6 =>
  (x6 = none → Q σ6) ∧
  (∀ i6q : Nat, x6 = some (i6q, 0) → Q σ6)))) ∧
  (∀ i5q j5q : Nat, x5 = some (i5q, j5q) → (wp_X8_handAt g σ5 a3 (fun x7 σ7 =>
  (x7 = none → Q σ7) ∧
  (∀ i7q : Nat, x7 = some (i7q, 0) → (∀ σ8 : pr_Sg, σ8 = pr_up σ7 129 i5q j5q ((σ7 129 i5q j5q) + (1 : Int32)) →
  (∀ σ9 : pr_Sg, σ9 = pr_up σ8 130 i5q j5q (σ8 520 0 0) →
  (∀ σ10 : pr_Sg, σ10 = pr_up σ9 131 i5q j5q a3 →
  (wp_X0_addLayerOn g σ10 i7q (σ10 520 0 0) (fun σ11 =>
  (∀ σ12 : pr_Sg, σ12 = pr_up σ11 525 0 0 ((σ11 525 0 0) + (1 : Int32)) →
  ((¬ a2 = 0 → wp_X8_addLayer_L117 g Q σ12 a1 a2 i1q) ∧
  (a2 = 0 → (wp_X7_unusedOf g σ12 a1 (σ12 520 0 0) (fun r22 σ22 =>
  (wp_X7_use g σ22 r22 (fun σ23 =>
  (∀ σ24 : pr_Sg, σ24 = pr_up σ23 200 i1q 0 ((σ23 200 i1q 0) + (1 : Int32)) →
  wp_X8_addLayer_L117 g Q σ24 a1 a2 i1q))))))))))))))))))))))
set_option maxHeartbeats 4000000 in
set_option maxRecDepth 100000 in
theorem t_X8_addLayer {p : Program} {l : Launch} {e : Env} {s : State} {m : MethodId} {args : Array Value} {below : List Frame} {meth : Method} {c : Code} {D : va_G} {cs : Nat → ClassId} {A : Nat → Prop} {ad : pr_Ad} {g : Nat → Nat} {Q : pr_Sg → Prop} (C : pr_C RX8 cX8_addLayer 7 none D cs p s m args meth c) {H : Heap} {locs : List Loc} {ls : Array Slot} {σ : pr_Sg} {a1 : Int32} {a2 : Int32} {a3 : Int32} (h : wpb_X8_addLayer g σ a1 a2 a3 Q) (hR : pr_R D cs A ad g σ H) (hS : va_S A s.heap H locs) (hl : lv_has ls 7 [(0, .ref (ad 8 0 0)), (1, .int a1), (2, .int a2), (3, .int a3)]) : W p l e rm_X8_addLayer s m args below meth c H locs 0 0 (MQ below (va_Qv Q (pr_E D cs A ad g) A) args s 0 0 A) (F0 m 0 ls []) := by
  unfold wpb_X8_addLayer at h
  obtain ⟨hx, hb, hml, hown, hts, hK, hr, hlocks⟩ := id C
  refine lv_aload_n hx hb dX8_addLayer_0 rfl (lv_at hl 0 rfl) ?_
  refine lv_iload_n hx hb dX8_addLayer_1 rfl (lv_at hl 1 rfl) ?_
  refine pr_callr hS (pr_runV (As := [.int a1]) (rest := []) C hR pr_l8 (by omega) rfl (c_X8_pictureAt h) gw_RX8_117 rfl rfl hd_X8_pictureAt ⟨Nat.le_of_ble_eq_true rfl, Nat.le_of_ble_eq_true rfl⟩ rfl hl.1 rfl (Nat.le_of_ble_eq_true rfl) dX8_addLayer_2 ⟨Nat.zero_le _, Nat.zero_le _⟩) (fun σ1 H locs h hR hS => ?_) (fun i1q j1q σ1 H locs h hv1 hR hS => ?_)
  · have h := h.1 rfl
    refine lv_astoreN (lv' := [(4, .null), (0, .ref (ad 8 0 0)), (1, .int a1), (2, .int a2), (3, .int a3)]) hx hb dX8_addLayer_5 hl (by decide) rfl (fun ls hl => ?_)
    refine lv_aload_n hx hb dX8_addLayer_7 rfl (lv_at hl 1 rfl) ?_
    refine lv_iload_n hx hb dX8_addLayer_8 rfl (lv_at hl 2 rfl) ?_
    refine lv_iload_n hx hb dX8_addLayer_9 rfl (lv_at hl 3 rfl) ?_
    refine pr_callr hS (pr_runV (As := [.int a1, .int a2]) (rest := []) C hR pr_l8 (by omega) rfl (c_X8_partAt h) gw_RX8_190 rfl rfl hd_X8_partAt ⟨Nat.le_of_ble_eq_true rfl, Nat.le_of_ble_eq_true rfl⟩ rfl hl.1 rfl (Nat.le_of_ble_eq_true rfl) dX8_addLayer_10 ⟨Nat.zero_le _, Nat.zero_le _⟩) (fun σ2 H locs h hR hS => ?_) (fun i2q j2q σ2 H locs h hv2 hR hS => ?_)
    · have h := h.1 rfl
      refine lv_astoreN (lv' := [(5, .null), (4, .null), (0, .ref (ad 8 0 0)), (1, .int a1), (2, .int a2), (3, .int a3)]) hx hb dX8_addLayer_13 hl (by decide) rfl (fun ls hl => ?_)
      refine lv_aload_n hx hb dX8_addLayer_15 rfl (lv_at hl 2 rfl) ?_
      refine lv_iload_n hx hb dX8_addLayer_16 rfl (lv_at hl 5 rfl) ?_
      refine pr_callr hS (pr_runV (As := [.int a3]) (rest := []) C hR pr_l8 (by omega) rfl (c_X8_handAt h) gw_RX8_183 rfl rfl hd_X8_handAt ⟨Nat.le_of_ble_eq_true rfl, Nat.le_of_ble_eq_true rfl⟩ rfl hl.1 rfl (Nat.le_of_ble_eq_true rfl) dX8_addLayer_17 ⟨Nat.zero_le _, Nat.zero_le _⟩) (fun σ3 H locs h hR hS => ?_) (fun i3q j3q σ3 H locs h hv3 hR hS => ?_)
      · have h := h.1 rfl
        refine lv_astoreN (lv' := [(6, .null), (5, .null), (4, .null), (0, .ref (ad 8 0 0)), (1, .int a1), (2, .int a2), (3, .int a3)]) hx hb dX8_addLayer_20 hl (by decide) rfl (fun ls hl => ?_)
        refine lv_aloadN hx hb dX8_addLayer_22 (lv_at hl 2 rfl) ?_
        refine lv_ifnullN (tgt := 37) hx hb dX8_addLayer_24 (by decide) ?_
        exact pr_retv C h hR hS dX8_addLayer_37
      · obtain rfl : j3q = 0 := pr_lvj (by decide) hv3
        have h := h.2 i3q rfl
        refine lv_astore (lv' := [(6, .ref (ad 0 i3q 0)), (5, .null), (4, .null), (0, .ref (ad 8 0 0)), (1, .int a1), (2, .int a2), (3, .int a3)]) hx hb dX8_addLayer_20 hl (by decide) rfl (fun ls hl => ?_)
        refine lv_aloadN hx hb dX8_addLayer_22 (lv_at hl 2 rfl) ?_
        refine lv_ifnullN (tgt := 37) hx hb dX8_addLayer_24 (by decide) ?_
        exact pr_retv C h hR hS dX8_addLayer_37
    · have h := h.2 i2q j2q rfl
      refine lv_astore (lv' := [(5, .ref (ad 2 i2q j2q)), (4, .null), (0, .ref (ad 8 0 0)), (1, .int a1), (2, .int a2), (3, .int a3)]) hx hb dX8_addLayer_13 hl (by decide) rfl (fun ls hl => ?_)
      refine lv_aload_n hx hb dX8_addLayer_15 rfl (lv_at hl 2 rfl) ?_
      refine lv_iload_n hx hb dX8_addLayer_16 rfl (lv_at hl 5 rfl) ?_
      refine pr_callr hS (pr_runV (As := [.int a3]) (rest := []) C hR pr_l8 (by omega) rfl (c_X8_handAt h) gw_RX8_183 rfl rfl hd_X8_handAt ⟨Nat.le_of_ble_eq_true rfl, Nat.le_of_ble_eq_true rfl⟩ rfl hl.1 rfl (Nat.le_of_ble_eq_true rfl) dX8_addLayer_17 ⟨Nat.zero_le _, Nat.zero_le _⟩) (fun σ4 H locs h hR hS => ?_) (fun i4q j4q σ4 H locs h hv4 hR hS => ?_)
      · have h := h.1 rfl
        refine lv_astoreN (lv' := [(6, .null), (5, .ref (ad 2 i2q j2q)), (4, .null), (0, .ref (ad 8 0 0)), (1, .int a1), (2, .int a2), (3, .int a3)]) hx hb dX8_addLayer_20 hl (by decide) rfl (fun ls hl => ?_)
        refine lv_aloadN hx hb dX8_addLayer_22 (lv_at hl 2 rfl) ?_
        refine lv_ifnullN (tgt := 37) hx hb dX8_addLayer_24 (by decide) ?_
        exact pr_retv C h hR hS dX8_addLayer_37
      · obtain rfl : j4q = 0 := pr_lvj (by decide) hv4
        have h := h.2 i4q rfl
        refine lv_astore (lv' := [(6, .ref (ad 0 i4q 0)), (5, .ref (ad 2 i2q j2q)), (4, .null), (0, .ref (ad 8 0 0)), (1, .int a1), (2, .int a2), (3, .int a3)]) hx hb dX8_addLayer_20 hl (by decide) rfl (fun ls hl => ?_)
        refine lv_aloadN hx hb dX8_addLayer_22 (lv_at hl 2 rfl) ?_
        refine lv_ifnullN (tgt := 37) hx hb dX8_addLayer_24 (by decide) ?_
        exact pr_retv C h hR hS dX8_addLayer_37
  · obtain rfl : j1q = 0 := pr_lvj (by decide) hv1
    have h := h.2 i1q rfl
    refine lv_astore (lv' := [(4, .ref (ad 3 i1q 0)), (0, .ref (ad 8 0 0)), (1, .int a1), (2, .int a2), (3, .int a3)]) hx hb dX8_addLayer_5 hl (by decide) rfl (fun ls hl => ?_)
    refine lv_aload_n hx hb dX8_addLayer_7 rfl (lv_at hl 1 rfl) ?_
    refine lv_iload_n hx hb dX8_addLayer_8 rfl (lv_at hl 2 rfl) ?_
    refine lv_iload_n hx hb dX8_addLayer_9 rfl (lv_at hl 3 rfl) ?_
    refine pr_callr hS (pr_runV (As := [.int a1, .int a2]) (rest := []) C hR pr_l8 (by omega) rfl (c_X8_partAt h) gw_RX8_190 rfl rfl hd_X8_partAt ⟨Nat.le_of_ble_eq_true rfl, Nat.le_of_ble_eq_true rfl⟩ rfl hl.1 rfl (Nat.le_of_ble_eq_true rfl) dX8_addLayer_10 ⟨Nat.zero_le _, Nat.zero_le _⟩) (fun σ5 H locs h hR hS => ?_) (fun i5q j5q σ5 H locs h hv5 hR hS => ?_)
    · have h := h.1 rfl
      refine lv_astoreN (lv' := [(5, .null), (4, .ref (ad 3 i1q 0)), (0, .ref (ad 8 0 0)), (1, .int a1), (2, .int a2), (3, .int a3)]) hx hb dX8_addLayer_13 hl (by decide) rfl (fun ls hl => ?_)
      refine lv_aload_n hx hb dX8_addLayer_15 rfl (lv_at hl 2 rfl) ?_
      refine lv_iload_n hx hb dX8_addLayer_16 rfl (lv_at hl 5 rfl) ?_
      refine pr_callr hS (pr_runV (As := [.int a3]) (rest := []) C hR pr_l8 (by omega) rfl (c_X8_handAt h) gw_RX8_183 rfl rfl hd_X8_handAt ⟨Nat.le_of_ble_eq_true rfl, Nat.le_of_ble_eq_true rfl⟩ rfl hl.1 rfl (Nat.le_of_ble_eq_true rfl) dX8_addLayer_17 ⟨Nat.zero_le _, Nat.zero_le _⟩) (fun σ6 H locs h hR hS => ?_) (fun i6q j6q σ6 H locs h hv6 hR hS => ?_)
      · have h := h.1 rfl
        refine lv_astoreN (lv' := [(6, .null), (5, .null), (4, .ref (ad 3 i1q 0)), (0, .ref (ad 8 0 0)), (1, .int a1), (2, .int a2), (3, .int a3)]) hx hb dX8_addLayer_20 hl (by decide) rfl (fun ls hl => ?_)
        refine lv_aload hx hb dX8_addLayer_22 (lv_at hl 2 rfl) ?_
        refine lv_ifnull hx hb dX8_addLayer_24 ?_
        refine lv_aloadN hx hb dX8_addLayer_27 (lv_at hl 1 rfl) ?_
        refine lv_ifnullN (tgt := 37) hx hb dX8_addLayer_29 (by decide) ?_
        exact pr_retv C h hR hS dX8_addLayer_37
      · obtain rfl : j6q = 0 := pr_lvj (by decide) hv6
        have h := h.2 i6q rfl
        refine lv_astore (lv' := [(6, .ref (ad 0 i6q 0)), (5, .null), (4, .ref (ad 3 i1q 0)), (0, .ref (ad 8 0 0)), (1, .int a1), (2, .int a2), (3, .int a3)]) hx hb dX8_addLayer_20 hl (by decide) rfl (fun ls hl => ?_)
        refine lv_aload hx hb dX8_addLayer_22 (lv_at hl 2 rfl) ?_
        refine lv_ifnull hx hb dX8_addLayer_24 ?_
        refine lv_aloadN hx hb dX8_addLayer_27 (lv_at hl 1 rfl) ?_
        refine lv_ifnullN (tgt := 37) hx hb dX8_addLayer_29 (by decide) ?_
        exact pr_retv C h hR hS dX8_addLayer_37
    · have h := h.2 i5q j5q rfl
      refine lv_astore (lv' := [(5, .ref (ad 2 i5q j5q)), (4, .ref (ad 3 i1q 0)), (0, .ref (ad 8 0 0)), (1, .int a1), (2, .int a2), (3, .int a3)]) hx hb dX8_addLayer_13 hl (by decide) rfl (fun ls hl => ?_)
      refine lv_aload_n hx hb dX8_addLayer_15 rfl (lv_at hl 2 rfl) ?_
      refine lv_iload_n hx hb dX8_addLayer_16 rfl (lv_at hl 5 rfl) ?_
      refine pr_callr hS (pr_runV (As := [.int a3]) (rest := []) C hR pr_l8 (by omega) rfl (c_X8_handAt h) gw_RX8_183 rfl rfl hd_X8_handAt ⟨Nat.le_of_ble_eq_true rfl, Nat.le_of_ble_eq_true rfl⟩ rfl hl.1 rfl (Nat.le_of_ble_eq_true rfl) dX8_addLayer_17 ⟨Nat.zero_le _, Nat.zero_le _⟩) (fun σ7 H locs h hR hS => ?_) (fun i7q j7q σ7 H locs h hv7 hR hS => ?_)
      · have h := h.1 rfl
        refine lv_astoreN (lv' := [(6, .null), (5, .ref (ad 2 i5q j5q)), (4, .ref (ad 3 i1q 0)), (0, .ref (ad 8 0 0)), (1, .int a1), (2, .int a2), (3, .int a3)]) hx hb dX8_addLayer_20 hl (by decide) rfl (fun ls hl => ?_)
        refine lv_aload hx hb dX8_addLayer_22 (lv_at hl 2 rfl) ?_
        refine lv_ifnull hx hb dX8_addLayer_24 ?_
        refine lv_aload hx hb dX8_addLayer_27 (lv_at hl 1 rfl) ?_
        refine lv_ifnull hx hb dX8_addLayer_29 ?_
        refine lv_aloadN hx hb dX8_addLayer_32 (lv_at hl 0 rfl) ?_
        refine lv_ifnonnullN hx hb dX8_addLayer_34 ?_
        exact pr_retv C h hR hS dX8_addLayer_37
      · obtain rfl : j7q = 0 := pr_lvj (by decide) hv7
        have h := h.2 i7q rfl
        refine lv_astore (lv' := [(6, .ref (ad 0 i7q 0)), (5, .ref (ad 2 i5q j5q)), (4, .ref (ad 3 i1q 0)), (0, .ref (ad 8 0 0)), (1, .int a1), (2, .int a2), (3, .int a3)]) hx hb dX8_addLayer_20 hl (by decide) rfl (fun ls hl => ?_)
        refine lv_aload hx hb dX8_addLayer_22 (lv_at hl 2 rfl) ?_
        refine lv_ifnull hx hb dX8_addLayer_24 ?_
        refine lv_aload hx hb dX8_addLayer_27 (lv_at hl 1 rfl) ?_
        refine lv_ifnull hx hb dX8_addLayer_29 ?_
        refine lv_aload hx hb dX8_addLayer_32 (lv_at hl 0 rfl) ?_
        refine lv_ifnonnull (tgt := 38) hx hb dX8_addLayer_34 (by decide) ?_
        refine lv_aload hx hb dX8_addLayer_38 (lv_at hl 1 rfl) ?_
        refine lv_dup hx hb dX8_addLayer_40 rfl ?_
        refine gf_RX8_217 C hR hv5 dX8_addLayer_41 ?_
        refine lv_iconst (v := (1 : Int32)) hx hb dX8_addLayer_44 (by decide) ?_
        refine lv_iadd hx hb dX8_addLayer_45 ?_
        refine pf_RX8_217 C hR hS hv5 dX8_addLayer_46 (fun H locs σ8 e8 hR hS => ?_)
        have h := h σ8 e8
        refine lv_aload hx hb dX8_addLayer_49 (lv_at hl 1 rfl) ?_
        refine lv_aload_n hx hb dX8_addLayer_51 rfl (lv_at hl 3 rfl) ?_
        refine gf_RX8_92 C hR pr_l8 dX8_addLayer_52 ?_
        refine pf_RX8_223 C hR hS hv5 dX8_addLayer_55 (fun H locs σ9 e9 hR hS => ?_)
        have h := h σ9 e9
        refine lv_aload hx hb dX8_addLayer_58 (lv_at hl 1 rfl) ?_
        refine lv_iload_n hx hb dX8_addLayer_60 rfl (lv_at hl 6 rfl) ?_
        refine pf_RX8_226 C hR hS hv5 dX8_addLayer_61 (fun H locs σ10 e10 hR hS => ?_)
        have h := h σ10 e10
        refine lv_aload hx hb dX8_addLayer_64 (lv_at hl 0 rfl) ?_
        refine lv_aload_n hx hb dX8_addLayer_66 rfl (lv_at hl 3 rfl) ?_
        refine gf_RX8_92 C hR pr_l8 dX8_addLayer_67 ?_
        refine pr_callv hS (pr_runV (As := [.int (σ10 520 0 0)]) (rest := []) C hR hv7 (by omega) rfl (c_X0_addLayerOn hv7 h) gw_RX8_260 rfl rfl hd_X0_addLayerOn ⟨Nat.le_of_ble_eq_true rfl, Nat.le_of_ble_eq_true rfl⟩ rfl hl.1 rfl (Nat.le_of_ble_eq_true rfl) dX8_addLayer_70 ⟨Nat.zero_le _, Nat.zero_le _⟩) (fun σ11 H locs h hR hS => ?_)
        refine lv_aload_n hx hb dX8_addLayer_73 rfl (lv_at hl 3 rfl) ?_
        refine lv_dup hx hb dX8_addLayer_74 rfl ?_
        refine gf_RX8_238 C hR pr_l8 dX8_addLayer_75 ?_
        refine lv_iconst (v := (1 : Int32)) hx hb dX8_addLayer_78 (by decide) ?_
        refine lv_iadd hx hb dX8_addLayer_79 ?_
        refine pf_RX8_238 C hR hS pr_l8 dX8_addLayer_80 (fun H locs σ12 e12 hR hS => ?_)
        have h := h σ12 e12
        refine lv_iload_n hx hb dX8_addLayer_83 rfl (lv_at hl 5 rfl) ?_
        refine lv_if_ne (tgt := 117) hx hb dX8_addLayer_84 (by decide) (fun c13 => ?_) (fun c13 => ?_)
        · have h := h.1 c13
          exact t_X8_addLayer_L117 C h hR hS hv1 (lv_sub hl [3, 4, 5, 2] rfl)
        · have h := h.2 c13
          refine lv_aload_n hx hb dX8_addLayer_87 rfl (lv_at hl 3 rfl) ?_
          refine gf_RX8_41 C hR pr_l8 dX8_addLayer_88 ?_
          refine lv_aload_n hx hb dX8_addLayer_91 rfl (lv_at hl 3 rfl) ?_
          refine gf_RX8_41 C hR pr_l8 dX8_addLayer_92 ?_
          refine lv_iload_n hx hb dX8_addLayer_95 rfl (lv_at hl 4 rfl) ?_
          refine lv_aload_n hx hb dX8_addLayer_96 rfl (lv_at hl 3 rfl) ?_
          refine gf_RX8_92 C hR pr_l8 dX8_addLayer_97 ?_
          refine pr_calli hS (pr_runV (As := [.int a1, .int (σ12 520 0 0)]) (rest := [.ref (ad 7 0 0)]) C hR pr_l7 (by omega) rfl (c_X7_unusedOf h) gw_RX8_146 rfl rfl hd_X7_unusedOf ⟨Nat.le_of_ble_eq_true rfl, Nat.le_of_ble_eq_true rfl⟩ rfl hl.1 rfl (Nat.le_of_ble_eq_true rfl) dX8_addLayer_100 ⟨Nat.zero_le _, Nat.zero_le _⟩) (fun r22 σ22 H locs h hR hS => ?_)
          refine pr_callv hS (pr_runV (As := [.int r22]) (rest := []) C hR pr_l7 (by omega) rfl (c_X7_use h) gw_RX8_263 rfl rfl hd_X7_use ⟨Nat.le_of_ble_eq_true rfl, Nat.le_of_ble_eq_true rfl⟩ rfl hl.1 rfl (Nat.le_of_ble_eq_true rfl) dX8_addLayer_103 ⟨Nat.zero_le _, Nat.zero_le _⟩) (fun σ23 H locs h hR hS => ?_)
          refine lv_aload hx hb dX8_addLayer_106 (lv_at hl 2 rfl) ?_
          refine lv_dup hx hb dX8_addLayer_108 rfl ?_
          refine gf_RX8_214 C hR hv1 dX8_addLayer_109 ?_
          refine lv_iconst (v := (1 : Int32)) hx hb dX8_addLayer_112 (by decide) ?_
          refine lv_iadd hx hb dX8_addLayer_113 ?_
          refine pf_RX8_214 C hR hS hv1 dX8_addLayer_114 (fun H locs σ24 e24 hR hS => ?_)
          have h := h σ24 e24
          exact t_X8_addLayer_L117 C h hR hS hv1 (lv_sub hl [3, 4, 5, 2] rfl)
abbrev wp_X8_addLayer (g : Nat → Nat) (σ : pr_Sg) (a1 : Int32) (a2 : Int32) (a3 : Int32) (Q : pr_Sg → Prop) : Prop := wpb_X8_addLayer g σ a1 a2 a3 Q
set_option maxHeartbeats 4000000 in
set_option maxRecDepth 100000 in
theorem c_X8_addLayer {l : Launch} {D : va_G} {cs : Nat → ClassId} {A : Nat → Prop} {ad : pr_Ad} {g : Nat → Nat} {σ : pr_Sg} {a1 : Int32} {a2 : Int32} {a3 : Int32} {Q : pr_Sg → Prop} (h : wp_X8_addLayer g σ a1 a2 a3 Q) : pr_Mv l D cs A ad g yX8_addLayer cX8_addLayer 7 rm_X8_addLayer [.ref (ad 8 0 0), .int a1, .int a2, .int a3] σ Q := by
  refine Met.ofW (cc := cX8_addLayer) (maxL := 7) (ret := none) (by decide) rfl ?_
  intro p e s m args below meth c s₁ B hml hv
  obtain ⟨rfl, hR, hK⟩ := hv
  have C : pr_C RX8 cX8_addLayer 7 none D cs p s m [.ref (ad 8 0 0), .int a1, .int a2, .int a3].toArray meth c := pr_C.of B hml hK
  have hS : va_S A s.heap s.heap [] := va_S.rf
  have hl := lv_entry ([.ref (ad 8 0 0), .int a1, .int a2, .int a3]) (n := 7) (Nat.le_of_ble_eq_true rfl)
  rw [lg_entry_eq]
  generalize (lg_sl ([.ref (ad 8 0 0), .int a1, .int a2, .int a3]) ++ List.replicate (7 - (lg_sl ([.ref (ad 8 0 0), .int a1, .int a2, .int a3])).length) Slot.unset).toArray = ls at hl ⊢
  have hl : lv_has ls 7 [(0, .ref (ad 8 0 0)), (1, .int a1), (2, .int a2), (3, .int a3)] := hl
  exact t_X8_addLayer C h hR hS hl
def rm_X8_paint : Room := { frames := 3, cells := 0, slots := 0, locals := 70 }
theorem hd_X8_paint : yX8_paint.cls = RX8 ∧ yX8_paint.cls ≠ "java/lang/invoke/MethodHandle" ∧ yX8_paint.cls ≠ "java/lang/invoke/VarHandle" ∧ (parseMethodDescriptor yX8_paint.desc).map (fun d => d.parameters.length) = some 3 := ⟨rfl, by decide, by decide, by decide +kernel⟩
def wpb_X8_paint (g : Nat → Nat) (σ : pr_Sg) (a1 : Int32) (a2 : Int32) (a3 : Int32) (Q : Int32 → pr_Sg → Prop) : Prop :=
  (wp_X8_standsAgainst g σ a1 a2 a3 (fun r1 σ1 =>
  ((¬ r1 = 0 → Q r1 σ1) ∧
  (r1 = 0 → (wp_X8_addLayer g σ1 a1 a2 a3 (fun σ3 =>
  Q r1 σ3))))))
set_option maxHeartbeats 4000000 in
set_option maxRecDepth 100000 in
theorem t_X8_paint {p : Program} {l : Launch} {e : Env} {s : State} {m : MethodId} {args : Array Value} {below : List Frame} {meth : Method} {c : Code} {D : va_G} {cs : Nat → ClassId} {A : Nat → Prop} {ad : pr_Ad} {g : Nat → Nat} {Q : Int32 → pr_Sg → Prop} (C : pr_C RX8 cX8_paint 5 (some .int) D cs p s m args meth c) {H : Heap} {locs : List Loc} {ls : Array Slot} {σ : pr_Sg} {a1 : Int32} {a2 : Int32} {a3 : Int32} (h : wpb_X8_paint g σ a1 a2 a3 Q) (hR : pr_R D cs A ad g σ H) (hS : va_S A s.heap H locs) (hl : lv_has ls 5 [(0, .ref (ad 8 0 0)), (1, .int a1), (2, .int a2), (3, .int a3)]) : W p l e rm_X8_paint s m args below meth c H locs 0 0 (MQ below (va_Qi Q (pr_E D cs A ad g) A) args s 0 0 A) (F0 m 0 ls []) := by
  unfold wpb_X8_paint at h
  obtain ⟨hx, hb, hml, hown, hts, hK, hr, hlocks⟩ := id C
  refine lv_aload_n hx hb dX8_paint_0 rfl (lv_at hl 0 rfl) ?_
  refine lv_iload_n hx hb dX8_paint_1 rfl (lv_at hl 1 rfl) ?_
  refine lv_iload_n hx hb dX8_paint_2 rfl (lv_at hl 2 rfl) ?_
  refine lv_iload_n hx hb dX8_paint_3 rfl (lv_at hl 3 rfl) ?_
  refine pr_calli hS (pr_runV (As := [.int a1, .int a2, .int a3]) (rest := []) C hR pr_l8 (by omega) rfl (c_X8_standsAgainst h) gw_RX8_153 rfl rfl hd_X8_standsAgainst ⟨Nat.le_of_ble_eq_true rfl, Nat.le_of_ble_eq_true rfl⟩ rfl hl.1 rfl (Nat.le_of_ble_eq_true rfl) dX8_paint_4 ⟨Nat.zero_le _, Nat.zero_le _⟩) (fun r1 σ1 H locs h hR hS => ?_)
  refine lv_istore (lv' := [(4, .int r1), (0, .ref (ad 8 0 0)), (1, .int a1), (2, .int a2), (3, .int a3)]) hx hb dX8_paint_7 hl (by decide) rfl (fun ls hl => ?_)
  refine lv_iload hx hb dX8_paint_9 (lv_at hl 0 rfl) ?_
  refine lv_if_ne (tgt := 21) hx hb dX8_paint_11 (by decide) (fun c2 => ?_) (fun c2 => ?_)
  · have h := h.1 c2
    refine lv_iload hx hb dX8_paint_21 (lv_at hl 0 rfl) ?_
    exact pr_reti C h hR hS dX8_paint_23
  · have h := h.2 c2
    refine lv_aload_n hx hb dX8_paint_14 rfl (lv_at hl 1 rfl) ?_
    refine lv_iload_n hx hb dX8_paint_15 rfl (lv_at hl 2 rfl) ?_
    refine lv_iload_n hx hb dX8_paint_16 rfl (lv_at hl 3 rfl) ?_
    refine lv_iload_n hx hb dX8_paint_17 rfl (lv_at hl 4 rfl) ?_
    refine pr_callv hS (pr_runV (As := [.int a1, .int a2, .int a3]) (rest := []) C hR pr_l8 (by omega) rfl (c_X8_addLayer h) gw_RX8_157 rfl rfl hd_X8_addLayer ⟨Nat.le_of_ble_eq_true rfl, Nat.le_of_ble_eq_true rfl⟩ rfl hl.1 rfl (Nat.le_of_ble_eq_true rfl) dX8_paint_18 ⟨Nat.zero_le _, Nat.zero_le _⟩) (fun σ3 H locs h hR hS => ?_)
    refine lv_iload hx hb dX8_paint_21 (lv_at hl 0 rfl) ?_
    exact pr_reti C h hR hS dX8_paint_23
abbrev wp_X8_paint (g : Nat → Nat) (σ : pr_Sg) (a1 : Int32) (a2 : Int32) (a3 : Int32) (Q : Int32 → pr_Sg → Prop) : Prop := wpb_X8_paint g σ a1 a2 a3 Q
set_option maxHeartbeats 4000000 in
set_option maxRecDepth 100000 in
theorem c_X8_paint {l : Launch} {D : va_G} {cs : Nat → ClassId} {A : Nat → Prop} {ad : pr_Ad} {g : Nat → Nat} {σ : pr_Sg} {a1 : Int32} {a2 : Int32} {a3 : Int32} {Q : Int32 → pr_Sg → Prop} (h : wp_X8_paint g σ a1 a2 a3 Q) : pr_Mi l D cs A ad g yX8_paint cX8_paint 5 (some .int) rm_X8_paint [.ref (ad 8 0 0), .int a1, .int a2, .int a3] σ Q := by
  refine Met.ofW (cc := cX8_paint) (maxL := 5) (ret := (some .int)) (by decide) rfl ?_
  intro p e s m args below meth c s₁ B hml hv
  obtain ⟨rfl, hR, hK⟩ := hv
  have C : pr_C RX8 cX8_paint 5 (some .int) D cs p s m [.ref (ad 8 0 0), .int a1, .int a2, .int a3].toArray meth c := pr_C.of B hml hK
  have hS : va_S A s.heap s.heap [] := va_S.rf
  have hl := lv_entry ([.ref (ad 8 0 0), .int a1, .int a2, .int a3]) (n := 5) (Nat.le_of_ble_eq_true rfl)
  rw [lg_entry_eq]
  generalize (lg_sl ([.ref (ad 8 0 0), .int a1, .int a2, .int a3]) ++ List.replicate (5 - (lg_sl ([.ref (ad 8 0 0), .int a1, .int a2, .int a3])).length) Slot.unset).toArray = ls at hl ⊢
  have hl : lv_has ls 5 [(0, .ref (ad 8 0 0)), (1, .int a1), (2, .int a2), (3, .int a3)] := hl
  exact t_X8_paint C h hR hS hl
def rm_X8_pay : Room := { frames := 1, cells := 0, slots := 0, locals := 21 }
theorem hd_X8_pay : yX8_pay.cls = RX8 ∧ yX8_pay.cls ≠ "java/lang/invoke/MethodHandle" ∧ yX8_pay.cls ≠ "java/lang/invoke/VarHandle" ∧ (parseMethodDescriptor yX8_pay.desc).map (fun d => d.parameters.length) = some 2 := ⟨rfl, by decide, by decide, by decide +kernel⟩
def wpb_X8_pay (g : Nat → Nat) (σ : pr_Sg) (a1 : Int32) (a2 : Int32) (Q : Int32 → pr_Sg → Prop) : Prop :=
  (wp_X8_sitterAt g σ a1 (fun x1 σ1 =>
  (x1 = none → Q (-1 : Int32) σ1) ∧
  (∀ i1q : Nat, x1 = some (i1q, 0) → ((a2 < (1 : Int32) → Q (-1 : Int32) σ1) ∧
  (¬ a2 < (1 : Int32) → ((a2 ≤ (σ1 386 i1q 0) → (∀ σ4 : pr_Sg, σ4 = pr_up σ1 386 i1q 0 ((σ1 386 i1q 0) - a2) →
  (∀ σ5 : pr_Sg, σ5 = pr_up σ4 526 0 0 ((σ4 526 0 0) + a2) →
  Q (σ5 386 i1q 0) σ5))) ∧
  (¬ a2 ≤ (σ1 386 i1q 0) → Q (-1 : Int32) σ1)))))))
set_option maxHeartbeats 4000000 in
set_option maxRecDepth 100000 in
theorem t_X8_pay {p : Program} {l : Launch} {e : Env} {s : State} {m : MethodId} {args : Array Value} {below : List Frame} {meth : Method} {c : Code} {D : va_G} {cs : Nat → ClassId} {A : Nat → Prop} {ad : pr_Ad} {g : Nat → Nat} {Q : Int32 → pr_Sg → Prop} (C : pr_C RX8 cX8_pay 4 (some .int) D cs p s m args meth c) {H : Heap} {locs : List Loc} {ls : Array Slot} {σ : pr_Sg} {a1 : Int32} {a2 : Int32} (h : wpb_X8_pay g σ a1 a2 Q) (hR : pr_R D cs A ad g σ H) (hS : va_S A s.heap H locs) (hl : lv_has ls 4 [(0, .ref (ad 8 0 0)), (1, .int a1), (2, .int a2)]) : W p l e rm_X8_pay s m args below meth c H locs 0 0 (MQ below (va_Qi Q (pr_E D cs A ad g) A) args s 0 0 A) (F0 m 0 ls []) := by
  unfold wpb_X8_pay at h
  obtain ⟨hx, hb, hml, hown, hts, hK, hr, hlocks⟩ := id C
  refine lv_aload_n hx hb dX8_pay_0 rfl (lv_at hl 0 rfl) ?_
  refine lv_iload_n hx hb dX8_pay_1 rfl (lv_at hl 1 rfl) ?_
  refine pr_callr hS (pr_runV (As := [.int a1]) (rest := []) C hR pr_l8 (by omega) rfl (c_X8_sitterAt h) gw_RX8_81 rfl rfl hd_X8_sitterAt ⟨Nat.le_of_ble_eq_true rfl, Nat.le_of_ble_eq_true rfl⟩ rfl hl.1 rfl (Nat.le_of_ble_eq_true rfl) dX8_pay_2 ⟨Nat.zero_le _, Nat.zero_le _⟩) (fun σ1 H locs h hR hS => ?_) (fun i1q j1q σ1 H locs h hv1 hR hS => ?_)
  · have h := h.1 rfl
    refine lv_astore_nN (lv' := [(3, .null), (0, .ref (ad 8 0 0)), (1, .int a1), (2, .int a2)]) hx hb dX8_pay_5 rfl hl (by decide) rfl (fun ls hl => ?_)
    refine lv_aload_nN hx hb dX8_pay_6 rfl (lv_at hl 0 rfl) ?_
    refine lv_ifnullN (tgt := 23) hx hb dX8_pay_7 (by decide) ?_
    refine lv_iconst (v := (-1 : Int32)) hx hb dX8_pay_23 (by decide) ?_
    exact pr_reti C h hR hS dX8_pay_24
  · obtain rfl : j1q = 0 := pr_lvj (by decide) hv1
    have h := h.2 i1q rfl
    refine lv_astore_n (lv' := [(3, .ref (ad 6 i1q 0)), (0, .ref (ad 8 0 0)), (1, .int a1), (2, .int a2)]) hx hb dX8_pay_5 rfl hl (by decide) rfl (fun ls hl => ?_)
    refine lv_aload_n hx hb dX8_pay_6 rfl (lv_at hl 0 rfl) ?_
    refine lv_ifnull hx hb dX8_pay_7 ?_
    refine lv_iload_n hx hb dX8_pay_10 rfl (lv_at hl 3 rfl) ?_
    refine lv_iconst (v := (1 : Int32)) hx hb dX8_pay_11 (by decide) ?_
    refine lv_icmp_lt (tgt := 23) hx hb dX8_pay_12 (by decide) (fun c2 => ?_) (fun c2 => ?_)
    · have h := h.1 c2
      refine lv_iconst (v := (-1 : Int32)) hx hb dX8_pay_23 (by decide) ?_
      exact pr_reti C h hR hS dX8_pay_24
    · have h := h.2 c2
      refine lv_iload_n hx hb dX8_pay_15 rfl (lv_at hl 3 rfl) ?_
      refine lv_aload_n hx hb dX8_pay_16 rfl (lv_at hl 0 rfl) ?_
      refine gf_RX8_105 C hR hv1 dX8_pay_17 ?_
      refine lv_icmp_le (tgt := 25) hx hb dX8_pay_20 (by decide) (fun c3 => ?_) (fun c3 => ?_)
      · have h := h.1 c3
        refine lv_aload_n hx hb dX8_pay_25 rfl (lv_at hl 0 rfl) ?_
        refine lv_dup hx hb dX8_pay_26 rfl ?_
        refine gf_RX8_105 C hR hv1 dX8_pay_27 ?_
        refine lv_iload_n hx hb dX8_pay_30 rfl (lv_at hl 3 rfl) ?_
        refine lv_isub hx hb dX8_pay_31 ?_
        refine pf_RX8_105 C hR hS hv1 dX8_pay_32 (fun H locs σ4 e4 hR hS => ?_)
        have h := h σ4 e4
        refine lv_aload_n hx hb dX8_pay_35 rfl (lv_at hl 1 rfl) ?_
        refine lv_dup hx hb dX8_pay_36 rfl ?_
        refine gf_RX8_161 C hR pr_l8 dX8_pay_37 ?_
        refine lv_iload_n hx hb dX8_pay_40 rfl (lv_at hl 3 rfl) ?_
        refine lv_iadd hx hb dX8_pay_41 ?_
        refine pf_RX8_161 C hR hS pr_l8 dX8_pay_42 (fun H locs σ5 e5 hR hS => ?_)
        have h := h σ5 e5
        refine lv_aload_n hx hb dX8_pay_45 rfl (lv_at hl 0 rfl) ?_
        refine gf_RX8_105 C hR hv1 dX8_pay_46 ?_
        exact pr_reti C h hR hS dX8_pay_49
      · have h := h.2 c3
        refine lv_iconst (v := (-1 : Int32)) hx hb dX8_pay_23 (by decide) ?_
        exact pr_reti C h hR hS dX8_pay_24
abbrev wp_X8_pay (g : Nat → Nat) (σ : pr_Sg) (a1 : Int32) (a2 : Int32) (Q : Int32 → pr_Sg → Prop) : Prop := wpb_X8_pay g σ a1 a2 Q
set_option maxHeartbeats 4000000 in
set_option maxRecDepth 100000 in
theorem c_X8_pay {l : Launch} {D : va_G} {cs : Nat → ClassId} {A : Nat → Prop} {ad : pr_Ad} {g : Nat → Nat} {σ : pr_Sg} {a1 : Int32} {a2 : Int32} {Q : Int32 → pr_Sg → Prop} (h : wp_X8_pay g σ a1 a2 Q) : pr_Mi l D cs A ad g yX8_pay cX8_pay 4 (some .int) rm_X8_pay [.ref (ad 8 0 0), .int a1, .int a2] σ Q := by
  refine Met.ofW (cc := cX8_pay) (maxL := 4) (ret := (some .int)) (by decide) rfl ?_
  intro p e s m args below meth c s₁ B hml hv
  obtain ⟨rfl, hR, hK⟩ := hv
  have C : pr_C RX8 cX8_pay 4 (some .int) D cs p s m [.ref (ad 8 0 0), .int a1, .int a2].toArray meth c := pr_C.of B hml hK
  have hS : va_S A s.heap s.heap [] := va_S.rf
  have hl := lv_entry ([.ref (ad 8 0 0), .int a1, .int a2]) (n := 4) (Nat.le_of_ble_eq_true rfl)
  rw [lg_entry_eq]
  generalize (lg_sl ([.ref (ad 8 0 0), .int a1, .int a2]) ++ List.replicate (4 - (lg_sl ([.ref (ad 8 0 0), .int a1, .int a2])).length) Slot.unset).toArray = ls at hl ⊢
  have hl : lv_has ls 4 [(0, .ref (ad 8 0 0)), (1, .int a1), (2, .int a2)] := hl
  exact t_X8_pay C h hR hS hl
