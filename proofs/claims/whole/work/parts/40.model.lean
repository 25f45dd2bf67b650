def rm_X9_in : Room := { frames := 0, cells := 0, slots := 0, locals := 0 }
theorem hs_X9_in : yX9_in.cls ≠ "java/lang/invoke/MethodHandle" ∧ yX9_in.cls ≠ "java/lang/invoke/VarHandle" ∧ (parseMethodDescriptor yX9_in.desc).map (fun d => d.parameters.length) = some 3 := ⟨by decide, by decide, by decide +kernel⟩
def wpb_X9_in (g : Nat → Nat) (σ : pr_Sg) (a1 : Int32) (a2 : Int32) (a3 : Int32) (Q : Int32 → pr_Sg → Prop) : Prop :=
  ((a1 < a2 → Q (0 : Int32) σ) ∧
  (¬ a1 < a2 → ((a3 < a1 → Q (0 : Int32) σ) ∧
  (¬ a3 < a1 → Q (1 : Int32) σ))))
set_option maxHeartbeats 4000000 in
set_option maxRecDepth 100000 in
theorem t_X9_in {p : Program} {l : Launch} {e : Env} {s : State} {m : MethodId} {args : Array Value} {below : List Frame} {meth : Method} {c : Code} {D : va_G} {cs : Nat → ClassId} {A : Nat → Prop} {ad : pr_Ad} {g : Nat → Nat} {Q : Int32 → pr_Sg → Prop} (C : pr_C RX9 cX9_in 3 (some .boolean) D cs p s m args meth c) {H : Heap} {locs : List Loc} {ls : Array Slot} {σ : pr_Sg} {a1 : Int32} {a2 : Int32} {a3 : Int32} (h : wpb_X9_in g σ a1 a2 a3 Q) (hR : pr_R D cs A ad g σ H) (hS : va_S A s.heap H locs) (hl : lv_has ls 3 [(0, .int a1), (1, .int a2), (2, .int a3)]) : W p l e rm_X9_in s m args below meth c H locs 0 0 (MQ below (va_Qi (pr_Qz Q) (pr_E D cs A ad g) A) args s 0 0 A) (F0 m 0 ls []) := by
  unfold wpb_X9_in at h
  obtain ⟨hx, hb, hml, hown, hts, hK, hr, hlocks⟩ := id C
  refine lv_iload_n hx hb dX9_in_0 rfl (lv_at hl 0 rfl) ?_
  refine lv_iload_n hx hb dX9_in_1 rfl (lv_at hl 1 rfl) ?_
  refine lv_icmp_lt (tgt := 14) hx hb dX9_in_2 (by decide) (fun c1 => ?_) (fun c1 => ?_)
  · have h := h.1 c1
    refine lv_iconst (v := (0 : Int32)) hx hb dX9_in_14 (by decide) ?_
    exact pr_retz C (Or.inl rfl) h hR hS dX9_in_15
  · have h := h.2 c1
    refine lv_iload_n hx hb dX9_in_5 rfl (lv_at hl 0 rfl) ?_
    refine lv_iload_n hx hb dX9_in_6 rfl (lv_at hl 2 rfl) ?_
    refine lv_icmp_gt (tgt := 14) hx hb dX9_in_7 (by decide) (fun c2 => ?_) (fun c2 => ?_)
    · have h := h.1 c2
      refine lv_iconst (v := (0 : Int32)) hx hb dX9_in_14 (by decide) ?_
      exact pr_retz C (Or.inl rfl) h hR hS dX9_in_15
    · have h := h.2 c2
      refine lv_iconst (v := (1 : Int32)) hx hb dX9_in_10 (by decide) ?_
      refine lv_goto (tgt := 15) hx hb dX9_in_11 (by decide) ?_
      exact pr_retz C (Or.inr rfl) h hR hS dX9_in_15
abbrev wp_X9_in (g : Nat → Nat) (σ : pr_Sg) (a1 : Int32) (a2 : Int32) (a3 : Int32) (Q : Int32 → pr_Sg → Prop) : Prop := wpb_X9_in g σ a1 a2 a3 Q
set_option maxHeartbeats 4000000 in
set_option maxRecDepth 100000 in
theorem c_X9_in {l : Launch} {D : va_G} {cs : Nat → ClassId} {A : Nat → Prop} {ad : pr_Ad} {g : Nat → Nat} {σ : pr_Sg} {a1 : Int32} {a2 : Int32} {a3 : Int32} {Q : Int32 → pr_Sg → Prop} (h : wp_X9_in g σ a1 a2 a3 Q) : pr_Mi l D cs A ad g yX9_in cX9_in 3 (some .boolean) rm_X9_in [.int a1, .int a2, .int a3] σ (pr_Qz Q) := by
  refine Met.ofW (cc := cX9_in) (maxL := 3) (ret := (some .boolean)) (by decide) rfl ?_
  intro p e s m args below meth c s₁ B hml hv
  obtain ⟨rfl, hR, hK⟩ := hv
  have C : pr_C RX9 cX9_in 3 (some .boolean) D cs p s m [.int a1, .int a2, .int a3].toArray meth c := pr_C.of B hml hK
  have hS : va_S A s.heap s.heap [] := va_S.rf
  have hl := lv_entry ([.int a1, .int a2, .int a3]) (n := 3) (Nat.le_of_ble_eq_true rfl)
  rw [lg_entry_eq]
  generalize (lg_sl ([.int a1, .int a2, .int a3]) ++ List.replicate (3 - (lg_sl ([.int a1, .int a2, .int a3])).length) Slot.unset).toArray = ls at hl ⊢
  have hl : lv_has ls 3 [(0, .int a1), (1, .int a2), (2, .int a3)] := hl
  exact t_X9_in C h hR hS hl
def rm_X9_isPicture : Room := { frames := 1, cells := 0, slots := 0, locals := 22 }
theorem hd_X9_isPicture : yX9_isPicture.cls = RX9 ∧ yX9_isPicture.cls ≠ "java/lang/invoke/MethodHandle" ∧ yX9_isPicture.cls ≠ "java/lang/invoke/VarHandle" ∧ (parseMethodDescriptor yX9_isPicture.desc).map (fun d => d.parameters.length) = some 1 := ⟨rfl, by decide, by decide, by decide +kernel⟩
def wpb_X9_isPicture (g : Nat → Nat) (σ : pr_Sg) (a1 : Int32) (Q : Int32 → pr_Sg → Prop) : Prop :=
  (wp_X9_in g σ a1 (0 : Int32) ((σ 601 0 0) - (1 : Int32)) (fun r1 σ1 =>
  Q r1 σ1))
set_option maxHeartbeats 4000000 in
set_option maxRecDepth 100000 in
theorem t_X9_isPicture {p : Program} {l : Launch} {e : Env} {s : State} {m : MethodId} {args : Array Value} {below : List Frame} {meth : Method} {c : Code} {D : va_G} {cs : Nat → ClassId} {A : Nat → Prop} {ad : pr_Ad} {g : Nat → Nat} {Q : Int32 → pr_Sg → Prop} (C : pr_C RX9 cX9_isPicture 2 (some .boolean) D cs p s m args meth c) {H : Heap} {locs : List Loc} {ls : Array Slot} {σ : pr_Sg} {a1 : Int32} (h : wpb_X9_isPicture g σ a1 Q) (hR : pr_R D cs A ad g σ H) (hS : va_S A s.heap H locs) (hl : lv_has ls 2 [(0, .ref (ad 9 0 0)), (1, .int a1)]) : W p l e rm_X9_isPicture s m args below meth c H locs 0 0 (MQ below (va_Qi (pr_Qz Q) (pr_E D cs A ad g) A) args s 0 0 A) (F0 m 0 ls []) := by
  unfold wpb_X9_isPicture at h
  obtain ⟨hx, hb, hml, hown, hts, hK, hr, hlocks⟩ := id C
  refine lv_iload_n hx hb dX9_isPicture_0 rfl (lv_at hl 1 rfl) ?_
  refine lv_iconst (v := (0 : Int32)) hx hb dX9_isPicture_1 (by decide) ?_
  refine lv_aload_n hx hb dX9_isPicture_2 rfl (lv_at hl 0 rfl) ?_
  refine gf_RX9_110 C hR pr_l9 dX9_isPicture_3 ?_
  refine lv_iconst (v := (1 : Int32)) hx hb dX9_isPicture_6 (by decide) ?_
  refine lv_isub hx hb dX9_isPicture_7 ?_
  refine pr_calli hS (pr_runS (As := [.int a1, .int (0 : Int32), .int ((σ 601 0 0) - (1 : Int32))]) (rest := []) C hR (c_X9_in h) gw_RX9_113 rfl rfl hs_X9_in ⟨Nat.le_of_ble_eq_true rfl, Nat.le_of_ble_eq_true rfl⟩ rfl hl.1 rfl (Nat.le_of_ble_eq_true rfl) dX9_isPicture_8 ⟨Nat.zero_le _, Nat.zero_le _⟩) (fun r1 σ1 H locs h hR hS => ?_)
  obtain ⟨hz1, h⟩ := h
  exact pr_retz C hz1 h hR hS dX9_isPicture_11
abbrev wp_X9_isPicture (g : Nat → Nat) (σ : pr_Sg) (a1 : Int32) (Q : Int32 → pr_Sg → Prop) : Prop := wpb_X9_isPicture g σ a1 Q
set_option maxHeartbeats 4000000 in
set_option maxRecDepth 100000 in
theorem c_X9_isPicture {l : Launch} {D : va_G} {cs : Nat → ClassId} {A : Nat → Prop} {ad : pr_Ad} {g : Nat → Nat} {σ : pr_Sg} {a1 : Int32} {Q : Int32 → pr_Sg → Prop} (h : wp_X9_isPicture g σ a1 Q) : pr_Mi l D cs A ad g yX9_isPicture cX9_isPicture 2 (some .boolean) rm_X9_isPicture [.ref (ad 9 0 0), .int a1] σ (pr_Qz Q) := by
  refine Met.ofW (cc := cX9_isPicture) (maxL := 2) (ret := (some .boolean)) (by decide) rfl ?_
  intro p e s m args below meth c s₁ B hml hv
  obtain ⟨rfl, hR, hK⟩ := hv
  have C : pr_C RX9 cX9_isPicture 2 (some .boolean) D cs p s m [.ref (ad 9 0 0), .int a1].toArray meth c := pr_C.of B hml hK
  have hS : va_S A s.heap s.heap [] := va_S.rf
  have hl := lv_entry ([.ref (ad 9 0 0), .int a1]) (n := 2) (Nat.le_of_ble_eq_true rfl)
  rw [lg_entry_eq]
  generalize (lg_sl ([.ref (ad 9 0 0), .int a1]) ++ List.replicate (2 - (lg_sl ([.ref (ad 9 0 0), .int a1])).length) Slot.unset).toArray = ls at hl ⊢
  have hl : lv_has ls 2 [(0, .ref (ad 9 0 0)), (1, .int a1)] := hl
  exact t_X9_isPicture C h hR hS hl
def rm_X9_isSitter : Room := { frames := 1, cells := 0, slots := 0, locals := 22 }
theorem hd_X9_isSitter : yX9_isSitter.cls = RX9 ∧ yX9_isSitter.cls ≠ "java/lang/invoke/MethodHandle" ∧ yX9_isSitter.cls ≠ "java/lang/invoke/VarHandle" ∧ (parseMethodDescriptor yX9_isSitter.desc).map (fun d => d.parameters.length) = some 1 := ⟨rfl, by decide, by decide, by decide +kernel⟩
def wpb_X9_isSitter (g : Nat → Nat) (σ : pr_Sg) (a1 : Int32) (Q : Int32 → pr_Sg → Prop) : Prop :=
  (wp_X9_in g σ a1 (0 : Int32) ((σ 589 0 0) - (1 : Int32)) (fun r1 σ1 =>
  Q r1 σ1))
set_option maxHeartbeats 4000000 in
set_option maxRecDepth 100000 in
theorem t_X9_isSitter {p : Program} {l : Launch} {e : Env} {s : State} {m : MethodId} {args : Array Value} {below : List Frame} {meth : Method} {c : Code} {D : va_G} {cs : Nat → ClassId} {A : Nat → Prop} {ad : pr_Ad} {g : Nat → Nat} {Q : Int32 → pr_Sg → Prop} (C : pr_C RX9 cX9_isSitter 2 (some .boolean) D cs p s m args meth c) {H : Heap} {locs : List Loc} {ls : Array Slot} {σ : pr_Sg} {a1 : Int32} (h : wpb_X9_isSitter g σ a1 Q) (hR : pr_R D cs A ad g σ H) (hS : va_S A s.heap H locs) (hl : lv_has ls 2 [(0, .ref (ad 9 0 0)), (1, .int a1)]) : W p l e rm_X9_isSitter s m args below meth c H locs 0 0 (MQ below (va_Qi (pr_Qz Q) (pr_E D cs A ad g) A) args s 0 0 A) (F0 m 0 ls []) := by
  unfold wpb_X9_isSitter at h
  obtain ⟨hx, hb, hml, hown, hts, hK, hr, hlocks⟩ := id C
  refine lv_iload_n hx hb dX9_isSitter_0 rfl (lv_at hl 1 rfl) ?_
  refine lv_iconst (v := (0 : Int32)) hx hb dX9_isSitter_1 (by decide) ?_
  refine lv_aload_n hx hb dX9_isSitter_2 rfl (lv_at hl 0 rfl) ?_
  refine gf_RX9_117 C hR pr_l9 dX9_isSitter_3 ?_
  refine lv_iconst (v := (1 : Int32)) hx hb dX9_isSitter_6 (by decide) ?_
  refine lv_isub hx hb dX9_isSitter_7 ?_
  refine pr_calli hS (pr_runS (As := [.int a1, .int (0 : Int32), .int ((σ 589 0 0) - (1 : Int32))]) (rest := []) C hR (c_X9_in h) gw_RX9_113 rfl rfl hs_X9_in ⟨Nat.le_of_ble_eq_true rfl, Nat.le_of_ble_eq_true rfl⟩ rfl hl.1 rfl (Nat.le_of_ble_eq_true rfl) dX9_isSitter_8 ⟨Nat.zero_le _, Nat.zero_le _⟩) (fun r1 σ1 H locs h hR hS => ?_)
  obtain ⟨hz1, h⟩ := h
  exact pr_retz C hz1 h hR hS dX9_isSitter_11
abbrev wp_X9_isSitter (g : Nat → Nat) (σ : pr_Sg) (a1 : Int32) (Q : Int32 → pr_Sg → Prop) : Prop := wpb_X9_isSitter g σ a1 Q
set_option maxHeartbeats 4000000 in
set_option maxRecDepth 100000 in
theorem c_X9_isSitter {l : Launch} {D : va_G} {cs : Nat → ClassId} {A : Nat → Prop} {ad : pr_Ad} {g : Nat → Nat} {σ : pr_Sg} {a1 : Int32} {Q : Int32 → pr_Sg → Prop} (h : wp_X9_isSitter g σ a1 Q) : pr_Mi l D cs A ad g yX9_isSitter cX9_isSitter 2 (some .boolean) rm_X9_isSitter [.ref (ad 9 0 0), .int a1] σ (pr_Qz Q) := by
  refine Met.ofW (cc := cX9_isSitter) (maxL := 2) (ret := (some .boolean)) (by decide) rfl ?_
  intro p e s m args below meth c s₁ B hml hv
  obtain ⟨rfl, hR, hK⟩ := hv
  have C : pr_C RX9 cX9_isSitter 2 (some .boolean) D cs p s m [.ref (ad 9 0 0), .int a1].toArray meth c := pr_C.of B hml hK
  have hS : va_S A s.heap s.heap [] := va_S.rf
  have hl := lv_entry ([.ref (ad 9 0 0), .int a1]) (n := 2) (Nat.le_of_ble_eq_true rfl)
  rw [lg_entry_eq]
  generalize (lg_sl ([.ref (ad 9 0 0), .int a1]) ++ List.replicate (2 - (lg_sl ([.ref (ad 9 0 0), .int a1])).length) Slot.unset).toArray = ls at hl ⊢
  have hl : lv_has ls 2 [(0, .ref (ad 9 0 0)), (1, .int a1)] := hl
  exact t_X9_isSitter C h hR hS hl
def rm_X9_isHand : Room := { frames := 1, cells := 0, slots := 0, locals := 22 }
theorem hd_X9_isHand : yX9_isHand.cls = RX9 ∧ yX9_isHand.cls ≠ "java/lang/invoke/MethodHandle" ∧ yX9_isHand.cls ≠ "java/lang/invoke/VarHandle" ∧ (parseMethodDescriptor yX9_isHand.desc).map (fun d => d.parameters.length) = some 1 := ⟨rfl, by decide, by decide, by decide +kernel⟩
def wpb_X9_isHand (g : Nat → Nat) (σ : pr_Sg) (a1 : Int32) (Q : Int32 → pr_Sg → Prop) : Prop :=
  (wp_X9_in g σ a1 (0 : Int32) ((σ 585 0 0) - (1 : Int32)) (fun r1 σ1 =>
  Q r1 σ1))
set_option maxHeartbeats 4000000 in
set_option maxRecDepth 100000 in
theorem t_X9_isHand {p : Program} {l : Launch} {e : Env} {s : State} {m : MethodId} {args : Array Value} {below : List Frame} {meth : Method} {c : Code} {D : va_G} {cs : Nat → ClassId} {A : Nat → Prop} {ad : pr_Ad} {g : Nat → Nat} {Q : Int32 → pr_Sg → Prop} (C : pr_C RX9 cX9_isHand 2 (some .boolean) D cs p s m args meth c) {H : Heap} {locs : List Loc} {ls : Array Slot} {σ : pr_Sg} {a1 : Int32} (h : wpb_X9_isHand g σ a1 Q) (hR : pr_R D cs A ad g σ H) (hS : va_S A s.heap H locs) (hl : lv_has ls 2 [(0, .ref (ad 9 0 0)), (1, .int a1)]) : W p l e rm_X9_isHand s m args below meth c H locs 0 0 (MQ below (va_Qi (pr_Qz Q) (pr_E D cs A ad g) A) args s 0 0 A) (F0 m 0 ls []) := by
  unfold wpb_X9_isHand at h
  obtain ⟨hx, hb, hml, hown, hts, hK, hr, hlocks⟩ := id C
  refine lv_iload_n hx hb dX9_isHand_0 rfl (lv_at hl 1 rfl) ?_
  refine lv_iconst (v := (0 : Int32)) hx hb dX9_isHand_1 (by decide) ?_
  refine lv_aload_n hx hb dX9_isHand_2 rfl (lv_at hl 0 rfl) ?_
  refine gf_RX9_31 C hR pr_l9 dX9_isHand_3 ?_
  refine lv_iconst (v := (1 : Int32)) hx hb dX9_isHand_6 (by decide) ?_
  refine lv_isub hx hb dX9_isHand_7 ?_
  refine pr_calli hS (pr_runS (As := [.int a1, .int (0 : Int32), .int ((σ 585 0 0) - (1 : Int32))]) (rest := []) C hR (c_X9_in h) gw_RX9_113 rfl rfl hs_X9_in ⟨Nat.le_of_ble_eq_true rfl, Nat.le_of_ble_eq_true rfl⟩ rfl hl.1 rfl (Nat.le_of_ble_eq_true rfl) dX9_isHand_8 ⟨Nat.zero_le _, Nat.zero_le _⟩) (fun r1 σ1 H locs h hR hS => ?_)
  obtain ⟨hz1, h⟩ := h
  exact pr_retz C hz1 h hR hS dX9_isHand_11
abbrev wp_X9_isHand (g : Nat → Nat) (σ : pr_Sg) (a1 : Int32) (Q : Int32 → pr_Sg → Prop) : Prop := wpb_X9_isHand g σ a1 Q
set_option maxHeartbeats 4000000 in
set_option maxRecDepth 100000 in
theorem c_X9_isHand {l : Launch} {D : va_G} {cs : Nat → ClassId} {A : Nat → Prop} {ad : pr_Ad} {g : Nat → Nat} {σ : pr_Sg} {a1 : Int32} {Q : Int32 → pr_Sg → Prop} (h : wp_X9_isHand g σ a1 Q) : pr_Mi l D cs A ad g yX9_isHand cX9_isHand 2 (some .boolean) rm_X9_isHand [.ref (ad 9 0 0), .int a1] σ (pr_Qz Q) := by
  refine Met.ofW (cc := cX9_isHand) (maxL := 2) (ret := (some .boolean)) (by decide) rfl ?_
  intro p e s m args below meth c s₁ B hml hv
  obtain ⟨rfl, hR, hK⟩ := hv
  have C : pr_C RX9 cX9_isHand 2 (some .boolean) D cs p s m [.ref (ad 9 0 0), .int a1].toArray meth c := pr_C.of B hml hK
  have hS : va_S A s.heap s.heap [] := va_S.rf
  have hl := lv_entry ([.ref (ad 9 0 0), .int a1]) (n := 2) (Nat.le_of_ble_eq_true rfl)
  rw [lg_entry_eq]
  generalize (lg_sl ([.ref (ad 9 0 0), .int a1]) ++ List.replicate (2 - (lg_sl ([.ref (ad 9 0 0), .int a1])).length) Slot.unset).toArray = ls at hl ⊢
  have hl : lv_has ls 2 [(0, .ref (ad 9 0 0)), (1, .int a1)] := hl
  exact t_X9_isHand C h hR hS hl
def rm_X9_list : Room := { frames := 1, cells := 0, slots := 0, locals := 22 }
theorem hd_X9_list : yX9_list.cls = RX9 ∧ yX9_list.cls ≠ "java/lang/invoke/MethodHandle" ∧ yX9_list.cls ≠ "java/lang/invoke/VarHandle" ∧ (parseMethodDescriptor yX9_list.desc).map (fun d => d.parameters.length) = some 3 := ⟨rfl, by decide, by decide, by decide +kernel⟩
def wpb_X9_list (g : Nat → Nat) (σ : pr_Sg) (a1 : Int32) (a2 : Int32) (a3 : Int32) (Q : Int32 → pr_Sg → Prop) : Prop :=
  (wp_X9_in g σ a1 (0 : Int32) (54 : Int32) (fun r1 σ1 =>
  ((r1 = 0 → Q (0 : Int32) σ1) ∧
  (¬ r1 = 0 → (wp_X9_in g σ1 a2 (0 : Int32) (3 : Int32) (fun r3 σ3 =>
  ((r3 = 0 → Q (0 : Int32) σ3) ∧
  (¬ r3 = 0 → (wp_X9_in g σ3 a3 (0 : Int32) (9999 : Int32) (fun r5 σ5 =>
  ((r5 = 0 → Q (0 : Int32) σ5) ∧
  (¬ r5 = 0 → ((¬ (σ5 580 0 0) = (60 : Int32) → (vp_in (σ5 580 0 0) 60 ∧ ∀ σ8 : pr_Sg, σ8 = pr_up σ5 1040 0 ((σ5 580 0 0)).toNatClampNeg a1 →
  (vp_in (σ8 580 0 0) 60 ∧ ∀ σ9 : pr_Sg, σ9 = pr_up σ8 1041 0 ((σ8 580 0 0)).toNatClampNeg a2 →
  (vp_in (σ9 580 0 0) 60 ∧ ∀ σ10 : pr_Sg, σ10 = pr_up σ9 1042 0 ((σ9 580 0 0)).toNatClampNeg a3 →
  (∀ σ11 : pr_Sg, σ11 = pr_up σ10 580 0 0 ((σ10 580 0 0) + (1 : Int32)) →
  Q (1 : Int32) σ11))))) ∧
  ((σ5 580 0 0) = (60 : Int32) → Q (0 : Int32) σ5))))))))))))))
set_option maxHeartbeats 4000000 in
set_option maxRecDepth 100000 in
theorem t_X9_list {p : Program} {l : Launch} {e : Env} {s : State} {m : MethodId} {args : Array Value} {below : List Frame} {meth : Method} {c : Code} {D : va_G} {cs : Nat → ClassId} {A : Nat → Prop} {ad : pr_Ad} {g : Nat → Nat} {Q : Int32 → pr_Sg → Prop} (C : pr_C RX9 cX9_list 4 (some .boolean) D cs p s m args meth c) {H : Heap} {locs : List Loc} {ls : Array Slot} {σ : pr_Sg} {a1 : Int32} {a2 : Int32} {a3 : Int32} (h : wpb_X9_list g σ a1 a2 a3 Q) (hR : pr_R D cs A ad g σ H) (hS : va_S A s.heap H locs) (hl : lv_has ls 4 [(0, .ref (ad 9 0 0)), (1, .int a1), (2, .int a2), (3, .int a3)]) : W p l e rm_X9_list s m args below meth c H locs 0 0 (MQ below (va_Qi (pr_Qz Q) (pr_E D cs A ad g) A) args s 0 0 A) (F0 m 0 ls []) := by
  unfold wpb_X9_list at h
  obtain ⟨hx, hb, hml, hown, hts, hK, hr, hlocks⟩ := id C
  refine lv_iload_n hx hb dX9_list_0 rfl (lv_at hl 1 rfl) ?_
  refine lv_iconst (v := (0 : Int32)) hx hb dX9_list_1 (by decide) ?_
  refine lv_bipush (v := (54 : Int32)) hx hb dX9_list_2 (by decide) ?_
  refine pr_calli hS (pr_runS (As := [.int a1, .int (0 : Int32), .int (54 : Int32)]) (rest := []) C hR (c_X9_in h) gw_RX9_113 rfl rfl hs_X9_in ⟨Nat.le_of_ble_eq_true rfl, Nat.le_of_ble_eq_true rfl⟩ rfl hl.1 rfl (Nat.le_of_ble_eq_true rfl) dX9_list_4 ⟨Nat.zero_le _, Nat.zero_le _⟩) (fun r1 σ1 H locs h hR hS => ?_)
  obtain ⟨hz1, h⟩ := h
  refine lv_if_eq (tgt := 39) hx hb dX9_list_7 (by decide) (fun c2 => ?_) (fun c2 => ?_)
  · have h := h.1 c2
    refine lv_iconst (v := (0 : Int32)) hx hb dX9_list_39 (by decide) ?_
    exact pr_retz C (Or.inl rfl) h hR hS dX9_list_40
  · have h := h.2 c2
    refine lv_iload_n hx hb dX9_list_10 rfl (lv_at hl 2 rfl) ?_
    refine lv_iconst (v := (0 : Int32)) hx hb dX9_list_11 (by decide) ?_
    refine lv_iconst (v := (3 : Int32)) hx hb dX9_list_12 (by decide) ?_
    refine pr_calli hS (pr_runS (As := [.int a2, .int (0 : Int32), .int (3 : Int32)]) (rest := []) C hR (c_X9_in h) gw_RX9_113 rfl rfl hs_X9_in ⟨Nat.le_of_ble_eq_true rfl, Nat.le_of_ble_eq_true rfl⟩ rfl hl.1 rfl (Nat.le_of_ble_eq_true rfl) dX9_list_13 ⟨Nat.zero_le _, Nat.zero_le _⟩) (fun r3 σ3 H locs h hR hS => ?_)
    obtain ⟨hz3, h⟩ := h
    refine lv_if_eq (tgt := 39) hx hb dX9_list_16 (by decide) (fun c4 => ?_) (fun c4 => ?_)
    · have h := h.1 c4
      refine lv_iconst (v := (0 : Int32)) hx hb dX9_list_39 (by decide) ?_
      exact pr_retz C (Or.inl rfl) h hR hS dX9_list_40
    · have h := h.2 c4
      refine lv_iload_n hx hb dX9_list_19 rfl (lv_at hl 3 rfl) ?_
      refine lv_iconst (v := (0 : Int32)) hx hb dX9_list_20 (by decide) ?_
      refine lv_sipush (v := (9999 : Int32)) hx hb dX9_list_21 (by decide) ?_
      refine pr_calli hS (pr_runS (As := [.int a3, .int (0 : Int32), .int (9999 : Int32)]) (rest := []) C hR (c_X9_in h) gw_RX9_113 rfl rfl hs_X9_in ⟨Nat.le_of_ble_eq_true rfl, Nat.le_of_ble_eq_true rfl⟩ rfl hl.1 rfl (Nat.le_of_ble_eq_true rfl) dX9_list_24 ⟨Nat.zero_le _, Nat.zero_le _⟩) (fun r5 σ5 H locs h hR hS => ?_)
      obtain ⟨hz5, h⟩ := h
      refine lv_if_eq (tgt := 39) hx hb dX9_list_27 (by decide) (fun c6 => ?_) (fun c6 => ?_)
      · have h := h.1 c6
        refine lv_iconst (v := (0 : Int32)) hx hb dX9_list_39 (by decide) ?_
        exact pr_retz C (Or.inl rfl) h hR hS dX9_list_40
      · have h := h.2 c6
        refine lv_aload_n hx hb dX9_list_30 rfl (lv_at hl 0 rfl) ?_
        refine gf_RX9_120 C hR pr_l9 dX9_list_31 ?_
        refine lv_bipush (v := (60 : Int32)) hx hb dX9_list_34 (by decide) ?_
        refine lv_icmp_ne (tgt := 41) hx hb dX9_list_36 (by decide) (fun c7 => ?_) (fun c7 => ?_)
        · have h := h.1 c7
          refine lv_aload_n hx hb dX9_list_41 rfl (lv_at hl 0 rfl) ?_
          refine gf_RX9_9 C hR pr_l9 dX9_list_42 ?_
          refine lv_aload_n hx hb dX9_list_45 rfl (lv_at hl 0 rfl) ?_
          refine gf_RX9_120 C hR pr_l9 dX9_list_46 ?_
          refine lv_iload_n hx hb dX9_list_49 rfl (lv_at hl 1 rfl) ?_
          refine pr_ast hx hb hK hR hS pr_l40 (by omega) (by omega) (n := 60) (by decide) h.1 dX9_list_50 (t := 1040) rfl (fun H locs σ8 e8 hR hS => ?_)
          have h := h.2 σ8 e8
          refine lv_aload_n hx hb dX9_list_51 rfl (lv_at hl 0 rfl) ?_
          refine gf_RX9_13 C hR pr_l9 dX9_list_52 ?_
          refine lv_aload_n hx hb dX9_list_55 rfl (lv_at hl 0 rfl) ?_
          refine gf_RX9_120 C hR pr_l9 dX9_list_56 ?_
          refine lv_iload_n hx hb dX9_list_59 rfl (lv_at hl 2 rfl) ?_
          refine pr_ast hx hb hK hR hS pr_l41 (by omega) (by omega) (n := 60) (by decide) h.1 dX9_list_60 (t := 1041) rfl (fun H locs σ9 e9 hR hS => ?_)
          have h := h.2 σ9 e9
          refine lv_aload_n hx hb dX9_list_61 rfl (lv_at hl 0 rfl) ?_
          refine gf_RX9_16 C hR pr_l9 dX9_list_62 ?_
          refine lv_aload_n hx hb dX9_list_65 rfl (lv_at hl 0 rfl) ?_
          refine gf_RX9_120 C hR pr_l9 dX9_list_66 ?_
          refine lv_iload_n hx hb dX9_list_69 rfl (lv_at hl 3 rfl) ?_
          refine pr_ast hx hb hK hR hS pr_l42 (by omega) (by omega) (n := 60) (by decide) h.1 dX9_list_70 (t := 1042) rfl (fun H locs σ10 e10 hR hS => ?_)
          have h := h.2 σ10 e10
          refine lv_aload_n hx hb dX9_list_71 rfl (lv_at hl 0 rfl) ?_
          refine lv_dup hx hb dX9_list_72 rfl ?_
          refine gf_RX9_120 C hR pr_l9 dX9_list_73 ?_
          refine lv_iconst (v := (1 : Int32)) hx hb dX9_list_76 (by decide) ?_
          refine lv_iadd hx hb dX9_list_77 ?_
          refine pf_RX9_120 C hR hS pr_l9 dX9_list_78 (fun H locs σ11 e11 hR hS => ?_)
          have h := h σ11 e11
          refine lv_iconst (v := (1 : Int32)) hx hb dX9_list_81 (by decide) ?_
          exact pr_retz C (Or.inr rfl) h hR hS dX9_list_82
        · have h := h.2 c7
          refine lv_iconst (v := (0 : Int32)) hx hb dX9_list_39 (by decide) ?_
          exact pr_retz C (Or.inl rfl) h hR hS dX9_list_40
abbrev wp_X9_list (g : Nat → Nat) (σ : pr_Sg) (a1 : Int32) (a2 : Int32) (a3 : Int32) (Q : Int32 → pr_Sg → Prop) : Prop := wpb_X9_list g σ a1 a2 a3 Q
set_option maxHeartbeats 4000000 in
set_option maxRecDepth 100000 in
theorem c_X9_list {l : Launch} {D : va_G} {cs : Nat → ClassId} {A : Nat → Prop} {ad : pr_Ad} {g : Nat → Nat} {σ : pr_Sg} {a1 : Int32} {a2 : Int32} {a3 : Int32} {Q : Int32 → pr_Sg → Prop} (h : wp_X9_list g σ a1 a2 a3 Q) : pr_Mi l D cs A ad g yX9_list cX9_list 4 (some .boolean) rm_X9_list [.ref (ad 9 0 0), .int a1, .int a2, .int a3] σ (pr_Qz Q) := by
  refine Met.ofW (cc := cX9_list) (maxL := 4) (ret := (some .boolean)) (by decide) rfl ?_
  intro p e s m args below meth c s₁ B hml hv
  obtain ⟨rfl, hR, hK⟩ := hv
  have C : pr_C RX9 cX9_list 4 (some .boolean) D cs p s m [.ref (ad 9 0 0), .int a1, .int a2, .int a3].toArray meth c := pr_C.of B hml hK
  have hS : va_S A s.heap s.heap [] := va_S.rf
  have hl := lv_entry ([.ref (ad 9 0 0), .int a1, .int a2, .int a3]) (n := 4) (Nat.le_of_ble_eq_true rfl)
  rw [lg_entry_eq]
  generalize (lg_sl ([.ref (ad 9 0 0), .int a1, .int a2, .int a3]) ++ List.replicate (4 - (lg_sl ([.ref (ad 9 0 0), .int a1, .int a2, .int a3])).length) Slot.unset).toArray = ls at hl ⊢
  have hl : lv_has ls 4 [(0, .ref (ad 9 0 0)), (1, .int a1), (2, .int a2), (3, .int a3)] := hl
  exact t_X9_list C h hR hS hl
def rm_X9_listed : Room := { frames := 0, cells := 0, slots := 0, locals := 0 }
theorem hd_X9_listed : yX9_listed.cls = RX9 ∧ yX9_listed.cls ≠ "java/lang/invoke/MethodHandle" ∧ yX9_listed.cls ≠ "java/lang/invoke/VarHandle" ∧ (parseMethodDescriptor yX9_listed.desc).map (fun d => d.parameters.length) = some 2 := ⟨rfl, by decide, by decide, by decide +kernel⟩
def wp_X9_listed_L5 (g : Nat → Nat) (Q : Int32 → pr_Sg → Prop) : Nat → pr_Sg → Int32 → Int32 → Int32 → Int32 → Prop
  | 0, _, _, _, _, _ => False
  | n + 1, σ, x1, x2, x3, x4 => (((σ 580 0 0) ≤ x4 → ((¬ x3 = (-1 : Int32) → (vp_in x3 60 ∧ Q (σ 1042 0 (x3).toNatClampNeg) σ)) ∧
  (x3 = (-1 : Int32) → Q (0 : Int32) σ))) ∧
  (¬ (σ 580 0 0) ≤ x4 → (vp_in x4 60 ∧ ((¬ (σ 1041 0 (x4).toNatClampNeg) = x1 → wp_X9_listed_L5 g Q n σ x1 x2 x3 (x4 + (1 : Int32))) ∧
  ((σ 1041 0 (x4).toNatClampNeg) = x1 → (vp_in x4 60 ∧ ((x2 < (σ 1040 0 (x4).toNatClampNeg) → wp_X9_listed_L5 g Q n σ x1 x2 x3 (x4 + (1 : Int32))) ∧
  (¬ x2 < (σ 1040 0 (x4).toNatClampNeg) → ((x3 = (-1 : Int32) → wp_X9_listed_L5 g Q n σ x1 x2 x4 (x4 + (1 : Int32))) ∧
  (¬ x3 = (-1 : Int32) → (vp_in x4 60 ∧ (vp_in x3 60 ∧ (((σ 1040 0 (x4).toNatClampNeg) < (σ 1040 0 (x3).toNatClampNeg) → wp_X9_listed_L5 g Q n σ x1 x2 x3 (x4 + (1 : Int32))) ∧
  (¬ (σ 1040 0 (x4).toNatClampNeg) < (σ 1040 0 (x3).toNatClampNeg) → wp_X9_listed_L5 g Q n σ x1 x2 x4 (x4 + (1 : Int32))))))))))))))))
set_option maxHeartbeats 4000000 in
set_option maxRecDepth 100000 in
theorem t_X9_listed_L5 {p : Program} {l : Launch} {e : Env} {s : State} {m : MethodId} {args : Array Value} {below : List Frame} {meth : Method} {c : Code} {D : va_G} {cs : Nat → ClassId} {A : Nat → Prop} {ad : pr_Ad} {g : Nat → Nat} {Q : Int32 → pr_Sg → Prop} (C : pr_C RX9 cX9_listed 5 (some .int) D cs p s m args meth c) (n : Nat) : ∀ {H : Heap} {locs : List Loc} {ls : Array Slot} {σ : pr_Sg} {x1 : Int32} {x2 : Int32} {x3 : Int32} {x4 : Int32} (_ : wp_X9_listed_L5 g Q n σ x1 x2 x3 x4) (_ : pr_R D cs A ad g σ H) (_ : va_S A s.heap H locs) (_ : lv_has ls 5 [(0, .ref (ad 9 0 0)), (1, .int x1), (2, .int x2), (3, .int x3), (4, .int x4)]), W p l e rm_X9_listed s m args below meth c H locs 0 0 (MQ below (va_Qi Q (pr_E D cs A ad g) A) args s 0 0 A) (F0 m 5 ls []) := by
  induction n with
  | zero =>
    intro H locs ls σ x1 x2 x3 x4 h
    exact False.elim h
  | succ n ih =>
    intro H locs ls σ x1 x2 x3 x4 h hR hS hl
    unfold wp_X9_listed_L5 at h
    obtain ⟨hx, hb, hml, hown, hts, hK, hr, hlocks⟩ := id C
    refine lv_iload hx hb dX9_listed_5 (lv_at hl 4 rfl) ?_
    refine lv_aload_n hx hb dX9_listed_7 rfl (lv_at hl 0 rfl) ?_
    refine gf_RX9_120 C hR pr_l9 dX9_listed_8 ?_
    refine lv_icmp_ge (tgt := 66) hx hb dX9_listed_11 (by decide) (fun c1 => ?_) (fun c1 => ?_)
    · have h := h.1 c1
      refine lv_iload_n hx hb dX9_listed_66 rfl (lv_at hl 3 rfl) ?_
      refine lv_iconst (v := (-1 : Int32)) hx hb dX9_listed_67 (by decide) ?_
      refine lv_icmp_ne (tgt := 75) hx hb dX9_listed_68 (by decide) (fun c2 => ?_) (fun c2 => ?_)
      · have h := h.1 c2
        refine lv_aload_n hx hb dX9_listed_75 rfl (lv_at hl 0 rfl) ?_
        refine gf_RX9_16 C hR pr_l9 dX9_listed_76 ?_
        refine lv_iload_n hx hb dX9_listed_79 rfl (lv_at hl 3 rfl) ?_
        refine pr_ald hx hb hK hR pr_l42 (by omega) (by omega) (n := 60) (by decide) h.1 dX9_listed_80 (t := 1042) rfl ?_
        have h := h.2
        exact pr_reti C h hR hS dX9_listed_81
      · have h := h.2 c2
        refine lv_iconst (v := (0 : Int32)) hx hb dX9_listed_71 (by decide) ?_
        refine lv_goto (tgt := 81) hx hb dX9_listed_72 (by decide) ?_
        exact pr_reti C h hR hS dX9_listed_81
    · have h := h.2 c1
      refine lv_aload_n hx hb dX9_listed_14 rfl (lv_at hl 0 rfl) ?_
      refine gf_RX9_13 C hR pr_l9 dX9_listed_15 ?_
      refine lv_iload hx hb dX9_listed_18 (lv_at hl 4 rfl) ?_
      refine pr_ald hx hb hK hR pr_l41 (by omega) (by omega) (n := 60) (by decide) h.1 dX9_listed_20 (t := 1041) rfl ?_
      have h := h.2
      refine lv_iload_n hx hb dX9_listed_21 rfl (lv_at hl 1 rfl) ?_
      refine lv_icmp_ne (tgt := 60) hx hb dX9_listed_22 (by decide) (fun c3 => ?_) (fun c3 => ?_)
      · have h := h.1 c3
        refine lv_iinc (v := (x4 + (1 : Int32))) (lv' := [(4, .int (x4 + (1 : Int32))), (0, .ref (ad 9 0 0)), (1, .int x1), (2, .int x2), (3, .int x3)]) hx hb dX9_listed_60 hl (k := 4) rfl rfl (by decide) rfl (fun ls hl => ?_)
        refine lv_goto (tgt := 5) hx hb dX9_listed_63 (by decide) ?_
        exact ih h hR hS (lv_sub hl [1, 2, 3, 4, 0] rfl)
      · have h := h.2 c3
        refine lv_aload_n hx hb dX9_listed_25 rfl (lv_at hl 0 rfl) ?_
        refine gf_RX9_9 C hR pr_l9 dX9_listed_26 ?_
        refine lv_iload hx hb dX9_listed_29 (lv_at hl 4 rfl) ?_
        refine pr_ald hx hb hK hR pr_l40 (by omega) (by omega) (n := 60) (by decide) h.1 dX9_listed_31 (t := 1040) rfl ?_
        have h := h.2
        refine lv_iload_n hx hb dX9_listed_32 rfl (lv_at hl 2 rfl) ?_
        refine lv_icmp_gt (tgt := 60) hx hb dX9_listed_33 (by decide) (fun c4 => ?_) (fun c4 => ?_)
        · have h := h.1 c4
          refine lv_iinc (v := (x4 + (1 : Int32))) (lv' := [(4, .int (x4 + (1 : Int32))), (0, .ref (ad 9 0 0)), (1, .int x1), (2, .int x2), (3, .int x3)]) hx hb dX9_listed_60 hl (k := 4) rfl rfl (by decide) rfl (fun ls hl => ?_)
          refine lv_goto (tgt := 5) hx hb dX9_listed_63 (by decide) ?_
          exact ih h hR hS (lv_sub hl [1, 2, 3, 4, 0] rfl)
        · have h := h.2 c4
          refine lv_iload_n hx hb dX9_listed_36 rfl (lv_at hl 3 rfl) ?_
          refine lv_iconst (v := (-1 : Int32)) hx hb dX9_listed_37 (by decide) ?_
          refine lv_icmp_eq (tgt := 57) hx hb dX9_listed_38 (by decide) (fun c5 => ?_) (fun c5 => ?_)
          · have h := h.1 c5
            refine lv_iload hx hb dX9_listed_57 (lv_at hl 4 rfl) ?_
            refine lv_istore_n (lv' := [(3, .int x4), (0, .ref (ad 9 0 0)), (1, .int x1), (2, .int x2), (4, .int x4)]) hx hb dX9_listed_59 rfl hl (by decide) rfl (fun ls hl => ?_)
            refine lv_iinc (v := (x4 + (1 : Int32))) (lv' := [(4, .int (x4 + (1 : Int32))), (3, .int x4), (0, .ref (ad 9 0 0)), (1, .int x1), (2, .int x2)]) hx hb dX9_listed_60 hl (k := 4) rfl rfl (by decide) rfl (fun ls hl => ?_)
            refine lv_goto (tgt := 5) hx hb dX9_listed_63 (by decide) ?_
            exact ih h hR hS (lv_sub hl [2, 3, 4, 1, 0] rfl)
          · have h := h.2 c5
            refine lv_aload_n hx hb dX9_listed_41 rfl (lv_at hl 0 rfl) ?_
            refine gf_RX9_9 C hR pr_l9 dX9_listed_42 ?_
            refine lv_iload hx hb dX9_listed_45 (lv_at hl 4 rfl) ?_
            refine pr_ald hx hb hK hR pr_l40 (by omega) (by omega) (n := 60) (by decide) h.1 dX9_listed_47 (t := 1040) rfl ?_
            have h := h.2
            refine lv_aload_n hx hb dX9_listed_48 rfl (lv_at hl 0 rfl) ?_
            refine gf_RX9_9 C hR pr_l9 dX9_listed_49 ?_
            refine lv_iload_n hx hb dX9_listed_52 rfl (lv_at hl 3 rfl) ?_
            refine pr_ald hx hb hK hR pr_l40 (by omega) (by omega) (n := 60) (by decide) h.1 dX9_listed_53 (t := 1040) rfl ?_
            have h := h.2
            refine lv_icmp_lt (tgt := 60) hx hb dX9_listed_54 (by decide) (fun c6 => ?_) (fun c6 => ?_)
            · have h := h.1 c6
              refine lv_iinc (v := (x4 + (1 : Int32))) (lv' := [(4, .int (x4 + (1 : Int32))), (0, .ref (ad 9 0 0)), (1, .int x1), (2, .int x2), (3, .int x3)]) hx hb dX9_listed_60 hl (k := 4) rfl rfl (by decide) rfl (fun ls hl => ?_)
              refine lv_goto (tgt := 5) hx hb dX9_listed_63 (by decide) ?_
              exact ih h hR hS (lv_sub hl [1, 2, 3, 4, 0] rfl)
            · have h := h.2 c6
              refine lv_iload hx hb dX9_listed_57 (lv_at hl 4 rfl) ?_
              refine lv_istore_n (lv' := [(3, .int x4), (0, .ref (ad 9 0 0)), (1, .int x1), (2, .int x2), (4, .int x4)]) hx hb dX9_listed_59 rfl hl (by decide) rfl (fun ls hl => ?_)
              refine lv_iinc (v := (x4 + (1 : Int32))) (lv' := [(4, .int (x4 + (1 : Int32))), (3, .int x4), (0, .ref (ad 9 0 0)), (1, .int x1), (2, .int x2)]) hx hb dX9_listed_60 hl (k := 4) rfl rfl (by decide) rfl (fun ls hl => ?_)
              refine lv_goto (tgt := 5) hx hb dX9_listed_63 (by decide) ?_
              exact ih h hR hS (lv_sub hl [2, 3, 4, 1, 0] rfl)
def wpb_X9_listed (g : Nat → Nat) (σ : pr_Sg) (a1 : Int32) (a2 : Int32) (Q : Int32 → pr_Sg → Prop) : Prop :=
  (∃ n : Nat, wp_X9_listed_L5 g Q n σ a1 a2 (-1 : Int32) (0 : Int32))
set_option maxHeartbeats 4000000 in
set_option maxRecDepth 100000 in
theorem t_X9_listed {p : Program} {l : Launch} {e : Env} {s : State} {m : MethodId} {args : Array Value} {below : List Frame} {meth : Method} {c : Code} {D : va_G} {cs : Nat → ClassId} {A : Nat → Prop} {ad : pr_Ad} {g : Nat → Nat} {Q : Int32 → pr_Sg → Prop} (C : pr_C RX9 cX9_listed 5 (some .int) D cs p s m args meth c) {H : Heap} {locs : List Loc} {ls : Array Slot} {σ : pr_Sg} {a1 : Int32} {a2 : Int32} (h : wpb_X9_listed g σ a1 a2 Q) (hR : pr_R D cs A ad g σ H) (hS : va_S A s.heap H locs) (hl : lv_has ls 5 [(0, .ref (ad 9 0 0)), (1, .int a1), (2, .int a2)]) : W p l e rm_X9_listed s m args below meth c H locs 0 0 (MQ below (va_Qi Q (pr_E D cs A ad g) A) args s 0 0 A) (F0 m 0 ls []) := by
  unfold wpb_X9_listed at h
  obtain ⟨hx, hb, hml, hown, hts, hK, hr, hlocks⟩ := id C
  refine lv_iconst (v := (-1 : Int32)) hx hb dX9_listed_0 (by decide) ?_
  refine lv_istore_n (lv' := [(3, .int (-1 : Int32)), (0, .ref (ad 9 0 0)), (1, .int a1), (2, .int a2)]) hx hb dX9_listed_1 rfl hl (by decide) rfl (fun ls hl => ?_)
  refine lv_iconst (v := (0 : Int32)) hx hb dX9_listed_2 (by decide) ?_
  refine lv_istore (lv' := [(4, .int (0 : Int32)), (3, .int (-1 : Int32)), (0, .ref (ad 9 0 0)), (1, .int a1), (2, .int a2)]) hx hb dX9_listed_3 hl (by decide) rfl (fun ls hl => ?_)
  obtain ⟨n1, h⟩ := h
  exact t_X9_listed_L5 C n1 h hR hS (lv_sub hl [2, 3, 4, 1, 0] rfl)
abbrev wp_X9_listed (g : Nat → Nat) (σ : pr_Sg) (a1 : Int32) (a2 : Int32) (Q : Int32 → pr_Sg → Prop) : Prop := wpb_X9_listed g σ a1 a2 Q
set_option maxHeartbeats 4000000 in
set_option maxRecDepth 100000 in
theorem c_X9_listed {l : Launch} {D : va_G} {cs : Nat → ClassId} {A : Nat → Prop} {ad : pr_Ad} {g : Nat → Nat} {σ : pr_Sg} {a1 : Int32} {a2 : Int32} {Q : Int32 → pr_Sg → Prop} (h : wp_X9_listed g σ a1 a2 Q) : pr_Mi l D cs A ad g yX9_listed cX9_listed 5 (some .int) rm_X9_listed [.ref (ad 9 0 0), .int a1, .int a2] σ Q := by
  refine Met.ofW (cc := cX9_listed) (maxL := 5) (ret := (some .int)) (by decide) rfl ?_
  intro p e s m args below meth c s₁ B hml hv
  obtain ⟨rfl, hR, hK⟩ := hv
  have C : pr_C RX9 cX9_listed 5 (some .int) D cs p s m [.ref (ad 9 0 0), .int a1, .int a2].toArray meth c := pr_C.of B hml hK
  have hS : va_S A s.heap s.heap [] := va_S.rf
  have hl := lv_entry ([.ref (ad 9 0 0), .int a1, .int a2]) (n := 5) (Nat.le_of_ble_eq_true rfl)
  rw [lg_entry_eq]
  generalize (lg_sl ([.ref (ad 9 0 0), .int a1, .int a2]) ++ List.replicate (5 - (lg_sl ([.ref (ad 9 0 0), .int a1, .int a2])).length) Slot.unset).toArray = ls at hl ⊢
  have hl : lv_has ls 5 [(0, .ref (ad 9 0 0)), (1, .int a1), (2, .int a2)] := hl
  exact t_X9_listed C h hR hS hl
def rm_X9_dry : Room := { frames := 1, cells := 0, slots := 0, locals := 22 }
theorem hd_X9_dry : yX9_dry.cls = RX9 ∧ yX9_dry.cls ≠ "java/lang/invoke/MethodHandle" ∧ yX9_dry.cls ≠ "java/lang/invoke/VarHandle" ∧ (parseMethodDescriptor yX9_dry.desc).map (fun d => d.parameters.length) = some 2 := ⟨rfl, by decide, by decide, by decide +kernel⟩
def wpb_X9_dry (g : Nat → Nat) (σ : pr_Sg) (a1 : Int32) (a2 : Int32) (Q : Int32 → pr_Sg → Prop) : Prop :=
  (wp_X9_in g σ a1 (0 : Int32) (4 : Int32) (fun r1 σ1 =>
  ((r1 = 0 → Q (0 : Int32) σ1) ∧
  (¬ r1 = 0 → (wp_X9_in g σ1 a2 (0 : Int32) (60 : Int32) (fun r3 σ3 =>
  ((¬ r3 = 0 → (vp_in a1 5 ∧ ∀ σ5 : pr_Sg, σ5 = pr_up σ3 1043 0 (a1).toNatClampNeg a2 →
  Q (1 : Int32) σ5)) ∧
  (r3 = 0 → Q (0 : Int32) σ3))))))))
set_option maxHeartbeats 4000000 in
set_option maxRecDepth 100000 in
theorem t_X9_dry {p : Program} {l : Launch} {e : Env} {s : State} {m : MethodId} {args : Array Value} {below : List Frame} {meth : Method} {c : Code} {D : va_G} {cs : Nat → ClassId} {A : Nat → Prop} {ad : pr_Ad} {g : Nat → Nat} {Q : Int32 → pr_Sg → Prop} (C : pr_C RX9 cX9_dry 3 (some .boolean) D cs p s m args meth c) {H : Heap} {locs : List Loc} {ls : Array Slot} {σ : pr_Sg} {a1 : Int32} {a2 : Int32} (h : wpb_X9_dry g σ a1 a2 Q) (hR : pr_R D cs A ad g σ H) (hS : va_S A s.heap H locs) (hl : lv_has ls 3 [(0, .ref (ad 9 0 0)), (1, .int a1), (2, .int a2)]) : W p l e rm_X9_dry s m args below meth c H locs 0 0 (MQ below (va_Qi (pr_Qz Q) (pr_E D cs A ad g) A) args s 0 0 A) (F0 m 0 ls []) := by
  unfold wpb_X9_dry at h
  obtain ⟨hx, hb, hml, hown, hts, hK, hr, hlocks⟩ := id C
  refine lv_iload_n hx hb dX9_dry_0 rfl (lv_at hl 1 rfl) ?_
  refine lv_iconst (v := (0 : Int32)) hx hb dX9_dry_1 (by decide) ?_
  refine lv_iconst (v := (4 : Int32)) hx hb dX9_dry_2 (by decide) ?_
  refine pr_calli hS (pr_runS (As := [.int a1, .int (0 : Int32), .int (4 : Int32)]) (rest := []) C hR (c_X9_in h) gw_RX9_113 rfl rfl hs_X9_in ⟨Nat.le_of_ble_eq_true rfl, Nat.le_of_ble_eq_true rfl⟩ rfl hl.1 rfl (Nat.le_of_ble_eq_true rfl) dX9_dry_3 ⟨Nat.zero_le _, Nat.zero_le _⟩) (fun r1 σ1 H locs h hR hS => ?_)
  obtain ⟨hz1, h⟩ := h
  refine lv_if_eq (tgt := 19) hx hb dX9_dry_6 (by decide) (fun c2 => ?_) (fun c2 => ?_)
  · have h := h.1 c2
    refine lv_iconst (v := (0 : Int32)) hx hb dX9_dry_19 (by decide) ?_
    exact pr_retz C (Or.inl rfl) h hR hS dX9_dry_20
  · have h := h.2 c2
    refine lv_iload_n hx hb dX9_dry_9 rfl (lv_at hl 2 rfl) ?_
    refine lv_iconst (v := (0 : Int32)) hx hb dX9_dry_10 (by decide) ?_
    refine lv_bipush (v := (60 : Int32)) hx hb dX9_dry_11 (by decide) ?_
    refine pr_calli hS (pr_runS (As := [.int a2, .int (0 : Int32), .int (60 : Int32)]) (rest := []) C hR (c_X9_in h) gw_RX9_113 rfl rfl hs_X9_in ⟨Nat.le_of_ble_eq_true rfl, Nat.le_of_ble_eq_true rfl⟩ rfl hl.1 rfl (Nat.le_of_ble_eq_true rfl) dX9_dry_13 ⟨Nat.zero_le _, Nat.zero_le _⟩) (fun r3 σ3 H locs h hR hS => ?_)
    obtain ⟨hz3, h⟩ := h
    refine lv_if_ne (tgt := 21) hx hb dX9_dry_16 (by decide) (fun c4 => ?_) (fun c4 => ?_)
    · have h := h.1 c4
      refine lv_aload_n hx hb dX9_dry_21 rfl (lv_at hl 0 rfl) ?_
      refine gf_RX9_19 C hR pr_l9 dX9_dry_22 ?_
      refine lv_iload_n hx hb dX9_dry_25 rfl (lv_at hl 1 rfl) ?_
      refine lv_iload_n hx hb dX9_dry_26 rfl (lv_at hl 2 rfl) ?_
      refine pr_ast hx hb hK hR hS pr_l43 (by omega) (by omega) (n := 5) (by decide) h.1 dX9_dry_27 (t := 1043) rfl (fun H locs σ5 e5 hR hS => ?_)
      have h := h.2 σ5 e5
      refine lv_iconst (v := (1 : Int32)) hx hb dX9_dry_28 (by decide) ?_
      exact pr_retz C (Or.inr rfl) h hR hS dX9_dry_29
    · have h := h.2 c4
      refine lv_iconst (v := (0 : Int32)) hx hb dX9_dry_19 (by decide) ?_
      exact pr_retz C (Or.inl rfl) h hR hS dX9_dry_20
abbrev wp_X9_dry (g : Nat → Nat) (σ : pr_Sg) (a1 : Int32) (a2 : Int32) (Q : Int32 → pr_Sg → Prop) : Prop := wpb_X9_dry g σ a1 a2 Q
set_option maxHeartbeats 4000000 in
set_option maxRecDepth 100000 in
theorem c_X9_dry {l : Launch} {D : va_G} {cs : Nat → ClassId} {A : Nat → Prop} {ad : pr_Ad} {g : Nat → Nat} {σ : pr_Sg} {a1 : Int32} {a2 : Int32} {Q : Int32 → pr_Sg → Prop} (h : wp_X9_dry g σ a1 a2 Q) : pr_Mi l D cs A ad g yX9_dry cX9_dry 3 (some .boolean) rm_X9_dry [.ref (ad 9 0 0), .int a1, .int a2] σ (pr_Qz Q) := by
  refine Met.ofW (cc := cX9_dry) (maxL := 3) (ret := (some .boolean)) (by decide) rfl ?_
  intro p e s m args below meth c s₁ B hml hv
  obtain ⟨rfl, hR, hK⟩ := hv
  have C : pr_C RX9 cX9_dry 3 (some .boolean) D cs p s m [.ref (ad 9 0 0), .int a1, .int a2].toArray meth c := pr_C.of B hml hK
  have hS : va_S A s.heap s.heap [] := va_S.rf
  have hl := lv_entry ([.ref (ad 9 0 0), .int a1, .int a2]) (n := 3) (Nat.le_of_ble_eq_true rfl)
  rw [lg_entry_eq]
  generalize (lg_sl ([.ref (ad 9 0 0), .int a1, .int a2]) ++ List.replicate (3 - (lg_sl ([.ref (ad 9 0 0), .int a1, .int a2])).length) Slot.unset).toArray = ls at hl ⊢
  have hl : lv_has ls 3 [(0, .ref (ad 9 0 0)), (1, .int a1), (2, .int a2)] := hl
  exact t_X9_dry C h hR hS hl
def rm_X9_hand : Room := { frames := 0, cells := 0, slots := 0, locals := 0 }
theorem hd_X9_hand : yX9_hand.cls = RX9 ∧ yX9_hand.cls ≠ "java/lang/invoke/MethodHandle" ∧ yX9_hand.cls ≠ "java/lang/invoke/VarHandle" ∧ (parseMethodDescriptor yX9_hand.desc).map (fun d => d.parameters.length) = some 0 := ⟨rfl, by decide, by decide, by decide +kernel⟩
def wpb_X9_hand (g : Nat → Nat) (σ : pr_Sg) (Q : Int32 → pr_Sg → Prop) : Prop :=
  ((¬ (σ 585 0 0) = (7 : Int32) → (∀ σ2 : pr_Sg, σ2 = pr_up σ 585 0 0 ((σ 585 0 0) + (1 : Int32)) →
  Q ((σ2 585 0 0) - (1 : Int32)) σ2)) ∧
  ((σ 585 0 0) = (7 : Int32) → Q (-1 : Int32) σ))
set_option maxHeartbeats 4000000 in
set_option maxRecDepth 100000 in
theorem t_X9_hand {p : Program} {l : Launch} {e : Env} {s : State} {m : MethodId} {args : Array Value} {below : List Frame} {meth : Method} {c : Code} {D : va_G} {cs : Nat → ClassId} {A : Nat → Prop} {ad : pr_Ad} {g : Nat → Nat} {Q : Int32 → pr_Sg → Prop} (C : pr_C RX9 cX9_hand 1 (some .int) D cs p s m args meth c) {H : Heap} {locs : List Loc} {ls : Array Slot} {σ : pr_Sg} (h : wpb_X9_hand g σ Q) (hR : pr_R D cs A ad g σ H) (hS : va_S A s.heap H locs) (hl : lv_has ls 1 [(0, .ref (ad 9 0 0))]) : W p l e rm_X9_hand s m args below meth c H locs 0 0 (MQ below (va_Qi Q (pr_E D cs A ad g) A) args s 0 0 A) (F0 m 0 ls []) := by
  unfold wpb_X9_hand at h
  obtain ⟨hx, hb, hml, hown, hts, hK, hr, hlocks⟩ := id C
  refine lv_aload_n hx hb dX9_hand_0 rfl (lv_at hl 0 rfl) ?_
  refine gf_RX9_31 C hR pr_l9 dX9_hand_1 ?_
  refine lv_bipush (v := (7 : Int32)) hx hb dX9_hand_4 (by decide) ?_
  refine lv_icmp_ne (tgt := 11) hx hb dX9_hand_6 (by decide) (fun c1 => ?_) (fun c1 => ?_)
  · have h := h.1 c1
    refine lv_aload_n hx hb dX9_hand_11 rfl (lv_at hl 0 rfl) ?_
    refine lv_dup hx hb dX9_hand_12 rfl ?_
    refine gf_RX9_31 C hR pr_l9 dX9_hand_13 ?_
    refine lv_iconst (v := (1 : Int32)) hx hb dX9_hand_16 (by decide) ?_
    refine lv_iadd hx hb dX9_hand_17 ?_
    refine pf_RX9_31 C hR hS pr_l9 dX9_hand_18 (fun H locs σ2 e2 hR hS => ?_)
    have h := h σ2 e2
    refine lv_aload_n hx hb dX9_hand_21 rfl (lv_at hl 0 rfl) ?_
    refine gf_RX9_31 C hR pr_l9 dX9_hand_22 ?_
    refine lv_iconst (v := (1 : Int32)) hx hb dX9_hand_25 (by decide) ?_
    refine lv_isub hx hb dX9_hand_26 ?_
    exact pr_reti C h hR hS dX9_hand_27
  · have h := h.2 c1
    refine lv_iconst (v := (-1 : Int32)) hx hb dX9_hand_9 (by decide) ?_
    exact pr_reti C h hR hS dX9_hand_10
abbrev wp_X9_hand (g : Nat → Nat) (σ : pr_Sg) (Q : Int32 → pr_Sg → Prop) : Prop := wpb_X9_hand g σ Q
set_option maxHeartbeats 4000000 in
set_option maxRecDepth 100000 in
theorem c_X9_hand {l : Launch} {D : va_G} {cs : Nat → ClassId} {A : Nat → Prop} {ad : pr_Ad} {g : Nat → Nat} {σ : pr_Sg} {Q : Int32 → pr_Sg → Prop} (h : wp_X9_hand g σ Q) : pr_Mi l D cs A ad g yX9_hand cX9_hand 1 (some .int) rm_X9_hand [.ref (ad 9 0 0)] σ Q := by
  refine Met.ofW (cc := cX9_hand) (maxL := 1) (ret := (some .int)) (by decide) rfl ?_
  intro p e s m args below meth c s₁ B hml hv
  obtain ⟨rfl, hR, hK⟩ := hv
  have C : pr_C RX9 cX9_hand 1 (some .int) D cs p s m [.ref (ad 9 0 0)].toArray meth c := pr_C.of B hml hK
  have hS : va_S A s.heap s.heap [] := va_S.rf
  have hl := lv_entry ([.ref (ad 9 0 0)]) (n := 1) (Nat.le_of_ble_eq_true rfl)
  rw [lg_entry_eq]
  generalize (lg_sl ([.ref (ad 9 0 0)]) ++ List.replicate (1 - (lg_sl ([.ref (ad 9 0 0)])).length) Slot.unset).toArray = ls at hl ⊢
  have hl : lv_has ls 1 [(0, .ref (ad 9 0 0))] := hl
  exact t_X9_hand C h hR hS hl
def rm_X9_sitter : Room := { frames := 1, cells := 0, slots := 0, locals := 22 }
theorem hd_X9_sitter : yX9_sitter.cls = RX9 ∧ yX9_sitter.cls ≠ "java/lang/invoke/MethodHandle" ∧ yX9_sitter.cls ≠ "java/lang/invoke/VarHandle" ∧ (parseMethodDescriptor yX9_sitter.desc).map (fun d => d.parameters.length) = some 2 := ⟨rfl, by decide, by decide, by decide +kernel⟩
def wpb_X9_sitter (g : Nat → Nat) (σ : pr_Sg) (a1 : Int32) (a2 : Int32) (Q : Int32 → pr_Sg → Prop) : Prop :=
  (wp_X9_in g σ a1 (0 : Int32) (5 : Int32) (fun r1 σ1 =>
  ((r1 = 0 → Q (-1 : Int32) σ1) ∧
  (¬ r1 = 0 → (wp_X9_in g σ1 a2 a1 (5 : Int32) (fun r3 σ3 =>
  ((r3 = 0 → Q (-1 : Int32) σ3) ∧
  (¬ r3 = 0 → ((¬ (σ3 589 0 0) = (20 : Int32) → (vp_in (σ3 589 0 0) 20 ∧ ∀ σ6 : pr_Sg, σ6 = pr_up σ3 1047 0 ((σ3 589 0 0)).toNatClampNeg a1 →
  (vp_in (σ6 589 0 0) 20 ∧ ∀ σ7 : pr_Sg, σ7 = pr_up σ6 1048 0 ((σ6 589 0 0)).toNatClampNeg a2 →
  (∀ σ8 : pr_Sg, σ8 = pr_up σ7 589 0 0 ((σ7 589 0 0) + (1 : Int32)) →
  Q ((σ8 589 0 0) - (1 : Int32)) σ8)))) ∧
  ((σ3 589 0 0) = (20 : Int32) → Q (-1 : Int32) σ3))))))))))
set_option maxHeartbeats 4000000 in
set_option maxRecDepth 100000 in
theorem t_X9_sitter {p : Program} {l : Launch} {e : Env} {s : State} {m : MethodId} {args : Array Value} {below : List Frame} {meth : Method} {c : Code} {D : va_G} {cs : Nat → ClassId} {A : Nat → Prop} {ad : pr_Ad} {g : Nat → Nat} {Q : Int32 → pr_Sg → Prop} (C : pr_C RX9 cX9_sitter 3 (some .int) D cs p s m args meth c) {H : Heap} {locs : List Loc} {ls : Array Slot} {σ : pr_Sg} {a1 : Int32} {a2 : Int32} (h : wpb_X9_sitter g σ a1 a2 Q) (hR : pr_R D cs A ad g σ H) (hS : va_S A s.heap H locs) (hl : lv_has ls 3 [(0, .ref (ad 9 0 0)), (1, .int a1), (2, .int a2)]) : W p l e rm_X9_sitter s m args below meth c H locs 0 0 (MQ below (va_Qi Q (pr_E D cs A ad g) A) args s 0 0 A) (F0 m 0 ls []) := by
  unfold wpb_X9_sitter at h
  obtain ⟨hx, hb, hml, hown, hts, hK, hr, hlocks⟩ := id C
  refine lv_iload_n hx hb dX9_sitter_0 rfl (lv_at hl 1 rfl) ?_
  refine lv_iconst (v := (0 : Int32)) hx hb dX9_sitter_1 (by decide) ?_
  refine lv_iconst (v := (5 : Int32)) hx hb dX9_sitter_2 (by decide) ?_
  refine pr_calli hS (pr_runS (As := [.int a1, .int (0 : Int32), .int (5 : Int32)]) (rest := []) C hR (c_X9_in h) gw_RX9_113 rfl rfl hs_X9_in ⟨Nat.le_of_ble_eq_true rfl, Nat.le_of_ble_eq_true rfl⟩ rfl hl.1 rfl (Nat.le_of_ble_eq_true rfl) dX9_sitter_3 ⟨Nat.zero_le _, Nat.zero_le _⟩) (fun r1 σ1 H locs h hR hS => ?_)
  obtain ⟨hz1, h⟩ := h
  refine lv_if_eq (tgt := 27) hx hb dX9_sitter_6 (by decide) (fun c2 => ?_) (fun c2 => ?_)
  · have h := h.1 c2
    refine lv_iconst (v := (-1 : Int32)) hx hb dX9_sitter_27 (by decide) ?_
    exact pr_reti C h hR hS dX9_sitter_28
  · have h := h.2 c2
    refine lv_iload_n hx hb dX9_sitter_9 rfl (lv_at hl 2 rfl) ?_
    refine lv_iload_n hx hb dX9_sitter_10 rfl (lv_at hl 1 rfl) ?_
    refine lv_iconst (v := (5 : Int32)) hx hb dX9_sitter_11 (by decide) ?_
    refine pr_calli hS (pr_runS (As := [.int a2, .int a1, .int (5 : Int32)]) (rest := []) C hR (c_X9_in h) gw_RX9_113 rfl rfl hs_X9_in ⟨Nat.le_of_ble_eq_true rfl, Nat.le_of_ble_eq_true rfl⟩ rfl hl.1 rfl (Nat.le_of_ble_eq_true rfl) dX9_sitter_12 ⟨Nat.zero_le _, Nat.zero_le _⟩) (fun r3 σ3 H locs h hR hS => ?_)
    obtain ⟨hz3, h⟩ := h
    refine lv_if_eq (tgt := 27) hx hb dX9_sitter_15 (by decide) (fun c4 => ?_) (fun c4 => ?_)
    · have h := h.1 c4
      refine lv_iconst (v := (-1 : Int32)) hx hb dX9_sitter_27 (by decide) ?_
      exact pr_reti C h hR hS dX9_sitter_28
    · have h := h.2 c4
      refine lv_aload_n hx hb dX9_sitter_18 rfl (lv_at hl 0 rfl) ?_
      refine gf_RX9_117 C hR pr_l9 dX9_sitter_19 ?_
      refine lv_bipush (v := (20 : Int32)) hx hb dX9_sitter_22 (by decide) ?_
      refine lv_icmp_ne (tgt := 29) hx hb dX9_sitter_24 (by decide) (fun c5 => ?_) (fun c5 => ?_)
      · have h := h.1 c5
        refine lv_aload_n hx hb dX9_sitter_29 rfl (lv_at hl 0 rfl) ?_
        refine gf_RX9_35 C hR pr_l9 dX9_sitter_30 ?_
        refine lv_aload_n hx hb dX9_sitter_33 rfl (lv_at hl 0 rfl) ?_
        refine gf_RX9_117 C hR pr_l9 dX9_sitter_34 ?_
        refine lv_iload_n hx hb dX9_sitter_37 rfl (lv_at hl 1 rfl) ?_
        refine pr_ast hx hb hK hR hS pr_l47 (by omega) (by omega) (n := 20) (by decide) h.1 dX9_sitter_38 (t := 1047) rfl (fun H locs σ6 e6 hR hS => ?_)
        have h := h.2 σ6 e6
        refine lv_aload_n hx hb dX9_sitter_39 rfl (lv_at hl 0 rfl) ?_
        refine gf_RX9_38 C hR pr_l9 dX9_sitter_40 ?_
        refine lv_aload_n hx hb dX9_sitter_43 rfl (lv_at hl 0 rfl) ?_
        refine gf_RX9_117 C hR pr_l9 dX9_sitter_44 ?_
        refine lv_iload_n hx hb dX9_sitter_47 rfl (lv_at hl 2 rfl) ?_
        refine pr_ast hx hb hK hR hS pr_l48 (by omega) (by omega) (n := 20) (by decide) h.1 dX9_sitter_48 (t := 1048) rfl (fun H locs σ7 e7 hR hS => ?_)
        have h := h.2 σ7 e7
        refine lv_aload_n hx hb dX9_sitter_49 rfl (lv_at hl 0 rfl) ?_
        refine lv_dup hx hb dX9_sitter_50 rfl ?_
        refine gf_RX9_117 C hR pr_l9 dX9_sitter_51 ?_
        refine lv_iconst (v := (1 : Int32)) hx hb dX9_sitter_54 (by decide) ?_
        refine lv_iadd hx hb dX9_sitter_55 ?_
        refine pf_RX9_117 C hR hS pr_l9 dX9_sitter_56 (fun H locs σ8 e8 hR hS => ?_)
        have h := h σ8 e8
        refine lv_aload_n hx hb dX9_sitter_59 rfl (lv_at hl 0 rfl) ?_
        refine gf_RX9_117 C hR pr_l9 dX9_sitter_60 ?_
        refine lv_iconst (v := (1 : Int32)) hx hb dX9_sitter_63 (by decide) ?_
        refine lv_isub hx hb dX9_sitter_64 ?_
        exact pr_reti C h hR hS dX9_sitter_65
      · have h := h.2 c5
        refine lv_iconst (v := (-1 : Int32)) hx hb dX9_sitter_27 (by decide) ?_
        exact pr_reti C h hR hS dX9_sitter_28
abbrev wp_X9_sitter (g : Nat → Nat) (σ : pr_Sg) (a1 : Int32) (a2 : Int32) (Q : Int32 → pr_Sg → Prop) : Prop := wpb_X9_sitter g σ a1 a2 Q
set_option maxHeartbeats 4000000 in
set_option maxRecDepth 100000 in
theorem c_X9_sitter {l : Launch} {D : va_G} {cs : Nat → ClassId} {A : Nat → Prop} {ad : pr_Ad} {g : Nat → Nat} {σ : pr_Sg} {a1 : Int32} {a2 : Int32} {Q : Int32 → pr_Sg → Prop} (h : wp_X9_sitter g σ a1 a2 Q) : pr_Mi l D cs A ad g yX9_sitter cX9_sitter 3 (some .int) rm_X9_sitter [.ref (ad 9 0 0), .int a1, .int a2] σ Q := by
  refine Met.ofW (cc := cX9_sitter) (maxL := 3) (ret := (some .int)) (by decide) rfl ?_
  intro p e s m args below meth c s₁ B hml hv
  obtain ⟨rfl, hR, hK⟩ := hv
  have C : pr_C RX9 cX9_sitter 3 (some .int) D cs p s m [.ref (ad 9 0 0), .int a1, .int a2].toArray meth c := pr_C.of B hml hK
  have hS : va_S A s.heap s.heap [] := va_S.rf
  have hl := lv_entry ([.ref (ad 9 0 0), .int a1, .int a2]) (n := 3) (Nat.le_of_ble_eq_true rfl)
  rw [lg_entry_eq]
  generalize (lg_sl ([.ref (ad 9 0 0), .int a1, .int a2]) ++ List.replicate (3 - (lg_sl ([.ref (ad 9 0 0), .int a1, .int a2])).length) Slot.unset).toArray = ls at hl ⊢
  have hl : lv_has ls 3 [(0, .ref (ad 9 0 0)), (1, .int a1), (2, .int a2)] := hl
  exact t_X9_sitter C h hR hS hl
def rm_X9_picture : Room := { frames := 2, cells := 0, slots := 0, locals := 43 }
theorem hd_X9_picture : yX9_picture.cls = RX9 ∧ yX9_picture.cls ≠ "java/lang/invoke/MethodHandle" ∧ yX9_picture.cls ≠ "java/lang/invoke/VarHandle" ∧ (parseMethodDescriptor yX9_picture.desc).map (fun d => d.parameters.length) = some 4 := ⟨rfl, by decide, by decide, by decide +kernel⟩
def wp_X9_picture_L175 (g : Nat → Nat) (Q : Int32 → pr_Sg → Prop) : Nat → pr_Sg → Int32 → Int32 → Int32 → Int32 → Prop
  | 0, _, _, _, _, _ => False
  | n + 1, σ, x1, x2, x7, x8 => (((5 : Int32) ≤ x8 → (wp_X9_listed g σ x2 ((σ 576 0 0) / (365 : Int32)) (fun r18 σ18 =>
  (vp_in x7 40 ∧ ∀ σ19 : pr_Sg, σ19 = pr_up σ18 1051 0 (x7).toNatClampNeg r18 →
  (vp_in x7 40 ∧ (∀ σ20 : pr_Sg, σ20 = pr_up σ19 612 0 0 ((σ19 612 0 0) + (σ19 1051 0 (x7).toNatClampNeg)) →
  (vp_in x1 20 ∧ (vp_in x7 40 ∧ (vp_in x1 20 ∧ ∀ σ21 : pr_Sg, σ21 = pr_up σ20 1049 0 (x1).toNatClampNeg ((σ20 1049 0 (x1).toNatClampNeg) + ((σ20 1051 0 (x7).toNatClampNeg) / (2 : Int32))) →
  (∀ σ22 : pr_Sg, σ22 = pr_up σ21 601 0 0 ((σ21 601 0 0) + (1 : Int32)) →
  Q x7 σ22)))))))))) ∧
  (¬ (5 : Int32) ≤ x8 → (vp_in x7 40 ∧ (vp_in x8 5 ∧ ∀ σ24 : pr_Sg, σ24 = pr_up σ 1066 (x7).toNatClampNeg (x8).toNatClampNeg (-1 : Int32) →
  (vp_in x7 40 ∧ (vp_in x8 5 ∧ ∀ σ26 : pr_Sg, σ26 = pr_up σ24 1067 (x7).toNatClampNeg (x8).toNatClampNeg (-1 : Int32) →
  (vp_in x7 40 ∧ (vp_in x8 5 ∧ ∀ σ28 : pr_Sg, σ28 = pr_up σ26 1068 (x7).toNatClampNeg (x8).toNatClampNeg (-1 : Int32) →
  wp_X9_picture_L175 g Q n σ28 x1 x2 x7 (x8 + (1 : Int32))))))))))
set_option maxHeartbeats 4000000 in
set_option maxRecDepth 100000 in
theorem t_X9_picture_L175 {p : Program} {l : Launch} {e : Env} {s : State} {m : MethodId} {args : Array Value} {below : List Frame} {meth : Method} {c : Code} {D : va_G} {cs : Nat → ClassId} {A : Nat → Prop} {ad : pr_Ad} {g : Nat → Nat} {Q : Int32 → pr_Sg → Prop} (C : pr_C RX9 cX9_picture 9 (some .int) D cs p s m args meth c) (n : Nat) : ∀ {H : Heap} {locs : List Loc} {ls : Array Slot} {σ : pr_Sg} {x1 : Int32} {x2 : Int32} {x7 : Int32} {x8 : Int32} (_ : wp_X9_picture_L175 g Q n σ x1 x2 x7 x8) (_ : pr_R D cs A ad g σ H) (_ : va_S A s.heap H locs) (_ : lv_has ls 9 [(0, .ref (ad 9 0 0)), (1, .int x1), (2, .int x2), (7, .int x7), (8, .int x8)]), W p l e rm_X9_picture s m args below meth c H locs 0 0 (MQ below (va_Qi Q (pr_E D cs A ad g) A) args s 0 0 A) (F0 m 175 ls []) := by
  induction n with
  | zero =>
    intro H locs ls σ x1 x2 x7 x8 h
    exact False.elim h
  | succ n ih =>
    intro H locs ls σ x1 x2 x7 x8 h hR hS hl
    unfold wp_X9_picture_L175 at h
    obtain ⟨hx, hb, hml, hown, hts, hK, hr, hlocks⟩ := id C
    refine lv_iload hx hb dX9_picture_175 (lv_at hl 4 rfl) ?_
    refine lv_iconst (v := (5 : Int32)) hx hb dX9_picture_177 (by decide) ?_
    refine lv_icmp_ge (tgt := 220) hx hb dX9_picture_178 (by decide) (fun c17 => ?_) (fun c17 => ?_)
    · have h := h.1 c17
      refine lv_aload_n hx hb dX9_picture_220 rfl (lv_at hl 0 rfl) ?_
      refine gf_RX9_47 C hR pr_l9 dX9_picture_221 ?_
      refine lv_iload hx hb dX9_picture_224 (lv_at hl 3 rfl) ?_
      refine lv_aload_n hx hb dX9_picture_226 rfl (lv_at hl 0 rfl) ?_
      refine lv_iload_n hx hb dX9_picture_227 rfl (lv_at hl 2 rfl) ?_
      refine lv_aload_n hx hb dX9_picture_228 rfl (lv_at hl 0 rfl) ?_
      refine gf_RX9_128 C hR pr_l9 dX9_picture_229 ?_
      refine lv_sipush (v := (365 : Int32)) hx hb dX9_picture_232 (by decide) ?_
      refine lv_idiv hx hb dX9_picture_235 (by decide) ?_
      refine pr_calli hS (pr_runV (As := [.int x2, .int ((σ 576 0 0) / (365 : Int32))]) (rest := [.int x7, .ref (ad 51 0 0)]) C hR pr_l9 (by omega) rfl (c_X9_listed h) gw_RX9_131 rfl rfl hd_X9_listed ⟨Nat.le_of_ble_eq_true rfl, Nat.le_of_ble_eq_true rfl⟩ rfl hl.1 rfl (Nat.le_of_ble_eq_true rfl) dX9_picture_236 ⟨Nat.zero_le _, Nat.zero_le _⟩) (fun r18 σ18 H locs h hR hS => ?_)
      refine pr_ast hx hb hK hR hS pr_l51 (by omega) (by omega) (n := 40) (by decide) h.1 dX9_picture_239 (t := 1051) rfl (fun H locs σ19 e19 hR hS => ?_)
      have h := h.2 σ19 e19
      refine lv_aload_n hx hb dX9_picture_240 rfl (lv_at hl 0 rfl) ?_
      refine lv_dup hx hb dX9_picture_241 rfl ?_
      refine gf_RX9_135 C hR pr_l9 dX9_picture_242 ?_
      refine lv_aload_n hx hb dX9_picture_245 rfl (lv_at hl 0 rfl) ?_
      refine gf_RX9_47 C hR pr_l9 dX9_picture_246 ?_
      refine lv_iload hx hb dX9_picture_249 (lv_at hl 3 rfl) ?_
      refine pr_ald hx hb hK hR pr_l51 (by omega) (by omega) (n := 40) (by decide) h.1 dX9_picture_251 (t := 1051) rfl ?_
      have h := h.2
      refine lv_iadd hx hb dX9_picture_252 ?_
      refine pf_RX9_135 C hR hS pr_l9 dX9_picture_253 (fun H locs σ20 e20 hR hS => ?_)
      have h := h σ20 e20
      refine lv_aload_n hx hb dX9_picture_256 rfl (lv_at hl 0 rfl) ?_
      refine gf_RX9_41 C hR pr_l9 dX9_picture_257 ?_
      refine lv_iload_n hx hb dX9_picture_260 rfl (lv_at hl 1 rfl) ?_
      refine lv_dup2_11 hx hb dX9_picture_261 rfl rfl ?_
      refine pr_ald hx hb hK hR pr_l49 (by omega) (by omega) (n := 20) (by decide) h.1 dX9_picture_262 (t := 1049) rfl ?_
      have h := h.2
      refine lv_aload_n hx hb dX9_picture_263 rfl (lv_at hl 0 rfl) ?_
      refine gf_RX9_47 C hR pr_l9 dX9_picture_264 ?_
      refine lv_iload hx hb dX9_picture_267 (lv_at hl 3 rfl) ?_
      refine pr_ald hx hb hK hR pr_l51 (by omega) (by omega) (n := 40) (by decide) h.1 dX9_picture_269 (t := 1051) rfl ?_
      have h := h.2
      refine lv_iconst (v := (2 : Int32)) hx hb dX9_picture_270 (by decide) ?_
      refine lv_idiv hx hb dX9_picture_271 (by decide) ?_
      refine lv_iadd hx hb dX9_picture_272 ?_
      refine pr_ast hx hb hK hR hS pr_l49 (by omega) (by omega) (n := 20) (by decide) h.1 dX9_picture_273 (t := 1049) rfl (fun H locs σ21 e21 hR hS => ?_)
      have h := h.2 σ21 e21
      refine lv_aload_n hx hb dX9_picture_274 rfl (lv_at hl 0 rfl) ?_
      refine lv_dup hx hb dX9_picture_275 rfl ?_
      refine gf_RX9_110 C hR pr_l9 dX9_picture_276 ?_
      refine lv_iconst (v := (1 : Int32)) hx hb dX9_picture_279 (by decide) ?_
      refine lv_iadd hx hb dX9_picture_280 ?_
      refine pf_RX9_110 C hR hS pr_l9 dX9_picture_281 (fun H locs σ22 e22 hR hS => ?_)
      have h := h σ22 e22
      refine lv_iload hx hb dX9_picture_284 (lv_at hl 3 rfl) ?_
      exact pr_reti C h hR hS dX9_picture_286
    · have h := h.2 c17
      refine lv_aload_n hx hb dX9_picture_181 rfl (lv_at hl 0 rfl) ?_
      refine gf_RX9_70 C hR pr_l9 dX9_picture_182 ?_
      refine lv_iload hx hb dX9_picture_185 (lv_at hl 3 rfl) ?_
      refine pr_ldg hx hb hK hR 86 (by omega) (kd := 66) rfl h.1 dX9_picture_187 (fun hv23 => ?_)
      have h := h.2
      refine lv_iload hx hb dX9_picture_188 (lv_at hl 4 rfl) ?_
      refine lv_iconst (v := (-1 : Int32)) hx hb dX9_picture_190 (by decide) ?_
      refine pr_ast hx hb hK hR hS hv23 (by omega) (by omega) (n := 5) (by decide) h.1 dX9_picture_191 (t := 1066) rfl (fun H locs σ24 e24 hR hS => ?_)
      have h := h.2 σ24 e24
      refine lv_aload_n hx hb dX9_picture_192 rfl (lv_at hl 0 rfl) ?_
      refine gf_RX9_73 C hR pr_l9 dX9_picture_193 ?_
      refine lv_iload hx hb dX9_picture_196 (lv_at hl 3 rfl) ?_
      refine pr_ldg hx hb hK hR 87 (by omega) (kd := 67) rfl h.1 dX9_picture_198 (fun hv25 => ?_)
      have h := h.2
      refine lv_iload hx hb dX9_picture_199 (lv_at hl 4 rfl) ?_
      refine lv_iconst (v := (-1 : Int32)) hx hb dX9_picture_201 (by decide) ?_
      refine pr_ast hx hb hK hR hS hv25 (by omega) (by omega) (n := 5) (by decide) h.1 dX9_picture_202 (t := 1067) rfl (fun H locs σ26 e26 hR hS => ?_)
      have h := h.2 σ26 e26
      refine lv_aload_n hx hb dX9_picture_203 rfl (lv_at hl 0 rfl) ?_
      refine gf_RX9_76 C hR pr_l9 dX9_picture_204 ?_
      refine lv_iload hx hb dX9_picture_207 (lv_at hl 3 rfl) ?_
      refine pr_ldg hx hb hK hR 88 (by omega) (kd := 68) rfl h.1 dX9_picture_209 (fun hv27 => ?_)
      have h := h.2
      refine lv_iload hx hb dX9_picture_210 (lv_at hl 4 rfl) ?_
      refine lv_iconst (v := (-1 : Int32)) hx hb dX9_picture_212 (by decide) ?_
      refine pr_ast hx hb hK hR hS hv27 (by omega) (by omega) (n := 5) (by decide) h.1 dX9_picture_213 (t := 1068) rfl (fun H locs σ28 e28 hR hS => ?_)
      have h := h.2 σ28 e28
      refine lv_iinc (v := (x8 + (1 : Int32))) (lv' := [(8, .int (x8 + (1 : Int32))), (0, .ref (ad 9 0 0)), (1, .int x1), (2, .int x2), (7, .int x7)]) hx hb dX9_picture_214 hl (k := 4) rfl rfl (by decide) rfl (fun ls hl => ?_)
      refine lv_goto (tgt := 175) hx hb dX9_picture_217 (by decide) ?_
      exact ih h hR hS (lv_sub hl [1, 2, 3, 4, 0] rfl)
def wp_X9_picture_L59 (g : Nat → Nat) (Q : Int32 → pr_Sg → Prop) : Nat → pr_Sg → Int32 → Int32 → Int32 → Int32 → Int32 → Int32 → Prop
  | 0, _, _, _, _, _, _, _ => False
  | n + 1, σ, x1, x2, x4, x5, x6, x7 => ((x7 < 0 → ((¬ x6 = 0 → (vp_in (σ 601 0 0) 40 ∧ ∀ σ12 : pr_Sg, σ12 = pr_up σ 1050 0 ((σ 601 0 0)).toNatClampNeg x1 →
  (vp_in (σ 601 0 0) 40 ∧ ∀ σ13 : pr_Sg, σ13 = pr_up σ12 1054 0 ((σ 601 0 0)).toNatClampNeg x4 →
  (vp_in (σ 601 0 0) 40 ∧ ∀ σ14 : pr_Sg, σ14 = pr_up σ13 1052 0 ((σ 601 0 0)).toNatClampNeg (σ13 576 0 0) →
  (vp_in (σ 601 0 0) 40 ∧ ∀ σ15 : pr_Sg, σ15 = pr_up σ14 1053 0 ((σ 601 0 0)).toNatClampNeg (-1 : Int32) →
  (vp_in (σ 601 0 0) 40 ∧ ∀ σ16 : pr_Sg, σ16 = pr_up σ15 1055 0 ((σ 601 0 0)).toNatClampNeg (-1 : Int32) →
  (∃ n : Nat, wp_X9_picture_L175 g Q n σ16 x1 x2 (σ 601 0 0) (0 : Int32)))))))) ∧
  (x6 = 0 → Q (-1 : Int32) σ))) ∧
  (¬ x7 < 0 → ((x6 = 0 → (vp_in (σ 601 0 0) 40 ∧ (vp_in x7 5 ∧ ∀ σ31 : pr_Sg, σ31 = pr_up σ 1064 ((σ 601 0 0)).toNatClampNeg (x7).toNatClampNeg (x5 - x5 / (10 : Int32) * (10 : Int32)) →
  wp_X9_picture_L59 g Q n σ31 x1 x2 x4 (x5 / (10 : Int32)) (0 : Int32) (x7 + (-1 : Int32))))) ∧
  (¬ x6 = 0 → (((3 : Int32) < (x5 - x5 / (10 : Int32) * (10 : Int32)) → (vp_in (σ 601 0 0) 40 ∧ (vp_in x7 5 ∧ ∀ σ34 : pr_Sg, σ34 = pr_up σ 1064 ((σ 601 0 0)).toNatClampNeg (x7).toNatClampNeg (x5 - x5 / (10 : Int32) * (10 : Int32)) →
  wp_X9_picture_L59 g Q n σ34 x1 x2 x4 (x5 / (10 : Int32)) (0 : Int32) (x7 + (-1 : Int32))))) ∧
  (¬ (3 : Int32) < (x5 - x5 / (10 : Int32) * (10 : Int32)) → (vp_in (σ 601 0 0) 40 ∧ (vp_in x7 5 ∧ ∀ σ36 : pr_Sg, σ36 = pr_up σ 1064 ((σ 601 0 0)).toNatClampNeg (x7).toNatClampNeg (x5 - x5 / (10 : Int32) * (10 : Int32)) →
  wp_X9_picture_L59 g Q n σ36 x1 x2 x4 (x5 / (10 : Int32)) (1 : Int32) (x7 + (-1 : Int32))))))))))
set_option maxHeartbeats 4000000 in
set_option maxRecDepth 100000 in
theorem t_X9_picture_L59 {p : Program} {l : Launch} {e : Env} {s : State} {m : MethodId} {args : Array Value} {below : List Frame} {meth : Method} {c : Code} {D : va_G} {cs : Nat → ClassId} {A : Nat → Prop} {ad : pr_Ad} {g : Nat → Nat} {Q : Int32 → pr_Sg → Prop} (C : pr_C RX9 cX9_picture 9 (some .int) D cs p s m args meth c) (n : Nat) : ∀ {H : Heap} {locs : List Loc} {ls : Array Slot} {σ : pr_Sg} {x1 : Int32} {x2 : Int32} {x4 : Int32} {x5 : Int32} {x6 : Int32} {x7 : Int32} (_ : wp_X9_picture_L59 g Q n σ x1 x2 x4 x5 x6 x7) (_ : pr_R D cs A ad g σ H) (_ : va_S A s.heap H locs) (_ : lv_has ls 9 [(0, .ref (ad 9 0 0)), (1, .int x1), (2, .int x2), (4, .int x4), (5, .int x5), (6, .int x6), (7, .int x7)]), W p l e rm_X9_picture s m args below meth c H locs 0 0 (MQ below (va_Qi Q (pr_E D cs A ad g) A) args s 0 0 A) (F0 m 59 ls []) := by
  induction n with
  | zero =>
    intro H locs ls σ x1 x2 x4 x5 x6 x7 h
    exact False.elim h
  | succ n ih =>
    intro H locs ls σ x1 x2 x4 x5 x6 x7 h hR hS hl
    unfold wp_X9_picture_L59 at h
    obtain ⟨hx, hb, hml, hown, hts, hK, hr, hlocks⟩ := id C
    refine lv_iload hx hb dX9_picture_59 (lv_at hl 6 rfl) ?_
    refine lv_if_lt (tgt := 115) hx hb dX9_picture_61 (by decide) (fun c10 => ?_) (fun c10 => ?_)
    · have h := h.1 c10
      refine lv_iload hx hb dX9_picture_115 (lv_at hl 5 rfl) ?_
      refine lv_if_ne (tgt := 122) hx hb dX9_picture_117 (by decide) (fun c11 => ?_) (fun c11 => ?_)
      · have h := h.1 c11
        refine lv_aload_n hx hb dX9_picture_122 rfl (lv_at hl 0 rfl) ?_
        refine gf_RX9_110 C hR pr_l9 dX9_picture_123 ?_
        refine lv_istore (lv' := [(7, .int (σ 601 0 0)), (0, .ref (ad 9 0 0)), (1, .int x1), (2, .int x2), (4, .int x4), (5, .int x5), (6, .int x6)]) hx hb dX9_picture_126 hl (by decide) rfl (fun ls hl => ?_)
        refine lv_aload_n hx hb dX9_picture_128 rfl (lv_at hl 1 rfl) ?_
        refine gf_RX9_44 C hR pr_l9 dX9_picture_129 ?_
        refine lv_iload hx hb dX9_picture_132 (lv_at hl 0 rfl) ?_
        refine lv_iload_n hx hb dX9_picture_134 rfl (lv_at hl 2 rfl) ?_
        refine pr_ast hx hb hK hR hS pr_l50 (by omega) (by omega) (n := 40) (by decide) h.1 dX9_picture_135 (t := 1050) rfl (fun H locs σ12 e12 hR hS => ?_)
        have h := h.2 σ12 e12
        refine lv_aload_n hx hb dX9_picture_136 rfl (lv_at hl 1 rfl) ?_
        refine gf_RX9_56 C hR pr_l9 dX9_picture_137 ?_
        refine lv_iload hx hb dX9_picture_140 (lv_at hl 0 rfl) ?_
        refine lv_iload hx hb dX9_picture_142 (lv_at hl 4 rfl) ?_
        refine pr_ast hx hb hK hR hS pr_l54 (by omega) (by omega) (n := 40) (by decide) h.1 dX9_picture_144 (t := 1054) rfl (fun H locs σ13 e13 hR hS => ?_)
        have h := h.2 σ13 e13
        refine lv_aload_n hx hb dX9_picture_145 rfl (lv_at hl 1 rfl) ?_
        refine gf_RX9_50 C hR pr_l9 dX9_picture_146 ?_
        refine lv_iload hx hb dX9_picture_149 (lv_at hl 0 rfl) ?_
        refine lv_aload_n hx hb dX9_picture_151 rfl (lv_at hl 1 rfl) ?_
        refine gf_RX9_128 C hR pr_l9 dX9_picture_152 ?_
        refine pr_ast hx hb hK hR hS pr_l52 (by omega) (by omega) (n := 40) (by decide) h.1 dX9_picture_155 (t := 1052) rfl (fun H locs σ14 e14 hR hS => ?_)
        have h := h.2 σ14 e14
        refine lv_aload_n hx hb dX9_picture_156 rfl (lv_at hl 1 rfl) ?_
        refine gf_RX9_53 C hR pr_l9 dX9_picture_157 ?_
        refine lv_iload hx hb dX9_picture_160 (lv_at hl 0 rfl) ?_
        refine lv_iconst (v := (-1 : Int32)) hx hb dX9_picture_162 (by decide) ?_
        refine pr_ast hx hb hK hR hS pr_l53 (by omega) (by omega) (n := 40) (by decide) h.1 dX9_picture_163 (t := 1053) rfl (fun H locs σ15 e15 hR hS => ?_)
        have h := h.2 σ15 e15
        refine lv_aload_n hx hb dX9_picture_164 rfl (lv_at hl 1 rfl) ?_
        refine gf_RX9_59 C hR pr_l9 dX9_picture_165 ?_
        refine lv_iload hx hb dX9_picture_168 (lv_at hl 0 rfl) ?_
        refine lv_iconst (v := (-1 : Int32)) hx hb dX9_picture_170 (by decide) ?_
        refine pr_ast hx hb hK hR hS pr_l55 (by omega) (by omega) (n := 40) (by decide) h.1 dX9_picture_171 (t := 1055) rfl (fun H locs σ16 e16 hR hS => ?_)
        have h := h.2 σ16 e16
        refine lv_iconst (v := (0 : Int32)) hx hb dX9_picture_172 (by decide) ?_
        refine lv_istore (lv' := [(8, .int (0 : Int32)), (7, .int (σ 601 0 0)), (0, .ref (ad 9 0 0)), (1, .int x1), (2, .int x2), (4, .int x4), (5, .int x5), (6, .int x6)]) hx hb dX9_picture_173 hl (by decide) rfl (fun ls hl => ?_)
        obtain ⟨n1, h⟩ := h
        exact t_X9_picture_L175 C n1 h hR hS (lv_sub hl [2, 3, 4, 1, 0] rfl)
      · have h := h.2 c11
        refine lv_iconst (v := (-1 : Int32)) hx hb dX9_picture_120 (by decide) ?_
        exact pr_reti C h hR hS dX9_picture_121
    · have h := h.2 c10
      refine lv_iload hx hb dX9_picture_64 (lv_at hl 5 rfl) ?_
      refine lv_if_eq (tgt := 82) hx hb dX9_picture_66 (by decide) (fun c29 => ?_) (fun c29 => ?_)
      · have h := h.1 c29
        refine lv_iconst (v := (0 : Int32)) hx hb dX9_picture_82 (by decide) ?_
        refine lv_istore (lv' := [(6, .int (0 : Int32)), (0, .ref (ad 9 0 0)), (1, .int x1), (2, .int x2), (4, .int x4), (5, .int x5), (7, .int x7)]) hx hb dX9_picture_83 hl (by decide) rfl (fun ls hl => ?_)
        refine lv_aload_n hx hb dX9_picture_85 rfl (lv_at hl 1 rfl) ?_
        refine gf_RX9_64 C hR pr_l9 dX9_picture_86 ?_
        refine lv_aload_n hx hb dX9_picture_89 rfl (lv_at hl 1 rfl) ?_
        refine gf_RX9_110 C hR pr_l9 dX9_picture_90 ?_
        refine pr_ldg hx hb hK hR 84 (by omega) (kd := 64) rfl h.1 dX9_picture_93 (fun hv30 => ?_)
        have h := h.2
        refine lv_iload hx hb dX9_picture_94 (lv_at hl 6 rfl) ?_
        refine lv_iload hx hb dX9_picture_96 (lv_at hl 5 rfl) ?_
        refine lv_bipush (v := (10 : Int32)) hx hb dX9_picture_98 (by decide) ?_
        refine lv_irem hx hb dX9_picture_100 (by decide) ?_
        refine pr_ast hx hb hK hR hS hv30 (by omega) (by omega) (n := 5) (by decide) h.1 dX9_picture_101 (t := 1064) rfl (fun H locs σ31 e31 hR hS => ?_)
        have h := h.2 σ31 e31
        refine lv_iload hx hb dX9_picture_102 (lv_at hl 5 rfl) ?_
        refine lv_bipush (v := (10 : Int32)) hx hb dX9_picture_104 (by decide) ?_
        refine lv_idiv hx hb dX9_picture_106 (by decide) ?_
        refine lv_istore (lv' := [(5, .int (x5 / (10 : Int32))), (6, .int (0 : Int32)), (0, .ref (ad 9 0 0)), (1, .int x1), (2, .int x2), (4, .int x4), (7, .int x7)]) hx hb dX9_picture_107 hl (by decide) rfl (fun ls hl => ?_)
        refine lv_iinc (v := (x7 + (-1 : Int32))) (lv' := [(7, .int (x7 + (-1 : Int32))), (5, .int (x5 / (10 : Int32))), (6, .int (0 : Int32)), (0, .ref (ad 9 0 0)), (1, .int x1), (2, .int x2), (4, .int x4)]) hx hb dX9_picture_109 hl (k := 6) rfl rfl (by decide) rfl (fun ls hl => ?_)
        refine lv_goto (tgt := 59) hx hb dX9_picture_112 (by decide) ?_
        exact ih h hR hS (lv_sub hl [3, 4, 5, 6, 1, 2, 0] rfl)
      · have h := h.2 c29
        refine lv_iload hx hb dX9_picture_69 (lv_at hl 4 rfl) ?_
        refine lv_bipush (v := (10 : Int32)) hx hb dX9_picture_71 (by decide) ?_
        refine lv_irem hx hb dX9_picture_73 (by decide) ?_
        refine lv_iconst (v := (3 : Int32)) hx hb dX9_picture_74 (by decide) ?_
        refine lv_icmp_gt (tgt := 82) hx hb dX9_picture_75 (by decide) (fun c32 => ?_) (fun c32 => ?_)
        · have h := h.1 c32
          refine lv_iconst (v := (0 : Int32)) hx hb dX9_picture_82 (by decide) ?_
          refine lv_istore (lv' := [(6, .int (0 : Int32)), (0, .ref (ad 9 0 0)), (1, .int x1), (2, .int x2), (4, .int x4), (5, .int x5), (7, .int x7)]) hx hb dX9_picture_83 hl (by decide) rfl (fun ls hl => ?_)
          refine lv_aload_n hx hb dX9_picture_85 rfl (lv_at hl 1 rfl) ?_
          refine gf_RX9_64 C hR pr_l9 dX9_picture_86 ?_
          refine lv_aload_n hx hb dX9_picture_89 rfl (lv_at hl 1 rfl) ?_
          refine gf_RX9_110 C hR pr_l9 dX9_picture_90 ?_
          refine pr_ldg hx hb hK hR 84 (by omega) (kd := 64) rfl h.1 dX9_picture_93 (fun hv33 => ?_)
          have h := h.2
          refine lv_iload hx hb dX9_picture_94 (lv_at hl 6 rfl) ?_
          refine lv_iload hx hb dX9_picture_96 (lv_at hl 5 rfl) ?_
          refine lv_bipush (v := (10 : Int32)) hx hb dX9_picture_98 (by decide) ?_
          refine lv_irem hx hb dX9_picture_100 (by decide) ?_
          refine pr_ast hx hb hK hR hS hv33 (by omega) (by omega) (n := 5) (by decide) h.1 dX9_picture_101 (t := 1064) rfl (fun H locs σ34 e34 hR hS => ?_)
          have h := h.2 σ34 e34
          refine lv_iload hx hb dX9_picture_102 (lv_at hl 5 rfl) ?_
          refine lv_bipush (v := (10 : Int32)) hx hb dX9_picture_104 (by decide) ?_
          refine lv_idiv hx hb dX9_picture_106 (by decide) ?_
          refine lv_istore (lv' := [(5, .int (x5 / (10 : Int32))), (6, .int (0 : Int32)), (0, .ref (ad 9 0 0)), (1, .int x1), (2, .int x2), (4, .int x4), (7, .int x7)]) hx hb dX9_picture_107 hl (by decide) rfl (fun ls hl => ?_)
          refine lv_iinc (v := (x7 + (-1 : Int32))) (lv' := [(7, .int (x7 + (-1 : Int32))), (5, .int (x5 / (10 : Int32))), (6, .int (0 : Int32)), (0, .ref (ad 9 0 0)), (1, .int x1), (2, .int x2), (4, .int x4)]) hx hb dX9_picture_109 hl (k := 6) rfl rfl (by decide) rfl (fun ls hl => ?_)
          refine lv_goto (tgt := 59) hx hb dX9_picture_112 (by decide) ?_
          exact ih h hR hS (lv_sub hl [3, 4, 5, 6, 1, 2, 0] rfl)
        · have h := h.2 c32
          refine lv_iconst (v := (1 : Int32)) hx hb dX9_picture_78 (by decide) ?_
          refine lv_goto (tgt := 83) hx hb dX9_picture_79 (by decide) ?_
          refine lv_istore (lv' := [(6, .int (1 : Int32)), (0, .ref (ad 9 0 0)), (1, .int x1), (2, .int x2), (4, .int x4), (5, .int x5), (7, .int x7)]) hx hb dX9_picture_83 hl (by decide) rfl (fun ls hl => ?_)
          refine lv_aload_n hx hb dX9_picture_85 rfl (lv_at hl 1 rfl) ?_
          refine gf_RX9_64 C hR pr_l9 dX9_picture_86 ?_
          refine lv_aload_n hx hb dX9_picture_89 rfl (lv_at hl 1 rfl) ?_
          refine gf_RX9_110 C hR pr_l9 dX9_picture_90 ?_
          refine pr_ldg hx hb hK hR 84 (by omega) (kd := 64) rfl h.1 dX9_picture_93 (fun hv35 => ?_)
          have h := h.2
          refine lv_iload hx hb dX9_picture_94 (lv_at hl 6 rfl) ?_
          refine lv_iload hx hb dX9_picture_96 (lv_at hl 5 rfl) ?_
          refine lv_bipush (v := (10 : Int32)) hx hb dX9_picture_98 (by decide) ?_
          refine lv_irem hx hb dX9_picture_100 (by decide) ?_
          refine pr_ast hx hb hK hR hS hv35 (by omega) (by omega) (n := 5) (by decide) h.1 dX9_picture_101 (t := 1064) rfl (fun H locs σ36 e36 hR hS => ?_)
          have h := h.2 σ36 e36
          refine lv_iload hx hb dX9_picture_102 (lv_at hl 5 rfl) ?_
          refine lv_bipush (v := (10 : Int32)) hx hb dX9_picture_104 (by decide) ?_
          refine lv_idiv hx hb dX9_picture_106 (by decide) ?_
          refine lv_istore (lv' := [(5, .int (x5 / (10 : Int32))), (6, .int (1 : Int32)), (0, .ref (ad 9 0 0)), (1, .int x1), (2, .int x2), (4, .int x4), (7, .int x7)]) hx hb dX9_picture_107 hl (by decide) rfl (fun ls hl => ?_)
          refine lv_iinc (v := (x7 + (-1 : Int32))) (lv' := [(7, .int (x7 + (-1 : Int32))), (5, .int (x5 / (10 : Int32))), (6, .int (1 : Int32)), (0, .ref (ad 9 0 0)), (1, .int x1), (2, .int x2), (4, .int x4)]) hx hb dX9_picture_109 hl (k := 6) rfl rfl (by decide) rfl (fun ls hl => ?_)
          refine lv_goto (tgt := 59) hx hb dX9_picture_112 (by decide) ?_
          exact ih h hR hS (lv_sub hl [3, 4, 5, 6, 1, 2, 0] rfl)
def wpb_X9_picture (g : Nat → Nat) (σ : pr_Sg) (a1 : Int32) (a2 : Int32) (a3 : Int32) (a4 : Int32) (Q : Int32 → pr_Sg → Prop) : Prop :=
  (wp_X9_isSitter g σ a1 (fun r1 σ1 =>
  ((r1 = 0 → Q (-1 : Int32) σ1) ∧
  (¬ r1 = 0 → (wp_X9_in g σ1 a2 (0 : Int32) (3 : Int32) (fun r3 σ3 =>
  ((r3 = 0 → Q (-1 : Int32) σ3) ∧
  (¬ r3 = 0 → (wp_X9_in g σ3 a3 (10000 : Int32) (33333 : Int32) (fun r5 σ5 =>
  ((r5 = 0 → Q (-1 : Int32) σ5) ∧
  (¬ r5 = 0 → (wp_X9_in g σ5 a4 (-1 : Int32) (4 : Int32) (fun r7 σ7 =>
  ((r7 = 0 → Q (-1 : Int32) σ7) ∧
  (¬ r7 = 0 → ((¬ (σ7 601 0 0) = (40 : Int32) → (∃ n : Nat, wp_X9_picture_L59 g Q n σ7 a1 a2 a4 a3 (1 : Int32) (4 : Int32))) ∧
  ((σ7 601 0 0) = (40 : Int32) → Q (-1 : Int32) σ7))))))))))))))))))
set_option maxHeartbeats 4000000 in
set_option maxRecDepth 100000 in
theorem t_X9_picture {p : Program} {l : Launch} {e : Env} {s : State} {m : MethodId} {args : Array Value} {below : List Frame} {meth : Method} {c : Code} {D : va_G} {cs : Nat → ClassId} {A : Nat → Prop} {ad : pr_Ad} {g : Nat → Nat} {Q : Int32 → pr_Sg → Prop} (C : pr_C RX9 cX9_picture 9 (some .int) D cs p s m args meth c) {H : Heap} {locs : List Loc} {ls : Array Slot} {σ : pr_Sg} {a1 : Int32} {a2 : Int32} {a3 : Int32} {a4 : Int32} (h : wpb_X9_picture g σ a1 a2 a3 a4 Q) (hR : pr_R D cs A ad g σ H) (hS : va_S A s.heap H locs) (hl : lv_has ls 9 [(0, .ref (ad 9 0 0)), (1, .int a1), (2, .int a2), (3, .int a3), (4, .int a4)]) : W p l e rm_X9_picture s m args below meth c H locs 0 0 (MQ below (va_Qi Q (pr_E D cs A ad g) A) args s 0 0 A) (F0 m 0 ls []) := by
  unfold wpb_X9_picture at h
  obtain ⟨hx, hb, hml, hown, hts, hK, hr, hlocks⟩ := id C
  refine lv_aload_n hx hb dX9_picture_0 rfl (lv_at hl 0 rfl) ?_
  refine lv_iload_n hx hb dX9_picture_1 rfl (lv_at hl 1 rfl) ?_
  refine pr_calli hS (pr_runV (As := [.int a1]) (rest := []) C hR pr_l9 (by omega) rfl (c_X9_isSitter h) gw_RX9_123 rfl rfl hd_X9_isSitter ⟨Nat.le_of_ble_eq_true rfl, Nat.le_of_ble_eq_true rfl⟩ rfl hl.1 rfl (Nat.le_of_ble_eq_true rfl) dX9_picture_2 ⟨Nat.zero_le _, Nat.zero_le _⟩) (fun r1 σ1 H locs h hR hS => ?_)
  obtain ⟨hz1, h⟩ := h
  refine lv_if_eq (tgt := 48) hx hb dX9_picture_5 (by decide) (fun c2 => ?_) (fun c2 => ?_)
  · have h := h.1 c2
    refine lv_iconst (v := (-1 : Int32)) hx hb dX9_picture_48 (by decide) ?_
    exact pr_reti C h hR hS dX9_picture_49
  · have h := h.2 c2
    refine lv_iload_n hx hb dX9_picture_8 rfl (lv_at hl 2 rfl) ?_
    refine lv_iconst (v := (0 : Int32)) hx hb dX9_picture_9 (by decide) ?_
    refine lv_iconst (v := (3 : Int32)) hx hb dX9_picture_10 (by decide) ?_
    refine pr_calli hS (pr_runS (As := [.int a2, .int (0 : Int32), .int (3 : Int32)]) (rest := []) C hR (c_X9_in h) gw_RX9_113 rfl rfl hs_X9_in ⟨Nat.le_of_ble_eq_true rfl, Nat.le_of_ble_eq_true rfl⟩ rfl hl.1 rfl (Nat.le_of_ble_eq_true rfl) dX9_picture_11 ⟨Nat.zero_le _, Nat.zero_le _⟩) (fun r3 σ3 H locs h hR hS => ?_)
    obtain ⟨hz3, h⟩ := h
    refine lv_if_eq (tgt := 48) hx hb dX9_picture_14 (by decide) (fun c4 => ?_) (fun c4 => ?_)
    · have h := h.1 c4
      refine lv_iconst (v := (-1 : Int32)) hx hb dX9_picture_48 (by decide) ?_
      exact pr_reti C h hR hS dX9_picture_49
    · have h := h.2 c4
      refine lv_iload_n hx hb dX9_picture_17 rfl (lv_at hl 3 rfl) ?_
      refine lv_sipush (v := (10000 : Int32)) hx hb dX9_picture_18 (by decide) ?_
      refine lv_ldc (v := (33333 : Int32)) hx hb hown (hts _ (pr_in10 _ (List.mem_of_getElem? (i := 2) rfl))) dX9_picture_21 ?_
      refine pr_calli hS (pr_runS (As := [.int a3, .int (10000 : Int32), .int (33333 : Int32)]) (rest := []) C hR (c_X9_in h) gw_RX9_113 rfl rfl hs_X9_in ⟨Nat.le_of_ble_eq_true rfl, Nat.le_of_ble_eq_true rfl⟩ rfl hl.1 rfl (Nat.le_of_ble_eq_true rfl) dX9_picture_23 ⟨Nat.zero_le _, Nat.zero_le _⟩) (fun r5 σ5 H locs h hR hS => ?_)
      obtain ⟨hz5, h⟩ := h
      refine lv_if_eq (tgt := 48) hx hb dX9_picture_26 (by decide) (fun c6 => ?_) (fun c6 => ?_)
      · have h := h.1 c6
        refine lv_iconst (v := (-1 : Int32)) hx hb dX9_picture_48 (by decide) ?_
        exact pr_reti C h hR hS dX9_picture_49
      · have h := h.2 c6
        refine lv_iload hx hb dX9_picture_29 (lv_at hl 4 rfl) ?_
        refine lv_iconst (v := (-1 : Int32)) hx hb dX9_picture_31 (by decide) ?_
        refine lv_iconst (v := (4 : Int32)) hx hb dX9_picture_32 (by decide) ?_
        refine pr_calli hS (pr_runS (As := [.int a4, .int (-1 : Int32), .int (4 : Int32)]) (rest := []) C hR (c_X9_in h) gw_RX9_113 rfl rfl hs_X9_in ⟨Nat.le_of_ble_eq_true rfl, Nat.le_of_ble_eq_true rfl⟩ rfl hl.1 rfl (Nat.le_of_ble_eq_true rfl) dX9_picture_33 ⟨Nat.zero_le _, Nat.zero_le _⟩) (fun r7 σ7 H locs h hR hS => ?_)
        obtain ⟨hz7, h⟩ := h
        refine lv_if_eq (tgt := 48) hx hb dX9_picture_36 (by decide) (fun c8 => ?_) (fun c8 => ?_)
        · have h := h.1 c8
          refine lv_iconst (v := (-1 : Int32)) hx hb dX9_picture_48 (by decide) ?_
          exact pr_reti C h hR hS dX9_picture_49
        · have h := h.2 c8
          refine lv_aload_n hx hb dX9_picture_39 rfl (lv_at hl 0 rfl) ?_
          refine gf_RX9_110 C hR pr_l9 dX9_picture_40 ?_
          refine lv_bipush (v := (40 : Int32)) hx hb dX9_picture_43 (by decide) ?_
          refine lv_icmp_ne (tgt := 50) hx hb dX9_picture_45 (by decide) (fun c9 => ?_) (fun c9 => ?_)
          · have h := h.1 c9
            refine lv_iload_n hx hb dX9_picture_50 rfl (lv_at hl 3 rfl) ?_
            refine lv_istore (lv' := [(5, .int a3), (0, .ref (ad 9 0 0)), (1, .int a1), (2, .int a2), (3, .int a3), (4, .int a4)]) hx hb dX9_picture_51 hl (by decide) rfl (fun ls hl => ?_)
            refine lv_iconst (v := (1 : Int32)) hx hb dX9_picture_53 (by decide) ?_
            refine lv_istore (lv' := [(6, .int (1 : Int32)), (5, .int a3), (0, .ref (ad 9 0 0)), (1, .int a1), (2, .int a2), (3, .int a3), (4, .int a4)]) hx hb dX9_picture_54 hl (by decide) rfl (fun ls hl => ?_)
            refine lv_iconst (v := (4 : Int32)) hx hb dX9_picture_56 (by decide) ?_
            refine lv_istore (lv' := [(7, .int (4 : Int32)), (6, .int (1 : Int32)), (5, .int a3), (0, .ref (ad 9 0 0)), (1, .int a1), (2, .int a2), (3, .int a3), (4, .int a4)]) hx hb dX9_picture_57 hl (by decide) rfl (fun ls hl => ?_)
            obtain ⟨n1, h⟩ := h
            exact t_X9_picture_L59 C n1 h hR hS (lv_sub hl [3, 4, 5, 7, 2, 1, 0] rfl)
          · have h := h.2 c9
            refine lv_iconst (v := (-1 : Int32)) hx hb dX9_picture_48 (by decide) ?_
            exact pr_reti C h hR hS dX9_picture_49
abbrev wp_X9_picture (g : Nat → Nat) (σ : pr_Sg) (a1 : Int32) (a2 : Int32) (a3 : Int32) (a4 : Int32) (Q : Int32 → pr_Sg → Prop) : Prop := wpb_X9_picture g σ a1 a2 a3 a4 Q
set_option maxHeartbeats 4000000 in
set_option maxRecDepth 100000 in
theorem c_X9_picture {l : Launch} {D : va_G} {cs : Nat → ClassId} {A : Nat → Prop} {ad : pr_Ad} {g : Nat → Nat} {σ : pr_Sg} {a1 : Int32} {a2 : Int32} {a3 : Int32} {a4 : Int32} {Q : Int32 → pr_Sg → Prop} (h : wp_X9_picture g σ a1 a2 a3 a4 Q) : pr_Mi l D cs A ad g yX9_picture cX9_picture 9 (some .int) rm_X9_picture [.ref (ad 9 0 0), .int a1, .int a2, .int a3, .int a4] σ Q := by
  refine Met.ofW (cc := cX9_picture) (maxL := 9) (ret := (some .int)) (by decide) rfl ?_
  intro p e s m args below meth c s₁ B hml hv
  obtain ⟨rfl, hR, hK⟩ := hv
  have C : pr_C RX9 cX9_picture 9 (some .int) D cs p s m [.ref (ad 9 0 0), .int a1, .int a2, .int a3, .int a4].toArray meth c := pr_C.of B hml hK
  have hS : va_S A s.heap s.heap [] := va_S.rf
  have hl := lv_entry ([.ref (ad 9 0 0), .int a1, .int a2, .int a3, .int a4]) (n := 9) (Nat.le_of_ble_eq_true rfl)
  rw [lg_entry_eq]
  generalize (lg_sl ([.ref (ad 9 0 0), .int a1, .int a2, .int a3, .int a4]) ++ List.replicate (9 - (lg_sl ([.ref (ad 9 0 0), .int a1, .int a2, .int a3, .int a4])).length) Slot.unset).toArray = ls at hl ⊢
  have hl : lv_has ls 9 [(0, .ref (ad 9 0 0)), (1, .int a1), (2, .int a2), (3, .int a3), (4, .int a4)] := hl
  exact t_X9_picture C h hR hS hl
def rm_X9_go : Room := { frames := 1, cells := 0, slots := 0, locals := 22 }
theorem hd_X9_go : yX9_go.cls = RX9 ∧ yX9_go.cls ≠ "java/lang/invoke/MethodHandle" ∧ yX9_go.cls ≠ "java/lang/invoke/VarHandle" ∧ (parseMethodDescriptor yX9_go.desc).map (fun d => d.parameters.length) = some 1 := ⟨rfl, by decide, by decide, by decide +kernel⟩
def wpb_X9_go (g : Nat → Nat) (σ : pr_Sg) (a1 : Int32) (Q : Int32 → pr_Sg → Prop) : Prop :=
  (wp_X9_in g σ a1 (0 : Int32) (1000 : Int32) (fun r1 σ1 =>
  ((¬ r1 = 0 → (∀ σ3 : pr_Sg, σ3 = pr_up σ1 576 0 0 (if ((σ1 576 0 0) + a1) < (20000 : Int32) then ((σ1 576 0 0) + a1) else (20000 : Int32)) →
  Q (σ3 576 0 0) σ3)) ∧
  (r1 = 0 → Q (-1 : Int32) σ1))))
set_option maxHeartbeats 4000000 in
set_option maxRecDepth 100000 in
theorem t_X9_go {p : Program} {l : Launch} {e : Env} {s : State} {m : MethodId} {args : Array Value} {below : List Frame} {meth : Method} {c : Code} {D : va_G} {cs : Nat → ClassId} {A : Nat → Prop} {ad : pr_Ad} {g : Nat → Nat} {Q : Int32 → pr_Sg → Prop} (C : pr_C RX9 cX9_go 2 (some .int) D cs p s m args meth c) {H : Heap} {locs : List Loc} {ls : Array Slot} {σ : pr_Sg} {a1 : Int32} (h : wpb_X9_go g σ a1 Q) (hR : pr_R D cs A ad g σ H) (hS : va_S A s.heap H locs) (hl : lv_has ls 2 [(0, .ref (ad 9 0 0)), (1, .int a1)]) : W p l e rm_X9_go s m args below meth c H locs 0 0 (MQ below (va_Qi Q (pr_E D cs A ad g) A) args s 0 0 A) (F0 m 0 ls []) := by
  unfold wpb_X9_go at h
  obtain ⟨hx, hb, hml, hown, hts, hK, hr, hlocks⟩ := id C
  refine lv_iload_n hx hb dX9_go_0 rfl (lv_at hl 1 rfl) ?_
  refine lv_iconst (v := (0 : Int32)) hx hb dX9_go_1 (by decide) ?_
  refine lv_sipush (v := (1000 : Int32)) hx hb dX9_go_2 (by decide) ?_
  refine pr_calli hS (pr_runS (As := [.int a1, .int (0 : Int32), .int (1000 : Int32)]) (rest := []) C hR (c_X9_in h) gw_RX9_113 rfl rfl hs_X9_in ⟨Nat.le_of_ble_eq_true rfl, Nat.le_of_ble_eq_true rfl⟩ rfl hl.1 rfl (Nat.le_of_ble_eq_true rfl) dX9_go_5 ⟨Nat.zero_le _, Nat.zero_le _⟩) (fun r1 σ1 H locs h hR hS => ?_)
  obtain ⟨hz1, h⟩ := h
  refine lv_if_ne (tgt := 13) hx hb dX9_go_8 (by decide) (fun c2 => ?_) (fun c2 => ?_)
  · have h := h.1 c2
    refine lv_aload_n hx hb dX9_go_13 rfl (lv_at hl 0 rfl) ?_
    refine lv_sipush (v := (20000 : Int32)) hx hb dX9_go_14 (by decide) ?_
    refine lv_aload_n hx hb dX9_go_17 rfl (lv_at hl 0 rfl) ?_
    refine gf_RX9_128 C hR pr_l9 dX9_go_18 ?_
    refine lv_iload_n hx hb dX9_go_21 rfl (lv_at hl 1 rfl) ?_
    refine lv_iadd hx hb dX9_go_22 ?_
    refine va_mmin hx hb (by rw [hml]; exact hl.1.symm) hown (hts _ (pr_in11 _ (List.mem_of_getElem? (i := 2) rfl))) (hts _ (pr_in10 _ (List.mem_of_getElem? (i := 19) rfl))) (hts _ (pr_in10 _ (List.mem_of_getElem? (i := 20) rfl))) (hts _ (pr_in10 _ (List.mem_of_getElem? (i := 21) rfl))) (Nat.le_of_ble_eq_true rfl) (Nat.le_of_ble_eq_true rfl) (Nat.zero_le _) (Nat.zero_le _) dX9_go_23 ?_
    refine pf_RX9_128 C hR hS pr_l9 dX9_go_26 (fun H locs σ3 e3 hR hS => ?_)
    have h := h σ3 e3
    refine lv_aload_n hx hb dX9_go_29 rfl (lv_at hl 0 rfl) ?_
    refine gf_RX9_128 C hR pr_l9 dX9_go_30 ?_
    exact pr_reti C h hR hS dX9_go_33
  · have h := h.2 c2
    refine lv_iconst (v := (-1 : Int32)) hx hb dX9_go_11 (by decide) ?_
    exact pr_reti C h hR hS dX9_go_12
abbrev wp_X9_go (g : Nat → Nat) (σ : pr_Sg) (a1 : Int32) (Q : Int32 → pr_Sg → Prop) : Prop := wpb_X9_go g σ a1 Q
set_option maxHeartbeats 4000000 in
set_option maxRecDepth 100000 in
theorem c_X9_go {l : Launch} {D : va_G} {cs : Nat → ClassId} {A : Nat → Prop} {ad : pr_Ad} {g : Nat → Nat} {σ : pr_Sg} {a1 : Int32} {Q : Int32 → pr_Sg → Prop} (h : wp_X9_go g σ a1 Q) : pr_Mi l D cs A ad g yX9_go cX9_go 2 (some .int) rm_X9_go [.ref (ad 9 0 0), .int a1] σ Q := by
  refine Met.ofW (cc := cX9_go) (maxL := 2) (ret := (some .int)) (by decide) rfl ?_
  intro p e s m args below meth c s₁ B hml hv
  obtain ⟨rfl, hR, hK⟩ := hv
  have C : pr_C RX9 cX9_go 2 (some .int) D cs p s m [.ref (ad 9 0 0), .int a1].toArray meth c := pr_C.of B hml hK
  have hS : va_S A s.heap s.heap [] := va_S.rf
  have hl := lv_entry ([.ref (ad 9 0 0), .int a1]) (n := 2) (Nat.le_of_ble_eq_true rfl)
  rw [lg_entry_eq]
  generalize (lg_sl ([.ref (ad 9 0 0), .int a1]) ++ List.replicate (2 - (lg_sl ([.ref (ad 9 0 0), .int a1])).length) Slot.unset).toArray = ls at hl ⊢
  have hl : lv_has ls 2 [(0, .ref (ad 9 0 0)), (1, .int a1)] := hl
  exact t_X9_go C h hR hS hl
def rm_X9_lightOf : Room := { frames := 1, cells := 0, slots := 0, locals := 15 }
theorem hs_X9_lightOf : yX9_lightOf.cls ≠ "java/lang/invoke/MethodHandle" ∧ yX9_lightOf.cls ≠ "java/lang/invoke/VarHandle" ∧ (parseMethodDescriptor yX9_lightOf.desc).map (fun d => d.parameters.length) = some 1 := ⟨by decide, by decide, by decide +kernel⟩
def wpb_X9_lightOf (g : Nat → Nat) (σ : pr_Sg) (a1 : Int32) (Q : Int32 → pr_Sg → Prop) : Prop :=
  Q ((6 : Int32) - ((if 0 ≤ ((a1 - a1 / (365 : Int32) * (365 : Int32)) - (182 : Int32)) then ((a1 - a1 / (365 : Int32) * (365 : Int32)) - (182 : Int32)) else 0 - ((a1 - a1 / (365 : Int32) * (365 : Int32)) - (182 : Int32))) / (46 : Int32))) σ
set_option maxHeartbeats 4000000 in
set_option maxRecDepth 100000 in
theorem t_X9_lightOf {p : Program} {l : Launch} {e : Env} {s : State} {m : MethodId} {args : Array Value} {below : List Frame} {meth : Method} {c : Code} {D : va_G} {cs : Nat → ClassId} {A : Nat → Prop} {ad : pr_Ad} {g : Nat → Nat} {Q : Int32 → pr_Sg → Prop} (C : pr_C RX9 cX9_lightOf 1 (some .int) D cs p s m args meth c) {H : Heap} {locs : List Loc} {ls : Array Slot} {σ : pr_Sg} {a1 : Int32} (h : wpb_X9_lightOf g σ a1 Q) (hR : pr_R D cs A ad g σ H) (hS : va_S A s.heap H locs) (hl : lv_has ls 1 [(0, .int a1)]) : W p l e rm_X9_lightOf s m args below meth c H locs 0 0 (MQ below (va_Qi Q (pr_E D cs A ad g) A) args s 0 0 A) (F0 m 0 ls []) := by
  unfold wpb_X9_lightOf at h
  obtain ⟨hx, hb, hml, hown, hts, hK, hr, hlocks⟩ := id C
  refine lv_bipush (v := (6 : Int32)) hx hb dX9_lightOf_0 (by decide) ?_
  refine lv_iload_n hx hb dX9_lightOf_2 rfl (lv_at hl 0 rfl) ?_
  refine lv_sipush (v := (365 : Int32)) hx hb dX9_lightOf_3 (by decide) ?_
  refine lv_irem hx hb dX9_lightOf_6 (by decide) ?_
  refine lv_sipush (v := (182 : Int32)) hx hb dX9_lightOf_7 (by decide) ?_
  refine lv_isub hx hb dX9_lightOf_10 ?_
  refine va_mabs hx hb (by rw [hml]; exact hl.1.symm) hown (hts _ (pr_in11 _ (List.mem_of_getElem? (i := 20) rfl))) (hts _ (pr_in11 _ (List.mem_of_getElem? (i := 11) rfl))) (hts _ (pr_in10 _ (List.mem_of_getElem? (i := 20) rfl))) (hts _ (pr_in11 _ (List.mem_of_getElem? (i := 12) rfl))) (Nat.le_of_ble_eq_true rfl) (Nat.le_of_ble_eq_true rfl) (Nat.zero_le _) (Nat.zero_le _) dX9_lightOf_11 ?_
  refine lv_bipush (v := (46 : Int32)) hx hb dX9_lightOf_14 (by decide) ?_
  refine lv_idiv hx hb dX9_lightOf_16 (by decide) ?_
  refine lv_isub hx hb dX9_lightOf_17 ?_
  exact pr_reti C h hR hS dX9_lightOf_18
abbrev wp_X9_lightOf (g : Nat → Nat) (σ : pr_Sg) (a1 : Int32) (Q : Int32 → pr_Sg → Prop) : Prop := wpb_X9_lightOf g σ a1 Q
set_option maxHeartbeats 4000000 in
set_option maxRecDepth 100000 in
theorem c_X9_lightOf {l : Launch} {D : va_G} {cs : Nat → ClassId} {A : Nat → Prop} {ad : pr_Ad} {g : Nat → Nat} {σ : pr_Sg} {a1 : Int32} {Q : Int32 → pr_Sg → Prop} (h : wp_X9_lightOf g σ a1 Q) : pr_Mi l D cs A ad g yX9_lightOf cX9_lightOf 1 (some .int) rm_X9_lightOf [.int a1] σ Q := by
  refine Met.ofW (cc := cX9_lightOf) (maxL := 1) (ret := (some .int)) (by decide) rfl ?_
  intro p e s m args below meth c s₁ B hml hv
  obtain ⟨rfl, hR, hK⟩ := hv
  have C : pr_C RX9 cX9_lightOf 1 (some .int) D cs p s m [.int a1].toArray meth c := pr_C.of B hml hK
  have hS : va_S A s.heap s.heap [] := va_S.rf
  have hl := lv_entry ([.int a1]) (n := 1) (Nat.le_of_ble_eq_true rfl)
  rw [lg_entry_eq]
  generalize (lg_sl ([.int a1]) ++ List.replicate (1 - (lg_sl ([.int a1])).length) Slot.unset).toArray = ls at hl ⊢
  have hl : lv_has ls 1 [(0, .int a1)] := hl
  exact t_X9_lightOf C h hR hS hl
def rm_X9_light : Room := { frames := 2, cells := 0, slots := 0, locals := 35 }
theorem hd_X9_light : yX9_light.cls = RX9 ∧ yX9_light.cls ≠ "java/lang/invoke/MethodHandle" ∧ yX9_light.cls ≠ "java/lang/invoke/VarHandle" ∧ (parseMethodDescriptor yX9_light.desc).map (fun d => d.parameters.length) = some 1 := ⟨rfl, by decide, by decide, by decide +kernel⟩
def wpb_X9_light (g : Nat → Nat) (σ : pr_Sg) (a1 : Int32) (Q : Int32 → pr_Sg → Prop) : Prop :=
  (wp_X9_in g σ a1 (0 : Int32) (20000 : Int32) (fun r1 σ1 =>
  ((r1 = 0 → Q (-1 : Int32) σ1) ∧
  (¬ r1 = 0 → (wp_X9_lightOf g σ1 a1 (fun r3 σ3 =>
  Q r3 σ3))))))
set_option maxHeartbeats 4000000 in
set_option maxRecDepth 100000 in
theorem t_X9_light {p : Program} {l : Launch} {e : Env} {s : State} {m : MethodId} {args : Array Value} {below : List Frame} {meth : Method} {c : Code} {D : va_G} {cs : Nat → ClassId} {A : Nat → Prop} {ad : pr_Ad} {g : Nat → Nat} {Q : Int32 → pr_Sg → Prop} (C : pr_C RX9 cX9_light 2 (some .int) D cs p s m args meth c) {H : Heap} {locs : List Loc} {ls : Array Slot} {σ : pr_Sg} {a1 : Int32} (h : wpb_X9_light g σ a1 Q) (hR : pr_R D cs A ad g σ H) (hS : va_S A s.heap H locs) (hl : lv_has ls 2 [(0, .ref (ad 9 0 0)), (1, .int a1)]) : W p l e rm_X9_light s m args below meth c H locs 0 0 (MQ below (va_Qi Q (pr_E D cs A ad g) A) args s 0 0 A) (F0 m 0 ls []) := by
  unfold wpb_X9_light at h
  obtain ⟨hx, hb, hml, hown, hts, hK, hr, hlocks⟩ := id C
  refine lv_iload_n hx hb dX9_light_0 rfl (lv_at hl 1 rfl) ?_
  refine lv_iconst (v := (0 : Int32)) hx hb dX9_light_1 (by decide) ?_
  refine lv_sipush (v := (20000 : Int32)) hx hb dX9_light_2 (by decide) ?_
  refine pr_calli hS (pr_runS (As := [.int a1, .int (0 : Int32), .int (20000 : Int32)]) (rest := []) C hR (c_X9_in h) gw_RX9_113 rfl rfl hs_X9_in ⟨Nat.le_of_ble_eq_true rfl, Nat.le_of_ble_eq_true rfl⟩ rfl hl.1 rfl (Nat.le_of_ble_eq_true rfl) dX9_light_5 ⟨Nat.zero_le _, Nat.zero_le _⟩) (fun r1 σ1 H locs h hR hS => ?_)
  obtain ⟨hz1, h⟩ := h
  refine lv_if_eq (tgt := 18) hx hb dX9_light_8 (by decide) (fun c2 => ?_) (fun c2 => ?_)
  · have h := h.1 c2
    refine lv_iconst (v := (-1 : Int32)) hx hb dX9_light_18 (by decide) ?_
    exact pr_reti C h hR hS dX9_light_19
  · have h := h.2 c2
    refine lv_iload_n hx hb dX9_light_11 rfl (lv_at hl 1 rfl) ?_
    refine pr_calli hS (pr_runS (As := [.int a1]) (rest := []) C hR (c_X9_lightOf h) gw_RX9_147 rfl rfl hs_X9_lightOf ⟨Nat.le_of_ble_eq_true rfl, Nat.le_of_ble_eq_true rfl⟩ rfl hl.1 rfl (Nat.le_of_ble_eq_true rfl) dX9_light_12 ⟨Nat.zero_le _, Nat.zero_le _⟩) (fun r3 σ3 H locs h hR hS => ?_)
    refine lv_goto (tgt := 19) hx hb dX9_light_15 (by decide) ?_
    exact pr_reti C h hR hS dX9_light_19
abbrev wp_X9_light (g : Nat → Nat) (σ : pr_Sg) (a1 : Int32) (Q : Int32 → pr_Sg → Prop) : Prop := wpb_X9_light g σ a1 Q
set_option maxHeartbeats 4000000 in
set_option maxRecDepth 100000 in
theorem c_X9_light {l : Launch} {D : va_G} {cs : Nat → ClassId} {A : Nat → Prop} {ad : pr_Ad} {g : Nat → Nat} {σ : pr_Sg} {a1 : Int32} {Q : Int32 → pr_Sg → Prop} (h : wp_X9_light g σ a1 Q) : pr_Mi l D cs A ad g yX9_light cX9_light 2 (some .int) rm_X9_light [.ref (ad 9 0 0), .int a1] σ Q := by
  refine Met.ofW (cc := cX9_light) (maxL := 2) (ret := (some .int)) (by decide) rfl ?_
  intro p e s m args below meth c s₁ B hml hv
  obtain ⟨rfl, hR, hK⟩ := hv
  have C : pr_C RX9 cX9_light 2 (some .int) D cs p s m [.ref (ad 9 0 0), .int a1].toArray meth c := pr_C.of B hml hK
  have hS : va_S A s.heap s.heap [] := va_S.rf
  have hl := lv_entry ([.ref (ad 9 0 0), .int a1]) (n := 2) (Nat.le_of_ble_eq_true rfl)
  rw [lg_entry_eq]
  generalize (lg_sl ([.ref (ad 9 0 0), .int a1]) ++ List.replicate (2 - (lg_sl ([.ref (ad 9 0 0), .int a1])).length) Slot.unset).toArray = ls at hl ⊢
  have hl : lv_has ls 2 [(0, .ref (ad 9 0 0)), (1, .int a1)] := hl
  exact t_X9_light C h hR hS hl
def rm_X9_isFree : Room := { frames := 0, cells := 0, slots := 0, locals := 0 }
theorem hd_X9_isFree : yX9_isFree.cls = RX9 ∧ yX9_isFree.cls ≠ "java/lang/invoke/MethodHandle" ∧ yX9_isFree.cls ≠ "java/lang/invoke/VarHandle" ∧ (parseMethodDescriptor yX9_isFree.desc).map (fun d => d.parameters.length) = some 2 := ⟨rfl, by decide, by decide, by decide +kernel⟩
def wp_X9_isFree_L2 (g : Nat → Nat) (Q : Int32 → pr_Sg → Prop) : Nat → pr_Sg → Int32 → Int32 → Int32 → Prop
  | 0, _, _, _, _ => False
  | n + 1, σ, x1, x2, x3 => (((σ 608 0 0) ≤ x3 → Q (1 : Int32) σ) ∧
  (¬ (σ 608 0 0) ≤ x3 → (vp_in x3 200 ∧ ((¬ (σ 1059 0 (x3).toNatClampNeg) = x1 → wp_X9_isFree_L2 g Q n σ x1 x2 (x3 + (1 : Int32))) ∧
  ((σ 1059 0 (x3).toNatClampNeg) = x1 → (vp_in x3 200 ∧ ((¬ (σ 1060 0 (x3).toNatClampNeg) = x2 → wp_X9_isFree_L2 g Q n σ x1 x2 (x3 + (1 : Int32))) ∧
  ((σ 1060 0 (x3).toNatClampNeg) = x2 → Q (0 : Int32) σ))))))))
set_option maxHeartbeats 4000000 in
set_option maxRecDepth 100000 in
theorem t_X9_isFree_L2 {p : Program} {l : Launch} {e : Env} {s : State} {m : MethodId} {args : Array Value} {below : List Frame} {meth : Method} {c : Code} {D : va_G} {cs : Nat → ClassId} {A : Nat → Prop} {ad : pr_Ad} {g : Nat → Nat} {Q : Int32 → pr_Sg → Prop} (C : pr_C RX9 cX9_isFree 4 (some .boolean) D cs p s m args meth c) (n : Nat) : ∀ {H : Heap} {locs : List Loc} {ls : Array Slot} {σ : pr_Sg} {x1 : Int32} {x2 : Int32} {x3 : Int32} (_ : wp_X9_isFree_L2 g Q n σ x1 x2 x3) (_ : pr_R D cs A ad g σ H) (_ : va_S A s.heap H locs) (_ : lv_has ls 4 [(0, .ref (ad 9 0 0)), (1, .int x1), (2, .int x2), (3, .int x3)]), W p l e rm_X9_isFree s m args below meth c H locs 0 0 (MQ below (va_Qi (pr_Qz Q) (pr_E D cs A ad g) A) args s 0 0 A) (F0 m 2 ls []) := by
  induction n with
  | zero =>
    intro H locs ls σ x1 x2 x3 h
    exact False.elim h
  | succ n ih =>
    intro H locs ls σ x1 x2 x3 h hR hS hl
    unfold wp_X9_isFree_L2 at h
    obtain ⟨hx, hb, hml, hown, hts, hK, hr, hlocks⟩ := id C
    refine lv_iload_n hx hb dX9_isFree_2 rfl (lv_at hl 3 rfl) ?_
    refine lv_aload_n hx hb dX9_isFree_3 rfl (lv_at hl 0 rfl) ?_
    refine gf_RX9_150 C hR pr_l9 dX9_isFree_4 ?_
    refine lv_icmp_ge (tgt := 38) hx hb dX9_isFree_7 (by decide) (fun c1 => ?_) (fun c1 => ?_)
    · have h := h.1 c1
      refine lv_iconst (v := (1 : Int32)) hx hb dX9_isFree_38 (by decide) ?_
      exact pr_retz C (Or.inr rfl) h hR hS dX9_isFree_39
    · have h := h.2 c1
      refine lv_aload_n hx hb dX9_isFree_10 rfl (lv_at hl 0 rfl) ?_
      refine gf_RX9_88 C hR pr_l9 dX9_isFree_11 ?_
      refine lv_iload_n hx hb dX9_isFree_14 rfl (lv_at hl 3 rfl) ?_
      refine pr_ald hx hb hK hR pr_l59 (by omega) (by omega) (n := 200) (by decide) h.1 dX9_isFree_15 (t := 1059) rfl ?_
      have h := h.2
      refine lv_iload_n hx hb dX9_isFree_16 rfl (lv_at hl 1 rfl) ?_
      refine lv_icmp_ne (tgt := 32) hx hb dX9_isFree_17 (by decide) (fun c2 => ?_) (fun c2 => ?_)
      · have h := h.1 c2
        refine lv_iinc (v := (x3 + (1 : Int32))) (lv' := [(3, .int (x3 + (1 : Int32))), (0, .ref (ad 9 0 0)), (1, .int x1), (2, .int x2)]) hx hb dX9_isFree_32 hl (k := 3) rfl rfl (by decide) rfl (fun ls hl => ?_)
        refine lv_goto (tgt := 2) hx hb dX9_isFree_35 (by decide) ?_
        exact ih h hR hS (lv_sub hl [1, 2, 3, 0] rfl)
      · have h := h.2 c2
        refine lv_aload_n hx hb dX9_isFree_20 rfl (lv_at hl 0 rfl) ?_
        refine gf_RX9_91 C hR pr_l9 dX9_isFree_21 ?_
        refine lv_iload_n hx hb dX9_isFree_24 rfl (lv_at hl 3 rfl) ?_
        refine pr_ald hx hb hK hR pr_l60 (by omega) (by omega) (n := 200) (by decide) h.1 dX9_isFree_25 (t := 1060) rfl ?_
        have h := h.2
        refine lv_iload_n hx hb dX9_isFree_26 rfl (lv_at hl 2 rfl) ?_
        refine lv_icmp_ne (tgt := 32) hx hb dX9_isFree_27 (by decide) (fun c3 => ?_) (fun c3 => ?_)
        · have h := h.1 c3
          refine lv_iinc (v := (x3 + (1 : Int32))) (lv' := [(3, .int (x3 + (1 : Int32))), (0, .ref (ad 9 0 0)), (1, .int x1), (2, .int x2)]) hx hb dX9_isFree_32 hl (k := 3) rfl rfl (by decide) rfl (fun ls hl => ?_)
          refine lv_goto (tgt := 2) hx hb dX9_isFree_35 (by decide) ?_
          exact ih h hR hS (lv_sub hl [1, 2, 3, 0] rfl)
        · have h := h.2 c3
          refine lv_iconst (v := (0 : Int32)) hx hb dX9_isFree_30 (by decide) ?_
          exact pr_retz C (Or.inl rfl) h hR hS dX9_isFree_31
def wpb_X9_isFree (g : Nat → Nat) (σ : pr_Sg) (a1 : Int32) (a2 : Int32) (Q : Int32 → pr_Sg → Prop) : Prop :=
  (∃ n : Nat, wp_X9_isFree_L2 g Q n σ a1 a2 (0 : Int32))
set_option maxHeartbeats 4000000 in
set_option maxRecDepth 100000 in
theorem t_X9_isFree {p : Program} {l : Launch} {e : Env} {s : State} {m : MethodId} {args : Array Value} {below : List Frame} {meth : Method} {c : Code} {D : va_G} {cs : Nat → ClassId} {A : Nat → Prop} {ad : pr_Ad} {g : Nat → Nat} {Q : Int32 → pr_Sg → Prop} (C : pr_C RX9 cX9_isFree 4 (some .boolean) D cs p s m args meth c) {H : Heap} {locs : List Loc} {ls : Array Slot} {σ : pr_Sg} {a1 : Int32} {a2 : Int32} (h : wpb_X9_isFree g σ a1 a2 Q) (hR : pr_R D cs A ad g σ H) (hS : va_S A s.heap H locs) (hl : lv_has ls 4 [(0, .ref (ad 9 0 0)), (1, .int a1), (2, .int a2)]) : W p l e rm_X9_isFree s m args below meth c H locs 0 0 (MQ below (va_Qi (pr_Qz Q) (pr_E D cs A ad g) A) args s 0 0 A) (F0 m 0 ls []) := by
  unfold wpb_X9_isFree at h
  obtain ⟨hx, hb, hml, hown, hts, hK, hr, hlocks⟩ := id C
  refine lv_iconst (v := (0 : Int32)) hx hb dX9_isFree_0 (by decide) ?_
  refine lv_istore_n (lv' := [(3, .int (0 : Int32)), (0, .ref (ad 9 0 0)), (1, .int a1), (2, .int a2)]) hx hb dX9_isFree_1 rfl hl (by decide) rfl (fun ls hl => ?_)
  obtain ⟨n1, h⟩ := h
  exact t_X9_isFree_L2 C n1 h hR hS (lv_sub hl [1, 2, 3, 0] rfl)
abbrev wp_X9_isFree (g : Nat → Nat) (σ : pr_Sg) (a1 : Int32) (a2 : Int32) (Q : Int32 → pr_Sg → Prop) : Prop := wpb_X9_isFree g σ a1 a2 Q
set_option maxHeartbeats 4000000 in
set_option maxRecDepth 100000 in
theorem c_X9_isFree {l : Launch} {D : va_G} {cs : Nat → ClassId} {A : Nat → Prop} {ad : pr_Ad} {g : Nat → Nat} {σ : pr_Sg} {a1 : Int32} {a2 : Int32} {Q : Int32 → pr_Sg → Prop} (h : wp_X9_isFree g σ a1 a2 Q) : pr_Mi l D cs A ad g yX9_isFree cX9_isFree 4 (some .boolean) rm_X9_isFree [.ref (ad 9 0 0), .int a1, .int a2] σ (pr_Qz Q) := by
  refine Met.ofW (cc := cX9_isFree) (maxL := 4) (ret := (some .boolean)) (by decide) rfl ?_
  intro p e s m args below meth c s₁ B hml hv
  obtain ⟨rfl, hR, hK⟩ := hv
  have C : pr_C RX9 cX9_isFree 4 (some .boolean) D cs p s m [.ref (ad 9 0 0), .int a1, .int a2].toArray meth c := pr_C.of B hml hK
  have hS : va_S A s.heap s.heap [] := va_S.rf
  have hl := lv_entry ([.ref (ad 9 0 0), .int a1, .int a2]) (n := 4) (Nat.le_of_ble_eq_true rfl)
  rw [lg_entry_eq]
  generalize (lg_sl ([.ref (ad 9 0 0), .int a1, .int a2]) ++ List.replicate (4 - (lg_sl ([.ref (ad 9 0 0), .int a1, .int a2])).length) Slot.unset).toArray = ls at hl ⊢
  have hl : lv_has ls 4 [(0, .ref (ad 9 0 0)), (1, .int a1), (2, .int a2)] := hl
  exact t_X9_isFree C h hR hS hl
def rm_X9_sits : Room := { frames := 0, cells := 0, slots := 0, locals := 0 }
theorem hd_X9_sits : yX9_sits.cls = RX9 ∧ yX9_sits.cls ≠ "java/lang/invoke/MethodHandle" ∧ yX9_sits.cls ≠ "java/lang/invoke/VarHandle" ∧ (parseMethodDescriptor yX9_sits.desc).map (fun d => d.parameters.length) = some 2 := ⟨rfl, by decide, by decide, by decide +kernel⟩
def wp_X9_sits_L2 (g : Nat → Nat) (Q : Int32 → pr_Sg → Prop) : Nat → pr_Sg → Int32 → Int32 → Int32 → Prop
  | 0, _, _, _, _ => False
  | n + 1, σ, x1, x2, x3 => (((σ 608 0 0) ≤ x3 → Q (0 : Int32) σ) ∧
  (¬ (σ 608 0 0) ≤ x3 → (vp_in x3 200 ∧ ((¬ (σ 1059 0 (x3).toNatClampNeg) = x2 → wp_X9_sits_L2 g Q n σ x1 x2 (x3 + (1 : Int32))) ∧
  ((σ 1059 0 (x3).toNatClampNeg) = x2 → (vp_in x3 200 ∧ (vp_in (σ 1058 0 (x3).toNatClampNeg) 40 ∧ ((¬ (σ 1050 0 ((σ 1058 0 (x3).toNatClampNeg)).toNatClampNeg) = x1 → wp_X9_sits_L2 g Q n σ x1 x2 (x3 + (1 : Int32))) ∧
  ((σ 1050 0 ((σ 1058 0 (x3).toNatClampNeg)).toNatClampNeg) = x1 → Q (1 : Int32) σ)))))))))
set_option maxHeartbeats 4000000 in
set_option maxRecDepth 100000 in
theorem t_X9_sits_L2 {p : Program} {l : Launch} {e : Env} {s : State} {m : MethodId} {args : Array Value} {below : List Frame} {meth : Method} {c : Code} {D : va_G} {cs : Nat → ClassId} {A : Nat → Prop} {ad : pr_Ad} {g : Nat → Nat} {Q : Int32 → pr_Sg → Prop} (C : pr_C RX9 cX9_sits 4 (some .boolean) D cs p s m args meth c) (n : Nat) : ∀ {H : Heap} {locs : List Loc} {ls : Array Slot} {σ : pr_Sg} {x1 : Int32} {x2 : Int32} {x3 : Int32} (_ : wp_X9_sits_L2 g Q n σ x1 x2 x3) (_ : pr_R D cs A ad g σ H) (_ : va_S A s.heap H locs) (_ : lv_has ls 4 [(0, .ref (ad 9 0 0)), (1, .int x1), (2, .int x2), (3, .int x3)]), W p l e rm_X9_sits s m args below meth c H locs 0 0 (MQ below (va_Qi (pr_Qz Q) (pr_E D cs A ad g) A) args s 0 0 A) (F0 m 2 ls []) := by
  induction n with
  | zero =>
    intro H locs ls σ x1 x2 x3 h
    exact False.elim h
  | succ n ih =>
    intro H locs ls σ x1 x2 x3 h hR hS hl
    unfold wp_X9_sits_L2 at h
    obtain ⟨hx, hb, hml, hown, hts, hK, hr, hlocks⟩ := id C
    refine lv_iload_n hx hb dX9_sits_2 rfl (lv_at hl 3 rfl) ?_
    refine lv_aload_n hx hb dX9_sits_3 rfl (lv_at hl 0 rfl) ?_
    refine gf_RX9_150 C hR pr_l9 dX9_sits_4 ?_
    refine lv_icmp_ge (tgt := 43) hx hb dX9_sits_7 (by decide) (fun c1 => ?_) (fun c1 => ?_)
    · have h := h.1 c1
      refine lv_iconst (v := (0 : Int32)) hx hb dX9_sits_43 (by decide) ?_
      exact pr_retz C (Or.inl rfl) h hR hS dX9_sits_44
    · have h := h.2 c1
      refine lv_aload_n hx hb dX9_sits_10 rfl (lv_at hl 0 rfl) ?_
      refine gf_RX9_88 C hR pr_l9 dX9_sits_11 ?_
      refine lv_iload_n hx hb dX9_sits_14 rfl (lv_at hl 3 rfl) ?_
      refine pr_ald hx hb hK hR pr_l59 (by omega) (by omega) (n := 200) (by decide) h.1 dX9_sits_15 (t := 1059) rfl ?_
      have h := h.2
      refine lv_iload_n hx hb dX9_sits_16 rfl (lv_at hl 2 rfl) ?_
      refine lv_icmp_ne (tgt := 37) hx hb dX9_sits_17 (by decide) (fun c2 => ?_) (fun c2 => ?_)
      · have h := h.1 c2
        refine lv_iinc (v := (x3 + (1 : Int32))) (lv' := [(3, .int (x3 + (1 : Int32))), (0, .ref (ad 9 0 0)), (1, .int x1), (2, .int x2)]) hx hb dX9_sits_37 hl (k := 3) rfl rfl (by decide) rfl (fun ls hl => ?_)
        refine lv_goto (tgt := 2) hx hb dX9_sits_40 (by decide) ?_
        exact ih h hR hS (lv_sub hl [1, 2, 3, 0] rfl)
      · have h := h.2 c2
        refine lv_aload_n hx hb dX9_sits_20 rfl (lv_at hl 0 rfl) ?_
        refine gf_RX9_44 C hR pr_l9 dX9_sits_21 ?_
        refine lv_aload_n hx hb dX9_sits_24 rfl (lv_at hl 0 rfl) ?_
        refine gf_RX9_85 C hR pr_l9 dX9_sits_25 ?_
        refine lv_iload_n hx hb dX9_sits_28 rfl (lv_at hl 3 rfl) ?_
        refine pr_ald hx hb hK hR pr_l58 (by omega) (by omega) (n := 200) (by decide) h.1 dX9_sits_29 (t := 1058) rfl ?_
        have h := h.2
        refine pr_ald hx hb hK hR pr_l50 (by omega) (by omega) (n := 40) (by decide) h.1 dX9_sits_30 (t := 1050) rfl ?_
        have h := h.2
        refine lv_iload_n hx hb dX9_sits_31 rfl (lv_at hl 1 rfl) ?_
        refine lv_icmp_ne (tgt := 37) hx hb dX9_sits_32 (by decide) (fun c3 => ?_) (fun c3 => ?_)
        · have h := h.1 c3
          refine lv_iinc (v := (x3 + (1 : Int32))) (lv' := [(3, .int (x3 + (1 : Int32))), (0, .ref (ad 9 0 0)), (1, .int x1), (2, .int x2)]) hx hb dX9_sits_37 hl (k := 3) rfl rfl (by decide) rfl (fun ls hl => ?_)
          refine lv_goto (tgt := 2) hx hb dX9_sits_40 (by decide) ?_
          exact ih h hR hS (lv_sub hl [1, 2, 3, 0] rfl)
        · have h := h.2 c3
          refine lv_iconst (v := (1 : Int32)) hx hb dX9_sits_35 (by decide) ?_
          exact pr_retz C (Or.inr rfl) h hR hS dX9_sits_36
def wpb_X9_sits (g : Nat → Nat) (σ : pr_Sg) (a1 : Int32) (a2 : Int32) (Q : Int32 → pr_Sg → Prop) : Prop :=
  (∃ n : Nat, wp_X9_sits_L2 g Q n σ a1 a2 (0 : Int32))
set_option maxHeartbeats 4000000 in
set_option maxRecDepth 100000 in
theorem t_X9_sits {p : Program} {l : Launch} {e : Env} {s : State} {m : MethodId} {args : Array Value} {below : List Frame} {meth : Method} {c : Code} {D : va_G} {cs : Nat → ClassId} {A : Nat → Prop} {ad : pr_Ad} {g : Nat → Nat} {Q : Int32 → pr_Sg → Prop} (C : pr_C RX9 cX9_sits 4 (some .boolean) D cs p s m args meth c) {H : Heap} {locs : List Loc} {ls : Array Slot} {σ : pr_Sg} {a1 : Int32} {a2 : Int32} (h : wpb_X9_sits g σ a1 a2 Q) (hR : pr_R D cs A ad g σ H) (hS : va_S A s.heap H locs) (hl : lv_has ls 4 [(0, .ref (ad 9 0 0)), (1, .int a1), (2, .int a2)]) : W p l e rm_X9_sits s m args below meth c H locs 0 0 (MQ below (va_Qi (pr_Qz Q) (pr_E D cs A ad g) A) args s 0 0 A) (F0 m 0 ls []) := by
  unfold wpb_X9_sits at h
  obtain ⟨hx, hb, hml, hown, hts, hK, hr, hlocks⟩ := id C
  refine lv_iconst (v := (0 : Int32)) hx hb dX9_sits_0 (by decide) ?_
  refine lv_istore_n (lv' := [(3, .int (0 : Int32)), (0, .ref (ad 9 0 0)), (1, .int a1), (2, .int a2)]) hx hb dX9_sits_1 rfl hl (by decide) rfl (fun ls hl => ?_)
  obtain ⟨n1, h⟩ := h
  exact t_X9_sits_L2 C n1 h hR hS (lv_sub hl [1, 2, 3, 0] rfl)
abbrev wp_X9_sits (g : Nat → Nat) (σ : pr_Sg) (a1 : Int32) (a2 : Int32) (Q : Int32 → pr_Sg → Prop) : Prop := wpb_X9_sits g σ a1 a2 Q
set_option maxHeartbeats 4000000 in
set_option maxRecDepth 100000 in
theorem c_X9_sits {l : Launch} {D : va_G} {cs : Nat → ClassId} {A : Nat → Prop} {ad : pr_Ad} {g : Nat → Nat} {σ : pr_Sg} {a1 : Int32} {a2 : Int32} {Q : Int32 → pr_Sg → Prop} (h : wp_X9_sits g σ a1 a2 Q) : pr_Mi l D cs A ad g yX9_sits cX9_sits 4 (some .boolean) rm_X9_sits [.ref (ad 9 0 0), .int a1, .int a2] σ (pr_Qz Q) := by
  refine Met.ofW (cc := cX9_sits) (maxL := 4) (ret := (some .boolean)) (by decide) rfl ?_
  intro p e s m args below meth c s₁ B hml hv
  obtain ⟨rfl, hR, hK⟩ := hv
  have C : pr_C RX9 cX9_sits 4 (some .boolean) D cs p s m [.ref (ad 9 0 0), .int a1, .int a2].toArray meth c := pr_C.of B hml hK
  have hS : va_S A s.heap s.heap [] := va_S.rf
  have hl := lv_entry ([.ref (ad 9 0 0), .int a1, .int a2]) (n := 4) (Nat.le_of_ble_eq_true rfl)
  rw [lg_entry_eq]
  generalize (lg_sl ([.ref (ad 9 0 0), .int a1, .int a2]) ++ List.replicate (4 - (lg_sl ([.ref (ad 9 0 0), .int a1, .int a2])).length) Slot.unset).toArray = ls at hl ⊢
  have hl : lv_has ls 4 [(0, .ref (ad 9 0 0)), (1, .int a1), (2, .int a2)] := hl
  exact t_X9_sits C h hR hS hl
def rm_X9_couldBe : Room := { frames := 2, cells := 0, slots := 0, locals := 35 }
theorem hd_X9_couldBe : yX9_couldBe.cls = RX9 ∧ yX9_couldBe.cls ≠ "java/lang/invoke/MethodHandle" ∧ yX9_couldBe.cls ≠ "java/lang/invoke/VarHandle" ∧ (parseMethodDescriptor yX9_couldBe.desc).map (fun d => d.parameters.length) = some 3 := ⟨rfl, by decide, by decide, by decide +kernel⟩
def wpb_X9_couldBe (g : Nat → Nat) (σ : pr_Sg) (a1 : Int32) (a2 : Int32) (a3 : Int32) (Q : Int32 → pr_Sg → Prop) : Prop :=
  (wp_X9_lightOf g σ a2 (fun r1 σ1 =>
  (wp_X9_in g σ1 a3 (0 : Int32) (r1 - (1 : Int32)) (fun r2 σ2 =>
  ((r2 = 0 → Q (0 : Int32) σ2) ∧
  (¬ r2 = 0 → (vp_in a1 40 ∧ (vp_in (σ2 1050 0 (a1).toNatClampNeg) 20 ∧ (vp_in a1 40 ∧ (vp_in (σ2 1050 0 (a1).toNatClampNeg) 20 ∧ (wp_X9_in g σ2 a3 (σ2 1047 0 ((σ2 1050 0 (a1).toNatClampNeg)).toNatClampNeg) (σ2 1048 0 ((σ2 1050 0 (a1).toNatClampNeg)).toNatClampNeg) (fun r4 σ4 =>
  ((r4 = 0 → Q (0 : Int32) σ4) ∧
  (¬ r4 = 0 → (wp_X9_isFree g σ4 a2 a3 (fun r6 σ6 =>
  ((r6 = 0 → Q (0 : Int32) σ6) ∧
  (¬ r6 = 0 → Q (1 : Int32) σ6))))))))))))))))))
set_option maxHeartbeats 4000000 in
set_option maxRecDepth 100000 in
theorem t_X9_couldBe {p : Program} {l : Launch} {e : Env} {s : State} {m : MethodId} {args : Array Value} {below : List Frame} {meth : Method} {c : Code} {D : va_G} {cs : Nat → ClassId} {A : Nat → Prop} {ad : pr_Ad} {g : Nat → Nat} {Q : Int32 → pr_Sg → Prop} (C : pr_C RX9 cX9_couldBe 4 (some .boolean) D cs p s m args meth c) {H : Heap} {locs : List Loc} {ls : Array Slot} {σ : pr_Sg} {a1 : Int32} {a2 : Int32} {a3 : Int32} (h : wpb_X9_couldBe g σ a1 a2 a3 Q) (hR : pr_R D cs A ad g σ H) (hS : va_S A s.heap H locs) (hl : lv_has ls 4 [(0, .ref (ad 9 0 0)), (1, .int a1), (2, .int a2), (3, .int a3)]) : W p l e rm_X9_couldBe s m args below meth c H locs 0 0 (MQ below (va_Qi (pr_Qz Q) (pr_E D cs A ad g) A) args s 0 0 A) (F0 m 0 ls []) := by
  unfold wpb_X9_couldBe at h
  obtain ⟨hx, hb, hml, hown, hts, hK, hr, hlocks⟩ := id C
  refine lv_iload_n hx hb dX9_couldBe_0 rfl (lv_at hl 3 rfl) ?_
  refine lv_iconst (v := (0 : Int32)) hx hb dX9_couldBe_1 (by decide) ?_
  refine lv_iload_n hx hb dX9_couldBe_2 rfl (lv_at hl 2 rfl) ?_
  refine pr_calli hS (pr_runS (As := [.int a2]) (rest := [.int (0 : Int32), .int a3]) C hR (c_X9_lightOf h) gw_RX9_147 rfl rfl hs_X9_lightOf ⟨Nat.le_of_ble_eq_true rfl, Nat.le_of_ble_eq_true rfl⟩ rfl hl.1 rfl (Nat.le_of_ble_eq_true rfl) dX9_couldBe_3 ⟨Nat.zero_le _, Nat.zero_le _⟩) (fun r1 σ1 H locs h hR hS => ?_)
  refine lv_iconst (v := (1 : Int32)) hx hb dX9_couldBe_6 (by decide) ?_
  refine lv_isub hx hb dX9_couldBe_7 ?_
  refine pr_calli hS (pr_runS (As := [.int a3, .int (0 : Int32), .int (r1 - (1 : Int32))]) (rest := []) C hR (c_X9_in h) gw_RX9_113 rfl rfl hs_X9_in ⟨Nat.le_of_ble_eq_true rfl, Nat.le_of_ble_eq_true rfl⟩ rfl hl.1 rfl (Nat.le_of_ble_eq_true rfl) dX9_couldBe_8 ⟨Nat.zero_le _, Nat.zero_le _⟩) (fun r2 σ2 H locs h hR hS => ?_)
  obtain ⟨hz2, h⟩ := h
  refine lv_if_eq (tgt := 56) hx hb dX9_couldBe_11 (by decide) (fun c3 => ?_) (fun c3 => ?_)
  · have h := h.1 c3
    refine lv_iconst (v := (0 : Int32)) hx hb dX9_couldBe_56 (by decide) ?_
    exact pr_retz C (Or.inl rfl) h hR hS dX9_couldBe_57
  · have h := h.2 c3
    refine lv_iload_n hx hb dX9_couldBe_14 rfl (lv_at hl 3 rfl) ?_
    refine lv_aload_n hx hb dX9_couldBe_15 rfl (lv_at hl 0 rfl) ?_
    refine gf_RX9_35 C hR pr_l9 dX9_couldBe_16 ?_
    refine lv_aload_n hx hb dX9_couldBe_19 rfl (lv_at hl 0 rfl) ?_
    refine gf_RX9_44 C hR pr_l9 dX9_couldBe_20 ?_
    refine lv_iload_n hx hb dX9_couldBe_23 rfl (lv_at hl 1 rfl) ?_
    refine pr_ald hx hb hK hR pr_l50 (by omega) (by omega) (n := 40) (by decide) h.1 dX9_couldBe_24 (t := 1050) rfl ?_
    have h := h.2
    refine pr_ald hx hb hK hR pr_l47 (by omega) (by omega) (n := 20) (by decide) h.1 dX9_couldBe_25 (t := 1047) rfl ?_
    have h := h.2
    refine lv_aload_n hx hb dX9_couldBe_26 rfl (lv_at hl 0 rfl) ?_
    refine gf_RX9_38 C hR pr_l9 dX9_couldBe_27 ?_
    refine lv_aload_n hx hb dX9_couldBe_30 rfl (lv_at hl 0 rfl) ?_
    refine gf_RX9_44 C hR pr_l9 dX9_couldBe_31 ?_
    refine lv_iload_n hx hb dX9_couldBe_34 rfl (lv_at hl 1 rfl) ?_
    refine pr_ald hx hb hK hR pr_l50 (by omega) (by omega) (n := 40) (by decide) h.1 dX9_couldBe_35 (t := 1050) rfl ?_
    have h := h.2
    refine pr_ald hx hb hK hR pr_l48 (by omega) (by omega) (n := 20) (by decide) h.1 dX9_couldBe_36 (t := 1048) rfl ?_
    have h := h.2
    refine pr_calli hS (pr_runS (As := [.int a3, .int (σ2 1047 0 ((σ2 1050 0 (a1).toNatClampNeg)).toNatClampNeg), .int (σ2 1048 0 ((σ2 1050 0 (a1).toNatClampNeg)).toNatClampNeg)]) (rest := []) C hR (c_X9_in h) gw_RX9_113 rfl rfl hs_X9_in ⟨Nat.le_of_ble_eq_true rfl, Nat.le_of_ble_eq_true rfl⟩ rfl hl.1 rfl (Nat.le_of_ble_eq_true rfl) dX9_couldBe_37 ⟨Nat.zero_le _, Nat.zero_le _⟩) (fun r4 σ4 H locs h hR hS => ?_)
    obtain ⟨hz4, h⟩ := h
    refine lv_if_eq (tgt := 56) hx hb dX9_couldBe_40 (by decide) (fun c5 => ?_) (fun c5 => ?_)
    · have h := h.1 c5
      refine lv_iconst (v := (0 : Int32)) hx hb dX9_couldBe_56 (by decide) ?_
      exact pr_retz C (Or.inl rfl) h hR hS dX9_couldBe_57
    · have h := h.2 c5
      refine lv_aload_n hx hb dX9_couldBe_43 rfl (lv_at hl 0 rfl) ?_
      refine lv_iload_n hx hb dX9_couldBe_44 rfl (lv_at hl 2 rfl) ?_
      refine lv_iload_n hx hb dX9_couldBe_45 rfl (lv_at hl 3 rfl) ?_
      refine pr_calli hS (pr_runV (As := [.int a2, .int a3]) (rest := []) C hR pr_l9 (by omega) rfl (c_X9_isFree h) gw_RX9_153 rfl rfl hd_X9_isFree ⟨Nat.le_of_ble_eq_true rfl, Nat.le_of_ble_eq_true rfl⟩ rfl hl.1 rfl (Nat.le_of_ble_eq_true rfl) dX9_couldBe_46 ⟨Nat.zero_le _, Nat.zero_le _⟩) (fun r6 σ6 H locs h hR hS => ?_)
      obtain ⟨hz6, h⟩ := h
      refine lv_if_eq (tgt := 56) hx hb dX9_couldBe_49 (by decide) (fun c7 => ?_) (fun c7 => ?_)
      · have h := h.1 c7
        refine lv_iconst (v := (0 : Int32)) hx hb dX9_couldBe_56 (by decide) ?_
        exact pr_retz C (Or.inl rfl) h hR hS dX9_couldBe_57
      · have h := h.2 c7
        refine lv_iconst (v := (1 : Int32)) hx hb dX9_couldBe_52 (by decide) ?_
        refine lv_goto (tgt := 57) hx hb dX9_couldBe_53 (by decide) ?_
        exact pr_retz C (Or.inr rfl) h hR hS dX9_couldBe_57
abbrev wp_X9_couldBe (g : Nat → Nat) (σ : pr_Sg) (a1 : Int32) (a2 : Int32) (a3 : Int32) (Q : Int32 → pr_Sg → Prop) : Prop := wpb_X9_couldBe g σ a1 a2 a3 Q
set_option maxHeartbeats 4000000 in
set_option maxRecDepth 100000 in
theorem c_X9_couldBe {l : Launch} {D : va_G} {cs : Nat → ClassId} {A : Nat → Prop} {ad : pr_Ad} {g : Nat → Nat} {σ : pr_Sg} {a1 : Int32} {a2 : Int32} {a3 : Int32} {Q : Int32 → pr_Sg → Prop} (h : wp_X9_couldBe g σ a1 a2 a3 Q) : pr_Mi l D cs A ad g yX9_couldBe cX9_couldBe 4 (some .boolean) rm_X9_couldBe [.ref (ad 9 0 0), .int a1, .int a2, .int a3] σ (pr_Qz Q) := by
  refine Met.ofW (cc := cX9_couldBe) (maxL := 4) (ret := (some .boolean)) (by decide) rfl ?_
  intro p e s m args below meth c s₁ B hml hv
  obtain ⟨rfl, hR, hK⟩ := hv
  have C : pr_C RX9 cX9_couldBe 4 (some .boolean) D cs p s m [.ref (ad 9 0 0), .int a1, .int a2, .int a3].toArray meth c := pr_C.of B hml hK
  have hS : va_S A s.heap s.heap [] := va_S.rf
  have hl := lv_entry ([.ref (ad 9 0 0), .int a1, .int a2, .int a3]) (n := 4) (Nat.le_of_ble_eq_true rfl)
  rw [lg_entry_eq]
  generalize (lg_sl ([.ref (ad 9 0 0), .int a1, .int a2, .int a3]) ++ List.replicate (4 - (lg_sl ([.ref (ad 9 0 0), .int a1, .int a2, .int a3])).length) Slot.unset).toArray = ls at hl ⊢
  have hl : lv_has ls 4 [(0, .ref (ad 9 0 0)), (1, .int a1), (2, .int a2), (3, .int a3)] := hl
  exact t_X9_couldBe C h hR hS hl
def rm_X9_book : Room := { frames := 3, cells := 0, slots := 0, locals := 58 }
theorem hd_X9_book : yX9_book.cls = RX9 ∧ yX9_book.cls ≠ "java/lang/invoke/MethodHandle" ∧ yX9_book.cls ≠ "java/lang/invoke/VarHandle" ∧ (parseMethodDescriptor yX9_book.desc).map (fun d => d.parameters.length) = some 3 := ⟨rfl, by decide, by decide, by decide +kernel⟩
def wpb_X9_book (g : Nat → Nat) (σ : pr_Sg) (a1 : Int32) (a2 : Int32) (a3 : Int32) (Q : Int32 → pr_Sg → Prop) : Prop :=
  (wp_X9_isPicture g σ a1 (fun r1 σ1 =>
  ((r1 = 0 → Q (0 : Int32) σ1) ∧
  (¬ r1 = 0 → (vp_in a1 40 ∧ ((¬ (σ1 1053 0 (a1).toNatClampNeg) = (-1 : Int32) → Q (0 : Int32) σ1) ∧
  ((σ1 1053 0 (a1).toNatClampNeg) = (-1 : Int32) → (wp_X9_in g σ1 a2 (σ1 576 0 0) (20000 : Int32) (fun r4 σ4 =>
  ((r4 = 0 → Q (0 : Int32) σ4) ∧
  (¬ r4 = 0 → (wp_X9_couldBe g σ4 a1 a2 a3 (fun r6 σ6 =>
  ((r6 = 0 → Q (0 : Int32) σ6) ∧
  (¬ r6 = 0 → (vp_in a1 40 ∧ (wp_X9_sits g σ6 (σ6 1050 0 (a1).toNatClampNeg) a2 (fun r8 σ8 =>
  ((¬ r8 = 0 → Q (0 : Int32) σ8) ∧
  (r8 = 0 → ((¬ (σ8 608 0 0) = (200 : Int32) → (vp_in (σ8 608 0 0) 200 ∧ ∀ σ11 : pr_Sg, σ11 = pr_up σ8 1058 0 ((σ8 608 0 0)).toNatClampNeg a1 →
  (vp_in (σ11 608 0 0) 200 ∧ ∀ σ12 : pr_Sg, σ12 = pr_up σ11 1059 0 ((σ11 608 0 0)).toNatClampNeg a2 →
  (vp_in (σ12 608 0 0) 200 ∧ ∀ σ13 : pr_Sg, σ13 = pr_up σ12 1060 0 ((σ12 608 0 0)).toNatClampNeg a3 →
  (vp_in (σ13 608 0 0) 200 ∧ ∀ σ14 : pr_Sg, σ14 = pr_up σ13 1071 0 ((σ13 608 0 0)).toNatClampNeg (vp_nar .boolean (0 : Int32)) →
  (∀ σ15 : pr_Sg, σ15 = pr_up σ14 608 0 0 ((σ14 608 0 0) + (1 : Int32)) →
  Q (1 : Int32) σ15)))))) ∧
  ((σ8 608 0 0) = (200 : Int32) → Q (0 : Int32) σ8))))))))))))))))))))))
set_option maxHeartbeats 4000000 in
set_option maxRecDepth 100000 in
theorem t_X9_book {p : Program} {l : Launch} {e : Env} {s : State} {m : MethodId} {args : Array Value} {below : List Frame} {meth : Method} {c : Code} {D : va_G} {cs : Nat → ClassId} {A : Nat → Prop} {ad : pr_Ad} {g : Nat → Nat} {Q : Int32 → pr_Sg → Prop} (C : pr_C RX9 cX9_book 4 (some .boolean) D cs p s m args meth c) {H : Heap} {locs : List Loc} {ls : Array Slot} {σ : pr_Sg} {a1 : Int32} {a2 : Int32} {a3 : Int32} (h : wpb_X9_book g σ a1 a2 a3 Q) (hR : pr_R D cs A ad g σ H) (hS : va_S A s.heap H locs) (hl : lv_has ls 4 [(0, .ref (ad 9 0 0)), (1, .int a1), (2, .int a2), (3, .int a3)]) : W p l e rm_X9_book s m args below meth c H locs 0 0 (MQ below (va_Qi (pr_Qz Q) (pr_E D cs A ad g) A) args s 0 0 A) (F0 m 0 ls []) := by
  unfold wpb_X9_book at h
  obtain ⟨hx, hb, hml, hown, hts, hK, hr, hlocks⟩ := id C
  refine lv_aload_n hx hb dX9_book_0 rfl (lv_at hl 0 rfl) ?_
  refine lv_iload_n hx hb dX9_book_1 rfl (lv_at hl 1 rfl) ?_
  refine pr_calli hS (pr_runV (As := [.int a1]) (rest := []) C hR pr_l9 (by omega) rfl (c_X9_isPicture h) gw_RX9_157 rfl rfl hd_X9_isPicture ⟨Nat.le_of_ble_eq_true rfl, Nat.le_of_ble_eq_true rfl⟩ rfl hl.1 rfl (Nat.le_of_ble_eq_true rfl) dX9_book_2 ⟨Nat.zero_le _, Nat.zero_le _⟩) (fun r1 σ1 H locs h hR hS => ?_)
  obtain ⟨hz1, h⟩ := h
  refine lv_if_eq (tgt := 66) hx hb dX9_book_5 (by decide) (fun c2 => ?_) (fun c2 => ?_)
  · have h := h.1 c2
    refine lv_iconst (v := (0 : Int32)) hx hb dX9_book_66 (by decide) ?_
    exact pr_retz C (Or.inl rfl) h hR hS dX9_book_67
  · have h := h.2 c2
    refine lv_aload_n hx hb dX9_book_8 rfl (lv_at hl 0 rfl) ?_
    refine gf_RX9_53 C hR pr_l9 dX9_book_9 ?_
    refine lv_iload_n hx hb dX9_book_12 rfl (lv_at hl 1 rfl) ?_
    refine pr_ald hx hb hK hR pr_l53 (by omega) (by omega) (n := 40) (by decide) h.1 dX9_book_13 (t := 1053) rfl ?_
    have h := h.2
    refine lv_iconst (v := (-1 : Int32)) hx hb dX9_book_14 (by decide) ?_
    refine lv_icmp_ne (tgt := 66) hx hb dX9_book_15 (by decide) (fun c3 => ?_) (fun c3 => ?_)
    · have h := h.1 c3
      refine lv_iconst (v := (0 : Int32)) hx hb dX9_book_66 (by decide) ?_
      exact pr_retz C (Or.inl rfl) h hR hS dX9_book_67
    · have h := h.2 c3
      refine lv_iload_n hx hb dX9_book_18 rfl (lv_at hl 2 rfl) ?_
      refine lv_aload_n hx hb dX9_book_19 rfl (lv_at hl 0 rfl) ?_
      refine gf_RX9_128 C hR pr_l9 dX9_book_20 ?_
      refine lv_sipush (v := (20000 : Int32)) hx hb dX9_book_23 (by decide) ?_
      refine pr_calli hS (pr_runS (As := [.int a2, .int (σ1 576 0 0), .int (20000 : Int32)]) (rest := []) C hR (c_X9_in h) gw_RX9_113 rfl rfl hs_X9_in ⟨Nat.le_of_ble_eq_true rfl, Nat.le_of_ble_eq_true rfl⟩ rfl hl.1 rfl (Nat.le_of_ble_eq_true rfl) dX9_book_26 ⟨Nat.zero_le _, Nat.zero_le _⟩) (fun r4 σ4 H locs h hR hS => ?_)
      obtain ⟨hz4, h⟩ := h
      refine lv_if_eq (tgt := 66) hx hb dX9_book_29 (by decide) (fun c5 => ?_) (fun c5 => ?_)
      · have h := h.1 c5
        refine lv_iconst (v := (0 : Int32)) hx hb dX9_book_66 (by decide) ?_
        exact pr_retz C (Or.inl rfl) h hR hS dX9_book_67
      · have h := h.2 c5
        refine lv_aload_n hx hb dX9_book_32 rfl (lv_at hl 0 rfl) ?_
        refine lv_iload_n hx hb dX9_book_33 rfl (lv_at hl 1 rfl) ?_
        refine lv_iload_n hx hb dX9_book_34 rfl (lv_at hl 2 rfl) ?_
        refine lv_iload_n hx hb dX9_book_35 rfl (lv_at hl 3 rfl) ?_
        refine pr_calli hS (pr_runV (As := [.int a1, .int a2, .int a3]) (rest := []) C hR pr_l9 (by omega) rfl (c_X9_couldBe h) gw_RX9_160 rfl rfl hd_X9_couldBe ⟨Nat.le_of_ble_eq_true rfl, Nat.le_of_ble_eq_true rfl⟩ rfl hl.1 rfl (Nat.le_of_ble_eq_true rfl) dX9_book_36 ⟨Nat.zero_le _, Nat.zero_le _⟩) (fun r6 σ6 H locs h hR hS => ?_)
        obtain ⟨hz6, h⟩ := h
        refine lv_if_eq (tgt := 66) hx hb dX9_book_39 (by decide) (fun c7 => ?_) (fun c7 => ?_)
        · have h := h.1 c7
          refine lv_iconst (v := (0 : Int32)) hx hb dX9_book_66 (by decide) ?_
          exact pr_retz C (Or.inl rfl) h hR hS dX9_book_67
        · have h := h.2 c7
          refine lv_aload_n hx hb dX9_book_42 rfl (lv_at hl 0 rfl) ?_
          refine lv_aload_n hx hb dX9_book_43 rfl (lv_at hl 0 rfl) ?_
          refine gf_RX9_44 C hR pr_l9 dX9_book_44 ?_
          refine lv_iload_n hx hb dX9_book_47 rfl (lv_at hl 1 rfl) ?_
          refine pr_ald hx hb hK hR pr_l50 (by omega) (by omega) (n := 40) (by decide) h.1 dX9_book_48 (t := 1050) rfl ?_
          have h := h.2
          refine lv_iload_n hx hb dX9_book_49 rfl (lv_at hl 2 rfl) ?_
          refine pr_calli hS (pr_runV (As := [.int (σ6 1050 0 (a1).toNatClampNeg), .int a2]) (rest := []) C hR pr_l9 (by omega) rfl (c_X9_sits h) gw_RX9_163 rfl rfl hd_X9_sits ⟨Nat.le_of_ble_eq_true rfl, Nat.le_of_ble_eq_true rfl⟩ rfl hl.1 rfl (Nat.le_of_ble_eq_true rfl) dX9_book_50 ⟨Nat.zero_le _, Nat.zero_le _⟩) (fun r8 σ8 H locs h hR hS => ?_)
          obtain ⟨hz8, h⟩ := h
          refine lv_if_ne (tgt := 66) hx hb dX9_book_53 (by decide) (fun c9 => ?_) (fun c9 => ?_)
          · have h := h.1 c9
            refine lv_iconst (v := (0 : Int32)) hx hb dX9_book_66 (by decide) ?_
            exact pr_retz C (Or.inl rfl) h hR hS dX9_book_67
          · have h := h.2 c9
            refine lv_aload_n hx hb dX9_book_56 rfl (lv_at hl 0 rfl) ?_
            refine gf_RX9_150 C hR pr_l9 dX9_book_57 ?_
            refine lv_sipush (v := (200 : Int32)) hx hb dX9_book_60 (by decide) ?_
            refine lv_icmp_ne (tgt := 68) hx hb dX9_book_63 (by decide) (fun c10 => ?_) (fun c10 => ?_)
            · have h := h.1 c10
              refine lv_aload_n hx hb dX9_book_68 rfl (lv_at hl 0 rfl) ?_
              refine gf_RX9_85 C hR pr_l9 dX9_book_69 ?_
              refine lv_aload_n hx hb dX9_book_72 rfl (lv_at hl 0 rfl) ?_
              refine gf_RX9_150 C hR pr_l9 dX9_book_73 ?_
              refine lv_iload_n hx hb dX9_book_76 rfl (lv_at hl 1 rfl) ?_
              refine pr_ast hx hb hK hR hS pr_l58 (by omega) (by omega) (n := 200) (by decide) h.1 dX9_book_77 (t := 1058) rfl (fun H locs σ11 e11 hR hS => ?_)
              have h := h.2 σ11 e11
              refine lv_aload_n hx hb dX9_book_78 rfl (lv_at hl 0 rfl) ?_
              refine gf_RX9_88 C hR pr_l9 dX9_book_79 ?_
              refine lv_aload_n hx hb dX9_book_82 rfl (lv_at hl 0 rfl) ?_
              refine gf_RX9_150 C hR pr_l9 dX9_book_83 ?_
              refine lv_iload_n hx hb dX9_book_86 rfl (lv_at hl 2 rfl) ?_
              refine pr_ast hx hb hK hR hS pr_l59 (by omega) (by omega) (n := 200) (by decide) h.1 dX9_book_87 (t := 1059) rfl (fun H locs σ12 e12 hR hS => ?_)
              have h := h.2 σ12 e12
              refine lv_aload_n hx hb dX9_book_88 rfl (lv_at hl 0 rfl) ?_
              refine gf_RX9_91 C hR pr_l9 dX9_book_89 ?_
              refine lv_aload_n hx hb dX9_book_92 rfl (lv_at hl 0 rfl) ?_
              refine gf_RX9_150 C hR pr_l9 dX9_book_93 ?_
              refine lv_iload_n hx hb dX9_book_96 rfl (lv_at hl 3 rfl) ?_
              refine pr_ast hx hb hK hR hS pr_l60 (by omega) (by omega) (n := 200) (by decide) h.1 dX9_book_97 (t := 1060) rfl (fun H locs σ13 e13 hR hS => ?_)
              have h := h.2 σ13 e13
              refine lv_aload_n hx hb dX9_book_98 rfl (lv_at hl 0 rfl) ?_
              refine gf_RX9_94 C hR pr_l9 dX9_book_99 ?_
              refine lv_aload_n hx hb dX9_book_102 rfl (lv_at hl 0 rfl) ?_
              refine gf_RX9_150 C hR pr_l9 dX9_book_103 ?_
              refine lv_iconst (v := (0 : Int32)) hx hb dX9_book_106 (by decide) ?_
              refine pr_zst hx hb hK hR hS pr_l71 (by omega) (by omega) (n := 200) (by decide) h.1 dX9_book_107 (t := 1071) rfl (fun H locs σ14 e14 hR hS => ?_)
              have h := h.2 σ14 e14
              refine lv_aload_n hx hb dX9_book_108 rfl (lv_at hl 0 rfl) ?_
              refine lv_dup hx hb dX9_book_109 rfl ?_
              refine gf_RX9_150 C hR pr_l9 dX9_book_110 ?_
              refine lv_iconst (v := (1 : Int32)) hx hb dX9_book_113 (by decide) ?_
              refine lv_iadd hx hb dX9_book_114 ?_
              refine pf_RX9_150 C hR hS pr_l9 dX9_book_115 (fun H locs σ15 e15 hR hS => ?_)
              have h := h σ15 e15
              refine lv_iconst (v := (1 : Int32)) hx hb dX9_book_118 (by decide) ?_
              exact pr_retz C (Or.inr rfl) h hR hS dX9_book_119
            · have h := h.2 c10
              refine lv_iconst (v := (0 : Int32)) hx hb dX9_book_66 (by decide) ?_
              exact pr_retz C (Or.inl rfl) h hR hS dX9_book_67
abbrev wp_X9_book (g : Nat → Nat) (σ : pr_Sg) (a1 : Int32) (a2 : Int32) (a3 : Int32) (Q : Int32 → pr_Sg → Prop) : Prop := wpb_X9_book g σ a1 a2 a3 Q
set_option maxHeartbeats 4000000 in
set_option maxRecDepth 100000 in
theorem c_X9_book {l : Launch} {D : va_G} {cs : Nat → ClassId} {A : Nat → Prop} {ad : pr_Ad} {g : Nat → Nat} {σ : pr_Sg} {a1 : Int32} {a2 : Int32} {a3 : Int32} {Q : Int32 → pr_Sg → Prop} (h : wp_X9_book g σ a1 a2 a3 Q) : pr_Mi l D cs A ad g yX9_book cX9_book 4 (some .boolean) rm_X9_book [.ref (ad 9 0 0), .int a1, .int a2, .int a3] σ (pr_Qz Q) := by
  refine Met.ofW (cc := cX9_book) (maxL := 4) (ret := (some .boolean)) (by decide) rfl ?_
  intro p e s m args below meth c s₁ B hml hv
  obtain ⟨rfl, hR, hK⟩ := hv
  have C : pr_C RX9 cX9_book 4 (some .boolean) D cs p s m [.ref (ad 9 0 0), .int a1, .int a2, .int a3].toArray meth c := pr_C.of B hml hK
  have hS : va_S A s.heap s.heap [] := va_S.rf
  have hl := lv_entry ([.ref (ad 9 0 0), .int a1, .int a2, .int a3]) (n := 4) (Nat.le_of_ble_eq_true rfl)
  rw [lg_entry_eq]
  generalize (lg_sl ([.ref (ad 9 0 0), .int a1, .int a2, .int a3]) ++ List.replicate (4 - (lg_sl ([.ref (ad 9 0 0), .int a1, .int a2, .int a3])).length) Slot.unset).toArray = ls at hl ⊢
  have hl : lv_has ls 4 [(0, .ref (ad 9 0 0)), (1, .int a1), (2, .int a2), (3, .int a3)] := hl
  exact t_X9_book C h hR hS hl
def rm_X9_unused : Room := { frames := 0, cells := 0, slots := 0, locals := 0 }
theorem hd_X9_unused : yX9_unused.cls = RX9 ∧ yX9_unused.cls ≠ "java/lang/invoke/MethodHandle" ∧ yX9_unused.cls ≠ "java/lang/invoke/VarHandle" ∧ (parseMethodDescriptor yX9_unused.desc).map (fun d => d.parameters.length) = some 2 := ⟨rfl, by decide, by decide, by decide +kernel⟩
def wp_X9_unused_L2 (g : Nat → Nat) (Q : Int32 → pr_Sg → Prop) : Nat → pr_Sg → Int32 → Int32 → Int32 → Prop
  | 0, _, _, _, _ => False
  | n + 1, σ, x1, x2, x3 => (((σ 608 0 0) ≤ x3 → Q (-1 : Int32) σ) ∧
  (¬ (σ 608 0 0) ≤ x3 → (vp_in x3 200 ∧ ((¬ (σ 1058 0 (x3).toNatClampNeg) = x1 → wp_X9_unused_L2 g Q n σ x1 x2 (x3 + (1 : Int32))) ∧
  ((σ 1058 0 (x3).toNatClampNeg) = x1 → (vp_in x3 200 ∧ ((¬ (σ 1059 0 (x3).toNatClampNeg) = x2 → wp_X9_unused_L2 g Q n σ x1 x2 (x3 + (1 : Int32))) ∧
  ((σ 1059 0 (x3).toNatClampNeg) = x2 → (vp_in x3 200 ∧ ((¬ (σ 1071 0 (x3).toNatClampNeg) = 0 → wp_X9_unused_L2 g Q n σ x1 x2 (x3 + (1 : Int32))) ∧
  ((σ 1071 0 (x3).toNatClampNeg) = 0 → Q x3 σ)))))))))))
set_option maxHeartbeats 4000000 in
set_option maxRecDepth 100000 in
theorem t_X9_unused_L2 {p : Program} {l : Launch} {e : Env} {s : State} {m : MethodId} {args : Array Value} {below : List Frame} {meth : Method} {c : Code} {D : va_G} {cs : Nat → ClassId} {A : Nat → Prop} {ad : pr_Ad} {g : Nat → Nat} {Q : Int32 → pr_Sg → Prop} (C : pr_C RX9 cX9_unused 4 (some .int) D cs p s m args meth c) (n : Nat) : ∀ {H : Heap} {locs : List Loc} {ls : Array Slot} {σ : pr_Sg} {x1 : Int32} {x2 : Int32} {x3 : Int32} (_ : wp_X9_unused_L2 g Q n σ x1 x2 x3) (_ : pr_R D cs A ad g σ H) (_ : va_S A s.heap H locs) (_ : lv_has ls 4 [(0, .ref (ad 9 0 0)), (1, .int x1), (2, .int x2), (3, .int x3)]), W p l e rm_X9_unused s m args below meth c H locs 0 0 (MQ below (va_Qi Q (pr_E D cs A ad g) A) args s 0 0 A) (F0 m 2 ls []) := by
  induction n with
  | zero =>
    intro H locs ls σ x1 x2 x3 h
    exact False.elim h
  | succ n ih =>
    intro H locs ls σ x1 x2 x3 h hR hS hl
    unfold wp_X9_unused_L2 at h
    obtain ⟨hx, hb, hml, hown, hts, hK, hr, hlocks⟩ := id C
    refine lv_iload_n hx hb dX9_unused_2 rfl (lv_at hl 3 rfl) ?_
    refine lv_aload_n hx hb dX9_unused_3 rfl (lv_at hl 0 rfl) ?_
    refine gf_RX9_150 C hR pr_l9 dX9_unused_4 ?_
    refine lv_icmp_ge (tgt := 47) hx hb dX9_unused_7 (by decide) (fun c1 => ?_) (fun c1 => ?_)
    · have h := h.1 c1
      refine lv_iconst (v := (-1 : Int32)) hx hb dX9_unused_47 (by decide) ?_
      exact pr_reti C h hR hS dX9_unused_48
    · have h := h.2 c1
      refine lv_aload_n hx hb dX9_unused_10 rfl (lv_at hl 0 rfl) ?_
      refine gf_RX9_85 C hR pr_l9 dX9_unused_11 ?_
      refine lv_iload_n hx hb dX9_unused_14 rfl (lv_at hl 3 rfl) ?_
      refine pr_ald hx hb hK hR pr_l58 (by omega) (by omega) (n := 200) (by decide) h.1 dX9_unused_15 (t := 1058) rfl ?_
      have h := h.2
      refine lv_iload_n hx hb dX9_unused_16 rfl (lv_at hl 1 rfl) ?_
      refine lv_icmp_ne (tgt := 41) hx hb dX9_unused_17 (by decide) (fun c2 => ?_) (fun c2 => ?_)
      · have h := h.1 c2
        refine lv_iinc (v := (x3 + (1 : Int32))) (lv' := [(3, .int (x3 + (1 : Int32))), (0, .ref (ad 9 0 0)), (1, .int x1), (2, .int x2)]) hx hb dX9_unused_41 hl (k := 3) rfl rfl (by decide) rfl (fun ls hl => ?_)
        refine lv_goto (tgt := 2) hx hb dX9_unused_44 (by decide) ?_
        exact ih h hR hS (lv_sub hl [1, 2, 3, 0] rfl)
      · have h := h.2 c2
        refine lv_aload_n hx hb dX9_unused_20 rfl (lv_at hl 0 rfl) ?_
        refine gf_RX9_88 C hR pr_l9 dX9_unused_21 ?_
        refine lv_iload_n hx hb dX9_unused_24 rfl (lv_at hl 3 rfl) ?_
        refine pr_ald hx hb hK hR pr_l59 (by omega) (by omega) (n := 200) (by decide) h.1 dX9_unused_25 (t := 1059) rfl ?_
        have h := h.2
        refine lv_iload_n hx hb dX9_unused_26 rfl (lv_at hl 2 rfl) ?_
        refine lv_icmp_ne (tgt := 41) hx hb dX9_unused_27 (by decide) (fun c3 => ?_) (fun c3 => ?_)
        · have h := h.1 c3
          refine lv_iinc (v := (x3 + (1 : Int32))) (lv' := [(3, .int (x3 + (1 : Int32))), (0, .ref (ad 9 0 0)), (1, .int x1), (2, .int x2)]) hx hb dX9_unused_41 hl (k := 3) rfl rfl (by decide) rfl (fun ls hl => ?_)
          refine lv_goto (tgt := 2) hx hb dX9_unused_44 (by decide) ?_
          exact ih h hR hS (lv_sub hl [1, 2, 3, 0] rfl)
        · have h := h.2 c3
          refine lv_aload_n hx hb dX9_unused_30 rfl (lv_at hl 0 rfl) ?_
          refine gf_RX9_94 C hR pr_l9 dX9_unused_31 ?_
          refine lv_iload_n hx hb dX9_unused_34 rfl (lv_at hl 3 rfl) ?_
          refine pr_zld hx hb hK hR pr_l71 (by omega) (by omega) (n := 200) (by decide) h.1 dX9_unused_35 (t := 1071) rfl ?_
          have h := h.2
          refine lv_if_ne (tgt := 41) hx hb dX9_unused_36 (by decide) (fun c4 => ?_) (fun c4 => ?_)
          · have h := h.1 c4
            refine lv_iinc (v := (x3 + (1 : Int32))) (lv' := [(3, .int (x3 + (1 : Int32))), (0, .ref (ad 9 0 0)), (1, .int x1), (2, .int x2)]) hx hb dX9_unused_41 hl (k := 3) rfl rfl (by decide) rfl (fun ls hl => ?_)
            refine lv_goto (tgt := 2) hx hb dX9_unused_44 (by decide) ?_
            exact ih h hR hS (lv_sub hl [1, 2, 3, 0] rfl)
          · have h := h.2 c4
            refine lv_iload_n hx hb dX9_unused_39 rfl (lv_at hl 3 rfl) ?_
            exact pr_reti C h hR hS dX9_unused_40
def wpb_X9_unused (g : Nat → Nat) (σ : pr_Sg) (a1 : Int32) (a2 : Int32) (Q : Int32 → pr_Sg → Prop) : Prop :=
  (∃ n : Nat, wp_X9_unused_L2 g Q n σ a1 a2 (0 : Int32))
set_option maxHeartbeats 4000000 in
set_option maxRecDepth 100000 in
theorem t_X9_unused {p : Program} {l : Launch} {e : Env} {s : State} {m : MethodId} {args : Array Value} {below : List Frame} {meth : Method} {c : Code} {D : va_G} {cs : Nat → ClassId} {A : Nat → Prop} {ad : pr_Ad} {g : Nat → Nat} {Q : Int32 → pr_Sg → Prop} (C : pr_C RX9 cX9_unused 4 (some .int) D cs p s m args meth c) {H : Heap} {locs : List Loc} {ls : Array Slot} {σ : pr_Sg} {a1 : Int32} {a2 : Int32} (h : wpb_X9_unused g σ a1 a2 Q) (hR : pr_R D cs A ad g σ H) (hS : va_S A s.heap H locs) (hl : lv_has ls 4 [(0, .ref (ad 9 0 0)), (1, .int a1), (2, .int a2)]) : W p l e rm_X9_unused s m args below meth c H locs 0 0 (MQ below (va_Qi Q (pr_E D cs A ad g) A) args s 0 0 A) (F0 m 0 ls []) := by
  unfold wpb_X9_unused at h
  obtain ⟨hx, hb, hml, hown, hts, hK, hr, hlocks⟩ := id C
  refine lv_iconst (v := (0 : Int32)) hx hb dX9_unused_0 (by decide) ?_
  refine lv_istore_n (lv' := [(3, .int (0 : Int32)), (0, .ref (ad 9 0 0)), (1, .int a1), (2, .int a2)]) hx hb dX9_unused_1 rfl hl (by decide) rfl (fun ls hl => ?_)
  obtain ⟨n1, h⟩ := h
  exact t_X9_unused_L2 C n1 h hR hS (lv_sub hl [1, 2, 3, 0] rfl)
abbrev wp_X9_unused (g : Nat → Nat) (σ : pr_Sg) (a1 : Int32) (a2 : Int32) (Q : Int32 → pr_Sg → Prop) : Prop := wpb_X9_unused g σ a1 a2 Q
set_option maxHeartbeats 4000000 in
set_option maxRecDepth 100000 in
theorem c_X9_unused {l : Launch} {D : va_G} {cs : Nat → ClassId} {A : Nat → Prop} {ad : pr_Ad} {g : Nat → Nat} {σ : pr_Sg} {a1 : Int32} {a2 : Int32} {Q : Int32 → pr_Sg → Prop} (h : wp_X9_unused g σ a1 a2 Q) : pr_Mi l D cs A ad g yX9_unused cX9_unused 4 (some .int) rm_X9_unused [.ref (ad 9 0 0), .int a1, .int a2] σ Q := by
  refine Met.ofW (cc := cX9_unused) (maxL := 4) (ret := (some .int)) (by decide) rfl ?_
  intro p e s m args below meth c s₁ B hml hv
  obtain ⟨rfl, hR, hK⟩ := hv
  have C : pr_C RX9 cX9_unused 4 (some .int) D cs p s m [.ref (ad 9 0 0), .int a1, .int a2].toArray meth c := pr_C.of B hml hK
  have hS : va_S A s.heap s.heap [] := va_S.rf
  have hl := lv_entry ([.ref (ad 9 0 0), .int a1, .int a2]) (n := 4) (Nat.le_of_ble_eq_true rfl)
  rw [lg_entry_eq]
  generalize (lg_sl ([.ref (ad 9 0 0), .int a1, .int a2]) ++ List.replicate (4 - (lg_sl ([.ref (ad 9 0 0), .int a1, .int a2])).length) Slot.unset).toArray = ls at hl ⊢
  have hl : lv_has ls 4 [(0, .ref (ad 9 0 0)), (1, .int a1), (2, .int a2)] := hl
  exact t_X9_unused C h hR hS hl
def rm_X9_unbook : Room := { frames := 1, cells := 0, slots := 0, locals := 23 }
theorem hd_X9_unbook : yX9_unbook.cls = RX9 ∧ yX9_unbook.cls ≠ "java/lang/invoke/MethodHandle" ∧ yX9_unbook.cls ≠ "java/lang/invoke/VarHandle" ∧ (parseMethodDescriptor yX9_unbook.desc).map (fun d => d.parameters.length) = some 2 := ⟨rfl, by decide, by decide, by decide +kernel⟩
def wp_X9_unbook_L39 (g : Nat → Nat) (Q : Int32 → pr_Sg → Prop) : Nat → pr_Sg → Int32 → Prop
  | 0, _, _ => False
  | n + 1, σ, x4 => (((σ 608 0 0) ≤ x4 → Q (1 : Int32) σ) ∧
  (¬ (σ 608 0 0) ≤ x4 → (vp_in (x4 + (1 : Int32)) 200 ∧ (vp_in x4 200 ∧ ∀ σ6 : pr_Sg, σ6 = pr_up σ 1058 0 (x4).toNatClampNeg (σ 1058 0 ((x4 + (1 : Int32))).toNatClampNeg) →
  (vp_in (x4 + (1 : Int32)) 200 ∧ (vp_in x4 200 ∧ ∀ σ7 : pr_Sg, σ7 = pr_up σ6 1059 0 (x4).toNatClampNeg (σ6 1059 0 ((x4 + (1 : Int32))).toNatClampNeg) →
  (vp_in (x4 + (1 : Int32)) 200 ∧ (vp_in x4 200 ∧ ∀ σ8 : pr_Sg, σ8 = pr_up σ7 1060 0 (x4).toNatClampNeg (σ7 1060 0 ((x4 + (1 : Int32))).toNatClampNeg) →
  (vp_in (x4 + (1 : Int32)) 200 ∧ (vp_in x4 200 ∧ ∀ σ9 : pr_Sg, σ9 = pr_up σ8 1071 0 (x4).toNatClampNeg (vp_nar .boolean (σ8 1071 0 ((x4 + (1 : Int32))).toNatClampNeg)) →
  wp_X9_unbook_L39 g Q n σ9 (x4 + (1 : Int32))))))))))))
set_option maxHeartbeats 4000000 in
set_option maxRecDepth 100000 in
theorem t_X9_unbook_L39 {p : Program} {l : Launch} {e : Env} {s : State} {m : MethodId} {args : Array Value} {below : List Frame} {meth : Method} {c : Code} {D : va_G} {cs : Nat → ClassId} {A : Nat → Prop} {ad : pr_Ad} {g : Nat → Nat} {Q : Int32 → pr_Sg → Prop} (C : pr_C RX9 cX9_unbook 5 (some .boolean) D cs p s m args meth c) (n : Nat) : ∀ {H : Heap} {locs : List Loc} {ls : Array Slot} {σ : pr_Sg} {x4 : Int32} (_ : wp_X9_unbook_L39 g Q n σ x4) (_ : pr_R D cs A ad g σ H) (_ : va_S A s.heap H locs) (_ : lv_has ls 5 [(0, .ref (ad 9 0 0)), (4, .int x4)]), W p l e rm_X9_unbook s m args below meth c H locs 0 0 (MQ below (va_Qi (pr_Qz Q) (pr_E D cs A ad g) A) args s 0 0 A) (F0 m 39 ls []) := by
  induction n with
  | zero =>
    intro H locs ls σ x4 h
    exact False.elim h
  | succ n ih =>
    intro H locs ls σ x4 h hR hS hl
    unfold wp_X9_unbook_L39 at h
    obtain ⟨hx, hb, hml, hown, hts, hK, hr, hlocks⟩ := id C
    refine lv_iload hx hb dX9_unbook_39 (lv_at hl 1 rfl) ?_
    refine lv_aload_n hx hb dX9_unbook_41 rfl (lv_at hl 0 rfl) ?_
    refine gf_RX9_150 C hR pr_l9 dX9_unbook_42 ?_
    refine lv_icmp_ge (tgt := 118) hx hb dX9_unbook_45 (by decide) (fun c5 => ?_) (fun c5 => ?_)
    · have h := h.1 c5
      refine lv_iconst (v := (1 : Int32)) hx hb dX9_unbook_118 (by decide) ?_
      exact pr_retz C (Or.inr rfl) h hR hS dX9_unbook_119
    · have h := h.2 c5
      refine lv_aload_n hx hb dX9_unbook_48 rfl (lv_at hl 0 rfl) ?_
      refine gf_RX9_85 C hR pr_l9 dX9_unbook_49 ?_
      refine lv_iload hx hb dX9_unbook_52 (lv_at hl 1 rfl) ?_
      refine lv_aload_n hx hb dX9_unbook_54 rfl (lv_at hl 0 rfl) ?_
      refine gf_RX9_85 C hR pr_l9 dX9_unbook_55 ?_
      refine lv_iload hx hb dX9_unbook_58 (lv_at hl 1 rfl) ?_
      refine lv_iconst (v := (1 : Int32)) hx hb dX9_unbook_60 (by decide) ?_
      refine lv_iadd hx hb dX9_unbook_61 ?_
      refine pr_ald hx hb hK hR pr_l58 (by omega) (by omega) (n := 200) (by decide) h.1 dX9_unbook_62 (t := 1058) rfl ?_
      have h := h.2
      refine pr_ast hx hb hK hR hS pr_l58 (by omega) (by omega) (n := 200) (by decide) h.1 dX9_unbook_63 (t := 1058) rfl (fun H locs σ6 e6 hR hS => ?_)
      have h := h.2 σ6 e6
      refine lv_aload_n hx hb dX9_unbook_64 rfl (lv_at hl 0 rfl) ?_
      refine gf_RX9_88 C hR pr_l9 dX9_unbook_65 ?_
      refine lv_iload hx hb dX9_unbook_68 (lv_at hl 1 rfl) ?_
      refine lv_aload_n hx hb dX9_unbook_70 rfl (lv_at hl 0 rfl) ?_
      refine gf_RX9_88 C hR pr_l9 dX9_unbook_71 ?_
      refine lv_iload hx hb dX9_unbook_74 (lv_at hl 1 rfl) ?_
      refine lv_iconst (v := (1 : Int32)) hx hb dX9_unbook_76 (by decide) ?_
      refine lv_iadd hx hb dX9_unbook_77 ?_
      refine pr_ald hx hb hK hR pr_l59 (by omega) (by omega) (n := 200) (by decide) h.1 dX9_unbook_78 (t := 1059) rfl ?_
      have h := h.2
      refine pr_ast hx hb hK hR hS pr_l59 (by omega) (by omega) (n := 200) (by decide) h.1 dX9_unbook_79 (t := 1059) rfl (fun H locs σ7 e7 hR hS => ?_)
      have h := h.2 σ7 e7
      refine lv_aload_n hx hb dX9_unbook_80 rfl (lv_at hl 0 rfl) ?_
      refine gf_RX9_91 C hR pr_l9 dX9_unbook_81 ?_
      refine lv_iload hx hb dX9_unbook_84 (lv_at hl 1 rfl) ?_
      refine lv_aload_n hx hb dX9_unbook_86 rfl (lv_at hl 0 rfl) ?_
      refine gf_RX9_91 C hR pr_l9 dX9_unbook_87 ?_
      refine lv_iload hx hb dX9_unbook_90 (lv_at hl 1 rfl) ?_
      refine lv_iconst (v := (1 : Int32)) hx hb dX9_unbook_92 (by decide) ?_
      refine lv_iadd hx hb dX9_unbook_93 ?_
      refine pr_ald hx hb hK hR pr_l60 (by omega) (by omega) (n := 200) (by decide) h.1 dX9_unbook_94 (t := 1060) rfl ?_
      have h := h.2
      refine pr_ast hx hb hK hR hS pr_l60 (by omega) (by omega) (n := 200) (by decide) h.1 dX9_unbook_95 (t := 1060) rfl (fun H locs σ8 e8 hR hS => ?_)
      have h := h.2 σ8 e8
      refine lv_aload_n hx hb dX9_unbook_96 rfl (lv_at hl 0 rfl) ?_
      refine gf_RX9_94 C hR pr_l9 dX9_unbook_97 ?_
      refine lv_iload hx hb dX9_unbook_100 (lv_at hl 1 rfl) ?_
      refine lv_aload_n hx hb dX9_unbook_102 rfl (lv_at hl 0 rfl) ?_
      refine gf_RX9_94 C hR pr_l9 dX9_unbook_103 ?_
      refine lv_iload hx hb dX9_unbook_106 (lv_at hl 1 rfl) ?_
      refine lv_iconst (v := (1 : Int32)) hx hb dX9_unbook_108 (by decide) ?_
      refine lv_iadd hx hb dX9_unbook_109 ?_
      refine pr_zld hx hb hK hR pr_l71 (by omega) (by omega) (n := 200) (by decide) h.1 dX9_unbook_110 (t := 1071) rfl ?_
      have h := h.2
      refine pr_zst hx hb hK hR hS pr_l71 (by omega) (by omega) (n := 200) (by decide) h.1 dX9_unbook_111 (t := 1071) rfl (fun H locs σ9 e9 hR hS => ?_)
      have h := h.2 σ9 e9
      refine lv_iinc (v := (x4 + (1 : Int32))) (lv' := [(4, .int (x4 + (1 : Int32))), (0, .ref (ad 9 0 0))]) hx hb dX9_unbook_112 hl (k := 1) rfl rfl (by decide) rfl (fun ls hl => ?_)
      refine lv_goto (tgt := 39) hx hb dX9_unbook_115 (by decide) ?_
      exact ih h hR hS (lv_sub hl [1, 0] rfl)
def wpb_X9_unbook (g : Nat → Nat) (σ : pr_Sg) (a1 : Int32) (a2 : Int32) (Q : Int32 → pr_Sg → Prop) : Prop :=
  (((σ 576 0 0) ≤ a2 → (wp_X9_unused g σ a1 a2 (fun r2 σ2 =>
  ((¬ r2 = (-1 : Int32) → (∀ σ4 : pr_Sg, σ4 = pr_up σ2 608 0 0 ((σ2 608 0 0) - (1 : Int32)) →
  (∃ n : Nat, wp_X9_unbook_L39 g Q n σ4 r2))) ∧
  (r2 = (-1 : Int32) → Q (0 : Int32) σ2))))) ∧
  (¬ (σ 576 0 0) ≤ a2 → Q (0 : Int32) σ))
set_option maxHeartbeats 4000000 in
set_option maxRecDepth 100000 in
theorem t_X9_unbook {p : Program} {l : Launch} {e : Env} {s : State} {m : MethodId} {args : Array Value} {below : List Frame} {meth : Method} {c : Code} {D : va_G} {cs : Nat → ClassId} {A : Nat → Prop} {ad : pr_Ad} {g : Nat → Nat} {Q : Int32 → pr_Sg → Prop} (C : pr_C RX9 cX9_unbook 5 (some .boolean) D cs p s m args meth c) {H : Heap} {locs : List Loc} {ls : Array Slot} {σ : pr_Sg} {a1 : Int32} {a2 : Int32} (h : wpb_X9_unbook g σ a1 a2 Q) (hR : pr_R D cs A ad g σ H) (hS : va_S A s.heap H locs) (hl : lv_has ls 5 [(0, .ref (ad 9 0 0)), (1, .int a1), (2, .int a2)]) : W p l e rm_X9_unbook s m args below meth c H locs 0 0 (MQ below (va_Qi (pr_Qz Q) (pr_E D cs A ad g) A) args s 0 0 A) (F0 m 0 ls []) := by
  unfold wpb_X9_unbook at h
  obtain ⟨hx, hb, hml, hown, hts, hK, hr, hlocks⟩ := id C
  refine lv_iload_n hx hb dX9_unbook_0 rfl (lv_at hl 2 rfl) ?_
  refine lv_aload_n hx hb dX9_unbook_1 rfl (lv_at hl 0 rfl) ?_
  refine gf_RX9_128 C hR pr_l9 dX9_unbook_2 ?_
  refine lv_icmp_ge (tgt := 12) hx hb dX9_unbook_5 (by decide) (fun c1 => ?_) (fun c1 => ?_)
  · have h := h.1 c1
    refine lv_aload_n hx hb dX9_unbook_12 rfl (lv_at hl 0 rfl) ?_
    refine lv_iload_n hx hb dX9_unbook_13 rfl (lv_at hl 1 rfl) ?_
    refine lv_iload_n hx hb dX9_unbook_14 rfl (lv_at hl 2 rfl) ?_
    refine pr_calli hS (pr_runV (As := [.int a1, .int a2]) (rest := []) C hR pr_l9 (by omega) rfl (c_X9_unused h) gw_RX9_166 rfl rfl hd_X9_unused ⟨Nat.le_of_ble_eq_true rfl, Nat.le_of_ble_eq_true rfl⟩ rfl hl.1 rfl (Nat.le_of_ble_eq_true rfl) dX9_unbook_15 ⟨Nat.zero_le _, Nat.zero_le _⟩) (fun r2 σ2 H locs h hR hS => ?_)
    refine lv_istore_n (lv' := [(3, .int r2), (0, .ref (ad 9 0 0)), (1, .int a1), (2, .int a2)]) hx hb dX9_unbook_18 rfl hl (by decide) rfl (fun ls hl => ?_)
    refine lv_iload_n hx hb dX9_unbook_19 rfl (lv_at hl 0 rfl) ?_
    refine lv_iconst (v := (-1 : Int32)) hx hb dX9_unbook_20 (by decide) ?_
    refine lv_icmp_ne (tgt := 26) hx hb dX9_unbook_21 (by decide) (fun c3 => ?_) (fun c3 => ?_)
    · have h := h.1 c3
      refine lv_aload_n hx hb dX9_unbook_26 rfl (lv_at hl 1 rfl) ?_
      refine lv_dup hx hb dX9_unbook_27 rfl ?_
      refine gf_RX9_150 C hR pr_l9 dX9_unbook_28 ?_
      refine lv_iconst (v := (1 : Int32)) hx hb dX9_unbook_31 (by decide) ?_
      refine lv_isub hx hb dX9_unbook_32 ?_
      refine pf_RX9_150 C hR hS pr_l9 dX9_unbook_33 (fun H locs σ4 e4 hR hS => ?_)
      have h := h σ4 e4
      refine lv_iload_n hx hb dX9_unbook_36 rfl (lv_at hl 0 rfl) ?_
      refine lv_istore (lv' := [(4, .int r2), (3, .int r2), (0, .ref (ad 9 0 0)), (1, .int a1), (2, .int a2)]) hx hb dX9_unbook_37 hl (by decide) rfl (fun ls hl => ?_)
      obtain ⟨n1, h⟩ := h
      exact t_X9_unbook_L39 C n1 h hR hS (lv_sub hl [2, 0] rfl)
    · have h := h.2 c3
      refine lv_iconst (v := (0 : Int32)) hx hb dX9_unbook_24 (by decide) ?_
      exact pr_retz C (Or.inl rfl) h hR hS dX9_unbook_25
  · have h := h.2 c1
    refine lv_iconst (v := (-1 : Int32)) hx hb dX9_unbook_8 (by decide) ?_
    refine lv_goto (tgt := 18) hx hb dX9_unbook_9 (by decide) ?_
    refine lv_istore_n (lv' := [(3, .int (-1 : Int32)), (0, .ref (ad 9 0 0)), (1, .int a1), (2, .int a2)]) hx hb dX9_unbook_18 rfl hl (by decide) rfl (fun ls hl => ?_)
    refine lv_iload_n hx hb dX9_unbook_19 rfl (lv_at hl 0 rfl) ?_
    refine lv_iconst (v := (-1 : Int32)) hx hb dX9_unbook_20 (by decide) ?_
    refine lv_icmp_ne (tgt := 26) hx hb dX9_unbook_21 (by decide) (fun c9 => absurd c9 (by decide)) (fun _ => ?_)
    refine lv_iconst (v := (0 : Int32)) hx hb dX9_unbook_24 (by decide) ?_
    exact pr_retz C (Or.inl rfl) h hR hS dX9_unbook_25
abbrev wp_X9_unbook (g : Nat → Nat) (σ : pr_Sg) (a1 : Int32) (a2 : Int32) (Q : Int32 → pr_Sg → Prop) : Prop := wpb_X9_unbook g σ a1 a2 Q
set_option maxHeartbeats 4000000 in
set_option maxRecDepth 100000 in
theorem c_X9_unbook {l : Launch} {D : va_G} {cs : Nat → ClassId} {A : Nat → Prop} {ad : pr_Ad} {g : Nat → Nat} {σ : pr_Sg} {a1 : Int32} {a2 : Int32} {Q : Int32 → pr_Sg → Prop} (h : wp_X9_unbook g σ a1 a2 Q) : pr_Mi l D cs A ad g yX9_unbook cX9_unbook 5 (some .boolean) rm_X9_unbook [.ref (ad 9 0 0), .int a1, .int a2] σ (pr_Qz Q) := by
  refine Met.ofW (cc := cX9_unbook) (maxL := 5) (ret := (some .boolean)) (by decide) rfl ?_
  intro p e s m args below meth c s₁ B hml hv
  obtain ⟨rfl, hR, hK⟩ := hv
  have C : pr_C RX9 cX9_unbook 5 (some .boolean) D cs p s m [.ref (ad 9 0 0), .int a1, .int a2].toArray meth c := pr_C.of B hml hK
  have hS : va_S A s.heap s.heap [] := va_S.rf
  have hl := lv_entry ([.ref (ad 9 0 0), .int a1, .int a2]) (n := 5) (Nat.le_of_ble_eq_true rfl)
  rw [lg_entry_eq]
  generalize (lg_sl ([.ref (ad 9 0 0), .int a1, .int a2]) ++ List.replicate (5 - (lg_sl ([.ref (ad 9 0 0), .int a1, .int a2])).length) Slot.unset).toArray = ls at hl ⊢
  have hl : lv_has ls 5 [(0, .ref (ad 9 0 0)), (1, .int a1), (2, .int a2)] := hl
  exact t_X9_unbook C h hR hS hl
