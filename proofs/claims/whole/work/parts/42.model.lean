def rm_X9_trace : Room := { frames := 2, cells := 0, slots := 0, locals := 43 }
theorem hd_X9_trace : yX9_trace.cls = RX9 ∧ yX9_trace.cls ≠ "java/lang/invoke/MethodHandle" ∧ yX9_trace.cls ≠ "java/lang/invoke/VarHandle" ∧ (parseMethodDescriptor yX9_trace.desc).map (fun d => d.parameters.length) = some 2 := ⟨rfl, by decide, by decide, by decide +kernel⟩
def wpb_X9_trace (g : Nat → Nat) (σ : pr_Sg) (a1 : Int32) (a2 : Int32) (Q : Int32 → pr_Sg → Prop) : Prop :=
  (wp_X9_isPicture g σ a1 (fun r1 σ1 =>
  ((r1 = 0 → Q (0 : Int32) σ1) ∧
  (¬ r1 = 0 → (wp_X9_in g σ1 a2 (0 : Int32) (65535 : Int32) (fun r3 σ3 =>
  ((¬ r3 = 0 → (vp_in a1 40 ∧ ∀ σ5 : pr_Sg, σ5 = pr_up σ3 1055 0 (a1).toNatClampNeg a2 →
  Q (1 : Int32) σ5)) ∧
  (r3 = 0 → Q (0 : Int32) σ3))))))))
set_option maxHeartbeats 4000000 in
set_option maxRecDepth 100000 in
theorem t_X9_trace {p : Program} {l : Launch} {e : Env} {s : State} {m : MethodId} {args : Array Value} {below : List Frame} {meth : Method} {c : Code} {D : va_G} {cs : Nat → ClassId} {A : Nat → Prop} {ad : pr_Ad} {g : Nat → Nat} {Q : Int32 → pr_Sg → Prop} (C : pr_C RX9 cX9_trace 3 (some .boolean) D cs p s m args meth c) {H : Heap} {locs : List Loc} {ls : Array Slot} {σ : pr_Sg} {a1 : Int32} {a2 : Int32} (h : wpb_X9_trace g σ a1 a2 Q) (hR : pr_R D cs A ad g σ H) (hS : va_S A s.heap H locs) (hl : lv_has ls 3 [(0, .ref (ad 9 0 0)), (1, .int a1), (2, .int a2)]) : W p l e rm_X9_trace s m args below meth c H locs 0 0 (MQ below (va_Qi (pr_Qz Q) (pr_E D cs A ad g) A) args s 0 0 A) (F0 m 0 ls []) := by
  unfold wpb_X9_trace at h
  obtain ⟨hx, hb, hml, hown, hts, hK, hr, hlocks⟩ := id C
  refine lv_aload_n hx hb dX9_trace_0 rfl (lv_at hl 0 rfl) ?_
  refine lv_iload_n hx hb dX9_trace_1 rfl (lv_at hl 1 rfl) ?_
  refine pr_calli hS (pr_runV (As := [.int a1]) (rest := []) C hR pr_l9 (by omega) rfl (c_X9_isPicture h) gw_RX9_157 rfl rfl hd_X9_isPicture ⟨Nat.le_of_ble_eq_true rfl, Nat.le_of_ble_eq_true rfl⟩ rfl hl.1 rfl (Nat.le_of_ble_eq_true rfl) dX9_trace_2 ⟨Nat.zero_le _, Nat.zero_le _⟩) (fun r1 σ1 H locs h hR hS => ?_)
  obtain ⟨hz1, h⟩ := h
  refine lv_if_eq (tgt := 18) hx hb dX9_trace_5 (by decide) (fun c2 => ?_) (fun c2 => ?_)
  · have h := h.1 c2
    refine lv_iconst (v := (0 : Int32)) hx hb dX9_trace_18 (by decide) ?_
    exact pr_retz C (Or.inl rfl) h hR hS dX9_trace_19
  · have h := h.2 c2
    refine lv_iload_n hx hb dX9_trace_8 rfl (lv_at hl 2 rfl) ?_
    refine lv_iconst (v := (0 : Int32)) hx hb dX9_trace_9 (by decide) ?_
    refine lv_ldc (v := (65535 : Int32)) hx hb hown (hts _ (pr_in22 _ (List.mem_of_getElem? (i := 12) rfl))) dX9_trace_10 ?_
    refine pr_calli hS (pr_runS (As := [.int a2, .int (0 : Int32), .int (65535 : Int32)]) (rest := []) C hR (c_X9_in h) gw_RX9_113 rfl rfl hs_X9_in ⟨Nat.le_of_ble_eq_true rfl, Nat.le_of_ble_eq_true rfl⟩ rfl hl.1 rfl (Nat.le_of_ble_eq_true rfl) dX9_trace_12 ⟨Nat.zero_le _, Nat.zero_le _⟩) (fun r3 σ3 H locs h hR hS => ?_)
    obtain ⟨hz3, h⟩ := h
    refine lv_if_ne (tgt := 20) hx hb dX9_trace_15 (by decide) (fun c4 => ?_) (fun c4 => ?_)
    · have h := h.1 c4
      refine lv_aload_n hx hb dX9_trace_20 rfl (lv_at hl 0 rfl) ?_
      refine gf_RX9_59 C hR pr_l9 dX9_trace_21 ?_
      refine lv_iload_n hx hb dX9_trace_24 rfl (lv_at hl 1 rfl) ?_
      refine lv_iload_n hx hb dX9_trace_25 rfl (lv_at hl 2 rfl) ?_
      refine pr_ast hx hb hK hR hS pr_l55 (by omega) (by omega) (n := 40) (by decide) h.1 dX9_trace_26 (t := 1055) rfl (fun H locs σ5 e5 hR hS => ?_)
      have h := h.2 σ5 e5
      refine lv_iconst (v := (1 : Int32)) hx hb dX9_trace_27 (by decide) ?_
      exact pr_retz C (Or.inr rfl) h hR hS dX9_trace_28
    · have h := h.2 c4
      refine lv_iconst (v := (0 : Int32)) hx hb dX9_trace_18 (by decide) ?_
      exact pr_retz C (Or.inl rfl) h hR hS dX9_trace_19
abbrev wp_X9_trace (g : Nat → Nat) (σ : pr_Sg) (a1 : Int32) (a2 : Int32) (Q : Int32 → pr_Sg → Prop) : Prop := wpb_X9_trace g σ a1 a2 Q
set_option maxHeartbeats 4000000 in
set_option maxRecDepth 100000 in
theorem c_X9_trace {l : Launch} {D : va_G} {cs : Nat → ClassId} {A : Nat → Prop} {ad : pr_Ad} {g : Nat → Nat} {σ : pr_Sg} {a1 : Int32} {a2 : Int32} {Q : Int32 → pr_Sg → Prop} (h : wp_X9_trace g σ a1 a2 Q) : pr_Mi l D cs A ad g yX9_trace cX9_trace 3 (some .boolean) rm_X9_trace [.ref (ad 9 0 0), .int a1, .int a2] σ (pr_Qz Q) := by
  refine Met.ofW (cc := cX9_trace) (maxL := 3) (ret := (some .boolean)) (by decide) rfl ?_
  intro p e s m args below meth c s₁ B hml hv
  obtain ⟨rfl, hR, hK⟩ := hv
  have C : pr_C RX9 cX9_trace 3 (some .boolean) D cs p s m [.ref (ad 9 0 0), .int a1, .int a2].toArray meth c := pr_C.of B hml hK
  have hS : va_S A s.heap s.heap [] := va_S.rf
  have hl := lv_entry ([.ref (ad 9 0 0), .int a1, .int a2]) (n := 3) (Nat.le_of_ble_eq_true rfl)
  rw [lg_entry_eq]
  generalize (lg_sl ([.ref (ad 9 0 0), .int a1, .int a2]) ++ List.replicate (3 - (lg_sl ([.ref (ad 9 0 0), .int a1, .int a2])).length) Slot.unset).toArray = ls at hl ⊢
  have hl : lv_has ls 3 [(0, .ref (ad 9 0 0)), (1, .int a1), (2, .int a2)] := hl
  exact t_X9_trace C h hR hS hl
def rm_X9_differ : Room := { frames := 0, cells := 0, slots := 0, locals := 0 }
theorem hd_X9_differ : yX9_differ.cls = RX9 ∧ yX9_differ.cls ≠ "java/lang/invoke/MethodHandle" ∧ yX9_differ.cls ≠ "java/lang/invoke/VarHandle" ∧ (parseMethodDescriptor yX9_differ.desc).map (fun d => d.parameters.length) = some 2 := ⟨rfl, by decide, by decide, by decide +kernel⟩
def wp_X9_differ_L17 (g : Nat → Nat) (Q : Int32 → pr_Sg → Prop) : Nat → pr_Sg → Int32 → Int32 → Prop
  | 0, _, _, _ => False
  | n + 1, σ, x3, x4 => ((x3 = 0 → Q x4 σ) ∧
  (¬ x3 = 0 → wp_X9_differ_L17 g Q n σ (x3 >>> ((1 : Int32) &&& 31)) (x4 + (x3 &&& (1 : Int32)))))
set_option maxHeartbeats 4000000 in
set_option maxRecDepth 100000 in
theorem t_X9_differ_L17 {p : Program} {l : Launch} {e : Env} {s : State} {m : MethodId} {args : Array Value} {below : List Frame} {meth : Method} {c : Code} {D : va_G} {cs : Nat → ClassId} {A : Nat → Prop} {ad : pr_Ad} {g : Nat → Nat} {Q : Int32 → pr_Sg → Prop} (C : pr_C RX9 cX9_differ 5 (some .int) D cs p s m args meth c) (n : Nat) : ∀ {H : Heap} {locs : List Loc} {ls : Array Slot} {σ : pr_Sg} {x3 : Int32} {x4 : Int32} (_ : wp_X9_differ_L17 g Q n σ x3 x4) (_ : pr_R D cs A ad g σ H) (_ : va_S A s.heap H locs) (_ : lv_has ls 5 [(3, .int x3), (4, .int x4)]), W p l e rm_X9_differ s m args below meth c H locs 0 0 (MQ below (va_Qi Q (pr_E D cs A ad g) A) args s 0 0 A) (F0 m 17 ls []) := by
  induction n with
  | zero =>
    intro H locs ls σ x3 x4 h
    exact False.elim h
  | succ n ih =>
    intro H locs ls σ x3 x4 h hR hS hl
    unfold wp_X9_differ_L17 at h
    obtain ⟨hx, hb, hml, hown, hts, hK, hr, hlocks⟩ := id C
    refine lv_iload_n hx hb dX9_differ_17 rfl (lv_at hl 0 rfl) ?_
    refine lv_if_eq (tgt := 36) hx hb dX9_differ_18 (by decide) (fun c1 => ?_) (fun c1 => ?_)
    · have h := h.1 c1
      refine lv_iload hx hb dX9_differ_36 (lv_at hl 1 rfl) ?_
      exact pr_reti C h hR hS dX9_differ_38
    · have h := h.2 c1
      refine lv_iload hx hb dX9_differ_21 (lv_at hl 1 rfl) ?_
      refine lv_iload_n hx hb dX9_differ_23 rfl (lv_at hl 0 rfl) ?_
      refine lv_iconst (v := (1 : Int32)) hx hb dX9_differ_24 (by decide) ?_
      refine lv_iand hx hb dX9_differ_25 ?_
      refine lv_iadd hx hb dX9_differ_26 ?_
      refine lv_istore (lv' := [(4, .int (x4 + (x3 &&& (1 : Int32)))), (3, .int x3)]) hx hb dX9_differ_27 hl (by decide) rfl (fun ls hl => ?_)
      refine lv_iload_n hx hb dX9_differ_29 rfl (lv_at hl 1 rfl) ?_
      refine lv_iconst (v := (1 : Int32)) hx hb dX9_differ_30 (by decide) ?_
      refine lv_ishr hx hb dX9_differ_31 ?_
      refine lv_istore_n (lv' := [(3, .int (x3 >>> ((1 : Int32) &&& 31))), (4, .int (x4 + (x3 &&& (1 : Int32))))]) hx hb dX9_differ_32 rfl hl (by decide) rfl (fun ls hl => ?_)
      refine lv_goto (tgt := 17) hx hb dX9_differ_33 (by decide) ?_
      exact ih h hR hS (lv_sub hl [0, 1] rfl)
def wpb_X9_differ (g : Nat → Nat) (σ : pr_Sg) (a1 : Int32) (a2 : Int32) (Q : Int32 → pr_Sg → Prop) : Prop :=
  (vp_in a1 40 ∧ (vp_in a2 40 ∧ (∃ n : Nat, wp_X9_differ_L17 g Q n σ ((σ 1055 0 (a1).toNatClampNeg) ^^^ (σ 1055 0 (a2).toNatClampNeg)) (0 : Int32))))
set_option maxHeartbeats 4000000 in
set_option maxRecDepth 100000 in
theorem t_X9_differ {p : Program} {l : Launch} {e : Env} {s : State} {m : MethodId} {args : Array Value} {below : List Frame} {meth : Method} {c : Code} {D : va_G} {cs : Nat → ClassId} {A : Nat → Prop} {ad : pr_Ad} {g : Nat → Nat} {Q : Int32 → pr_Sg → Prop} (C : pr_C RX9 cX9_differ 5 (some .int) D cs p s m args meth c) {H : Heap} {locs : List Loc} {ls : Array Slot} {σ : pr_Sg} {a1 : Int32} {a2 : Int32} (h : wpb_X9_differ g σ a1 a2 Q) (hR : pr_R D cs A ad g σ H) (hS : va_S A s.heap H locs) (hl : lv_has ls 5 [(0, .ref (ad 9 0 0)), (1, .int a1), (2, .int a2)]) : W p l e rm_X9_differ s m args below meth c H locs 0 0 (MQ below (va_Qi Q (pr_E D cs A ad g) A) args s 0 0 A) (F0 m 0 ls []) := by
  unfold wpb_X9_differ at h
  obtain ⟨hx, hb, hml, hown, hts, hK, hr, hlocks⟩ := id C
  refine lv_aload_n hx hb dX9_differ_0 rfl (lv_at hl 0 rfl) ?_
  refine gf_RX9_59 C hR pr_l9 dX9_differ_1 ?_
  refine lv_iload_n hx hb dX9_differ_4 rfl (lv_at hl 1 rfl) ?_
  refine pr_ald hx hb hK hR pr_l55 (by omega) (by omega) (n := 40) (by decide) h.1 dX9_differ_5 (t := 1055) rfl ?_
  have h := h.2
  refine lv_aload_n hx hb dX9_differ_6 rfl (lv_at hl 0 rfl) ?_
  refine gf_RX9_59 C hR pr_l9 dX9_differ_7 ?_
  refine lv_iload_n hx hb dX9_differ_10 rfl (lv_at hl 2 rfl) ?_
  refine pr_ald hx hb hK hR pr_l55 (by omega) (by omega) (n := 40) (by decide) h.1 dX9_differ_11 (t := 1055) rfl ?_
  have h := h.2
  refine lv_ixor hx hb dX9_differ_12 ?_
  refine lv_istore_n (lv' := [(3, .int ((σ 1055 0 (a1).toNatClampNeg) ^^^ (σ 1055 0 (a2).toNatClampNeg))), (0, .ref (ad 9 0 0)), (1, .int a1), (2, .int a2)]) hx hb dX9_differ_13 rfl hl (by decide) rfl (fun ls hl => ?_)
  refine lv_iconst (v := (0 : Int32)) hx hb dX9_differ_14 (by decide) ?_
  refine lv_istore (lv' := [(4, .int (0 : Int32)), (3, .int ((σ 1055 0 (a1).toNatClampNeg) ^^^ (σ 1055 0 (a2).toNatClampNeg))), (0, .ref (ad 9 0 0)), (1, .int a1), (2, .int a2)]) hx hb dX9_differ_15 hl (by decide) rfl (fun ls hl => ?_)
  obtain ⟨n1, h⟩ := h
  exact t_X9_differ_L17 C n1 h hR hS (lv_sub hl [1, 0] rfl)
abbrev wp_X9_differ (g : Nat → Nat) (σ : pr_Sg) (a1 : Int32) (a2 : Int32) (Q : Int32 → pr_Sg → Prop) : Prop := wpb_X9_differ g σ a1 a2 Q
set_option maxHeartbeats 4000000 in
set_option maxRecDepth 100000 in
theorem c_X9_differ {l : Launch} {D : va_G} {cs : Nat → ClassId} {A : Nat → Prop} {ad : pr_Ad} {g : Nat → Nat} {σ : pr_Sg} {a1 : Int32} {a2 : Int32} {Q : Int32 → pr_Sg → Prop} (h : wp_X9_differ g σ a1 a2 Q) : pr_Mi l D cs A ad g yX9_differ cX9_differ 5 (some .int) rm_X9_differ [.ref (ad 9 0 0), .int a1, .int a2] σ Q := by
  refine Met.ofW (cc := cX9_differ) (maxL := 5) (ret := (some .int)) (by decide) rfl ?_
  intro p e s m args below meth c s₁ B hml hv
  obtain ⟨rfl, hR, hK⟩ := hv
  have C : pr_C RX9 cX9_differ 5 (some .int) D cs p s m [.ref (ad 9 0 0), .int a1, .int a2].toArray meth c := pr_C.of B hml hK
  have hS : va_S A s.heap s.heap [] := va_S.rf
  have hl := lv_entry ([.ref (ad 9 0 0), .int a1, .int a2]) (n := 5) (Nat.le_of_ble_eq_true rfl)
  rw [lg_entry_eq]
  generalize (lg_sl ([.ref (ad 9 0 0), .int a1, .int a2]) ++ List.replicate (5 - (lg_sl ([.ref (ad 9 0 0), .int a1, .int a2])).length) Slot.unset).toArray = ls at hl ⊢
  have hl : lv_has ls 5 [(0, .ref (ad 9 0 0)), (1, .int a1), (2, .int a2)] := hl
  exact t_X9_differ C h hR hS hl
def rm_X9_from : Room := { frames := 2, cells := 0, slots := 0, locals := 43 }
theorem hd_X9_from : yX9_from.cls = RX9 ∧ yX9_from.cls ≠ "java/lang/invoke/MethodHandle" ∧ yX9_from.cls ≠ "java/lang/invoke/VarHandle" ∧ (parseMethodDescriptor yX9_from.desc).map (fun d => d.parameters.length) = some 1 := ⟨rfl, by decide, by decide, by decide +kernel⟩
def wp_X9_from_L24 (g : Nat → Nat) (Q : Int32 → pr_Sg → Prop) : Nat → pr_Sg → Int32 → Int32 → Int32 → Prop
  | 0, _, _, _, _ => False
  | n + 1, σ, x1, x2, x3 => ((x1 ≤ x3 → Q x2 σ) ∧
  (¬ x1 ≤ x3 → (vp_in x3 40 ∧ (((σ 1055 0 (x3).toNatClampNeg) = (-1 : Int32) → wp_X9_from_L24 g Q n σ x1 x2 (x3 + (1 : Int32))) ∧
  (¬ (σ 1055 0 (x3).toNatClampNeg) = (-1 : Int32) → ((x2 = (-1 : Int32) → wp_X9_from_L24 g Q n σ x1 x3 (x3 + (1 : Int32))) ∧
  (¬ x2 = (-1 : Int32) → (wp_X9_differ g σ x1 x3 (fun r7 σ7 =>
  (wp_X9_differ g σ7 x1 x2 (fun r8 σ8 =>
  ((r8 ≤ r7 → wp_X9_from_L24 g Q n σ8 x1 x2 (x3 + (1 : Int32))) ∧
  (¬ r8 ≤ r7 → wp_X9_from_L24 g Q n σ8 x1 x3 (x3 + (1 : Int32)))))))))))))))
set_option maxHeartbeats 4000000 in
set_option maxRecDepth 100000 in
theorem t_X9_from_L24 {p : Program} {l : Launch} {e : Env} {s : State} {m : MethodId} {args : Array Value} {below : List Frame} {meth : Method} {c : Code} {D : va_G} {cs : Nat → ClassId} {A : Nat → Prop} {ad : pr_Ad} {g : Nat → Nat} {Q : Int32 → pr_Sg → Prop} (C : pr_C RX9 cX9_from 4 (some .int) D cs p s m args meth c) (n : Nat) : ∀ {H : Heap} {locs : List Loc} {ls : Array Slot} {σ : pr_Sg} {x1 : Int32} {x2 : Int32} {x3 : Int32} (_ : wp_X9_from_L24 g Q n σ x1 x2 x3) (_ : pr_R D cs A ad g σ H) (_ : va_S A s.heap H locs) (_ : lv_has ls 4 [(0, .ref (ad 9 0 0)), (1, .int x1), (2, .int x2), (3, .int x3)]), W p l e rm_X9_from s m args below meth c H locs 0 0 (MQ below (va_Qi Q (pr_E D cs A ad g) A) args s 0 0 A) (F0 m 24 ls []) := by
  induction n with
  | zero =>
    intro H locs ls σ x1 x2 x3 h
    exact False.elim h
  | succ n ih =>
    intro H locs ls σ x1 x2 x3 h hR hS hl
    unfold wp_X9_from_L24 at h
    obtain ⟨hx, hb, hml, hown, hts, hK, hr, hlocks⟩ := id C
    refine lv_iload_n hx hb dX9_from_24 rfl (lv_at hl 3 rfl) ?_
    refine lv_iload_n hx hb dX9_from_25 rfl (lv_at hl 1 rfl) ?_
    refine lv_icmp_ge (tgt := 67) hx hb dX9_from_26 (by decide) (fun c4 => ?_) (fun c4 => ?_)
    · have h := h.1 c4
      refine lv_iload_n hx hb dX9_from_67 rfl (lv_at hl 2 rfl) ?_
      exact pr_reti C h hR hS dX9_from_68
    · have h := h.2 c4
      refine lv_aload_n hx hb dX9_from_29 rfl (lv_at hl 0 rfl) ?_
      refine gf_RX9_59 C hR pr_l9 dX9_from_30 ?_
      refine lv_iload_n hx hb dX9_from_33 rfl (lv_at hl 3 rfl) ?_
      refine pr_ald hx hb hK hR pr_l55 (by omega) (by omega) (n := 40) (by decide) h.1 dX9_from_34 (t := 1055) rfl ?_
      have h := h.2
      refine lv_iconst (v := (-1 : Int32)) hx hb dX9_from_35 (by decide) ?_
      refine lv_icmp_eq (tgt := 61) hx hb dX9_from_36 (by decide) (fun c5 => ?_) (fun c5 => ?_)
      · have h := h.1 c5
        refine lv_iinc (v := (x3 + (1 : Int32))) (lv' := [(3, .int (x3 + (1 : Int32))), (0, .ref (ad 9 0 0)), (1, .int x1), (2, .int x2)]) hx hb dX9_from_61 hl (k := 3) rfl rfl (by decide) rfl (fun ls hl => ?_)
        refine lv_goto (tgt := 24) hx hb dX9_from_64 (by decide) ?_
        exact ih h hR hS (lv_sub hl [1, 2, 3, 0] rfl)
      · have h := h.2 c5
        refine lv_iload_n hx hb dX9_from_39 rfl (lv_at hl 2 rfl) ?_
        refine lv_iconst (v := (-1 : Int32)) hx hb dX9_from_40 (by decide) ?_
        refine lv_icmp_eq (tgt := 59) hx hb dX9_from_41 (by decide) (fun c6 => ?_) (fun c6 => ?_)
        · have h := h.1 c6
          refine lv_iload_n hx hb dX9_from_59 rfl (lv_at hl 3 rfl) ?_
          refine lv_istore_n (lv' := [(2, .int x3), (0, .ref (ad 9 0 0)), (1, .int x1), (3, .int x3)]) hx hb dX9_from_60 rfl hl (by decide) rfl (fun ls hl => ?_)
          refine lv_iinc (v := (x3 + (1 : Int32))) (lv' := [(3, .int (x3 + (1 : Int32))), (2, .int x3), (0, .ref (ad 9 0 0)), (1, .int x1)]) hx hb dX9_from_61 hl (k := 3) rfl rfl (by decide) rfl (fun ls hl => ?_)
          refine lv_goto (tgt := 24) hx hb dX9_from_64 (by decide) ?_
          exact ih h hR hS (lv_sub hl [2, 3, 1, 0] rfl)
        · have h := h.2 c6
          refine lv_aload_n hx hb dX9_from_44 rfl (lv_at hl 0 rfl) ?_
          refine lv_iload_n hx hb dX9_from_45 rfl (lv_at hl 1 rfl) ?_
          refine lv_iload_n hx hb dX9_from_46 rfl (lv_at hl 3 rfl) ?_
          refine pr_calli hS (pr_runV (As := [.int x1, .int x3]) (rest := []) C hR pr_l9 (by omega) rfl (c_X9_differ h) gw_RX9_202 rfl rfl hd_X9_differ ⟨Nat.le_of_ble_eq_true rfl, Nat.le_of_ble_eq_true rfl⟩ rfl hl.1 rfl (Nat.le_of_ble_eq_true rfl) dX9_from_47 ⟨Nat.zero_le _, Nat.zero_le _⟩) (fun r7 σ7 H locs h hR hS => ?_)
          refine lv_aload_n hx hb dX9_from_50 rfl (lv_at hl 0 rfl) ?_
          refine lv_iload_n hx hb dX9_from_51 rfl (lv_at hl 1 rfl) ?_
          refine lv_iload_n hx hb dX9_from_52 rfl (lv_at hl 2 rfl) ?_
          refine pr_calli hS (pr_runV (As := [.int x1, .int x2]) (rest := [.int r7]) C hR pr_l9 (by omega) rfl (c_X9_differ h) gw_RX9_202 rfl rfl hd_X9_differ ⟨Nat.le_of_ble_eq_true rfl, Nat.le_of_ble_eq_true rfl⟩ rfl hl.1 rfl (Nat.le_of_ble_eq_true rfl) dX9_from_53 ⟨Nat.zero_le _, Nat.zero_le _⟩) (fun r8 σ8 H locs h hR hS => ?_)
          refine lv_icmp_ge (tgt := 61) hx hb dX9_from_56 (by decide) (fun c9 => ?_) (fun c9 => ?_)
          · have h := h.1 c9
            refine lv_iinc (v := (x3 + (1 : Int32))) (lv' := [(3, .int (x3 + (1 : Int32))), (0, .ref (ad 9 0 0)), (1, .int x1), (2, .int x2)]) hx hb dX9_from_61 hl (k := 3) rfl rfl (by decide) rfl (fun ls hl => ?_)
            refine lv_goto (tgt := 24) hx hb dX9_from_64 (by decide) ?_
            exact ih h hR hS (lv_sub hl [1, 2, 3, 0] rfl)
          · have h := h.2 c9
            refine lv_iload_n hx hb dX9_from_59 rfl (lv_at hl 3 rfl) ?_
            refine lv_istore_n (lv' := [(2, .int x3), (0, .ref (ad 9 0 0)), (1, .int x1), (3, .int x3)]) hx hb dX9_from_60 rfl hl (by decide) rfl (fun ls hl => ?_)
            refine lv_iinc (v := (x3 + (1 : Int32))) (lv' := [(3, .int (x3 + (1 : Int32))), (2, .int x3), (0, .ref (ad 9 0 0)), (1, .int x1)]) hx hb dX9_from_61 hl (k := 3) rfl rfl (by decide) rfl (fun ls hl => ?_)
            refine lv_goto (tgt := 24) hx hb dX9_from_64 (by decide) ?_
            exact ih h hR hS (lv_sub hl [2, 3, 1, 0] rfl)
def wpb_X9_from (g : Nat → Nat) (σ : pr_Sg) (a1 : Int32) (Q : Int32 → pr_Sg → Prop) : Prop :=
  (wp_X9_isPicture g σ a1 (fun r1 σ1 =>
  ((r1 = 0 → Q (-1 : Int32) σ1) ∧
  (¬ r1 = 0 → (vp_in a1 40 ∧ ((¬ (σ1 1055 0 (a1).toNatClampNeg) = (-1 : Int32) → (∃ n : Nat, wp_X9_from_L24 g Q n σ1 a1 (-1 : Int32) (0 : Int32))) ∧
  ((σ1 1055 0 (a1).toNatClampNeg) = (-1 : Int32) → Q (-1 : Int32) σ1)))))))
set_option maxHeartbeats 4000000 in
set_option maxRecDepth 100000 in
theorem t_X9_from {p : Program} {l : Launch} {e : Env} {s : State} {m : MethodId} {args : Array Value} {below : List Frame} {meth : Method} {c : Code} {D : va_G} {cs : Nat → ClassId} {A : Nat → Prop} {ad : pr_Ad} {g : Nat → Nat} {Q : Int32 → pr_Sg → Prop} (C : pr_C RX9 cX9_from 4 (some .int) D cs p s m args meth c) {H : Heap} {locs : List Loc} {ls : Array Slot} {σ : pr_Sg} {a1 : Int32} (h : wpb_X9_from g σ a1 Q) (hR : pr_R D cs A ad g σ H) (hS : va_S A s.heap H locs) (hl : lv_has ls 4 [(0, .ref (ad 9 0 0)), (1, .int a1)]) : W p l e rm_X9_from s m args below meth c H locs 0 0 (MQ below (va_Qi Q (pr_E D cs A ad g) A) args s 0 0 A) (F0 m 0 ls []) := by
  unfold wpb_X9_from at h
  obtain ⟨hx, hb, hml, hown, hts, hK, hr, hlocks⟩ := id C
  refine lv_aload_n hx hb dX9_from_0 rfl (lv_at hl 0 rfl) ?_
  refine lv_iload_n hx hb dX9_from_1 rfl (lv_at hl 1 rfl) ?_
  refine pr_calli hS (pr_runV (As := [.int a1]) (rest := []) C hR pr_l9 (by omega) rfl (c_X9_isPicture h) gw_RX9_157 rfl rfl hd_X9_isPicture ⟨Nat.le_of_ble_eq_true rfl, Nat.le_of_ble_eq_true rfl⟩ rfl hl.1 rfl (Nat.le_of_ble_eq_true rfl) dX9_from_2 ⟨Nat.zero_le _, Nat.zero_le _⟩) (fun r1 σ1 H locs h hR hS => ?_)
  obtain ⟨hz1, h⟩ := h
  refine lv_if_eq (tgt := 18) hx hb dX9_from_5 (by decide) (fun c2 => ?_) (fun c2 => ?_)
  · have h := h.1 c2
    refine lv_iconst (v := (-1 : Int32)) hx hb dX9_from_18 (by decide) ?_
    exact pr_reti C h hR hS dX9_from_19
  · have h := h.2 c2
    refine lv_aload_n hx hb dX9_from_8 rfl (lv_at hl 0 rfl) ?_
    refine gf_RX9_59 C hR pr_l9 dX9_from_9 ?_
    refine lv_iload_n hx hb dX9_from_12 rfl (lv_at hl 1 rfl) ?_
    refine pr_ald hx hb hK hR pr_l55 (by omega) (by omega) (n := 40) (by decide) h.1 dX9_from_13 (t := 1055) rfl ?_
    have h := h.2
    refine lv_iconst (v := (-1 : Int32)) hx hb dX9_from_14 (by decide) ?_
    refine lv_icmp_ne (tgt := 20) hx hb dX9_from_15 (by decide) (fun c3 => ?_) (fun c3 => ?_)
    · have h := h.1 c3
      refine lv_iconst (v := (-1 : Int32)) hx hb dX9_from_20 (by decide) ?_
      refine lv_istore_n (lv' := [(2, .int (-1 : Int32)), (0, .ref (ad 9 0 0)), (1, .int a1)]) hx hb dX9_from_21 rfl hl (by decide) rfl (fun ls hl => ?_)
      refine lv_iconst (v := (0 : Int32)) hx hb dX9_from_22 (by decide) ?_
      refine lv_istore_n (lv' := [(3, .int (0 : Int32)), (2, .int (-1 : Int32)), (0, .ref (ad 9 0 0)), (1, .int a1)]) hx hb dX9_from_23 rfl hl (by decide) rfl (fun ls hl => ?_)
      obtain ⟨n1, h⟩ := h
      exact t_X9_from_L24 C n1 h hR hS (lv_sub hl [2, 3, 1, 0] rfl)
    · have h := h.2 c3
      refine lv_iconst (v := (-1 : Int32)) hx hb dX9_from_18 (by decide) ?_
      exact pr_reti C h hR hS dX9_from_19
abbrev wp_X9_from (g : Nat → Nat) (σ : pr_Sg) (a1 : Int32) (Q : Int32 → pr_Sg → Prop) : Prop := wpb_X9_from g σ a1 Q
set_option maxHeartbeats 4000000 in
set_option maxRecDepth 100000 in
theorem c_X9_from {l : Launch} {D : va_G} {cs : Nat → ClassId} {A : Nat → Prop} {ad : pr_Ad} {g : Nat → Nat} {σ : pr_Sg} {a1 : Int32} {Q : Int32 → pr_Sg → Prop} (h : wp_X9_from g σ a1 Q) : pr_Mi l D cs A ad g yX9_from cX9_from 4 (some .int) rm_X9_from [.ref (ad 9 0 0), .int a1] σ Q := by
  refine Met.ofW (cc := cX9_from) (maxL := 4) (ret := (some .int)) (by decide) rfl ?_
  intro p e s m args below meth c s₁ B hml hv
  obtain ⟨rfl, hR, hK⟩ := hv
  have C : pr_C RX9 cX9_from 4 (some .int) D cs p s m [.ref (ad 9 0 0), .int a1].toArray meth c := pr_C.of B hml hK
  have hS : va_S A s.heap s.heap [] := va_S.rf
  have hl := lv_entry ([.ref (ad 9 0 0), .int a1]) (n := 4) (Nat.le_of_ble_eq_true rfl)
  rw [lg_entry_eq]
  generalize (lg_sl ([.ref (ad 9 0 0), .int a1]) ++ List.replicate (4 - (lg_sl ([.ref (ad 9 0 0), .int a1])).length) Slot.unset).toArray = ls at hl ⊢
  have hl : lv_has ls 4 [(0, .ref (ad 9 0 0)), (1, .int a1)] := hl
  exact t_X9_from C h hR hS hl
def rm_X9_doubt : Room := { frames := 3, cells := 0, slots := 0, locals := 66 }
theorem hd_X9_doubt : yX9_doubt.cls = RX9 ∧ yX9_doubt.cls ≠ "java/lang/invoke/MethodHandle" ∧ yX9_doubt.cls ≠ "java/lang/invoke/VarHandle" ∧ (parseMethodDescriptor yX9_doubt.desc).map (fun d => d.parameters.length) = some 1 := ⟨rfl, by decide, by decide, by decide +kernel⟩
def wp_X9_doubt_L15 (g : Nat → Nat) (Q : Int32 → pr_Sg → Prop) : Nat → pr_Sg → Int32 → Int32 → Int32 → Prop
  | 0, _, _, _, _ => False
  | n + 1, σ, x1, x2, x3 => ((x1 ≤ x3 → Q (0 : Int32) σ) ∧
  (¬ x1 ≤ x3 → ((x3 = x2 → wp_X9_doubt_L15 g Q n σ x1 x2 (x3 + (1 : Int32))) ∧
  (¬ x3 = x2 → (vp_in x3 40 ∧ (((σ 1055 0 (x3).toNatClampNeg) = (-1 : Int32) → wp_X9_doubt_L15 g Q n σ x1 x2 (x3 + (1 : Int32))) ∧
  (¬ (σ 1055 0 (x3).toNatClampNeg) = (-1 : Int32) → (wp_X9_differ g σ x1 x3 (fun r6 σ6 =>
  (wp_X9_differ g σ6 x1 x2 (fun r7 σ7 =>
  ((¬ r6 = r7 → wp_X9_doubt_L15 g Q n σ7 x1 x2 (x3 + (1 : Int32))) ∧
  (r6 = r7 → Q (1 : Int32) σ7)))))))))))))
set_option maxHeartbeats 4000000 in
set_option maxRecDepth 100000 in
theorem t_X9_doubt_L15 {p : Program} {l : Launch} {e : Env} {s : State} {m : MethodId} {args : Array Value} {below : List Frame} {meth : Method} {c : Code} {D : va_G} {cs : Nat → ClassId} {A : Nat → Prop} {ad : pr_Ad} {g : Nat → Nat} {Q : Int32 → pr_Sg → Prop} (C : pr_C RX9 cX9_doubt 4 (some .boolean) D cs p s m args meth c) (n : Nat) : ∀ {H : Heap} {locs : List Loc} {ls : Array Slot} {σ : pr_Sg} {x1 : Int32} {x2 : Int32} {x3 : Int32} (_ : wp_X9_doubt_L15 g Q n σ x1 x2 x3) (_ : pr_R D cs A ad g σ H) (_ : va_S A s.heap H locs) (_ : lv_has ls 4 [(0, .ref (ad 9 0 0)), (1, .int x1), (2, .int x2), (3, .int x3)]), W p l e rm_X9_doubt s m args below meth c H locs 0 0 (MQ below (va_Qi (pr_Qz Q) (pr_E D cs A ad g) A) args s 0 0 A) (F0 m 15 ls []) := by
  induction n with
  | zero =>
    intro H locs ls σ x1 x2 x3 h
    exact False.elim h
  | succ n ih =>
    intro H locs ls σ x1 x2 x3 h hR hS hl
    unfold wp_X9_doubt_L15 at h
    obtain ⟨hx, hb, hml, hown, hts, hK, hr, hlocks⟩ := id C
    refine lv_iload_n hx hb dX9_doubt_15 rfl (lv_at hl 3 rfl) ?_
    refine lv_iload_n hx hb dX9_doubt_16 rfl (lv_at hl 1 rfl) ?_
    refine lv_icmp_ge (tgt := 58) hx hb dX9_doubt_17 (by decide) (fun c3 => ?_) (fun c3 => ?_)
    · have h := h.1 c3
      refine lv_iconst (v := (0 : Int32)) hx hb dX9_doubt_58 (by decide) ?_
      exact pr_retz C (Or.inl rfl) h hR hS dX9_doubt_59
    · have h := h.2 c3
      refine lv_iload_n hx hb dX9_doubt_20 rfl (lv_at hl 3 rfl) ?_
      refine lv_iload_n hx hb dX9_doubt_21 rfl (lv_at hl 2 rfl) ?_
      refine lv_icmp_eq (tgt := 52) hx hb dX9_doubt_22 (by decide) (fun c4 => ?_) (fun c4 => ?_)
      · have h := h.1 c4
        refine lv_iinc (v := (x3 + (1 : Int32))) (lv' := [(3, .int (x3 + (1 : Int32))), (0, .ref (ad 9 0 0)), (1, .int x1), (2, .int x2)]) hx hb dX9_doubt_52 hl (k := 3) rfl rfl (by decide) rfl (fun ls hl => ?_)
        refine lv_goto (tgt := 15) hx hb dX9_doubt_55 (by decide) ?_
        exact ih h hR hS (lv_sub hl [1, 2, 3, 0] rfl)
      · have h := h.2 c4
        refine lv_aload_n hx hb dX9_doubt_25 rfl (lv_at hl 0 rfl) ?_
        refine gf_RX9_59 C hR pr_l9 dX9_doubt_26 ?_
        refine lv_iload_n hx hb dX9_doubt_29 rfl (lv_at hl 3 rfl) ?_
        refine pr_ald hx hb hK hR pr_l55 (by omega) (by omega) (n := 40) (by decide) h.1 dX9_doubt_30 (t := 1055) rfl ?_
        have h := h.2
        refine lv_iconst (v := (-1 : Int32)) hx hb dX9_doubt_31 (by decide) ?_
        refine lv_icmp_eq (tgt := 52) hx hb dX9_doubt_32 (by decide) (fun c5 => ?_) (fun c5 => ?_)
        · have h := h.1 c5
          refine lv_iinc (v := (x3 + (1 : Int32))) (lv' := [(3, .int (x3 + (1 : Int32))), (0, .ref (ad 9 0 0)), (1, .int x1), (2, .int x2)]) hx hb dX9_doubt_52 hl (k := 3) rfl rfl (by decide) rfl (fun ls hl => ?_)
          refine lv_goto (tgt := 15) hx hb dX9_doubt_55 (by decide) ?_
          exact ih h hR hS (lv_sub hl [1, 2, 3, 0] rfl)
        · have h := h.2 c5
          refine lv_aload_n hx hb dX9_doubt_35 rfl (lv_at hl 0 rfl) ?_
          refine lv_iload_n hx hb dX9_doubt_36 rfl (lv_at hl 1 rfl) ?_
          refine lv_iload_n hx hb dX9_doubt_37 rfl (lv_at hl 3 rfl) ?_
          refine pr_calli hS (pr_runV (As := [.int x1, .int x3]) (rest := []) C hR pr_l9 (by omega) rfl (c_X9_differ h) gw_RX9_202 rfl rfl hd_X9_differ ⟨Nat.le_of_ble_eq_true rfl, Nat.le_of_ble_eq_true rfl⟩ rfl hl.1 rfl (Nat.le_of_ble_eq_true rfl) dX9_doubt_38 ⟨Nat.zero_le _, Nat.zero_le _⟩) (fun r6 σ6 H locs h hR hS => ?_)
          refine lv_aload_n hx hb dX9_doubt_41 rfl (lv_at hl 0 rfl) ?_
          refine lv_iload_n hx hb dX9_doubt_42 rfl (lv_at hl 1 rfl) ?_
          refine lv_iload_n hx hb dX9_doubt_43 rfl (lv_at hl 2 rfl) ?_
          refine pr_calli hS (pr_runV (As := [.int x1, .int x2]) (rest := [.int r6]) C hR pr_l9 (by omega) rfl (c_X9_differ h) gw_RX9_202 rfl rfl hd_X9_differ ⟨Nat.le_of_ble_eq_true rfl, Nat.le_of_ble_eq_true rfl⟩ rfl hl.1 rfl (Nat.le_of_ble_eq_true rfl) dX9_doubt_44 ⟨Nat.zero_le _, Nat.zero_le _⟩) (fun r7 σ7 H locs h hR hS => ?_)
          refine lv_icmp_ne (tgt := 52) hx hb dX9_doubt_47 (by decide) (fun c8 => ?_) (fun c8 => ?_)
          · have h := h.1 c8
            refine lv_iinc (v := (x3 + (1 : Int32))) (lv' := [(3, .int (x3 + (1 : Int32))), (0, .ref (ad 9 0 0)), (1, .int x1), (2, .int x2)]) hx hb dX9_doubt_52 hl (k := 3) rfl rfl (by decide) rfl (fun ls hl => ?_)
            refine lv_goto (tgt := 15) hx hb dX9_doubt_55 (by decide) ?_
            exact ih h hR hS (lv_sub hl [1, 2, 3, 0] rfl)
          · have h := h.2 c8
            refine lv_iconst (v := (1 : Int32)) hx hb dX9_doubt_50 (by decide) ?_
            exact pr_retz C (Or.inr rfl) h hR hS dX9_doubt_51
def wpb_X9_doubt (g : Nat → Nat) (σ : pr_Sg) (a1 : Int32) (Q : Int32 → pr_Sg → Prop) : Prop :=
  (wp_X9_from g σ a1 (fun r1 σ1 =>
  ((¬ r1 = (-1 : Int32) → (∃ n : Nat, wp_X9_doubt_L15 g Q n σ1 a1 r1 (0 : Int32))) ∧
  (r1 = (-1 : Int32) → Q (0 : Int32) σ1))))
set_option maxHeartbeats 4000000 in
set_option maxRecDepth 100000 in
theorem t_X9_doubt {p : Program} {l : Launch} {e : Env} {s : State} {m : MethodId} {args : Array Value} {below : List Frame} {meth : Method} {c : Code} {D : va_G} {cs : Nat → ClassId} {A : Nat → Prop} {ad : pr_Ad} {g : Nat → Nat} {Q : Int32 → pr_Sg → Prop} (C : pr_C RX9 cX9_doubt 4 (some .boolean) D cs p s m args meth c) {H : Heap} {locs : List Loc} {ls : Array Slot} {σ : pr_Sg} {a1 : Int32} (h : wpb_X9_doubt g σ a1 Q) (hR : pr_R D cs A ad g σ H) (hS : va_S A s.heap H locs) (hl : lv_has ls 4 [(0, .ref (ad 9 0 0)), (1, .int a1)]) : W p l e rm_X9_doubt s m args below meth c H locs 0 0 (MQ below (va_Qi (pr_Qz Q) (pr_E D cs A ad g) A) args s 0 0 A) (F0 m 0 ls []) := by
  unfold wpb_X9_doubt at h
  obtain ⟨hx, hb, hml, hown, hts, hK, hr, hlocks⟩ := id C
  refine lv_aload_n hx hb dX9_doubt_0 rfl (lv_at hl 0 rfl) ?_
  refine lv_iload_n hx hb dX9_doubt_1 rfl (lv_at hl 1 rfl) ?_
  refine pr_calli hS (pr_runV (As := [.int a1]) (rest := []) C hR pr_l9 (by omega) rfl (c_X9_from h) gw_RX9_205 rfl rfl hd_X9_from ⟨Nat.le_of_ble_eq_true rfl, Nat.le_of_ble_eq_true rfl⟩ rfl hl.1 rfl (Nat.le_of_ble_eq_true rfl) dX9_doubt_2 ⟨Nat.zero_le _, Nat.zero_le _⟩) (fun r1 σ1 H locs h hR hS => ?_)
  refine lv_istore_n (lv' := [(2, .int r1), (0, .ref (ad 9 0 0)), (1, .int a1)]) hx hb dX9_doubt_5 rfl hl (by decide) rfl (fun ls hl => ?_)
  refine lv_iload_n hx hb dX9_doubt_6 rfl (lv_at hl 0 rfl) ?_
  refine lv_iconst (v := (-1 : Int32)) hx hb dX9_doubt_7 (by decide) ?_
  refine lv_icmp_ne (tgt := 13) hx hb dX9_doubt_8 (by decide) (fun c2 => ?_) (fun c2 => ?_)
  · have h := h.1 c2
    refine lv_iconst (v := (0 : Int32)) hx hb dX9_doubt_13 (by decide) ?_
    refine lv_istore_n (lv' := [(3, .int (0 : Int32)), (2, .int r1), (0, .ref (ad 9 0 0)), (1, .int a1)]) hx hb dX9_doubt_14 rfl hl (by decide) rfl (fun ls hl => ?_)
    obtain ⟨n1, h⟩ := h
    exact t_X9_doubt_L15 C n1 h hR hS (lv_sub hl [2, 3, 1, 0] rfl)
  · have h := h.2 c2
    refine lv_iconst (v := (0 : Int32)) hx hb dX9_doubt_11 (by decide) ?_
    exact pr_retz C (Or.inl rfl) h hR hS dX9_doubt_12
abbrev wp_X9_doubt (g : Nat → Nat) (σ : pr_Sg) (a1 : Int32) (Q : Int32 → pr_Sg → Prop) : Prop := wpb_X9_doubt g σ a1 Q
set_option maxHeartbeats 4000000 in
set_option maxRecDepth 100000 in
theorem c_X9_doubt {l : Launch} {D : va_G} {cs : Nat → ClassId} {A : Nat → Prop} {ad : pr_Ad} {g : Nat → Nat} {σ : pr_Sg} {a1 : Int32} {Q : Int32 → pr_Sg → Prop} (h : wp_X9_doubt g σ a1 Q) : pr_Mi l D cs A ad g yX9_doubt cX9_doubt 4 (some .boolean) rm_X9_doubt [.ref (ad 9 0 0), .int a1] σ (pr_Qz Q) := by
  refine Met.ofW (cc := cX9_doubt) (maxL := 4) (ret := (some .boolean)) (by decide) rfl ?_
  intro p e s m args below meth c s₁ B hml hv
  obtain ⟨rfl, hR, hK⟩ := hv
  have C : pr_C RX9 cX9_doubt 4 (some .boolean) D cs p s m [.ref (ad 9 0 0), .int a1].toArray meth c := pr_C.of B hml hK
  have hS : va_S A s.heap s.heap [] := va_S.rf
  have hl := lv_entry ([.ref (ad 9 0 0), .int a1]) (n := 4) (Nat.le_of_ble_eq_true rfl)
  rw [lg_entry_eq]
  generalize (lg_sl ([.ref (ad 9 0 0), .int a1]) ++ List.replicate (4 - (lg_sl ([.ref (ad 9 0 0), .int a1])).length) Slot.unset).toArray = ls at hl ⊢
  have hl : lv_has ls 4 [(0, .ref (ad 9 0 0)), (1, .int a1)] := hl
  exact t_X9_doubt C h hR hS hl
def rm_X9_habit : Room := { frames := 2, cells := 0, slots := 0, locals := 43 }
theorem hd_X9_habit : yX9_habit.cls = RX9 ∧ yX9_habit.cls ≠ "java/lang/invoke/MethodHandle" ∧ yX9_habit.cls ≠ "java/lang/invoke/VarHandle" ∧ (parseMethodDescriptor yX9_habit.desc).map (fun d => d.parameters.length) = some 2 := ⟨rfl, by decide, by decide, by decide +kernel⟩
def wpb_X9_habit (g : Nat → Nat) (σ : pr_Sg) (a1 : Int32) (a2 : Int32) (Q : Int32 → pr_Sg → Prop) : Prop :=
  (wp_X9_isHand g σ a1 (fun r1 σ1 =>
  ((r1 = 0 → Q (0 : Int32) σ1) ∧
  (¬ r1 = 0 → (wp_X9_in g σ1 a2 (0 : Int32) (9999 : Int32) (fun r3 σ3 =>
  ((¬ r3 = 0 → (vp_in a1 7 ∧ ∀ σ5 : pr_Sg, σ5 = pr_up σ3 1046 0 (a1).toNatClampNeg a2 →
  Q (1 : Int32) σ5)) ∧
  (r3 = 0 → Q (0 : Int32) σ3))))))))
set_option maxHeartbeats 4000000 in
set_option maxRecDepth 100000 in
theorem t_X9_habit {p : Program} {l : Launch} {e : Env} {s : State} {m : MethodId} {args : Array Value} {below : List Frame} {meth : Method} {c : Code} {D : va_G} {cs : Nat → ClassId} {A : Nat → Prop} {ad : pr_Ad} {g : Nat → Nat} {Q : Int32 → pr_Sg → Prop} (C : pr_C RX9 cX9_habit 3 (some .boolean) D cs p s m args meth c) {H : Heap} {locs : List Loc} {ls : Array Slot} {σ : pr_Sg} {a1 : Int32} {a2 : Int32} (h : wpb_X9_habit g σ a1 a2 Q) (hR : pr_R D cs A ad g σ H) (hS : va_S A s.heap H locs) (hl : lv_has ls 3 [(0, .ref (ad 9 0 0)), (1, .int a1), (2, .int a2)]) : W p l e rm_X9_habit s m args below meth c H locs 0 0 (MQ below (va_Qi (pr_Qz Q) (pr_E D cs A ad g) A) args s 0 0 A) (F0 m 0 ls []) := by
  unfold wpb_X9_habit at h
  obtain ⟨hx, hb, hml, hown, hts, hK, hr, hlocks⟩ := id C
  refine lv_aload_n hx hb dX9_habit_0 rfl (lv_at hl 0 rfl) ?_
  refine lv_iload_n hx hb dX9_habit_1 rfl (lv_at hl 1 rfl) ?_
  refine pr_calli hS (pr_runV (As := [.int a1]) (rest := []) C hR pr_l9 (by omega) rfl (c_X9_isHand h) gw_RX9_172 rfl rfl hd_X9_isHand ⟨Nat.le_of_ble_eq_true rfl, Nat.le_of_ble_eq_true rfl⟩ rfl hl.1 rfl (Nat.le_of_ble_eq_true rfl) dX9_habit_2 ⟨Nat.zero_le _, Nat.zero_le _⟩) (fun r1 σ1 H locs h hR hS => ?_)
  obtain ⟨hz1, h⟩ := h
  refine lv_if_eq (tgt := 19) hx hb dX9_habit_5 (by decide) (fun c2 => ?_) (fun c2 => ?_)
  · have h := h.1 c2
    refine lv_iconst (v := (0 : Int32)) hx hb dX9_habit_19 (by decide) ?_
    exact pr_retz C (Or.inl rfl) h hR hS dX9_habit_20
  · have h := h.2 c2
    refine lv_iload_n hx hb dX9_habit_8 rfl (lv_at hl 2 rfl) ?_
    refine lv_iconst (v := (0 : Int32)) hx hb dX9_habit_9 (by decide) ?_
    refine lv_sipush (v := (9999 : Int32)) hx hb dX9_habit_10 (by decide) ?_
    refine pr_calli hS (pr_runS (As := [.int a2, .int (0 : Int32), .int (9999 : Int32)]) (rest := []) C hR (c_X9_in h) gw_RX9_113 rfl rfl hs_X9_in ⟨Nat.le_of_ble_eq_true rfl, Nat.le_of_ble_eq_true rfl⟩ rfl hl.1 rfl (Nat.le_of_ble_eq_true rfl) dX9_habit_13 ⟨Nat.zero_le _, Nat.zero_le _⟩) (fun r3 σ3 H locs h hR hS => ?_)
    obtain ⟨hz3, h⟩ := h
    refine lv_if_ne (tgt := 21) hx hb dX9_habit_16 (by decide) (fun c4 => ?_) (fun c4 => ?_)
    · have h := h.1 c4
      refine lv_aload_n hx hb dX9_habit_21 rfl (lv_at hl 0 rfl) ?_
      refine gf_RX9_28 C hR pr_l9 dX9_habit_22 ?_
      refine lv_iload_n hx hb dX9_habit_25 rfl (lv_at hl 1 rfl) ?_
      refine lv_iload_n hx hb dX9_habit_26 rfl (lv_at hl 2 rfl) ?_
      refine pr_ast hx hb hK hR hS pr_l46 (by omega) (by omega) (n := 7) (by decide) h.1 dX9_habit_27 (t := 1046) rfl (fun H locs σ5 e5 hR hS => ?_)
      have h := h.2 σ5 e5
      refine lv_iconst (v := (1 : Int32)) hx hb dX9_habit_28 (by decide) ?_
      exact pr_retz C (Or.inr rfl) h hR hS dX9_habit_29
    · have h := h.2 c4
      refine lv_iconst (v := (0 : Int32)) hx hb dX9_habit_19 (by decide) ?_
      exact pr_retz C (Or.inl rfl) h hR hS dX9_habit_20
abbrev wp_X9_habit (g : Nat → Nat) (σ : pr_Sg) (a1 : Int32) (a2 : Int32) (Q : Int32 → pr_Sg → Prop) : Prop := wpb_X9_habit g σ a1 a2 Q
set_option maxHeartbeats 4000000 in
set_option maxRecDepth 100000 in
theorem c_X9_habit {l : Launch} {D : va_G} {cs : Nat → ClassId} {A : Nat → Prop} {ad : pr_Ad} {g : Nat → Nat} {σ : pr_Sg} {a1 : Int32} {a2 : Int32} {Q : Int32 → pr_Sg → Prop} (h : wp_X9_habit g σ a1 a2 Q) : pr_Mi l D cs A ad g yX9_habit cX9_habit 3 (some .boolean) rm_X9_habit [.ref (ad 9 0 0), .int a1, .int a2] σ (pr_Qz Q) := by
  refine Met.ofW (cc := cX9_habit) (maxL := 3) (ret := (some .boolean)) (by decide) rfl ?_
  intro p e s m args below meth c s₁ B hml hv
  obtain ⟨rfl, hR, hK⟩ := hv
  have C : pr_C RX9 cX9_habit 3 (some .boolean) D cs p s m [.ref (ad 9 0 0), .int a1, .int a2].toArray meth c := pr_C.of B hml hK
  have hS : va_S A s.heap s.heap [] := va_S.rf
  have hl := lv_entry ([.ref (ad 9 0 0), .int a1, .int a2]) (n := 3) (Nat.le_of_ble_eq_true rfl)
  rw [lg_entry_eq]
  generalize (lg_sl ([.ref (ad 9 0 0), .int a1, .int a2]) ++ List.replicate (3 - (lg_sl ([.ref (ad 9 0 0), .int a1, .int a2])).length) Slot.unset).toArray = ls at hl ⊢
  have hl : lv_has ls 3 [(0, .ref (ad 9 0 0)), (1, .int a1), (2, .int a2)] := hl
  exact t_X9_habit C h hR hS hl
def rm_X9_margin : Room := { frames := 1, cells := 0, slots := 0, locals := 22 }
theorem hd_X9_margin : yX9_margin.cls = RX9 ∧ yX9_margin.cls ≠ "java/lang/invoke/MethodHandle" ∧ yX9_margin.cls ≠ "java/lang/invoke/VarHandle" ∧ (parseMethodDescriptor yX9_margin.desc).map (fun d => d.parameters.length) = some 1 := ⟨rfl, by decide, by decide, by decide +kernel⟩
def wpb_X9_margin (g : Nat → Nat) (σ : pr_Sg) (a1 : Int32) (Q : Int32 → pr_Sg → Prop) : Prop :=
  (wp_X9_in g σ a1 (0 : Int32) (99 : Int32) (fun r1 σ1 =>
  ((¬ r1 = 0 → (∀ σ3 : pr_Sg, σ3 = pr_up σ1 609 0 0 a1 →
  Q (1 : Int32) σ3)) ∧
  (r1 = 0 → Q (0 : Int32) σ1))))
set_option maxHeartbeats 4000000 in
set_option maxRecDepth 100000 in
theorem t_X9_margin {p : Program} {l : Launch} {e : Env} {s : State} {m : MethodId} {args : Array Value} {below : List Frame} {meth : Method} {c : Code} {D : va_G} {cs : Nat → ClassId} {A : Nat → Prop} {ad : pr_Ad} {g : Nat → Nat} {Q : Int32 → pr_Sg → Prop} (C : pr_C RX9 cX9_margin 2 (some .boolean) D cs p s m args meth c) {H : Heap} {locs : List Loc} {ls : Array Slot} {σ : pr_Sg} {a1 : Int32} (h : wpb_X9_margin g σ a1 Q) (hR : pr_R D cs A ad g σ H) (hS : va_S A s.heap H locs) (hl : lv_has ls 2 [(0, .ref (ad 9 0 0)), (1, .int a1)]) : W p l e rm_X9_margin s m args below meth c H locs 0 0 (MQ below (va_Qi (pr_Qz Q) (pr_E D cs A ad g) A) args s 0 0 A) (F0 m 0 ls []) := by
  unfold wpb_X9_margin at h
  obtain ⟨hx, hb, hml, hown, hts, hK, hr, hlocks⟩ := id C
  refine lv_iload_n hx hb dX9_margin_0 rfl (lv_at hl 1 rfl) ?_
  refine lv_iconst (v := (0 : Int32)) hx hb dX9_margin_1 (by decide) ?_
  refine lv_bipush (v := (99 : Int32)) hx hb dX9_margin_2 (by decide) ?_
  refine pr_calli hS (pr_runS (As := [.int a1, .int (0 : Int32), .int (99 : Int32)]) (rest := []) C hR (c_X9_in h) gw_RX9_113 rfl rfl hs_X9_in ⟨Nat.le_of_ble_eq_true rfl, Nat.le_of_ble_eq_true rfl⟩ rfl hl.1 rfl (Nat.le_of_ble_eq_true rfl) dX9_margin_4 ⟨Nat.zero_le _, Nat.zero_le _⟩) (fun r1 σ1 H locs h hR hS => ?_)
  obtain ⟨hz1, h⟩ := h
  refine lv_if_ne (tgt := 12) hx hb dX9_margin_7 (by decide) (fun c2 => ?_) (fun c2 => ?_)
  · have h := h.1 c2
    refine lv_aload_n hx hb dX9_margin_12 rfl (lv_at hl 0 rfl) ?_
    refine lv_iload_n hx hb dX9_margin_13 rfl (lv_at hl 1 rfl) ?_
    refine pf_RX9_98 C hR hS pr_l9 dX9_margin_14 (fun H locs σ3 e3 hR hS => ?_)
    have h := h σ3 e3
    refine lv_iconst (v := (1 : Int32)) hx hb dX9_margin_17 (by decide) ?_
    exact pr_retz C (Or.inr rfl) h hR hS dX9_margin_18
  · have h := h.2 c2
    refine lv_iconst (v := (0 : Int32)) hx hb dX9_margin_10 (by decide) ?_
    exact pr_retz C (Or.inl rfl) h hR hS dX9_margin_11
abbrev wp_X9_margin (g : Nat → Nat) (σ : pr_Sg) (a1 : Int32) (Q : Int32 → pr_Sg → Prop) : Prop := wpb_X9_margin g σ a1 Q
set_option maxHeartbeats 4000000 in
set_option maxRecDepth 100000 in
theorem c_X9_margin {l : Launch} {D : va_G} {cs : Nat → ClassId} {A : Nat → Prop} {ad : pr_Ad} {g : Nat → Nat} {σ : pr_Sg} {a1 : Int32} {Q : Int32 → pr_Sg → Prop} (h : wp_X9_margin g σ a1 Q) : pr_Mi l D cs A ad g yX9_margin cX9_margin 2 (some .boolean) rm_X9_margin [.ref (ad 9 0 0), .int a1] σ (pr_Qz Q) := by
  refine Met.ofW (cc := cX9_margin) (maxL := 2) (ret := (some .boolean)) (by decide) rfl ?_
  intro p e s m args below meth c s₁ B hml hv
  obtain ⟨rfl, hR, hK⟩ := hv
  have C : pr_C RX9 cX9_margin 2 (some .boolean) D cs p s m [.ref (ad 9 0 0), .int a1].toArray meth c := pr_C.of B hml hK
  have hS : va_S A s.heap s.heap [] := va_S.rf
  have hl := lv_entry ([.ref (ad 9 0 0), .int a1]) (n := 2) (Nat.le_of_ble_eq_true rfl)
  rw [lg_entry_eq]
  generalize (lg_sl ([.ref (ad 9 0 0), .int a1]) ++ List.replicate (2 - (lg_sl ([.ref (ad 9 0 0), .int a1])).length) Slot.unset).toArray = ls at hl ⊢
  have hl : lv_has ls 2 [(0, .ref (ad 9 0 0)), (1, .int a1)] := hl
  exact t_X9_margin C h hR hS hl
def rm_X9_strokes : Room := { frames := 2, cells := 0, slots := 0, locals := 43 }
theorem hd_X9_strokes : yX9_strokes.cls = RX9 ∧ yX9_strokes.cls ≠ "java/lang/invoke/MethodHandle" ∧ yX9_strokes.cls ≠ "java/lang/invoke/VarHandle" ∧ (parseMethodDescriptor yX9_strokes.desc).map (fun d => d.parameters.length) = some 3 := ⟨rfl, by decide, by decide, by decide +kernel⟩
def wpb_X9_strokes (g : Nat → Nat) (σ : pr_Sg) (a1 : Int32) (a2 : Int32) (a3 : Int32) (Q : Int32 → pr_Sg → Prop) : Prop :=
  (wp_X9_isPicture g σ a1 (fun r1 σ1 =>
  ((r1 = 0 → Q (0 : Int32) σ1) ∧
  (¬ r1 = 0 → (wp_X9_in g σ1 a2 (0 : Int32) (4 : Int32) (fun r3 σ3 =>
  ((r3 = 0 → Q (0 : Int32) σ3) ∧
  (¬ r3 = 0 → (wp_X9_in g σ3 a3 (0 : Int32) (9999 : Int32) (fun r5 σ5 =>
  ((¬ r5 = 0 → (vp_in a1 40 ∧ (vp_in a2 5 ∧ ∀ σ8 : pr_Sg, σ8 = pr_up σ5 1068 (a1).toNatClampNeg (a2).toNatClampNeg a3 →
  Q (1 : Int32) σ8))) ∧
  (r5 = 0 → Q (0 : Int32) σ5))))))))))))
set_option maxHeartbeats 4000000 in
set_option maxRecDepth 100000 in
theorem t_X9_strokes {p : Program} {l : Launch} {e : Env} {s : State} {m : MethodId} {args : Array Value} {below : List Frame} {meth : Method} {c : Code} {D : va_G} {cs : Nat → ClassId} {A : Nat → Prop} {ad : pr_Ad} {g : Nat → Nat} {Q : Int32 → pr_Sg → Prop} (C : pr_C RX9 cX9_strokes 4 (some .boolean) D cs p s m args meth c) {H : Heap} {locs : List Loc} {ls : Array Slot} {σ : pr_Sg} {a1 : Int32} {a2 : Int32} {a3 : Int32} (h : wpb_X9_strokes g σ a1 a2 a3 Q) (hR : pr_R D cs A ad g σ H) (hS : va_S A s.heap H locs) (hl : lv_has ls 4 [(0, .ref (ad 9 0 0)), (1, .int a1), (2, .int a2), (3, .int a3)]) : W p l e rm_X9_strokes s m args below meth c H locs 0 0 (MQ below (va_Qi (pr_Qz Q) (pr_E D cs A ad g) A) args s 0 0 A) (F0 m 0 ls []) := by
  unfold wpb_X9_strokes at h
  obtain ⟨hx, hb, hml, hown, hts, hK, hr, hlocks⟩ := id C
  refine lv_aload_n hx hb dX9_strokes_0 rfl (lv_at hl 0 rfl) ?_
  refine lv_iload_n hx hb dX9_strokes_1 rfl (lv_at hl 1 rfl) ?_
  refine pr_calli hS (pr_runV (As := [.int a1]) (rest := []) C hR pr_l9 (by omega) rfl (c_X9_isPicture h) gw_RX9_157 rfl rfl hd_X9_isPicture ⟨Nat.le_of_ble_eq_true rfl, Nat.le_of_ble_eq_true rfl⟩ rfl hl.1 rfl (Nat.le_of_ble_eq_true rfl) dX9_strokes_2 ⟨Nat.zero_le _, Nat.zero_le _⟩) (fun r1 σ1 H locs h hR hS => ?_)
  obtain ⟨hz1, h⟩ := h
  refine lv_if_eq (tgt := 28) hx hb dX9_strokes_5 (by decide) (fun c2 => ?_) (fun c2 => ?_)
  · have h := h.1 c2
    refine lv_iconst (v := (0 : Int32)) hx hb dX9_strokes_28 (by decide) ?_
    exact pr_retz C (Or.inl rfl) h hR hS dX9_strokes_29
  · have h := h.2 c2
    refine lv_iload_n hx hb dX9_strokes_8 rfl (lv_at hl 2 rfl) ?_
    refine lv_iconst (v := (0 : Int32)) hx hb dX9_strokes_9 (by decide) ?_
    refine lv_iconst (v := (4 : Int32)) hx hb dX9_strokes_10 (by decide) ?_
    refine pr_calli hS (pr_runS (As := [.int a2, .int (0 : Int32), .int (4 : Int32)]) (rest := []) C hR (c_X9_in h) gw_RX9_113 rfl rfl hs_X9_in ⟨Nat.le_of_ble_eq_true rfl, Nat.le_of_ble_eq_true rfl⟩ rfl hl.1 rfl (Nat.le_of_ble_eq_true rfl) dX9_strokes_11 ⟨Nat.zero_le _, Nat.zero_le _⟩) (fun r3 σ3 H locs h hR hS => ?_)
    obtain ⟨hz3, h⟩ := h
    refine lv_if_eq (tgt := 28) hx hb dX9_strokes_14 (by decide) (fun c4 => ?_) (fun c4 => ?_)
    · have h := h.1 c4
      refine lv_iconst (v := (0 : Int32)) hx hb dX9_strokes_28 (by decide) ?_
      exact pr_retz C (Or.inl rfl) h hR hS dX9_strokes_29
    · have h := h.2 c4
      refine lv_iload_n hx hb dX9_strokes_17 rfl (lv_at hl 3 rfl) ?_
      refine lv_iconst (v := (0 : Int32)) hx hb dX9_strokes_18 (by decide) ?_
      refine lv_sipush (v := (9999 : Int32)) hx hb dX9_strokes_19 (by decide) ?_
      refine pr_calli hS (pr_runS (As := [.int a3, .int (0 : Int32), .int (9999 : Int32)]) (rest := []) C hR (c_X9_in h) gw_RX9_113 rfl rfl hs_X9_in ⟨Nat.le_of_ble_eq_true rfl, Nat.le_of_ble_eq_true rfl⟩ rfl hl.1 rfl (Nat.le_of_ble_eq_true rfl) dX9_strokes_22 ⟨Nat.zero_le _, Nat.zero_le _⟩) (fun r5 σ5 H locs h hR hS => ?_)
      obtain ⟨hz5, h⟩ := h
      refine lv_if_ne (tgt := 30) hx hb dX9_strokes_25 (by decide) (fun c6 => ?_) (fun c6 => ?_)
      · have h := h.1 c6
        refine lv_aload_n hx hb dX9_strokes_30 rfl (lv_at hl 0 rfl) ?_
        refine gf_RX9_76 C hR pr_l9 dX9_strokes_31 ?_
        refine lv_iload_n hx hb dX9_strokes_34 rfl (lv_at hl 1 rfl) ?_
        refine pr_ldg hx hb hK hR 88 (by omega) (kd := 68) rfl h.1 dX9_strokes_35 (fun hv7 => ?_)
        have h := h.2
        refine lv_iload_n hx hb dX9_strokes_36 rfl (lv_at hl 2 rfl) ?_
        refine lv_iload_n hx hb dX9_strokes_37 rfl (lv_at hl 3 rfl) ?_
        refine pr_ast hx hb hK hR hS hv7 (by omega) (by omega) (n := 5) (by decide) h.1 dX9_strokes_38 (t := 1068) rfl (fun H locs σ8 e8 hR hS => ?_)
        have h := h.2 σ8 e8
        refine lv_iconst (v := (1 : Int32)) hx hb dX9_strokes_39 (by decide) ?_
        exact pr_retz C (Or.inr rfl) h hR hS dX9_strokes_40
      · have h := h.2 c6
        refine lv_iconst (v := (0 : Int32)) hx hb dX9_strokes_28 (by decide) ?_
        exact pr_retz C (Or.inl rfl) h hR hS dX9_strokes_29
abbrev wp_X9_strokes (g : Nat → Nat) (σ : pr_Sg) (a1 : Int32) (a2 : Int32) (a3 : Int32) (Q : Int32 → pr_Sg → Prop) : Prop := wpb_X9_strokes g σ a1 a2 a3 Q
set_option maxHeartbeats 4000000 in
set_option maxRecDepth 100000 in
theorem c_X9_strokes {l : Launch} {D : va_G} {cs : Nat → ClassId} {A : Nat → Prop} {ad : pr_Ad} {g : Nat → Nat} {σ : pr_Sg} {a1 : Int32} {a2 : Int32} {a3 : Int32} {Q : Int32 → pr_Sg → Prop} (h : wp_X9_strokes g σ a1 a2 a3 Q) : pr_Mi l D cs A ad g yX9_strokes cX9_strokes 4 (some .boolean) rm_X9_strokes [.ref (ad 9 0 0), .int a1, .int a2, .int a3] σ (pr_Qz Q) := by
  refine Met.ofW (cc := cX9_strokes) (maxL := 4) (ret := (some .boolean)) (by decide) rfl ?_
  intro p e s m args below meth c s₁ B hml hv
  obtain ⟨rfl, hR, hK⟩ := hv
  have C : pr_C RX9 cX9_strokes 4 (some .boolean) D cs p s m [.ref (ad 9 0 0), .int a1, .int a2, .int a3].toArray meth c := pr_C.of B hml hK
  have hS : va_S A s.heap s.heap [] := va_S.rf
  have hl := lv_entry ([.ref (ad 9 0 0), .int a1, .int a2, .int a3]) (n := 4) (Nat.le_of_ble_eq_true rfl)
  rw [lg_entry_eq]
  generalize (lg_sl ([.ref (ad 9 0 0), .int a1, .int a2, .int a3]) ++ List.replicate (4 - (lg_sl ([.ref (ad 9 0 0), .int a1, .int a2, .int a3])).length) Slot.unset).toArray = ls at hl ⊢
  have hl : lv_has ls 4 [(0, .ref (ad 9 0 0)), (1, .int a1), (2, .int a2), (3, .int a3)] := hl
  exact t_X9_strokes C h hR hS hl
def rm_X9_squares : Room := { frames := 0, cells := 0, slots := 0, locals := 0 }
theorem hs_X9_squares : yX9_squares.cls ≠ "java/lang/invoke/MethodHandle" ∧ yX9_squares.cls ≠ "java/lang/invoke/VarHandle" ∧ (parseMethodDescriptor yX9_squares.desc).map (fun d => d.parameters.length) = some 2 := ⟨by decide, by decide, by decide +kernel⟩
def wp_X9_squares_L10 (g : Nat → Nat) (Q : Int32 → pr_Sg → Prop) : Nat → pr_Sg → Int32 → Int32 → Int32 → Int32 → Prop
  | 0, _, _, _, _, _ => False
  | n + 1, σ, x2, x3, x4, x5 => (((4 : Int32) ≤ x5 → Q x4 σ) ∧
  (¬ (4 : Int32) ≤ x5 → wp_X9_squares_L10 g Q n σ (x2 / (10 : Int32)) (x3 / (10 : Int32)) (x4 + (((x2 - x2 / (10 : Int32) * (10 : Int32)) - (x3 - x3 / (10 : Int32) * (10 : Int32))) * ((x2 - x2 / (10 : Int32) * (10 : Int32)) - (x3 - x3 / (10 : Int32) * (10 : Int32))))) (x5 + (1 : Int32))))
set_option maxHeartbeats 4000000 in
set_option maxRecDepth 100000 in
theorem t_X9_squares_L10 {p : Program} {l : Launch} {e : Env} {s : State} {m : MethodId} {args : Array Value} {below : List Frame} {meth : Method} {c : Code} {D : va_G} {cs : Nat → ClassId} {A : Nat → Prop} {ad : pr_Ad} {g : Nat → Nat} {Q : Int32 → pr_Sg → Prop} (C : pr_C RX9 cX9_squares 7 (some .int) D cs p s m args meth c) (n : Nat) : ∀ {H : Heap} {locs : List Loc} {ls : Array Slot} {σ : pr_Sg} {x2 : Int32} {x3 : Int32} {x4 : Int32} {x5 : Int32} (_ : wp_X9_squares_L10 g Q n σ x2 x3 x4 x5) (_ : pr_R D cs A ad g σ H) (_ : va_S A s.heap H locs) (_ : lv_has ls 7 [(2, .int x2), (3, .int x3), (4, .int x4), (5, .int x5)]), W p l e rm_X9_squares s m args below meth c H locs 0 0 (MQ below (va_Qi Q (pr_E D cs A ad g) A) args s 0 0 A) (F0 m 10 ls []) := by
  induction n with
  | zero =>
    intro H locs ls σ x2 x3 x4 x5 h
    exact False.elim h
  | succ n ih =>
    intro H locs ls σ x2 x3 x4 x5 h hR hS hl
    unfold wp_X9_squares_L10 at h
    obtain ⟨hx, hb, hml, hown, hts, hK, hr, hlocks⟩ := id C
    refine lv_iload hx hb dX9_squares_10 (lv_at hl 3 rfl) ?_
    refine lv_iconst (v := (4 : Int32)) hx hb dX9_squares_12 (by decide) ?_
    refine lv_icmp_ge (tgt := 53) hx hb dX9_squares_13 (by decide) (fun c1 => ?_) (fun c1 => ?_)
    · have h := h.1 c1
      refine lv_iload hx hb dX9_squares_53 (lv_at hl 2 rfl) ?_
      exact pr_reti C h hR hS dX9_squares_55
    · have h := h.2 c1
      refine lv_iload_n hx hb dX9_squares_16 rfl (lv_at hl 0 rfl) ?_
      refine lv_bipush (v := (10 : Int32)) hx hb dX9_squares_17 (by decide) ?_
      refine lv_irem hx hb dX9_squares_19 (by decide) ?_
      refine lv_iload_n hx hb dX9_squares_20 rfl (lv_at hl 1 rfl) ?_
      refine lv_bipush (v := (10 : Int32)) hx hb dX9_squares_21 (by decide) ?_
      refine lv_irem hx hb dX9_squares_23 (by decide) ?_
      refine lv_isub hx hb dX9_squares_24 ?_
      refine lv_istore (lv' := [(6, .int ((x2 - x2 / (10 : Int32) * (10 : Int32)) - (x3 - x3 / (10 : Int32) * (10 : Int32)))), (2, .int x2), (3, .int x3), (4, .int x4), (5, .int x5)]) hx hb dX9_squares_25 hl (by decide) rfl (fun ls hl => ?_)
      refine lv_iload hx hb dX9_squares_27 (lv_at hl 3 rfl) ?_
      refine lv_iload hx hb dX9_squares_29 (lv_at hl 0 rfl) ?_
      refine lv_iload hx hb dX9_squares_31 (lv_at hl 0 rfl) ?_
      refine lv_imul hx hb dX9_squares_33 ?_
      refine lv_iadd hx hb dX9_squares_34 ?_
      refine lv_istore (lv' := [(4, .int (x4 + (((x2 - x2 / (10 : Int32) * (10 : Int32)) - (x3 - x3 / (10 : Int32) * (10 : Int32))) * ((x2 - x2 / (10 : Int32) * (10 : Int32)) - (x3 - x3 / (10 : Int32) * (10 : Int32)))))), (6, .int ((x2 - x2 / (10 : Int32) * (10 : Int32)) - (x3 - x3 / (10 : Int32) * (10 : Int32)))), (2, .int x2), (3, .int x3), (5, .int x5)]) hx hb dX9_squares_35 hl (by decide) rfl (fun ls hl => ?_)
      refine lv_iload_n hx hb dX9_squares_37 rfl (lv_at hl 2 rfl) ?_
      refine lv_bipush (v := (10 : Int32)) hx hb dX9_squares_38 (by decide) ?_
      refine lv_idiv hx hb dX9_squares_40 (by decide) ?_
      refine lv_istore_n (lv' := [(2, .int (x2 / (10 : Int32))), (4, .int (x4 + (((x2 - x2 / (10 : Int32) * (10 : Int32)) - (x3 - x3 / (10 : Int32) * (10 : Int32))) * ((x2 - x2 / (10 : Int32) * (10 : Int32)) - (x3 - x3 / (10 : Int32) * (10 : Int32)))))), (6, .int ((x2 - x2 / (10 : Int32) * (10 : Int32)) - (x3 - x3 / (10 : Int32) * (10 : Int32)))), (3, .int x3), (5, .int x5)]) hx hb dX9_squares_41 rfl hl (by decide) rfl (fun ls hl => ?_)
      refine lv_iload_n hx hb dX9_squares_42 rfl (lv_at hl 3 rfl) ?_
      refine lv_bipush (v := (10 : Int32)) hx hb dX9_squares_43 (by decide) ?_
      refine lv_idiv hx hb dX9_squares_45 (by decide) ?_
      refine lv_istore_n (lv' := [(3, .int (x3 / (10 : Int32))), (2, .int (x2 / (10 : Int32))), (4, .int (x4 + (((x2 - x2 / (10 : Int32) * (10 : Int32)) - (x3 - x3 / (10 : Int32) * (10 : Int32))) * ((x2 - x2 / (10 : Int32) * (10 : Int32)) - (x3 - x3 / (10 : Int32) * (10 : Int32)))))), (6, .int ((x2 - x2 / (10 : Int32) * (10 : Int32)) - (x3 - x3 / (10 : Int32) * (10 : Int32)))), (5, .int x5)]) hx hb dX9_squares_46 rfl hl (by decide) rfl (fun ls hl => ?_)
      refine lv_iinc (v := (x5 + (1 : Int32))) (lv' := [(5, .int (x5 + (1 : Int32))), (3, .int (x3 / (10 : Int32))), (2, .int (x2 / (10 : Int32))), (4, .int (x4 + (((x2 - x2 / (10 : Int32) * (10 : Int32)) - (x3 - x3 / (10 : Int32) * (10 : Int32))) * ((x2 - x2 / (10 : Int32) * (10 : Int32)) - (x3 - x3 / (10 : Int32) * (10 : Int32)))))), (6, .int ((x2 - x2 / (10 : Int32) * (10 : Int32)) - (x3 - x3 / (10 : Int32) * (10 : Int32))))]) hx hb dX9_squares_47 hl (k := 4) rfl rfl (by decide) rfl (fun ls hl => ?_)
      refine lv_goto (tgt := 10) hx hb dX9_squares_50 (by decide) ?_
      exact ih h hR hS (lv_sub hl [2, 1, 3, 0] rfl)
def wpb_X9_squares (g : Nat → Nat) (σ : pr_Sg) (a1 : Int32) (a2 : Int32) (Q : Int32 → pr_Sg → Prop) : Prop :=
  (∃ n : Nat, wp_X9_squares_L10 g Q n σ a1 a2 (0 : Int32) (0 : Int32))
set_option maxHeartbeats 4000000 in
set_option maxRecDepth 100000 in
theorem t_X9_squares {p : Program} {l : Launch} {e : Env} {s : State} {m : MethodId} {args : Array Value} {below : List Frame} {meth : Method} {c : Code} {D : va_G} {cs : Nat → ClassId} {A : Nat → Prop} {ad : pr_Ad} {g : Nat → Nat} {Q : Int32 → pr_Sg → Prop} (C : pr_C RX9 cX9_squares 7 (some .int) D cs p s m args meth c) {H : Heap} {locs : List Loc} {ls : Array Slot} {σ : pr_Sg} {a1 : Int32} {a2 : Int32} (h : wpb_X9_squares g σ a1 a2 Q) (hR : pr_R D cs A ad g σ H) (hS : va_S A s.heap H locs) (hl : lv_has ls 7 [(0, .int a1), (1, .int a2)]) : W p l e rm_X9_squares s m args below meth c H locs 0 0 (MQ below (va_Qi Q (pr_E D cs A ad g) A) args s 0 0 A) (F0 m 0 ls []) := by
  unfold wpb_X9_squares at h
  obtain ⟨hx, hb, hml, hown, hts, hK, hr, hlocks⟩ := id C
  refine lv_iload_n hx hb dX9_squares_0 rfl (lv_at hl 0 rfl) ?_
  refine lv_istore_n (lv' := [(2, .int a1), (0, .int a1), (1, .int a2)]) hx hb dX9_squares_1 rfl hl (by decide) rfl (fun ls hl => ?_)
  refine lv_iload_n hx hb dX9_squares_2 rfl (lv_at hl 2 rfl) ?_
  refine lv_istore_n (lv' := [(3, .int a2), (2, .int a1), (0, .int a1), (1, .int a2)]) hx hb dX9_squares_3 rfl hl (by decide) rfl (fun ls hl => ?_)
  refine lv_iconst (v := (0 : Int32)) hx hb dX9_squares_4 (by decide) ?_
  refine lv_istore (lv' := [(4, .int (0 : Int32)), (3, .int a2), (2, .int a1), (0, .int a1), (1, .int a2)]) hx hb dX9_squares_5 hl (by decide) rfl (fun ls hl => ?_)
  refine lv_iconst (v := (0 : Int32)) hx hb dX9_squares_7 (by decide) ?_
  refine lv_istore (lv' := [(5, .int (0 : Int32)), (4, .int (0 : Int32)), (3, .int a2), (2, .int a1), (0, .int a1), (1, .int a2)]) hx hb dX9_squares_8 hl (by decide) rfl (fun ls hl => ?_)
  obtain ⟨n1, h⟩ := h
  exact t_X9_squares_L10 C n1 h hR hS (lv_sub hl [3, 2, 1, 0] rfl)
abbrev wp_X9_squares (g : Nat → Nat) (σ : pr_Sg) (a1 : Int32) (a2 : Int32) (Q : Int32 → pr_Sg → Prop) : Prop := wpb_X9_squares g σ a1 a2 Q
set_option maxHeartbeats 4000000 in
set_option maxRecDepth 100000 in
theorem c_X9_squares {l : Launch} {D : va_G} {cs : Nat → ClassId} {A : Nat → Prop} {ad : pr_Ad} {g : Nat → Nat} {σ : pr_Sg} {a1 : Int32} {a2 : Int32} {Q : Int32 → pr_Sg → Prop} (h : wp_X9_squares g σ a1 a2 Q) : pr_Mi l D cs A ad g yX9_squares cX9_squares 7 (some .int) rm_X9_squares [.int a1, .int a2] σ Q := by
  refine Met.ofW (cc := cX9_squares) (maxL := 7) (ret := (some .int)) (by decide) rfl ?_
  intro p e s m args below meth c s₁ B hml hv
  obtain ⟨rfl, hR, hK⟩ := hv
  have C : pr_C RX9 cX9_squares 7 (some .int) D cs p s m [.int a1, .int a2].toArray meth c := pr_C.of B hml hK
  have hS : va_S A s.heap s.heap [] := va_S.rf
  have hl := lv_entry ([.int a1, .int a2]) (n := 7) (Nat.le_of_ble_eq_true rfl)
  rw [lg_entry_eq]
  generalize (lg_sl ([.int a1, .int a2]) ++ List.replicate (7 - (lg_sl ([.int a1, .int a2])).length) Slot.unset).toArray = ls at hl ⊢
  have hl : lv_has ls 7 [(0, .int a1), (1, .int a2)] := hl
  exact t_X9_squares C h hR hS hl
def rm_X9_whose : Room := { frames := 2, cells := 0, slots := 0, locals := 43 }
theorem hd_X9_whose : yX9_whose.cls = RX9 ∧ yX9_whose.cls ≠ "java/lang/invoke/MethodHandle" ∧ yX9_whose.cls ≠ "java/lang/invoke/VarHandle" ∧ (parseMethodDescriptor yX9_whose.desc).map (fun d => d.parameters.length) = some 2 := ⟨rfl, by decide, by decide, by decide +kernel⟩
def wp_X9_whose_L110 (g : Nat → Nat) (Q : Int32 → pr_Sg → Prop) : Nat → pr_Sg → Int32 → Int32 → Int32 → Prop
  | 0, _, _, _, _ => False
  | n + 1, σ, x3, x4, x5 => (((σ 585 0 0) ≤ x5 → Q x4 σ) ∧
  (¬ (σ 585 0 0) ≤ x5 → ((x4 = (-1 : Int32) → Q x4 σ) ∧
  (¬ x4 = (-1 : Int32) → ((x5 = x4 → wp_X9_whose_L110 g Q n σ x3 x4 (x5 + (1 : Int32))) ∧
  (¬ x5 = x4 → (vp_in x5 7 ∧ (((σ 1046 0 (x5).toNatClampNeg) = (-1 : Int32) → wp_X9_whose_L110 g Q n σ x3 x4 (x5 + (1 : Int32))) ∧
  (¬ (σ 1046 0 (x5).toNatClampNeg) = (-1 : Int32) → (vp_in x5 7 ∧ (wp_X9_squares g σ x3 (σ 1046 0 (x5).toNatClampNeg) (fun r13 σ13 =>
  (vp_in x4 7 ∧ (wp_X9_squares g σ13 x3 (σ13 1046 0 (x4).toNatClampNeg) (fun r14 σ14 =>
  (((σ14 609 0 0) ≤ (r13 - r14) → wp_X9_whose_L110 g Q n σ14 x3 x4 (x5 + (1 : Int32))) ∧
  (¬ (σ14 609 0 0) ≤ (r13 - r14) → Q (-2 : Int32) σ14)))))))))))))))))
set_option maxHeartbeats 4000000 in
set_option maxRecDepth 100000 in
theorem t_X9_whose_L110 {p : Program} {l : Launch} {e : Env} {s : State} {m : MethodId} {args : Array Value} {below : List Frame} {meth : Method} {c : Code} {D : va_G} {cs : Nat → ClassId} {A : Nat → Prop} {ad : pr_Ad} {g : Nat → Nat} {Q : Int32 → pr_Sg → Prop} (C : pr_C RX9 cX9_whose 6 (some .int) D cs p s m args meth c) (n : Nat) : ∀ {H : Heap} {locs : List Loc} {ls : Array Slot} {σ : pr_Sg} {x3 : Int32} {x4 : Int32} {x5 : Int32} (_ : wp_X9_whose_L110 g Q n σ x3 x4 x5) (_ : pr_R D cs A ad g σ H) (_ : va_S A s.heap H locs) (_ : lv_has ls 6 [(0, .ref (ad 9 0 0)), (3, .int x3), (4, .int x4), (5, .int x5)]), W p l e rm_X9_whose s m args below meth c H locs 0 0 (MQ below (va_Qi Q (pr_E D cs A ad g) A) args s 0 0 A) (F0 m 110 ls []) := by
  induction n with
  | zero =>
    intro H locs ls σ x3 x4 x5 h
    exact False.elim h
  | succ n ih =>
    intro H locs ls σ x3 x4 x5 h hR hS hl
    unfold wp_X9_whose_L110 at h
    obtain ⟨hx, hb, hml, hown, hts, hK, hr, hlocks⟩ := id C
    refine lv_iload hx hb dX9_whose_110 (lv_at hl 3 rfl) ?_
    refine lv_aload_n hx hb dX9_whose_112 rfl (lv_at hl 0 rfl) ?_
    refine gf_RX9_31 C hR pr_l9 dX9_whose_113 ?_
    refine lv_icmp_ge (tgt := 182) hx hb dX9_whose_116 (by decide) (fun c9 => ?_) (fun c9 => ?_)
    · have h := h.1 c9
      refine lv_iload hx hb dX9_whose_182 (lv_at hl 2 rfl) ?_
      exact pr_reti C h hR hS dX9_whose_184
    · have h := h.2 c9
      refine lv_iload hx hb dX9_whose_119 (lv_at hl 2 rfl) ?_
      refine lv_iconst (v := (-1 : Int32)) hx hb dX9_whose_121 (by decide) ?_
      refine lv_icmp_eq (tgt := 182) hx hb dX9_whose_122 (by decide) (fun c10 => ?_) (fun c10 => ?_)
      · have h := h.1 c10
        refine lv_iload hx hb dX9_whose_182 (lv_at hl 2 rfl) ?_
        exact pr_reti C h hR hS dX9_whose_184
      · have h := h.2 c10
        refine lv_iload hx hb dX9_whose_125 (lv_at hl 3 rfl) ?_
        refine lv_iload hx hb dX9_whose_127 (lv_at hl 2 rfl) ?_
        refine lv_icmp_eq (tgt := 176) hx hb dX9_whose_129 (by decide) (fun c11 => ?_) (fun c11 => ?_)
        · have h := h.1 c11
          refine lv_iinc (v := (x5 + (1 : Int32))) (lv' := [(5, .int (x5 + (1 : Int32))), (0, .ref (ad 9 0 0)), (3, .int x3), (4, .int x4)]) hx hb dX9_whose_176 hl (k := 3) rfl rfl (by decide) rfl (fun ls hl => ?_)
          refine lv_goto (tgt := 110) hx hb dX9_whose_179 (by decide) ?_
          exact ih h hR hS (lv_sub hl [1, 2, 3, 0] rfl)
        · have h := h.2 c11
          refine lv_aload_n hx hb dX9_whose_132 rfl (lv_at hl 0 rfl) ?_
          refine gf_RX9_28 C hR pr_l9 dX9_whose_133 ?_
          refine lv_iload hx hb dX9_whose_136 (lv_at hl 3 rfl) ?_
          refine pr_ald hx hb hK hR pr_l46 (by omega) (by omega) (n := 7) (by decide) h.1 dX9_whose_138 (t := 1046) rfl ?_
          have h := h.2
          refine lv_iconst (v := (-1 : Int32)) hx hb dX9_whose_139 (by decide) ?_
          refine lv_icmp_eq (tgt := 176) hx hb dX9_whose_140 (by decide) (fun c12 => ?_) (fun c12 => ?_)
          · have h := h.1 c12
            refine lv_iinc (v := (x5 + (1 : Int32))) (lv' := [(5, .int (x5 + (1 : Int32))), (0, .ref (ad 9 0 0)), (3, .int x3), (4, .int x4)]) hx hb dX9_whose_176 hl (k := 3) rfl rfl (by decide) rfl (fun ls hl => ?_)
            refine lv_goto (tgt := 110) hx hb dX9_whose_179 (by decide) ?_
            exact ih h hR hS (lv_sub hl [1, 2, 3, 0] rfl)
          · have h := h.2 c12
            refine lv_iload_n hx hb dX9_whose_143 rfl (lv_at hl 1 rfl) ?_
            refine lv_aload_n hx hb dX9_whose_144 rfl (lv_at hl 0 rfl) ?_
            refine gf_RX9_28 C hR pr_l9 dX9_whose_145 ?_
            refine lv_iload hx hb dX9_whose_148 (lv_at hl 3 rfl) ?_
            refine pr_ald hx hb hK hR pr_l46 (by omega) (by omega) (n := 7) (by decide) h.1 dX9_whose_150 (t := 1046) rfl ?_
            have h := h.2
            refine pr_calli hS (pr_runS (As := [.int x3, .int (σ 1046 0 (x5).toNatClampNeg)]) (rest := []) C hR (c_X9_squares h) gw_RX9_207 rfl rfl hs_X9_squares ⟨Nat.le_of_ble_eq_true rfl, Nat.le_of_ble_eq_true rfl⟩ rfl hl.1 rfl (Nat.le_of_ble_eq_true rfl) dX9_whose_151 ⟨Nat.zero_le _, Nat.zero_le _⟩) (fun r13 σ13 H locs h hR hS => ?_)
            refine lv_iload_n hx hb dX9_whose_154 rfl (lv_at hl 1 rfl) ?_
            refine lv_aload_n hx hb dX9_whose_155 rfl (lv_at hl 0 rfl) ?_
            refine gf_RX9_28 C hR pr_l9 dX9_whose_156 ?_
            refine lv_iload hx hb dX9_whose_159 (lv_at hl 2 rfl) ?_
            refine pr_ald hx hb hK hR pr_l46 (by omega) (by omega) (n := 7) (by decide) h.1 dX9_whose_161 (t := 1046) rfl ?_
            have h := h.2
            refine pr_calli hS (pr_runS (As := [.int x3, .int (σ13 1046 0 (x4).toNatClampNeg)]) (rest := [.int r13]) C hR (c_X9_squares h) gw_RX9_207 rfl rfl hs_X9_squares ⟨Nat.le_of_ble_eq_true rfl, Nat.le_of_ble_eq_true rfl⟩ rfl hl.1 rfl (Nat.le_of_ble_eq_true rfl) dX9_whose_162 ⟨Nat.zero_le _, Nat.zero_le _⟩) (fun r14 σ14 H locs h hR hS => ?_)
            refine lv_isub hx hb dX9_whose_165 ?_
            refine lv_aload_n hx hb dX9_whose_166 rfl (lv_at hl 0 rfl) ?_
            refine gf_RX9_98 C hR pr_l9 dX9_whose_167 ?_
            refine lv_icmp_ge (tgt := 176) hx hb dX9_whose_170 (by decide) (fun c15 => ?_) (fun c15 => ?_)
            · have h := h.1 c15
              refine lv_iinc (v := (x5 + (1 : Int32))) (lv' := [(5, .int (x5 + (1 : Int32))), (0, .ref (ad 9 0 0)), (3, .int x3), (4, .int x4)]) hx hb dX9_whose_176 hl (k := 3) rfl rfl (by decide) rfl (fun ls hl => ?_)
              refine lv_goto (tgt := 110) hx hb dX9_whose_179 (by decide) ?_
              exact ih h hR hS (lv_sub hl [1, 2, 3, 0] rfl)
            · have h := h.2 c15
              refine lv_bipush (v := (-2 : Int32)) hx hb dX9_whose_173 (by decide) ?_
              exact pr_reti C h hR hS dX9_whose_175
def wp_X9_whose_L46 (g : Nat → Nat) (Q : Int32 → pr_Sg → Prop) : Nat → pr_Sg → Int32 → Int32 → Int32 → Prop
  | 0, _, _, _, _ => False
  | n + 1, σ, x3, x4, x5 => (((σ 585 0 0) ≤ x5 → (∃ n : Nat, wp_X9_whose_L110 g Q n σ x3 x4 (0 : Int32))) ∧
  (¬ (σ 585 0 0) ≤ x5 → (vp_in x5 7 ∧ (((σ 1046 0 (x5).toNatClampNeg) = (-1 : Int32) → wp_X9_whose_L46 g Q n σ x3 x4 (x5 + (1 : Int32))) ∧
  (¬ (σ 1046 0 (x5).toNatClampNeg) = (-1 : Int32) → ((x4 = (-1 : Int32) → wp_X9_whose_L46 g Q n σ x3 x5 (x5 + (1 : Int32))) ∧
  (¬ x4 = (-1 : Int32) → (vp_in x5 7 ∧ (wp_X9_squares g σ x3 (σ 1046 0 (x5).toNatClampNeg) (fun r18 σ18 =>
  (vp_in x4 7 ∧ (wp_X9_squares g σ18 x3 (σ18 1046 0 (x4).toNatClampNeg) (fun r19 σ19 =>
  ((r19 ≤ r18 → wp_X9_whose_L46 g Q n σ19 x3 x4 (x5 + (1 : Int32))) ∧
  (¬ r19 ≤ r18 → wp_X9_whose_L46 g Q n σ19 x3 x5 (x5 + (1 : Int32)))))))))))))))))
set_option maxHeartbeats 4000000 in
set_option maxRecDepth 100000 in
theorem t_X9_whose_L46 {p : Program} {l : Launch} {e : Env} {s : State} {m : MethodId} {args : Array Value} {below : List Frame} {meth : Method} {c : Code} {D : va_G} {cs : Nat → ClassId} {A : Nat → Prop} {ad : pr_Ad} {g : Nat → Nat} {Q : Int32 → pr_Sg → Prop} (C : pr_C RX9 cX9_whose 6 (some .int) D cs p s m args meth c) (n : Nat) : ∀ {H : Heap} {locs : List Loc} {ls : Array Slot} {σ : pr_Sg} {x3 : Int32} {x4 : Int32} {x5 : Int32} (_ : wp_X9_whose_L46 g Q n σ x3 x4 x5) (_ : pr_R D cs A ad g σ H) (_ : va_S A s.heap H locs) (_ : lv_has ls 6 [(0, .ref (ad 9 0 0)), (3, .int x3), (4, .int x4), (5, .int x5)]), W p l e rm_X9_whose s m args below meth c H locs 0 0 (MQ below (va_Qi Q (pr_E D cs A ad g) A) args s 0 0 A) (F0 m 46 ls []) := by
  induction n with
  | zero =>
    intro H locs ls σ x3 x4 x5 h
    exact False.elim h
  | succ n ih =>
    intro H locs ls σ x3 x4 x5 h hR hS hl
    unfold wp_X9_whose_L46 at h
    obtain ⟨hx, hb, hml, hown, hts, hK, hr, hlocks⟩ := id C
    refine lv_iload hx hb dX9_whose_46 (lv_at hl 3 rfl) ?_
    refine lv_aload_n hx hb dX9_whose_48 rfl (lv_at hl 0 rfl) ?_
    refine gf_RX9_31 C hR pr_l9 dX9_whose_49 ?_
    refine lv_icmp_ge (tgt := 107) hx hb dX9_whose_52 (by decide) (fun c8 => ?_) (fun c8 => ?_)
    · have h := h.1 c8
      refine lv_iconst (v := (0 : Int32)) hx hb dX9_whose_107 (by decide) ?_
      refine lv_istore (lv' := [(5, .int (0 : Int32)), (0, .ref (ad 9 0 0)), (3, .int x3), (4, .int x4)]) hx hb dX9_whose_108 hl (by decide) rfl (fun ls hl => ?_)
      obtain ⟨n1, h⟩ := h
      exact t_X9_whose_L110 C n1 h hR hS (lv_sub hl [1, 2, 3, 0] rfl)
    · have h := h.2 c8
      refine lv_aload_n hx hb dX9_whose_55 rfl (lv_at hl 0 rfl) ?_
      refine gf_RX9_28 C hR pr_l9 dX9_whose_56 ?_
      refine lv_iload hx hb dX9_whose_59 (lv_at hl 3 rfl) ?_
      refine pr_ald hx hb hK hR pr_l46 (by omega) (by omega) (n := 7) (by decide) h.1 dX9_whose_61 (t := 1046) rfl ?_
      have h := h.2
      refine lv_iconst (v := (-1 : Int32)) hx hb dX9_whose_62 (by decide) ?_
      refine lv_icmp_eq (tgt := 101) hx hb dX9_whose_63 (by decide) (fun c16 => ?_) (fun c16 => ?_)
      · have h := h.1 c16
        refine lv_iinc (v := (x5 + (1 : Int32))) (lv' := [(5, .int (x5 + (1 : Int32))), (0, .ref (ad 9 0 0)), (3, .int x3), (4, .int x4)]) hx hb dX9_whose_101 hl (k := 3) rfl rfl (by decide) rfl (fun ls hl => ?_)
        refine lv_goto (tgt := 46) hx hb dX9_whose_104 (by decide) ?_
        exact ih h hR hS (lv_sub hl [1, 2, 3, 0] rfl)
      · have h := h.2 c16
        refine lv_iload hx hb dX9_whose_66 (lv_at hl 2 rfl) ?_
        refine lv_iconst (v := (-1 : Int32)) hx hb dX9_whose_68 (by decide) ?_
        refine lv_icmp_eq (tgt := 97) hx hb dX9_whose_69 (by decide) (fun c17 => ?_) (fun c17 => ?_)
        · have h := h.1 c17
          refine lv_iload hx hb dX9_whose_97 (lv_at hl 3 rfl) ?_
          refine lv_istore (lv' := [(4, .int x5), (0, .ref (ad 9 0 0)), (3, .int x3), (5, .int x5)]) hx hb dX9_whose_99 hl (by decide) rfl (fun ls hl => ?_)
          refine lv_iinc (v := (x5 + (1 : Int32))) (lv' := [(5, .int (x5 + (1 : Int32))), (4, .int x5), (0, .ref (ad 9 0 0)), (3, .int x3)]) hx hb dX9_whose_101 hl (k := 3) rfl rfl (by decide) rfl (fun ls hl => ?_)
          refine lv_goto (tgt := 46) hx hb dX9_whose_104 (by decide) ?_
          exact ih h hR hS (lv_sub hl [2, 3, 1, 0] rfl)
        · have h := h.2 c17
          refine lv_iload_n hx hb dX9_whose_72 rfl (lv_at hl 1 rfl) ?_
          refine lv_aload_n hx hb dX9_whose_73 rfl (lv_at hl 0 rfl) ?_
          refine gf_RX9_28 C hR pr_l9 dX9_whose_74 ?_
          refine lv_iload hx hb dX9_whose_77 (lv_at hl 3 rfl) ?_
          refine pr_ald hx hb hK hR pr_l46 (by omega) (by omega) (n := 7) (by decide) h.1 dX9_whose_79 (t := 1046) rfl ?_
          have h := h.2
          refine pr_calli hS (pr_runS (As := [.int x3, .int (σ 1046 0 (x5).toNatClampNeg)]) (rest := []) C hR (c_X9_squares h) gw_RX9_207 rfl rfl hs_X9_squares ⟨Nat.le_of_ble_eq_true rfl, Nat.le_of_ble_eq_true rfl⟩ rfl hl.1 rfl (Nat.le_of_ble_eq_true rfl) dX9_whose_80 ⟨Nat.zero_le _, Nat.zero_le _⟩) (fun r18 σ18 H locs h hR hS => ?_)
          refine lv_iload_n hx hb dX9_whose_83 rfl (lv_at hl 1 rfl) ?_
          refine lv_aload_n hx hb dX9_whose_84 rfl (lv_at hl 0 rfl) ?_
          refine gf_RX9_28 C hR pr_l9 dX9_whose_85 ?_
          refine lv_iload hx hb dX9_whose_88 (lv_at hl 2 rfl) ?_
          refine pr_ald hx hb hK hR pr_l46 (by omega) (by omega) (n := 7) (by decide) h.1 dX9_whose_90 (t := 1046) rfl ?_
          have h := h.2
          refine pr_calli hS (pr_runS (As := [.int x3, .int (σ18 1046 0 (x4).toNatClampNeg)]) (rest := [.int r18]) C hR (c_X9_squares h) gw_RX9_207 rfl rfl hs_X9_squares ⟨Nat.le_of_ble_eq_true rfl, Nat.le_of_ble_eq_true rfl⟩ rfl hl.1 rfl (Nat.le_of_ble_eq_true rfl) dX9_whose_91 ⟨Nat.zero_le _, Nat.zero_le _⟩) (fun r19 σ19 H locs h hR hS => ?_)
          refine lv_icmp_ge (tgt := 101) hx hb dX9_whose_94 (by decide) (fun c20 => ?_) (fun c20 => ?_)
          · have h := h.1 c20
            refine lv_iinc (v := (x5 + (1 : Int32))) (lv' := [(5, .int (x5 + (1 : Int32))), (0, .ref (ad 9 0 0)), (3, .int x3), (4, .int x4)]) hx hb dX9_whose_101 hl (k := 3) rfl rfl (by decide) rfl (fun ls hl => ?_)
            refine lv_goto (tgt := 46) hx hb dX9_whose_104 (by decide) ?_
            exact ih h hR hS (lv_sub hl [1, 2, 3, 0] rfl)
          · have h := h.2 c20
            refine lv_iload hx hb dX9_whose_97 (lv_at hl 3 rfl) ?_
            refine lv_istore (lv' := [(4, .int x5), (0, .ref (ad 9 0 0)), (3, .int x3), (5, .int x5)]) hx hb dX9_whose_99 hl (by decide) rfl (fun ls hl => ?_)
            refine lv_iinc (v := (x5 + (1 : Int32))) (lv' := [(5, .int (x5 + (1 : Int32))), (4, .int x5), (0, .ref (ad 9 0 0)), (3, .int x3)]) hx hb dX9_whose_101 hl (k := 3) rfl rfl (by decide) rfl (fun ls hl => ?_)
            refine lv_goto (tgt := 46) hx hb dX9_whose_104 (by decide) ?_
            exact ih h hR hS (lv_sub hl [2, 3, 1, 0] rfl)
def wpb_X9_whose (g : Nat → Nat) (σ : pr_Sg) (a1 : Int32) (a2 : Int32) (Q : Int32 → pr_Sg → Prop) : Prop :=
  (wp_X9_isPicture g σ a1 (fun r1 σ1 =>
  ((r1 = 0 → Q (-1 : Int32) σ1) ∧
  (¬ r1 = 0 → (wp_X9_in g σ1 a2 (0 : Int32) (4 : Int32) (fun r3 σ3 =>
  ((r3 = 0 → Q (-1 : Int32) σ3) ∧
  (¬ r3 = 0 → (vp_in a1 40 ∧ (vp_in a2 5 ∧ ((¬ (σ3 1068 (a1).toNatClampNeg (a2).toNatClampNeg) = (-1 : Int32) → (vp_in a1 40 ∧ (vp_in a2 5 ∧ (∃ n : Nat, wp_X9_whose_L46 g Q n σ3 (σ3 1068 (a1).toNatClampNeg (a2).toNatClampNeg) (-1 : Int32) (0 : Int32))))) ∧
  ((σ3 1068 (a1).toNatClampNeg (a2).toNatClampNeg) = (-1 : Int32) → Q (-1 : Int32) σ3))))))))))))
set_option maxHeartbeats 4000000 in
set_option maxRecDepth 100000 in
theorem t_X9_whose {p : Program} {l : Launch} {e : Env} {s : State} {m : MethodId} {args : Array Value} {below : List Frame} {meth : Method} {c : Code} {D : va_G} {cs : Nat → ClassId} {A : Nat → Prop} {ad : pr_Ad} {g : Nat → Nat} {Q : Int32 → pr_Sg → Prop} (C : pr_C RX9 cX9_whose 6 (some .int) D cs p s m args meth c) {H : Heap} {locs : List Loc} {ls : Array Slot} {σ : pr_Sg} {a1 : Int32} {a2 : Int32} (h : wpb_X9_whose g σ a1 a2 Q) (hR : pr_R D cs A ad g σ H) (hS : va_S A s.heap H locs) (hl : lv_has ls 6 [(0, .ref (ad 9 0 0)), (1, .int a1), (2, .int a2)]) : W p l e rm_X9_whose s m args below meth c H locs 0 0 (MQ below (va_Qi Q (pr_E D cs A ad g) A) args s 0 0 A) (F0 m 0 ls []) := by
  unfold wpb_X9_whose at h
  obtain ⟨hx, hb, hml, hown, hts, hK, hr, hlocks⟩ := id C
  refine lv_aload_n hx hb dX9_whose_0 rfl (lv_at hl 0 rfl) ?_
  refine lv_iload_n hx hb dX9_whose_1 rfl (lv_at hl 1 rfl) ?_
  refine pr_calli hS (pr_runV (As := [.int a1]) (rest := []) C hR pr_l9 (by omega) rfl (c_X9_isPicture h) gw_RX9_157 rfl rfl hd_X9_isPicture ⟨Nat.le_of_ble_eq_true rfl, Nat.le_of_ble_eq_true rfl⟩ rfl hl.1 rfl (Nat.le_of_ble_eq_true rfl) dX9_whose_2 ⟨Nat.zero_le _, Nat.zero_le _⟩) (fun r1 σ1 H locs h hR hS => ?_)
  obtain ⟨hz1, h⟩ := h
  refine lv_if_eq (tgt := 29) hx hb dX9_whose_5 (by decide) (fun c2 => ?_) (fun c2 => ?_)
  · have h := h.1 c2
    refine lv_iconst (v := (-1 : Int32)) hx hb dX9_whose_29 (by decide) ?_
    exact pr_reti C h hR hS dX9_whose_30
  · have h := h.2 c2
    refine lv_iload_n hx hb dX9_whose_8 rfl (lv_at hl 2 rfl) ?_
    refine lv_iconst (v := (0 : Int32)) hx hb dX9_whose_9 (by decide) ?_
    refine lv_iconst (v := (4 : Int32)) hx hb dX9_whose_10 (by decide) ?_
    refine pr_calli hS (pr_runS (As := [.int a2, .int (0 : Int32), .int (4 : Int32)]) (rest := []) C hR (c_X9_in h) gw_RX9_113 rfl rfl hs_X9_in ⟨Nat.le_of_ble_eq_true rfl, Nat.le_of_ble_eq_true rfl⟩ rfl hl.1 rfl (Nat.le_of_ble_eq_true rfl) dX9_whose_11 ⟨Nat.zero_le _, Nat.zero_le _⟩) (fun r3 σ3 H locs h hR hS => ?_)
    obtain ⟨hz3, h⟩ := h
    refine lv_if_eq (tgt := 29) hx hb dX9_whose_14 (by decide) (fun c4 => ?_) (fun c4 => ?_)
    · have h := h.1 c4
      refine lv_iconst (v := (-1 : Int32)) hx hb dX9_whose_29 (by decide) ?_
      exact pr_reti C h hR hS dX9_whose_30
    · have h := h.2 c4
      refine lv_aload_n hx hb dX9_whose_17 rfl (lv_at hl 0 rfl) ?_
      refine gf_RX9_76 C hR pr_l9 dX9_whose_18 ?_
      refine lv_iload_n hx hb dX9_whose_21 rfl (lv_at hl 1 rfl) ?_
      refine pr_ldg hx hb hK hR 88 (by omega) (kd := 68) rfl h.1 dX9_whose_22 (fun hv5 => ?_)
      have h := h.2
      refine lv_iload_n hx hb dX9_whose_23 rfl (lv_at hl 2 rfl) ?_
      refine pr_ald hx hb hK hR hv5 (by omega) (by omega) (n := 5) (by decide) h.1 dX9_whose_24 (t := 1068) rfl ?_
      have h := h.2
      refine lv_iconst (v := (-1 : Int32)) hx hb dX9_whose_25 (by decide) ?_
      refine lv_icmp_ne (tgt := 31) hx hb dX9_whose_26 (by decide) (fun c6 => ?_) (fun c6 => ?_)
      · have h := h.1 c6
        refine lv_aload_n hx hb dX9_whose_31 rfl (lv_at hl 0 rfl) ?_
        refine gf_RX9_76 C hR pr_l9 dX9_whose_32 ?_
        refine lv_iload_n hx hb dX9_whose_35 rfl (lv_at hl 1 rfl) ?_
        refine pr_ldg hx hb hK hR 88 (by omega) (kd := 68) rfl h.1 dX9_whose_36 (fun hv7 => ?_)
        have h := h.2
        refine lv_iload_n hx hb dX9_whose_37 rfl (lv_at hl 2 rfl) ?_
        refine pr_ald hx hb hK hR hv7 (by omega) (by omega) (n := 5) (by decide) h.1 dX9_whose_38 (t := 1068) rfl ?_
        have h := h.2
        refine lv_istore_n (lv' := [(3, .int (σ3 1068 (a1).toNatClampNeg (a2).toNatClampNeg)), (0, .ref (ad 9 0 0)), (1, .int a1), (2, .int a2)]) hx hb dX9_whose_39 rfl hl (by decide) rfl (fun ls hl => ?_)
        refine lv_iconst (v := (-1 : Int32)) hx hb dX9_whose_40 (by decide) ?_
        refine lv_istore (lv' := [(4, .int (-1 : Int32)), (3, .int (σ3 1068 (a1).toNatClampNeg (a2).toNatClampNeg)), (0, .ref (ad 9 0 0)), (1, .int a1), (2, .int a2)]) hx hb dX9_whose_41 hl (by decide) rfl (fun ls hl => ?_)
        refine lv_iconst (v := (0 : Int32)) hx hb dX9_whose_43 (by decide) ?_
        refine lv_istore (lv' := [(5, .int (0 : Int32)), (4, .int (-1 : Int32)), (3, .int (σ3 1068 (a1).toNatClampNeg (a2).toNatClampNeg)), (0, .ref (ad 9 0 0)), (1, .int a1), (2, .int a2)]) hx hb dX9_whose_44 hl (by decide) rfl (fun ls hl => ?_)
        obtain ⟨n1, h⟩ := h
        exact t_X9_whose_L46 C n1 h hR hS (lv_sub hl [3, 2, 1, 0] rfl)
      · have h := h.2 c6
        refine lv_iconst (v := (-1 : Int32)) hx hb dX9_whose_29 (by decide) ?_
        exact pr_reti C h hR hS dX9_whose_30
abbrev wp_X9_whose (g : Nat → Nat) (σ : pr_Sg) (a1 : Int32) (a2 : Int32) (Q : Int32 → pr_Sg → Prop) : Prop := wpb_X9_whose g σ a1 a2 Q
set_option maxHeartbeats 4000000 in
set_option maxRecDepth 100000 in
theorem c_X9_whose {l : Launch} {D : va_G} {cs : Nat → ClassId} {A : Nat → Prop} {ad : pr_Ad} {g : Nat → Nat} {σ : pr_Sg} {a1 : Int32} {a2 : Int32} {Q : Int32 → pr_Sg → Prop} (h : wp_X9_whose g σ a1 a2 Q) : pr_Mi l D cs A ad g yX9_whose cX9_whose 6 (some .int) rm_X9_whose [.ref (ad 9 0 0), .int a1, .int a2] σ Q := by
  refine Met.ofW (cc := cX9_whose) (maxL := 6) (ret := (some .int)) (by decide) rfl ?_
  intro p e s m args below meth c s₁ B hml hv
  obtain ⟨rfl, hR, hK⟩ := hv
  have C : pr_C RX9 cX9_whose 6 (some .int) D cs p s m [.ref (ad 9 0 0), .int a1, .int a2].toArray meth c := pr_C.of B hml hK
  have hS : va_S A s.heap s.heap [] := va_S.rf
  have hl := lv_entry ([.ref (ad 9 0 0), .int a1, .int a2]) (n := 6) (Nat.le_of_ble_eq_true rfl)
  rw [lg_entry_eq]
  generalize (lg_sl ([.ref (ad 9 0 0), .int a1, .int a2]) ++ List.replicate (6 - (lg_sl ([.ref (ad 9 0 0), .int a1, .int a2])).length) Slot.unset).toArray = ls at hl ⊢
  have hl : lv_has ls 6 [(0, .ref (ad 9 0 0)), (1, .int a1), (2, .int a2)] := hl
  exact t_X9_whose C h hR hS hl
def rm_X9_told : Room := { frames := 2, cells := 0, slots := 0, locals := 43 }
theorem hd_X9_told : yX9_told.cls = RX9 ∧ yX9_told.cls ≠ "java/lang/invoke/MethodHandle" ∧ yX9_told.cls ≠ "java/lang/invoke/VarHandle" ∧ (parseMethodDescriptor yX9_told.desc).map (fun d => d.parameters.length) = some 2 := ⟨rfl, by decide, by decide, by decide +kernel⟩
def wp_X9_told_L92 (g : Nat → Nat) (Q : Int32 → pr_Sg → Prop) : Nat → pr_Sg → Int32 → Int32 → Int32 → Int32 → Prop
  | 0, _, _, _, _, _ => False
  | n + 1, σ, x1, x2, x3, x4 => (((σ 608 0 0) ≤ x4 → Q x3 σ) ∧
  (¬ (σ 608 0 0) ≤ x4 → (vp_in x4 200 ∧ ((¬ (σ 1058 0 (x4).toNatClampNeg) = x1 → wp_X9_told_L92 g Q n σ x1 x2 (x3 + (0 : Int32)) (x4 + (1 : Int32))) ∧
  ((σ 1058 0 (x4).toNatClampNeg) = x1 → ((x2 = (4 : Int32) → wp_X9_told_L92 g Q n σ x1 x2 (x3 + (1 : Int32)) (x4 + (1 : Int32))) ∧
  (¬ x2 = (4 : Int32) → (vp_in x4 200 ∧ (((σ 1071 0 (x4).toNatClampNeg) = 0 → wp_X9_told_L92 g Q n σ x1 x2 (x3 + (0 : Int32)) (x4 + (1 : Int32))) ∧
  (¬ (σ 1071 0 (x4).toNatClampNeg) = 0 → wp_X9_told_L92 g Q n σ x1 x2 (x3 + (1 : Int32)) (x4 + (1 : Int32))))))))))))
set_option maxHeartbeats 4000000 in
set_option maxRecDepth 100000 in
theorem t_X9_told_L92 {p : Program} {l : Launch} {e : Env} {s : State} {m : MethodId} {args : Array Value} {below : List Frame} {meth : Method} {c : Code} {D : va_G} {cs : Nat → ClassId} {A : Nat → Prop} {ad : pr_Ad} {g : Nat → Nat} {Q : Int32 → pr_Sg → Prop} (C : pr_C RX9 cX9_told 5 (some .int) D cs p s m args meth c) (n : Nat) : ∀ {H : Heap} {locs : List Loc} {ls : Array Slot} {σ : pr_Sg} {x1 : Int32} {x2 : Int32} {x3 : Int32} {x4 : Int32} (_ : wp_X9_told_L92 g Q n σ x1 x2 x3 x4) (_ : pr_R D cs A ad g σ H) (_ : va_S A s.heap H locs) (_ : lv_has ls 5 [(0, .ref (ad 9 0 0)), (1, .int x1), (2, .int x2), (3, .int x3), (4, .int x4)]), W p l e rm_X9_told s m args below meth c H locs 0 0 (MQ below (va_Qi Q (pr_E D cs A ad g) A) args s 0 0 A) (F0 m 92 ls []) := by
  induction n with
  | zero =>
    intro H locs ls σ x1 x2 x3 x4 h
    exact False.elim h
  | succ n ih =>
    intro H locs ls σ x1 x2 x3 x4 h hR hS hl
    unfold wp_X9_told_L92 at h
    obtain ⟨hx, hb, hml, hown, hts, hK, hr, hlocks⟩ := id C
    refine lv_iload hx hb dX9_told_92 (lv_at hl 4 rfl) ?_
    refine lv_aload_n hx hb dX9_told_94 rfl (lv_at hl 0 rfl) ?_
    refine gf_RX9_150 C hR pr_l9 dX9_told_95 ?_
    refine lv_icmp_ge (tgt := 141) hx hb dX9_told_98 (by decide) (fun c5 => ?_) (fun c5 => ?_)
    · have h := h.1 c5
      refine lv_iload_n hx hb dX9_told_141 rfl (lv_at hl 3 rfl) ?_
      exact pr_reti C h hR hS dX9_told_142
    · have h := h.2 c5
      refine lv_iload_n hx hb dX9_told_101 rfl (lv_at hl 3 rfl) ?_
      refine lv_aload_n hx hb dX9_told_102 rfl (lv_at hl 0 rfl) ?_
      refine gf_RX9_85 C hR pr_l9 dX9_told_103 ?_
      refine lv_iload hx hb dX9_told_106 (lv_at hl 4 rfl) ?_
      refine pr_ald hx hb hK hR pr_l58 (by omega) (by omega) (n := 200) (by decide) h.1 dX9_told_108 (t := 1058) rfl ?_
      have h := h.2
      refine lv_iload_n hx hb dX9_told_109 rfl (lv_at hl 1 rfl) ?_
      refine lv_icmp_ne (tgt := 132) hx hb dX9_told_110 (by decide) (fun c6 => ?_) (fun c6 => ?_)
      · have h := h.1 c6
        refine lv_iconst (v := (0 : Int32)) hx hb dX9_told_132 (by decide) ?_
        refine lv_iadd hx hb dX9_told_133 ?_
        refine lv_istore_n (lv' := [(3, .int (x3 + (0 : Int32))), (0, .ref (ad 9 0 0)), (1, .int x1), (2, .int x2), (4, .int x4)]) hx hb dX9_told_134 rfl hl (by decide) rfl (fun ls hl => ?_)
        refine lv_iinc (v := (x4 + (1 : Int32))) (lv' := [(4, .int (x4 + (1 : Int32))), (3, .int (x3 + (0 : Int32))), (0, .ref (ad 9 0 0)), (1, .int x1), (2, .int x2)]) hx hb dX9_told_135 hl (k := 4) rfl rfl (by decide) rfl (fun ls hl => ?_)
        refine lv_goto (tgt := 92) hx hb dX9_told_138 (by decide) ?_
        exact ih h hR hS (lv_sub hl [2, 3, 4, 1, 0] rfl)
      · have h := h.2 c6
        refine lv_iload_n hx hb dX9_told_113 rfl (lv_at hl 2 rfl) ?_
        refine lv_iconst (v := (4 : Int32)) hx hb dX9_told_114 (by decide) ?_
        refine lv_icmp_eq (tgt := 128) hx hb dX9_told_115 (by decide) (fun c7 => ?_) (fun c7 => ?_)
        · have h := h.1 c7
          refine lv_iconst (v := (1 : Int32)) hx hb dX9_told_128 (by decide) ?_
          refine lv_goto (tgt := 133) hx hb dX9_told_129 (by decide) ?_
          refine lv_iadd hx hb dX9_told_133 ?_
          refine lv_istore_n (lv' := [(3, .int (x3 + (1 : Int32))), (0, .ref (ad 9 0 0)), (1, .int x1), (2, .int x2), (4, .int x4)]) hx hb dX9_told_134 rfl hl (by decide) rfl (fun ls hl => ?_)
          refine lv_iinc (v := (x4 + (1 : Int32))) (lv' := [(4, .int (x4 + (1 : Int32))), (3, .int (x3 + (1 : Int32))), (0, .ref (ad 9 0 0)), (1, .int x1), (2, .int x2)]) hx hb dX9_told_135 hl (k := 4) rfl rfl (by decide) rfl (fun ls hl => ?_)
          refine lv_goto (tgt := 92) hx hb dX9_told_138 (by decide) ?_
          exact ih h hR hS (lv_sub hl [2, 3, 4, 1, 0] rfl)
        · have h := h.2 c7
          refine lv_aload_n hx hb dX9_told_118 rfl (lv_at hl 0 rfl) ?_
          refine gf_RX9_94 C hR pr_l9 dX9_told_119 ?_
          refine lv_iload hx hb dX9_told_122 (lv_at hl 4 rfl) ?_
          refine pr_zld hx hb hK hR pr_l71 (by omega) (by omega) (n := 200) (by decide) h.1 dX9_told_124 (t := 1071) rfl ?_
          have h := h.2
          refine lv_if_eq (tgt := 132) hx hb dX9_told_125 (by decide) (fun c8 => ?_) (fun c8 => ?_)
          · have h := h.1 c8
            refine lv_iconst (v := (0 : Int32)) hx hb dX9_told_132 (by decide) ?_
            refine lv_iadd hx hb dX9_told_133 ?_
            refine lv_istore_n (lv' := [(3, .int (x3 + (0 : Int32))), (0, .ref (ad 9 0 0)), (1, .int x1), (2, .int x2), (4, .int x4)]) hx hb dX9_told_134 rfl hl (by decide) rfl (fun ls hl => ?_)
            refine lv_iinc (v := (x4 + (1 : Int32))) (lv' := [(4, .int (x4 + (1 : Int32))), (3, .int (x3 + (0 : Int32))), (0, .ref (ad 9 0 0)), (1, .int x1), (2, .int x2)]) hx hb dX9_told_135 hl (k := 4) rfl rfl (by decide) rfl (fun ls hl => ?_)
            refine lv_goto (tgt := 92) hx hb dX9_told_138 (by decide) ?_
            exact ih h hR hS (lv_sub hl [2, 3, 4, 1, 0] rfl)
          · have h := h.2 c8
            refine lv_iconst (v := (1 : Int32)) hx hb dX9_told_128 (by decide) ?_
            refine lv_goto (tgt := 133) hx hb dX9_told_129 (by decide) ?_
            refine lv_iadd hx hb dX9_told_133 ?_
            refine lv_istore_n (lv' := [(3, .int (x3 + (1 : Int32))), (0, .ref (ad 9 0 0)), (1, .int x1), (2, .int x2), (4, .int x4)]) hx hb dX9_told_134 rfl hl (by decide) rfl (fun ls hl => ?_)
            refine lv_iinc (v := (x4 + (1 : Int32))) (lv' := [(4, .int (x4 + (1 : Int32))), (3, .int (x3 + (1 : Int32))), (0, .ref (ad 9 0 0)), (1, .int x1), (2, .int x2)]) hx hb dX9_told_135 hl (k := 4) rfl rfl (by decide) rfl (fun ls hl => ?_)
            refine lv_goto (tgt := 92) hx hb dX9_told_138 (by decide) ?_
            exact ih h hR hS (lv_sub hl [2, 3, 4, 1, 0] rfl)
def wpb_X9_told (g : Nat → Nat) (σ : pr_Sg) (a1 : Int32) (a2 : Int32) (Q : Int32 → pr_Sg → Prop) : Prop :=
  (wp_X9_isPicture g σ a1 (fun r1 σ1 =>
  ((¬ r1 = 0 → ((a2 = (0 : Int32) → (vp_in a1 40 ∧ ((¬ (σ1 1053 0 (a1).toNatClampNeg) = (-1 : Int32) → Q (1 : Int32) σ1) ∧
  ((σ1 1053 0 (a1).toNatClampNeg) = (-1 : Int32) → Q (0 : Int32) σ1)))) ∧
  (a2 = (1 : Int32) → (vp_in a1 40 ∧ Q (σ1 1051 0 (a1).toNatClampNeg) σ1)) ∧
  (a2 = (2 : Int32) → (vp_in a1 40 ∧ Q (σ1 1052 0 (a1).toNatClampNeg) σ1)) ∧
  (a2 = (3 : Int32) → (vp_in a1 40 ∧ Q (σ1 1053 0 (a1).toNatClampNeg) σ1)) ∧
  (a2 = (4 : Int32) → (∃ n : Nat, wp_X9_told_L92 g Q n σ1 a1 a2 (0 : Int32) (0 : Int32))) ∧
  (a2 = (5 : Int32) → (∃ n : Nat, wp_X9_told_L92 g Q n σ1 a1 a2 (0 : Int32) (0 : Int32))) ∧
  (¬ a2 = (0 : Int32) → ¬ a2 = (1 : Int32) → ¬ a2 = (2 : Int32) → ¬ a2 = (3 : Int32) → ¬ a2 = (4 : Int32) → ¬ a2 = (5 : Int32) → Q (-1 : Int32) σ1))) ∧
  (r1 = 0 → Q (-1 : Int32) σ1))))
set_option maxHeartbeats 4000000 in
set_option maxRecDepth 100000 in
theorem t_X9_told {p : Program} {l : Launch} {e : Env} {s : State} {m : MethodId} {args : Array Value} {below : List Frame} {meth : Method} {c : Code} {D : va_G} {cs : Nat → ClassId} {A : Nat → Prop} {ad : pr_Ad} {g : Nat → Nat} {Q : Int32 → pr_Sg → Prop} (C : pr_C RX9 cX9_told 5 (some .int) D cs p s m args meth c) {H : Heap} {locs : List Loc} {ls : Array Slot} {σ : pr_Sg} {a1 : Int32} {a2 : Int32} (h : wpb_X9_told g σ a1 a2 Q) (hR : pr_R D cs A ad g σ H) (hS : va_S A s.heap H locs) (hl : lv_has ls 5 [(0, .ref (ad 9 0 0)), (1, .int a1), (2, .int a2)]) : W p l e rm_X9_told s m args below meth c H locs 0 0 (MQ below (va_Qi Q (pr_E D cs A ad g) A) args s 0 0 A) (F0 m 0 ls []) := by
  unfold wpb_X9_told at h
  obtain ⟨hx, hb, hml, hown, hts, hK, hr, hlocks⟩ := id C
  refine lv_aload_n hx hb dX9_told_0 rfl (lv_at hl 0 rfl) ?_
  refine lv_iload_n hx hb dX9_told_1 rfl (lv_at hl 1 rfl) ?_
  refine pr_calli hS (pr_runV (As := [.int a1]) (rest := []) C hR pr_l9 (by omega) rfl (c_X9_isPicture h) gw_RX9_157 rfl rfl hd_X9_isPicture ⟨Nat.le_of_ble_eq_true rfl, Nat.le_of_ble_eq_true rfl⟩ rfl hl.1 rfl (Nat.le_of_ble_eq_true rfl) dX9_told_2 ⟨Nat.zero_le _, Nat.zero_le _⟩) (fun r1 σ1 H locs h hR hS => ?_)
  obtain ⟨hz1, h⟩ := h
  refine lv_if_ne (tgt := 10) hx hb dX9_told_5 (by decide) (fun c2 => ?_) (fun c2 => ?_)
  · have h := h.1 c2
    refine lv_iconst (v := (0 : Int32)) hx hb dX9_told_10 (by decide) ?_
    refine lv_istore_n (lv' := [(3, .int (0 : Int32)), (0, .ref (ad 9 0 0)), (1, .int a1), (2, .int a2)]) hx hb dX9_told_11 rfl hl (by decide) rfl (fun ls hl => ?_)
    refine lv_iload_n hx hb dX9_told_12 rfl (lv_at hl 3 rfl) ?_
    by_cases c3_0 : a2 = (0 : Int32)
    · have h := h.1 c3_0
      refine lv_tableIn (tgt := 52) hx hb dX9_told_13 (by rw [c3_0]; decide) (by rw [c3_0]; decide) (off := 39) (by rw [c3_0]; rfl) (by decide) ?_
      refine lv_aload_n hx hb dX9_told_52 rfl (lv_at hl 1 rfl) ?_
      refine gf_RX9_53 C hR pr_l9 dX9_told_53 ?_
      refine lv_iload_n hx hb dX9_told_56 rfl (lv_at hl 2 rfl) ?_
      refine pr_ald hx hb hK hR pr_l53 (by omega) (by omega) (n := 40) (by decide) h.1 dX9_told_57 (t := 1053) rfl ?_
      have h := h.2
      refine lv_iconst (v := (-1 : Int32)) hx hb dX9_told_58 (by decide) ?_
      refine lv_icmp_ne (tgt := 66) hx hb dX9_told_59 (by decide) (fun c4 => ?_) (fun c4 => ?_)
      · have h := h.1 c4
        refine lv_iconst (v := (1 : Int32)) hx hb dX9_told_66 (by decide) ?_
        exact pr_reti C h hR hS dX9_told_67
      · have h := h.2 c4
        refine lv_iconst (v := (0 : Int32)) hx hb dX9_told_62 (by decide) ?_
        refine lv_goto (tgt := 67) hx hb dX9_told_63 (by decide) ?_
        exact pr_reti C h hR hS dX9_told_67
    · by_cases c3_1 : a2 = (1 : Int32)
      · have h := h.2.1 c3_1
        refine lv_tableIn (tgt := 68) hx hb dX9_told_13 (by rw [c3_1]; decide) (by rw [c3_1]; decide) (off := 55) (by rw [c3_1]; rfl) (by decide) ?_
        refine lv_aload_n hx hb dX9_told_68 rfl (lv_at hl 1 rfl) ?_
        refine gf_RX9_47 C hR pr_l9 dX9_told_69 ?_
        refine lv_iload_n hx hb dX9_told_72 rfl (lv_at hl 2 rfl) ?_
        refine pr_ald hx hb hK hR pr_l51 (by omega) (by omega) (n := 40) (by decide) h.1 dX9_told_73 (t := 1051) rfl ?_
        have h := h.2
        exact pr_reti C h hR hS dX9_told_74
      · by_cases c3_2 : a2 = (2 : Int32)
        · have h := h.2.2.1 c3_2
          refine lv_tableIn (tgt := 75) hx hb dX9_told_13 (by rw [c3_2]; decide) (by rw [c3_2]; decide) (off := 62) (by rw [c3_2]; rfl) (by decide) ?_
          refine lv_aload_n hx hb dX9_told_75 rfl (lv_at hl 1 rfl) ?_
          refine gf_RX9_50 C hR pr_l9 dX9_told_76 ?_
          refine lv_iload_n hx hb dX9_told_79 rfl (lv_at hl 2 rfl) ?_
          refine pr_ald hx hb hK hR pr_l52 (by omega) (by omega) (n := 40) (by decide) h.1 dX9_told_80 (t := 1052) rfl ?_
          have h := h.2
          exact pr_reti C h hR hS dX9_told_81
        · by_cases c3_3 : a2 = (3 : Int32)
          · have h := h.2.2.2.1 c3_3
            refine lv_tableIn (tgt := 82) hx hb dX9_told_13 (by rw [c3_3]; decide) (by rw [c3_3]; decide) (off := 69) (by rw [c3_3]; rfl) (by decide) ?_
            refine lv_aload_n hx hb dX9_told_82 rfl (lv_at hl 1 rfl) ?_
            refine gf_RX9_53 C hR pr_l9 dX9_told_83 ?_
            refine lv_iload_n hx hb dX9_told_86 rfl (lv_at hl 2 rfl) ?_
            refine pr_ald hx hb hK hR pr_l53 (by omega) (by omega) (n := 40) (by decide) h.1 dX9_told_87 (t := 1053) rfl ?_
            have h := h.2
            exact pr_reti C h hR hS dX9_told_88
          · by_cases c3_4 : a2 = (4 : Int32)
            · have h := h.2.2.2.2.1 c3_4
              refine lv_tableIn (tgt := 89) hx hb dX9_told_13 (by rw [c3_4]; decide) (by rw [c3_4]; decide) (off := 76) (by rw [c3_4]; rfl) (by decide) ?_
              refine lv_iconst (v := (0 : Int32)) hx hb dX9_told_89 (by decide) ?_
              refine lv_istore (lv' := [(4, .int (0 : Int32)), (3, .int (0 : Int32)), (0, .ref (ad 9 0 0)), (1, .int a1), (2, .int a2)]) hx hb dX9_told_90 hl (by decide) rfl (fun ls hl => ?_)
              obtain ⟨n1, h⟩ := h
              exact t_X9_told_L92 C n1 h hR hS (lv_sub hl [2, 3, 4, 1, 0] rfl)
            · by_cases c3_5 : a2 = (5 : Int32)
              · have h := h.2.2.2.2.2.1 c3_5
                refine lv_tableIn (tgt := 89) hx hb dX9_told_13 (by rw [c3_5]; decide) (by rw [c3_5]; decide) (off := 76) (by rw [c3_5]; rfl) (by decide) ?_
                refine lv_iconst (v := (0 : Int32)) hx hb dX9_told_89 (by decide) ?_
                refine lv_istore (lv' := [(4, .int (0 : Int32)), (3, .int (0 : Int32)), (0, .ref (ad 9 0 0)), (1, .int a1), (2, .int a2)]) hx hb dX9_told_90 hl (by decide) rfl (fun ls hl => ?_)
                obtain ⟨n1, h⟩ := h
                exact t_X9_told_L92 C n1 h hR hS (lv_sub hl [2, 3, 4, 1, 0] rfl)
              · have h := h.2.2.2.2.2.2 c3_0 c3_1 c3_2 c3_3 c3_4 c3_5
                have o3_0 := pr_ne (n := 0) (by decide) c3_0
                have o3_1 := pr_ne (n := 1) (by decide) c3_1
                have o3_2 := pr_ne (n := 2) (by decide) c3_2
                have o3_3 := pr_ne (n := 3) (by decide) c3_3
                have o3_4 := pr_ne (n := 4) (by decide) c3_4
                have o3_5 := pr_ne (n := 5) (by decide) c3_5
                refine lv_tableOut (tgt := 143) hx hb dX9_told_13 (by omega) (by decide) ?_
                refine lv_iconst (v := (-1 : Int32)) hx hb dX9_told_143 (by decide) ?_
                exact pr_reti C h hR hS dX9_told_144
  · have h := h.2 c2
    refine lv_iconst (v := (-1 : Int32)) hx hb dX9_told_8 (by decide) ?_
    exact pr_reti C h hR hS dX9_told_9
abbrev wp_X9_told (g : Nat → Nat) (σ : pr_Sg) (a1 : Int32) (a2 : Int32) (Q : Int32 → pr_Sg → Prop) : Prop := wpb_X9_told g σ a1 a2 Q
set_option maxHeartbeats 4000000 in
set_option maxRecDepth 100000 in
theorem c_X9_told {l : Launch} {D : va_G} {cs : Nat → ClassId} {A : Nat → Prop} {ad : pr_Ad} {g : Nat → Nat} {σ : pr_Sg} {a1 : Int32} {a2 : Int32} {Q : Int32 → pr_Sg → Prop} (h : wp_X9_told g σ a1 a2 Q) : pr_Mi l D cs A ad g yX9_told cX9_told 5 (some .int) rm_X9_told [.ref (ad 9 0 0), .int a1, .int a2] σ Q := by
  refine Met.ofW (cc := cX9_told) (maxL := 5) (ret := (some .int)) (by decide) rfl ?_
  intro p e s m args below meth c s₁ B hml hv
  obtain ⟨rfl, hR, hK⟩ := hv
  have C : pr_C RX9 cX9_told 5 (some .int) D cs p s m [.ref (ad 9 0 0), .int a1, .int a2].toArray meth c := pr_C.of B hml hK
  have hS : va_S A s.heap s.heap [] := va_S.rf
  have hl := lv_entry ([.ref (ad 9 0 0), .int a1, .int a2]) (n := 5) (Nat.le_of_ble_eq_true rfl)
  rw [lg_entry_eq]
  generalize (lg_sl ([.ref (ad 9 0 0), .int a1, .int a2]) ++ List.replicate (5 - (lg_sl ([.ref (ad 9 0 0), .int a1, .int a2])).length) Slot.unset).toArray = ls at hl ⊢
  have hl : lv_has ls 5 [(0, .ref (ad 9 0 0)), (1, .int a1), (2, .int a2)] := hl
  exact t_X9_told C h hR hS hl
def rm_X9_part : Room := { frames := 2, cells := 0, slots := 0, locals := 43 }
theorem hd_X9_part : yX9_part.cls = RX9 ∧ yX9_part.cls ≠ "java/lang/invoke/MethodHandle" ∧ yX9_part.cls ≠ "java/lang/invoke/VarHandle" ∧ (parseMethodDescriptor yX9_part.desc).map (fun d => d.parameters.length) = some 3 := ⟨rfl, by decide, by decide, by decide +kernel⟩
def wpb_X9_part (g : Nat → Nat) (σ : pr_Sg) (a1 : Int32) (a2 : Int32) (a3 : Int32) (Q : Int32 → pr_Sg → Prop) : Prop :=
  (wp_X9_isPicture g σ a1 (fun r1 σ1 =>
  ((r1 = 0 → Q (-1 : Int32) σ1) ∧
  (¬ r1 = 0 → (wp_X9_in g σ1 a2 (0 : Int32) (4 : Int32) (fun r3 σ3 =>
  ((¬ r3 = 0 → ((a3 = (0 : Int32) → (vp_in a1 40 ∧ (vp_in a2 5 ∧ Q (σ3 1065 (a1).toNatClampNeg (a2).toNatClampNeg) σ3))) ∧
  (a3 = (1 : Int32) → (vp_in a1 40 ∧ (vp_in a2 5 ∧ (vp_in a1 40 ∧ (vp_in a2 5 ∧ Q ((σ3 1064 (a1).toNatClampNeg (a2).toNatClampNeg) - (σ3 1065 (a1).toNatClampNeg (a2).toNatClampNeg)) σ3))))) ∧
  (a3 = (2 : Int32) → (vp_in a1 40 ∧ (vp_in a2 5 ∧ Q (σ3 1066 (a1).toNatClampNeg (a2).toNatClampNeg) σ3))) ∧
  (a3 = (3 : Int32) → (vp_in a1 40 ∧ (vp_in a2 5 ∧ Q (σ3 1067 (a1).toNatClampNeg (a2).toNatClampNeg) σ3))) ∧
  (a3 = (4 : Int32) → (wp_X9_isWet g σ3 a1 a2 (fun r11 σ11 =>
  ((r11 = 0 → Q (0 : Int32) σ11) ∧
  (¬ r11 = 0 → Q (1 : Int32) σ11))))) ∧
  (¬ a3 = (0 : Int32) → ¬ a3 = (1 : Int32) → ¬ a3 = (2 : Int32) → ¬ a3 = (3 : Int32) → ¬ a3 = (4 : Int32) → Q (-1 : Int32) σ3))) ∧
  (r3 = 0 → Q (-1 : Int32) σ3))))))))
set_option maxHeartbeats 4000000 in
set_option maxRecDepth 100000 in
theorem t_X9_part {p : Program} {l : Launch} {e : Env} {s : State} {m : MethodId} {args : Array Value} {below : List Frame} {meth : Method} {c : Code} {D : va_G} {cs : Nat → ClassId} {A : Nat → Prop} {ad : pr_Ad} {g : Nat → Nat} {Q : Int32 → pr_Sg → Prop} (C : pr_C RX9 cX9_part 4 (some .int) D cs p s m args meth c) {H : Heap} {locs : List Loc} {ls : Array Slot} {σ : pr_Sg} {a1 : Int32} {a2 : Int32} {a3 : Int32} (h : wpb_X9_part g σ a1 a2 a3 Q) (hR : pr_R D cs A ad g σ H) (hS : va_S A s.heap H locs) (hl : lv_has ls 4 [(0, .ref (ad 9 0 0)), (1, .int a1), (2, .int a2), (3, .int a3)]) : W p l e rm_X9_part s m args below meth c H locs 0 0 (MQ below (va_Qi Q (pr_E D cs A ad g) A) args s 0 0 A) (F0 m 0 ls []) := by
  unfold wpb_X9_part at h
  obtain ⟨hx, hb, hml, hown, hts, hK, hr, hlocks⟩ := id C
  refine lv_aload_n hx hb dX9_part_0 rfl (lv_at hl 0 rfl) ?_
  refine lv_iload_n hx hb dX9_part_1 rfl (lv_at hl 1 rfl) ?_
  refine pr_calli hS (pr_runV (As := [.int a1]) (rest := []) C hR pr_l9 (by omega) rfl (c_X9_isPicture h) gw_RX9_157 rfl rfl hd_X9_isPicture ⟨Nat.le_of_ble_eq_true rfl, Nat.le_of_ble_eq_true rfl⟩ rfl hl.1 rfl (Nat.le_of_ble_eq_true rfl) dX9_part_2 ⟨Nat.zero_le _, Nat.zero_le _⟩) (fun r1 σ1 H locs h hR hS => ?_)
  obtain ⟨hz1, h⟩ := h
  refine lv_if_eq (tgt := 17) hx hb dX9_part_5 (by decide) (fun c2 => ?_) (fun c2 => ?_)
  · have h := h.1 c2
    refine lv_iconst (v := (-1 : Int32)) hx hb dX9_part_17 (by decide) ?_
    exact pr_reti C h hR hS dX9_part_18
  · have h := h.2 c2
    refine lv_iload_n hx hb dX9_part_8 rfl (lv_at hl 2 rfl) ?_
    refine lv_iconst (v := (0 : Int32)) hx hb dX9_part_9 (by decide) ?_
    refine lv_iconst (v := (4 : Int32)) hx hb dX9_part_10 (by decide) ?_
    refine pr_calli hS (pr_runS (As := [.int a2, .int (0 : Int32), .int (4 : Int32)]) (rest := []) C hR (c_X9_in h) gw_RX9_113 rfl rfl hs_X9_in ⟨Nat.le_of_ble_eq_true rfl, Nat.le_of_ble_eq_true rfl⟩ rfl hl.1 rfl (Nat.le_of_ble_eq_true rfl) dX9_part_11 ⟨Nat.zero_le _, Nat.zero_le _⟩) (fun r3 σ3 H locs h hR hS => ?_)
    obtain ⟨hz3, h⟩ := h
    refine lv_if_ne (tgt := 19) hx hb dX9_part_14 (by decide) (fun c4 => ?_) (fun c4 => ?_)
    · have h := h.1 c4
      refine lv_iload_n hx hb dX9_part_19 rfl (lv_at hl 3 rfl) ?_
      by_cases c5_0 : a3 = (0 : Int32)
      · have h := h.1 c5_0
        refine lv_tableIn (tgt := 56) hx hb dX9_part_20 (by rw [c5_0]; decide) (by rw [c5_0]; decide) (off := 36) (by rw [c5_0]; rfl) (by decide) ?_
        refine lv_aload_n hx hb dX9_part_56 rfl (lv_at hl 0 rfl) ?_
        refine gf_RX9_67 C hR pr_l9 dX9_part_57 ?_
        refine lv_iload_n hx hb dX9_part_60 rfl (lv_at hl 1 rfl) ?_
        refine pr_ldg hx hb hK hR 85 (by omega) (kd := 65) rfl h.1 dX9_part_61 (fun hv6 => ?_)
        have h := h.2
        refine lv_iload_n hx hb dX9_part_62 rfl (lv_at hl 2 rfl) ?_
        refine pr_ald hx hb hK hR hv6 (by omega) (by omega) (n := 5) (by decide) h.1 dX9_part_63 (t := 1065) rfl ?_
        have h := h.2
        exact pr_reti C h hR hS dX9_part_64
      · by_cases c5_1 : a3 = (1 : Int32)
        · have h := h.2.1 c5_1
          refine lv_tableIn (tgt := 65) hx hb dX9_part_20 (by rw [c5_1]; decide) (by rw [c5_1]; decide) (off := 45) (by rw [c5_1]; rfl) (by decide) ?_
          refine lv_aload_n hx hb dX9_part_65 rfl (lv_at hl 0 rfl) ?_
          refine gf_RX9_64 C hR pr_l9 dX9_part_66 ?_
          refine lv_iload_n hx hb dX9_part_69 rfl (lv_at hl 1 rfl) ?_
          refine pr_ldg hx hb hK hR 84 (by omega) (kd := 64) rfl h.1 dX9_part_70 (fun hv7 => ?_)
          have h := h.2
          refine lv_iload_n hx hb dX9_part_71 rfl (lv_at hl 2 rfl) ?_
          refine pr_ald hx hb hK hR hv7 (by omega) (by omega) (n := 5) (by decide) h.1 dX9_part_72 (t := 1064) rfl ?_
          have h := h.2
          refine lv_aload_n hx hb dX9_part_73 rfl (lv_at hl 0 rfl) ?_
          refine gf_RX9_67 C hR pr_l9 dX9_part_74 ?_
          refine lv_iload_n hx hb dX9_part_77 rfl (lv_at hl 1 rfl) ?_
          refine pr_ldg hx hb hK hR 85 (by omega) (kd := 65) rfl h.1 dX9_part_78 (fun hv8 => ?_)
          have h := h.2
          refine lv_iload_n hx hb dX9_part_79 rfl (lv_at hl 2 rfl) ?_
          refine pr_ald hx hb hK hR hv8 (by omega) (by omega) (n := 5) (by decide) h.1 dX9_part_80 (t := 1065) rfl ?_
          have h := h.2
          refine lv_isub hx hb dX9_part_81 ?_
          exact pr_reti C h hR hS dX9_part_82
        · by_cases c5_2 : a3 = (2 : Int32)
          · have h := h.2.2.1 c5_2
            refine lv_tableIn (tgt := 83) hx hb dX9_part_20 (by rw [c5_2]; decide) (by rw [c5_2]; decide) (off := 63) (by rw [c5_2]; rfl) (by decide) ?_
            refine lv_aload_n hx hb dX9_part_83 rfl (lv_at hl 0 rfl) ?_
            refine gf_RX9_70 C hR pr_l9 dX9_part_84 ?_
            refine lv_iload_n hx hb dX9_part_87 rfl (lv_at hl 1 rfl) ?_
            refine pr_ldg hx hb hK hR 86 (by omega) (kd := 66) rfl h.1 dX9_part_88 (fun hv9 => ?_)
            have h := h.2
            refine lv_iload_n hx hb dX9_part_89 rfl (lv_at hl 2 rfl) ?_
            refine pr_ald hx hb hK hR hv9 (by omega) (by omega) (n := 5) (by decide) h.1 dX9_part_90 (t := 1066) rfl ?_
            have h := h.2
            exact pr_reti C h hR hS dX9_part_91
          · by_cases c5_3 : a3 = (3 : Int32)
            · have h := h.2.2.2.1 c5_3
              refine lv_tableIn (tgt := 92) hx hb dX9_part_20 (by rw [c5_3]; decide) (by rw [c5_3]; decide) (off := 72) (by rw [c5_3]; rfl) (by decide) ?_
              refine lv_aload_n hx hb dX9_part_92 rfl (lv_at hl 0 rfl) ?_
              refine gf_RX9_73 C hR pr_l9 dX9_part_93 ?_
              refine lv_iload_n hx hb dX9_part_96 rfl (lv_at hl 1 rfl) ?_
              refine pr_ldg hx hb hK hR 87 (by omega) (kd := 67) rfl h.1 dX9_part_97 (fun hv10 => ?_)
              have h := h.2
              refine lv_iload_n hx hb dX9_part_98 rfl (lv_at hl 2 rfl) ?_
              refine pr_ald hx hb hK hR hv10 (by omega) (by omega) (n := 5) (by decide) h.1 dX9_part_99 (t := 1067) rfl ?_
              have h := h.2
              exact pr_reti C h hR hS dX9_part_100
            · by_cases c5_4 : a3 = (4 : Int32)
              · have h := h.2.2.2.2.1 c5_4
                refine lv_tableIn (tgt := 101) hx hb dX9_part_20 (by rw [c5_4]; decide) (by rw [c5_4]; decide) (off := 81) (by rw [c5_4]; rfl) (by decide) ?_
                refine lv_aload_n hx hb dX9_part_101 rfl (lv_at hl 0 rfl) ?_
                refine lv_iload_n hx hb dX9_part_102 rfl (lv_at hl 1 rfl) ?_
                refine lv_iload_n hx hb dX9_part_103 rfl (lv_at hl 2 rfl) ?_
                refine pr_calli hS (pr_runV (As := [.int a1, .int a2]) (rest := []) C hR pr_l9 (by omega) rfl (c_X9_isWet h) gw_RX9_169 rfl rfl hd_X9_isWet ⟨Nat.le_of_ble_eq_true rfl, Nat.le_of_ble_eq_true rfl⟩ rfl hl.1 rfl (Nat.le_of_ble_eq_true rfl) dX9_part_104 ⟨Nat.zero_le _, Nat.zero_le _⟩) (fun r11 σ11 H locs h hR hS => ?_)
                obtain ⟨hz11, h⟩ := h
                refine lv_if_eq (tgt := 114) hx hb dX9_part_107 (by decide) (fun c12 => ?_) (fun c12 => ?_)
                · have h := h.1 c12
                  refine lv_iconst (v := (0 : Int32)) hx hb dX9_part_114 (by decide) ?_
                  exact pr_reti C h hR hS dX9_part_115
                · have h := h.2 c12
                  refine lv_iconst (v := (1 : Int32)) hx hb dX9_part_110 (by decide) ?_
                  refine lv_goto (tgt := 115) hx hb dX9_part_111 (by decide) ?_
                  exact pr_reti C h hR hS dX9_part_115
              · have h := h.2.2.2.2.2 c5_0 c5_1 c5_2 c5_3 c5_4
                have o5_0 := pr_ne (n := 0) (by decide) c5_0
                have o5_1 := pr_ne (n := 1) (by decide) c5_1
                have o5_2 := pr_ne (n := 2) (by decide) c5_2
                have o5_3 := pr_ne (n := 3) (by decide) c5_3
                have o5_4 := pr_ne (n := 4) (by decide) c5_4
                refine lv_tableOut (tgt := 116) hx hb dX9_part_20 (by omega) (by decide) ?_
                refine lv_iconst (v := (-1 : Int32)) hx hb dX9_part_116 (by decide) ?_
                exact pr_reti C h hR hS dX9_part_117
    · have h := h.2 c4
      refine lv_iconst (v := (-1 : Int32)) hx hb dX9_part_17 (by decide) ?_
      exact pr_reti C h hR hS dX9_part_18
abbrev wp_X9_part (g : Nat → Nat) (σ : pr_Sg) (a1 : Int32) (a2 : Int32) (a3 : Int32) (Q : Int32 → pr_Sg → Prop) : Prop := wpb_X9_part g σ a1 a2 a3 Q
set_option maxHeartbeats 4000000 in
set_option maxRecDepth 100000 in
theorem c_X9_part {l : Launch} {D : va_G} {cs : Nat → ClassId} {A : Nat → Prop} {ad : pr_Ad} {g : Nat → Nat} {σ : pr_Sg} {a1 : Int32} {a2 : Int32} {a3 : Int32} {Q : Int32 → pr_Sg → Prop} (h : wp_X9_part g σ a1 a2 a3 Q) : pr_Mi l D cs A ad g yX9_part cX9_part 4 (some .int) rm_X9_part [.ref (ad 9 0 0), .int a1, .int a2, .int a3] σ Q := by
  refine Met.ofW (cc := cX9_part) (maxL := 4) (ret := (some .int)) (by decide) rfl ?_
  intro p e s m args below meth c s₁ B hml hv
  obtain ⟨rfl, hR, hK⟩ := hv
  have C : pr_C RX9 cX9_part 4 (some .int) D cs p s m [.ref (ad 9 0 0), .int a1, .int a2, .int a3].toArray meth c := pr_C.of B hml hK
  have hS : va_S A s.heap s.heap [] := va_S.rf
  have hl := lv_entry ([.ref (ad 9 0 0), .int a1, .int a2, .int a3]) (n := 4) (Nat.le_of_ble_eq_true rfl)
  rw [lg_entry_eq]
  generalize (lg_sl ([.ref (ad 9 0 0), .int a1, .int a2, .int a3]) ++ List.replicate (4 - (lg_sl ([.ref (ad 9 0 0), .int a1, .int a2, .int a3])).length) Slot.unset).toArray = ls at hl ⊢
  have hl : lv_has ls 4 [(0, .ref (ad 9 0 0)), (1, .int a1), (2, .int a2), (3, .int a3)] := hl
  exact t_X9_part C h hR hS hl
def rm_X9_due : Room := { frames := 2, cells := 0, slots := 0, locals := 43 }
theorem hd_X9_due : yX9_due.cls = RX9 ∧ yX9_due.cls ≠ "java/lang/invoke/MethodHandle" ∧ yX9_due.cls ≠ "java/lang/invoke/VarHandle" ∧ (parseMethodDescriptor yX9_due.desc).map (fun d => d.parameters.length) = some 1 := ⟨rfl, by decide, by decide, by decide +kernel⟩
def wpb_X9_due (g : Nat → Nat) (σ : pr_Sg) (a1 : Int32) (Q : Int32 → pr_Sg → Prop) : Prop :=
  (wp_X9_isSitter g σ a1 (fun r1 σ1 =>
  ((r1 = 0 → Q (-1 : Int32) σ1) ∧
  (¬ r1 = 0 → (vp_in a1 20 ∧ Q (σ1 1049 0 (a1).toNatClampNeg) σ1)))))
set_option maxHeartbeats 4000000 in
set_option maxRecDepth 100000 in
theorem t_X9_due {p : Program} {l : Launch} {e : Env} {s : State} {m : MethodId} {args : Array Value} {below : List Frame} {meth : Method} {c : Code} {D : va_G} {cs : Nat → ClassId} {A : Nat → Prop} {ad : pr_Ad} {g : Nat → Nat} {Q : Int32 → pr_Sg → Prop} (C : pr_C RX9 cX9_due 2 (some .int) D cs p s m args meth c) {H : Heap} {locs : List Loc} {ls : Array Slot} {σ : pr_Sg} {a1 : Int32} (h : wpb_X9_due g σ a1 Q) (hR : pr_R D cs A ad g σ H) (hS : va_S A s.heap H locs) (hl : lv_has ls 2 [(0, .ref (ad 9 0 0)), (1, .int a1)]) : W p l e rm_X9_due s m args below meth c H locs 0 0 (MQ below (va_Qi Q (pr_E D cs A ad g) A) args s 0 0 A) (F0 m 0 ls []) := by
  unfold wpb_X9_due at h
  obtain ⟨hx, hb, hml, hown, hts, hK, hr, hlocks⟩ := id C
  refine lv_aload_n hx hb dX9_due_0 rfl (lv_at hl 0 rfl) ?_
  refine lv_iload_n hx hb dX9_due_1 rfl (lv_at hl 1 rfl) ?_
  refine pr_calli hS (pr_runV (As := [.int a1]) (rest := []) C hR pr_l9 (by omega) rfl (c_X9_isSitter h) gw_RX9_123 rfl rfl hd_X9_isSitter ⟨Nat.le_of_ble_eq_true rfl, Nat.le_of_ble_eq_true rfl⟩ rfl hl.1 rfl (Nat.le_of_ble_eq_true rfl) dX9_due_2 ⟨Nat.zero_le _, Nat.zero_le _⟩) (fun r1 σ1 H locs h hR hS => ?_)
  obtain ⟨hz1, h⟩ := h
  refine lv_if_eq (tgt := 17) hx hb dX9_due_5 (by decide) (fun c2 => ?_) (fun c2 => ?_)
  · have h := h.1 c2
    refine lv_iconst (v := (-1 : Int32)) hx hb dX9_due_17 (by decide) ?_
    exact pr_reti C h hR hS dX9_due_18
  · have h := h.2 c2
    refine lv_aload_n hx hb dX9_due_8 rfl (lv_at hl 0 rfl) ?_
    refine gf_RX9_41 C hR pr_l9 dX9_due_9 ?_
    refine lv_iload_n hx hb dX9_due_12 rfl (lv_at hl 1 rfl) ?_
    refine pr_ald hx hb hK hR pr_l49 (by omega) (by omega) (n := 20) (by decide) h.1 dX9_due_13 (t := 1049) rfl ?_
    have h := h.2
    refine lv_goto (tgt := 18) hx hb dX9_due_14 (by decide) ?_
    exact pr_reti C h hR hS dX9_due_18
abbrev wp_X9_due (g : Nat → Nat) (σ : pr_Sg) (a1 : Int32) (Q : Int32 → pr_Sg → Prop) : Prop := wpb_X9_due g σ a1 Q
set_option maxHeartbeats 4000000 in
set_option maxRecDepth 100000 in
theorem c_X9_due {l : Launch} {D : va_G} {cs : Nat → ClassId} {A : Nat → Prop} {ad : pr_Ad} {g : Nat → Nat} {σ : pr_Sg} {a1 : Int32} {Q : Int32 → pr_Sg → Prop} (h : wp_X9_due g σ a1 Q) : pr_Mi l D cs A ad g yX9_due cX9_due 2 (some .int) rm_X9_due [.ref (ad 9 0 0), .int a1] σ Q := by
  refine Met.ofW (cc := cX9_due) (maxL := 2) (ret := (some .int)) (by decide) rfl ?_
  intro p e s m args below meth c s₁ B hml hv
  obtain ⟨rfl, hR, hK⟩ := hv
  have C : pr_C RX9 cX9_due 2 (some .int) D cs p s m [.ref (ad 9 0 0), .int a1].toArray meth c := pr_C.of B hml hK
  have hS : va_S A s.heap s.heap [] := va_S.rf
  have hl := lv_entry ([.ref (ad 9 0 0), .int a1]) (n := 2) (Nat.le_of_ble_eq_true rfl)
  rw [lg_entry_eq]
  generalize (lg_sl ([.ref (ad 9 0 0), .int a1]) ++ List.replicate (2 - (lg_sl ([.ref (ad 9 0 0), .int a1])).length) Slot.unset).toArray = ls at hl ⊢
  have hl : lv_has ls 2 [(0, .ref (ad 9 0 0)), (1, .int a1)] := hl
  exact t_X9_due C h hR hS hl
def rm_X9_count : Room := { frames := 0, cells := 0, slots := 0, locals := 0 }
theorem hd_X9_count : yX9_count.cls = RX9 ∧ yX9_count.cls ≠ "java/lang/invoke/MethodHandle" ∧ yX9_count.cls ≠ "java/lang/invoke/VarHandle" ∧ (parseMethodDescriptor yX9_count.desc).map (fun d => d.parameters.length) = some 1 := ⟨rfl, by decide, by decide, by decide +kernel⟩
def wp_X9_count_L74 (g : Nat → Nat) (Q : Int32 → pr_Sg → Prop) : Nat → pr_Sg → Int32 → Int32 → Prop
  | 0, _, _, _ => False
  | n + 1, σ, x2, x3 => (((σ 601 0 0) ≤ x3 → Q x2 σ) ∧
  (¬ (σ 601 0 0) ≤ x3 → (vp_in x3 40 ∧ ((¬ (σ 1053 0 (x3).toNatClampNeg) = (-1 : Int32) → wp_X9_count_L74 g Q n σ (x2 + (1 : Int32)) (x3 + (1 : Int32))) ∧
  ((σ 1053 0 (x3).toNatClampNeg) = (-1 : Int32) → wp_X9_count_L74 g Q n σ (x2 + (0 : Int32)) (x3 + (1 : Int32)))))))
set_option maxHeartbeats 4000000 in
set_option maxRecDepth 100000 in
theorem t_X9_count_L74 {p : Program} {l : Launch} {e : Env} {s : State} {m : MethodId} {args : Array Value} {below : List Frame} {meth : Method} {c : Code} {D : va_G} {cs : Nat → ClassId} {A : Nat → Prop} {ad : pr_Ad} {g : Nat → Nat} {Q : Int32 → pr_Sg → Prop} (C : pr_C RX9 cX9_count 4 (some .int) D cs p s m args meth c) (n : Nat) : ∀ {H : Heap} {locs : List Loc} {ls : Array Slot} {σ : pr_Sg} {x2 : Int32} {x3 : Int32} (_ : wp_X9_count_L74 g Q n σ x2 x3) (_ : pr_R D cs A ad g σ H) (_ : va_S A s.heap H locs) (_ : lv_has ls 4 [(0, .ref (ad 9 0 0)), (2, .int x2), (3, .int x3)]), W p l e rm_X9_count s m args below meth c H locs 0 0 (MQ below (va_Qi Q (pr_E D cs A ad g) A) args s 0 0 A) (F0 m 74 ls []) := by
  induction n with
  | zero =>
    intro H locs ls σ x2 x3 h
    exact False.elim h
  | succ n ih =>
    intro H locs ls σ x2 x3 h hR hS hl
    unfold wp_X9_count_L74 at h
    obtain ⟨hx, hb, hml, hown, hts, hK, hr, hlocks⟩ := id C
    refine lv_iload_n hx hb dX9_count_74 rfl (lv_at hl 2 rfl) ?_
    refine lv_aload_n hx hb dX9_count_75 rfl (lv_at hl 0 rfl) ?_
    refine gf_RX9_110 C hR pr_l9 dX9_count_76 ?_
    refine lv_icmp_ge (tgt := 106) hx hb dX9_count_79 (by decide) (fun c2 => ?_) (fun c2 => ?_)
    · have h := h.1 c2
      refine lv_iload_n hx hb dX9_count_106 rfl (lv_at hl 1 rfl) ?_
      exact pr_reti C h hR hS dX9_count_107
    · have h := h.2 c2
      refine lv_iload_n hx hb dX9_count_82 rfl (lv_at hl 1 rfl) ?_
      refine lv_aload_n hx hb dX9_count_83 rfl (lv_at hl 0 rfl) ?_
      refine gf_RX9_53 C hR pr_l9 dX9_count_84 ?_
      refine lv_iload_n hx hb dX9_count_87 rfl (lv_at hl 2 rfl) ?_
      refine pr_ald hx hb hK hR pr_l53 (by omega) (by omega) (n := 40) (by decide) h.1 dX9_count_88 (t := 1053) rfl ?_
      have h := h.2
      refine lv_iconst (v := (-1 : Int32)) hx hb dX9_count_89 (by decide) ?_
      refine lv_icmp_ne (tgt := 97) hx hb dX9_count_90 (by decide) (fun c3 => ?_) (fun c3 => ?_)
      · have h := h.1 c3
        refine lv_iconst (v := (1 : Int32)) hx hb dX9_count_97 (by decide) ?_
        refine lv_iadd hx hb dX9_count_98 ?_
        refine lv_istore_n (lv' := [(2, .int (x2 + (1 : Int32))), (0, .ref (ad 9 0 0)), (3, .int x3)]) hx hb dX9_count_99 rfl hl (by decide) rfl (fun ls hl => ?_)
        refine lv_iinc (v := (x3 + (1 : Int32))) (lv' := [(3, .int (x3 + (1 : Int32))), (2, .int (x2 + (1 : Int32))), (0, .ref (ad 9 0 0))]) hx hb dX9_count_100 hl (k := 2) rfl rfl (by decide) rfl (fun ls hl => ?_)
        refine lv_goto (tgt := 74) hx hb dX9_count_103 (by decide) ?_
        exact ih h hR hS (lv_sub hl [2, 1, 0] rfl)
      · have h := h.2 c3
        refine lv_iconst (v := (0 : Int32)) hx hb dX9_count_93 (by decide) ?_
        refine lv_goto (tgt := 98) hx hb dX9_count_94 (by decide) ?_
        refine lv_iadd hx hb dX9_count_98 ?_
        refine lv_istore_n (lv' := [(2, .int (x2 + (0 : Int32))), (0, .ref (ad 9 0 0)), (3, .int x3)]) hx hb dX9_count_99 rfl hl (by decide) rfl (fun ls hl => ?_)
        refine lv_iinc (v := (x3 + (1 : Int32))) (lv' := [(3, .int (x3 + (1 : Int32))), (2, .int (x2 + (0 : Int32))), (0, .ref (ad 9 0 0))]) hx hb dX9_count_100 hl (k := 2) rfl rfl (by decide) rfl (fun ls hl => ?_)
        refine lv_goto (tgt := 74) hx hb dX9_count_103 (by decide) ?_
        exact ih h hR hS (lv_sub hl [2, 1, 0] rfl)
def wpb_X9_count (g : Nat → Nat) (σ : pr_Sg) (a1 : Int32) (Q : Int32 → pr_Sg → Prop) : Prop :=
  ((a1 = (0 : Int32) → Q (σ 576 0 0) σ) ∧
  (a1 = (1 : Int32) → Q (σ 585 0 0) σ) ∧
  (a1 = (2 : Int32) → Q (σ 589 0 0) σ) ∧
  (a1 = (3 : Int32) → Q (σ 601 0 0) σ) ∧
  (a1 = (4 : Int32) → (∃ n : Nat, wp_X9_count_L74 g Q n σ (0 : Int32) (0 : Int32))) ∧
  (a1 = (5 : Int32) → Q (σ 608 0 0) σ) ∧
  (a1 = (6 : Int32) → Q (σ 610 0 0) σ) ∧
  (a1 = (7 : Int32) → Q (σ 611 0 0) σ) ∧
  (a1 = (8 : Int32) → Q (σ 612 0 0) σ) ∧
  (¬ a1 = (0 : Int32) → ¬ a1 = (1 : Int32) → ¬ a1 = (2 : Int32) → ¬ a1 = (3 : Int32) → ¬ a1 = (4 : Int32) → ¬ a1 = (5 : Int32) → ¬ a1 = (6 : Int32) → ¬ a1 = (7 : Int32) → ¬ a1 = (8 : Int32) → Q (-1 : Int32) σ))
set_option maxHeartbeats 4000000 in
set_option maxRecDepth 100000 in
theorem t_X9_count {p : Program} {l : Launch} {e : Env} {s : State} {m : MethodId} {args : Array Value} {below : List Frame} {meth : Method} {c : Code} {D : va_G} {cs : Nat → ClassId} {A : Nat → Prop} {ad : pr_Ad} {g : Nat → Nat} {Q : Int32 → pr_Sg → Prop} (C : pr_C RX9 cX9_count 4 (some .int) D cs p s m args meth c) {H : Heap} {locs : List Loc} {ls : Array Slot} {σ : pr_Sg} {a1 : Int32} (h : wpb_X9_count g σ a1 Q) (hR : pr_R D cs A ad g σ H) (hS : va_S A s.heap H locs) (hl : lv_has ls 4 [(0, .ref (ad 9 0 0)), (1, .int a1)]) : W p l e rm_X9_count s m args below meth c H locs 0 0 (MQ below (va_Qi Q (pr_E D cs A ad g) A) args s 0 0 A) (F0 m 0 ls []) := by
  unfold wpb_X9_count at h
  obtain ⟨hx, hb, hml, hown, hts, hK, hr, hlocks⟩ := id C
  refine lv_iconst (v := (0 : Int32)) hx hb dX9_count_0 (by decide) ?_
  refine lv_istore_n (lv' := [(2, .int (0 : Int32)), (0, .ref (ad 9 0 0)), (1, .int a1)]) hx hb dX9_count_1 rfl hl (by decide) rfl (fun ls hl => ?_)
  refine lv_iload_n hx hb dX9_count_2 rfl (lv_at hl 2 rfl) ?_
  by_cases c1_0 : a1 = (0 : Int32)
  · have h := h.1 c1_0
    refine lv_tableIn (tgt := 52) hx hb dX9_count_3 (by rw [c1_0]; decide) (by rw [c1_0]; decide) (off := 49) (by rw [c1_0]; rfl) (by decide) ?_
    refine lv_aload_n hx hb dX9_count_52 rfl (lv_at hl 1 rfl) ?_
    refine gf_RX9_128 C hR pr_l9 dX9_count_53 ?_
    exact pr_reti C h hR hS dX9_count_56
  · by_cases c1_1 : a1 = (1 : Int32)
    · have h := h.2.1 c1_1
      refine lv_tableIn (tgt := 57) hx hb dX9_count_3 (by rw [c1_1]; decide) (by rw [c1_1]; decide) (off := 54) (by rw [c1_1]; rfl) (by decide) ?_
      refine lv_aload_n hx hb dX9_count_57 rfl (lv_at hl 1 rfl) ?_
      refine gf_RX9_31 C hR pr_l9 dX9_count_58 ?_
      exact pr_reti C h hR hS dX9_count_61
    · by_cases c1_2 : a1 = (2 : Int32)
      · have h := h.2.2.1 c1_2
        refine lv_tableIn (tgt := 62) hx hb dX9_count_3 (by rw [c1_2]; decide) (by rw [c1_2]; decide) (off := 59) (by rw [c1_2]; rfl) (by decide) ?_
        refine lv_aload_n hx hb dX9_count_62 rfl (lv_at hl 1 rfl) ?_
        refine gf_RX9_117 C hR pr_l9 dX9_count_63 ?_
        exact pr_reti C h hR hS dX9_count_66
      · by_cases c1_3 : a1 = (3 : Int32)
        · have h := h.2.2.2.1 c1_3
          refine lv_tableIn (tgt := 67) hx hb dX9_count_3 (by rw [c1_3]; decide) (by rw [c1_3]; decide) (off := 64) (by rw [c1_3]; rfl) (by decide) ?_
          refine lv_aload_n hx hb dX9_count_67 rfl (lv_at hl 1 rfl) ?_
          refine gf_RX9_110 C hR pr_l9 dX9_count_68 ?_
          exact pr_reti C h hR hS dX9_count_71
        · by_cases c1_4 : a1 = (4 : Int32)
          · have h := h.2.2.2.2.1 c1_4
            refine lv_tableIn (tgt := 72) hx hb dX9_count_3 (by rw [c1_4]; decide) (by rw [c1_4]; decide) (off := 69) (by rw [c1_4]; rfl) (by decide) ?_
            refine lv_iconst (v := (0 : Int32)) hx hb dX9_count_72 (by decide) ?_
            refine lv_istore_n (lv' := [(3, .int (0 : Int32)), (2, .int (0 : Int32)), (0, .ref (ad 9 0 0)), (1, .int a1)]) hx hb dX9_count_73 rfl hl (by decide) rfl (fun ls hl => ?_)
            obtain ⟨n1, h⟩ := h
            exact t_X9_count_L74 C n1 h hR hS (lv_sub hl [2, 1, 0] rfl)
          · by_cases c1_5 : a1 = (5 : Int32)
            · have h := h.2.2.2.2.2.1 c1_5
              refine lv_tableIn (tgt := 108) hx hb dX9_count_3 (by rw [c1_5]; decide) (by rw [c1_5]; decide) (off := 105) (by rw [c1_5]; rfl) (by decide) ?_
              refine lv_aload_n hx hb dX9_count_108 rfl (lv_at hl 1 rfl) ?_
              refine gf_RX9_150 C hR pr_l9 dX9_count_109 ?_
              exact pr_reti C h hR hS dX9_count_112
            · by_cases c1_6 : a1 = (6 : Int32)
              · have h := h.2.2.2.2.2.2.1 c1_6
                refine lv_tableIn (tgt := 113) hx hb dX9_count_3 (by rw [c1_6]; decide) (by rw [c1_6]; decide) (off := 110) (by rw [c1_6]; rfl) (by decide) ?_
                refine lv_aload_n hx hb dX9_count_113 rfl (lv_at hl 1 rfl) ?_
                refine gf_RX9_179 C hR pr_l9 dX9_count_114 ?_
                exact pr_reti C h hR hS dX9_count_117
              · by_cases c1_7 : a1 = (7 : Int32)
                · have h := h.2.2.2.2.2.2.2.1 c1_7
                  refine lv_tableIn (tgt := 118) hx hb dX9_count_3 (by rw [c1_7]; decide) (by rw [c1_7]; decide) (off := 115) (by rw [c1_7]; rfl) (by decide) ?_
                  refine lv_aload_n hx hb dX9_count_118 rfl (lv_at hl 1 rfl) ?_
                  refine gf_RX9_185 C hR pr_l9 dX9_count_119 ?_
                  exact pr_reti C h hR hS dX9_count_122
                · by_cases c1_8 : a1 = (8 : Int32)
                  · have h := h.2.2.2.2.2.2.2.2.1 c1_8
                    refine lv_tableIn (tgt := 123) hx hb dX9_count_3 (by rw [c1_8]; decide) (by rw [c1_8]; decide) (off := 120) (by rw [c1_8]; rfl) (by decide) ?_
                    refine lv_aload_n hx hb dX9_count_123 rfl (lv_at hl 1 rfl) ?_
                    refine gf_RX9_135 C hR pr_l9 dX9_count_124 ?_
                    exact pr_reti C h hR hS dX9_count_127
                  · have h := h.2.2.2.2.2.2.2.2.2 c1_0 c1_1 c1_2 c1_3 c1_4 c1_5 c1_6 c1_7 c1_8
                    have o1_0 := pr_ne (n := 0) (by decide) c1_0
                    have o1_1 := pr_ne (n := 1) (by decide) c1_1
                    have o1_2 := pr_ne (n := 2) (by decide) c1_2
                    have o1_3 := pr_ne (n := 3) (by decide) c1_3
                    have o1_4 := pr_ne (n := 4) (by decide) c1_4
                    have o1_5 := pr_ne (n := 5) (by decide) c1_5
                    have o1_6 := pr_ne (n := 6) (by decide) c1_6
                    have o1_7 := pr_ne (n := 7) (by decide) c1_7
                    have o1_8 := pr_ne (n := 8) (by decide) c1_8
                    refine lv_tableOut (tgt := 128) hx hb dX9_count_3 (by omega) (by decide) ?_
                    refine lv_iconst (v := (-1 : Int32)) hx hb dX9_count_128 (by decide) ?_
                    exact pr_reti C h hR hS dX9_count_129
abbrev wp_X9_count (g : Nat → Nat) (σ : pr_Sg) (a1 : Int32) (Q : Int32 → pr_Sg → Prop) : Prop := wpb_X9_count g σ a1 Q
set_option maxHeartbeats 4000000 in
set_option maxRecDepth 100000 in
theorem c_X9_count {l : Launch} {D : va_G} {cs : Nat → ClassId} {A : Nat → Prop} {ad : pr_Ad} {g : Nat → Nat} {σ : pr_Sg} {a1 : Int32} {Q : Int32 → pr_Sg → Prop} (h : wp_X9_count g σ a1 Q) : pr_Mi l D cs A ad g yX9_count cX9_count 4 (some .int) rm_X9_count [.ref (ad 9 0 0), .int a1] σ Q := by
  refine Met.ofW (cc := cX9_count) (maxL := 4) (ret := (some .int)) (by decide) rfl ?_
  intro p e s m args below meth c s₁ B hml hv
  obtain ⟨rfl, hR, hK⟩ := hv
  have C : pr_C RX9 cX9_count 4 (some .int) D cs p s m [.ref (ad 9 0 0), .int a1].toArray meth c := pr_C.of B hml hK
  have hS : va_S A s.heap s.heap [] := va_S.rf
  have hl := lv_entry ([.ref (ad 9 0 0), .int a1]) (n := 4) (Nat.le_of_ble_eq_true rfl)
  rw [lg_entry_eq]
  generalize (lg_sl ([.ref (ad 9 0 0), .int a1]) ++ List.replicate (4 - (lg_sl ([.ref (ad 9 0 0), .int a1])).length) Slot.unset).toArray = ls at hl ⊢
  have hl : lv_has ls 4 [(0, .ref (ad 9 0 0)), (1, .int a1)] := hl
  exact t_X9_count C h hR hS hl
