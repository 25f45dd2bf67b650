def rm_X8_hoursFor : Room := { frames := 2, cells := 0, slots := 0, locals := 35 }
theorem hd_X8_hoursFor : yX8_hoursFor.cls = RX8 ∧ yX8_hoursFor.cls ≠ "java/lang/invoke/MethodHandle" ∧ yX8_hoursFor.cls ≠ "java/lang/invoke/VarHandle" ∧ (parseMethodDescriptor yX8_hoursFor.desc).map (fun d => d.parameters.length) = some 2 := ⟨rfl, by decide, by decide, by decide +kernel⟩
def wp_X8_hoursFor_L18 (g : Nat → Nat) (Q : Int32 → pr_Sg → Prop) : Nat → pr_Sg → Int32 → Int32 → Int32 → Int32 → Prop
  | 0, _, _, _, _, _ => False
  | n + 1, σ, x2, x4, x5, x6 => ((x5 ≤ x6 → Q x4 σ) ∧
  (¬ x5 ≤ x6 → wp_X8_hoursFor_L18 g Q n σ x2 x4 x5 (x6 + (1 : Int32))))
set_option maxHeartbeats 4000000 in
set_option maxRecDepth 100000 in
theorem t_X8_hoursFor_L18 {p : Program} {l : Launch} {e : Env} {s : State} {m : MethodId} {args : Array Value} {below : List Frame} {meth : Method} {c : Code} {D : va_G} {cs : Nat → ClassId} {A : Nat → Prop} {ad : pr_Ad} {g : Nat → Nat} {Q : Int32 → pr_Sg → Prop} (C : pr_C RX8 cX8_hoursFor 7 (some .int) D cs p s m args meth c) (n : Nat) : ∀ {H : Heap} {locs : List Loc} {ls : Array Slot} {σ : pr_Sg} {x2 : Int32} {x4 : Int32} {x5 : Int32} {x6 : Int32} (_ : wp_X8_hoursFor_L18 g Q n σ x2 x4 x5 x6) (_ : pr_R D cs A ad g σ H) (_ : va_S A s.heap H locs) (_ : lv_has ls 7 [(0, .ref (ad 8 0 0)), (2, .int x2), (3, .null), (4, .int x4), (5, .int x5), (6, .int x6)]), W p l e rm_X8_hoursFor s m args below meth c H locs 0 0 (MQ below (va_Qi Q (pr_E D cs A ad g) A) args s 0 0 A) (F0 m 18 ls []) := by
  induction n with
  | zero =>
    intro H locs ls σ x2 x4 x5 x6 h
    exact False.elim h
  | succ n ih =>
    intro H locs ls σ x2 x4 x5 x6 h hR hS hl
    unfold wp_X8_hoursFor_L18 at h
    obtain ⟨hx, hb, hml, hown, hts, hK, hr, hlocks⟩ := id C
    refine lv_iload hx hb dX8_hoursFor_18 (lv_at hl 5 rfl) ?_
    refine lv_iload hx hb dX8_hoursFor_20 (lv_at hl 4 rfl) ?_
    refine lv_icmp_ge (tgt := 66) hx hb dX8_hoursFor_22 (by decide) (fun c3 => ?_) (fun c3 => ?_)
    · have h := h.1 c3
      refine lv_iload hx hb dX8_hoursFor_66 (lv_at hl 3 rfl) ?_
      exact pr_reti C h hR hS dX8_hoursFor_68
    · have h := h.2 c3
      refine lv_aload_nN hx hb dX8_hoursFor_25 rfl (lv_at hl 2 rfl) ?_
      refine lv_ifnullN (tgt := 60) hx hb dX8_hoursFor_26 (by decide) ?_
      refine lv_iinc (v := (x6 + (1 : Int32))) (lv' := [(6, .int (x6 + (1 : Int32))), (0, .ref (ad 8 0 0)), (2, .int x2), (3, .null), (4, .int x4), (5, .int x5)]) hx hb dX8_hoursFor_60 hl (k := 5) rfl rfl (by decide) rfl (fun ls hl => ?_)
      refine lv_goto (tgt := 18) hx hb dX8_hoursFor_63 (by decide) ?_
      exact ih h hR hS (lv_sub hl [1, 2, 3, 4, 5, 0] rfl)
def wp_X8_hoursFor_L18a (g : Nat → Nat) (Q : Int32 → pr_Sg → Prop) : Nat → pr_Sg → Int32 → Nat → Int32 → Int32 → Int32 → Prop
  | 0, _, _, _, _, _, _ => False
  | n + 1, σ, x2, i3, x4, x5, x6 => ((x5 ≤ x6 → Q x4 σ) ∧
  (¬ x5 ≤ x6 → (wp_X6_canCome g σ i3 x6 (fun r6 σ6 =>
  ((r6 = 0 → wp_X8_hoursFor_L18a g Q n σ6 x2 i3 x4 x5 (x6 + (1 : Int32))) ∧
  (¬ r6 = 0 → (wp_X7_isTaken g σ6 x2 x6 (fun r8 σ8 =>
  ((¬ r8 = 0 → wp_X8_hoursFor_L18a g Q n σ8 x2 i3 x4 x5 (x6 + (1 : Int32))) ∧
  (r8 = 0 → wp_X8_hoursFor_L18a g Q n σ8 x2 i3 (x4 ||| ((1 : Int32) <<< (x6 &&& 31))) x5 (x6 + (1 : Int32))))))))))))
set_option maxHeartbeats 4000000 in
set_option maxRecDepth 100000 in
theorem t_X8_hoursFor_L18a {p : Program} {l : Launch} {e : Env} {s : State} {m : MethodId} {args : Array Value} {below : List Frame} {meth : Method} {c : Code} {D : va_G} {cs : Nat → ClassId} {A : Nat → Prop} {ad : pr_Ad} {g : Nat → Nat} {Q : Int32 → pr_Sg → Prop} (C : pr_C RX8 cX8_hoursFor 7 (some .int) D cs p s m args meth c) (n : Nat) : ∀ {H : Heap} {locs : List Loc} {ls : Array Slot} {σ : pr_Sg} {x2 : Int32} {i3 : Nat} {x4 : Int32} {x5 : Int32} {x6 : Int32} (_ : wp_X8_hoursFor_L18a g Q n σ x2 i3 x4 x5 x6) (_ : pr_R D cs A ad g σ H) (_ : va_S A s.heap H locs) (_ : pr_lv g 6 i3 0) (_ : lv_has ls 7 [(0, .ref (ad 8 0 0)), (2, .int x2), (3, .ref (ad 6 i3 0)), (4, .int x4), (5, .int x5), (6, .int x6)]), W p l e rm_X8_hoursFor s m args below meth c H locs 0 0 (MQ below (va_Qi Q (pr_E D cs A ad g) A) args s 0 0 A) (F0 m 18 ls []) := by
  induction n with
  | zero =>
    intro H locs ls σ x2 i3 x4 x5 x6 h
    exact False.elim h
  | succ n ih =>
    intro H locs ls σ x2 i3 x4 x5 x6 h hR hS hi3 hl
    unfold wp_X8_hoursFor_L18a at h
    obtain ⟨hx, hb, hml, hown, hts, hK, hr, hlocks⟩ := id C
    refine lv_iload hx hb dX8_hoursFor_18 (lv_at hl 5 rfl) ?_
    refine lv_iload hx hb dX8_hoursFor_20 (lv_at hl 4 rfl) ?_
    refine lv_icmp_ge (tgt := 66) hx hb dX8_hoursFor_22 (by decide) (fun c5 => ?_) (fun c5 => ?_)
    · have h := h.1 c5
      refine lv_iload hx hb dX8_hoursFor_66 (lv_at hl 3 rfl) ?_
      exact pr_reti C h hR hS dX8_hoursFor_68
    · have h := h.2 c5
      refine lv_aload_n hx hb dX8_hoursFor_25 rfl (lv_at hl 2 rfl) ?_
      refine lv_ifnull hx hb dX8_hoursFor_26 ?_
      refine lv_aload_n hx hb dX8_hoursFor_29 rfl (lv_at hl 2 rfl) ?_
      refine lv_iload hx hb dX8_hoursFor_30 (lv_at hl 5 rfl) ?_
      refine pr_calli hS (pr_runV (As := [.int x6]) (rest := []) C hR hi3 (by omega) rfl (c_X6_canCome hi3 h) gw_RX8_131 rfl rfl hd_X6_canCome ⟨Nat.le_of_ble_eq_true rfl, Nat.le_of_ble_eq_true rfl⟩ rfl hl.1 rfl (Nat.le_of_ble_eq_true rfl) dX8_hoursFor_32 ⟨Nat.zero_le _, Nat.zero_le _⟩) (fun r6 σ6 H locs h hR hS => ?_)
      obtain ⟨hz6, h⟩ := h
      refine lv_if_eq (tgt := 60) hx hb dX8_hoursFor_35 (by decide) (fun c7 => ?_) (fun c7 => ?_)
      · have h := h.1 c7
        refine lv_iinc (v := (x6 + (1 : Int32))) (lv' := [(6, .int (x6 + (1 : Int32))), (0, .ref (ad 8 0 0)), (2, .int x2), (3, .ref (ad 6 i3 0)), (4, .int x4), (5, .int x5)]) hx hb dX8_hoursFor_60 hl (k := 5) rfl rfl (by decide) rfl (fun ls hl => ?_)
        refine lv_goto (tgt := 18) hx hb dX8_hoursFor_63 (by decide) ?_
        exact ih h hR hS hi3 (lv_sub hl [1, 2, 3, 4, 5, 0] rfl)
      · have h := h.2 c7
        refine lv_aload_n hx hb dX8_hoursFor_38 rfl (lv_at hl 0 rfl) ?_
        refine gf_RX8_41 C hR pr_l8 dX8_hoursFor_39 ?_
        refine lv_iload_n hx hb dX8_hoursFor_42 rfl (lv_at hl 1 rfl) ?_
        refine lv_iload hx hb dX8_hoursFor_43 (lv_at hl 5 rfl) ?_
        refine pr_calli hS (pr_runV (As := [.int x2, .int x6]) (rest := []) C hR pr_l7 (by omega) rfl (c_X7_isTaken h) gw_RX8_134 rfl rfl hd_X7_isTaken ⟨Nat.le_of_ble_eq_true rfl, Nat.le_of_ble_eq_true rfl⟩ rfl hl.1 rfl (Nat.le_of_ble_eq_true rfl) dX8_hoursFor_45 ⟨Nat.zero_le _, Nat.zero_le _⟩) (fun r8 σ8 H locs h hR hS => ?_)
        obtain ⟨hz8, h⟩ := h
        refine lv_if_ne (tgt := 60) hx hb dX8_hoursFor_48 (by decide) (fun c9 => ?_) (fun c9 => ?_)
        · have h := h.1 c9
          refine lv_iinc (v := (x6 + (1 : Int32))) (lv' := [(6, .int (x6 + (1 : Int32))), (0, .ref (ad 8 0 0)), (2, .int x2), (3, .ref (ad 6 i3 0)), (4, .int x4), (5, .int x5)]) hx hb dX8_hoursFor_60 hl (k := 5) rfl rfl (by decide) rfl (fun ls hl => ?_)
          refine lv_goto (tgt := 18) hx hb dX8_hoursFor_63 (by decide) ?_
          exact ih h hR hS hi3 (lv_sub hl [1, 2, 3, 4, 5, 0] rfl)
        · have h := h.2 c9
          refine lv_iload hx hb dX8_hoursFor_51 (lv_at hl 3 rfl) ?_
          refine lv_iconst (v := (1 : Int32)) hx hb dX8_hoursFor_53 (by decide) ?_
          refine lv_iload hx hb dX8_hoursFor_54 (lv_at hl 5 rfl) ?_
          refine lv_ishl hx hb dX8_hoursFor_56 ?_
          refine lv_ior hx hb dX8_hoursFor_57 ?_
          refine lv_istore (lv' := [(4, .int (x4 ||| ((1 : Int32) <<< (x6 &&& 31)))), (0, .ref (ad 8 0 0)), (2, .int x2), (3, .ref (ad 6 i3 0)), (5, .int x5), (6, .int x6)]) hx hb dX8_hoursFor_58 hl (by decide) rfl (fun ls hl => ?_)
          refine lv_iinc (v := (x6 + (1 : Int32))) (lv' := [(6, .int (x6 + (1 : Int32))), (4, .int (x4 ||| ((1 : Int32) <<< (x6 &&& 31)))), (0, .ref (ad 8 0 0)), (2, .int x2), (3, .ref (ad 6 i3 0)), (5, .int x5)]) hx hb dX8_hoursFor_60 hl (k := 5) rfl rfl (by decide) rfl (fun ls hl => ?_)
          refine lv_goto (tgt := 18) hx hb dX8_hoursFor_63 (by decide) ?_
          exact ih h hR hS hi3 (lv_sub hl [2, 3, 4, 1, 5, 0] rfl)
def wpb_X8_hoursFor (g : Nat → Nat) (σ : pr_Sg) (a1 : Int32) (a2 : Int32) (Q : Int32 → pr_Sg → Prop) : Prop :=
  (wp_X8_sitterAt g σ a1 (fun x1 σ1 =>
  (x1 = none → (wp_X8_lightHours g σ1 a2 (fun r2 σ2 =>
  (∃ n : Nat, wp_X8_hoursFor_L18 g Q n σ2 a2 (0 : Int32) r2 (0 : Int32))))) ∧
  (∀ i1q : Nat, x1 = some (i1q, 0) → (wp_X8_lightHours g σ1 a2 (fun r4 σ4 =>
  (∃ n : Nat, wp_X8_hoursFor_L18a g Q n σ4 a2 i1q (0 : Int32) r4 (0 : Int32)))))))
set_option maxHeartbeats 4000000 in
set_option maxRecDepth 100000 in
theorem t_X8_hoursFor {p : Program} {l : Launch} {e : Env} {s : State} {m : MethodId} {args : Array Value} {below : List Frame} {meth : Method} {c : Code} {D : va_G} {cs : Nat → ClassId} {A : Nat → Prop} {ad : pr_Ad} {g : Nat → Nat} {Q : Int32 → pr_Sg → Prop} (C : pr_C RX8 cX8_hoursFor 7 (some .int) D cs p s m args meth c) {H : Heap} {locs : List Loc} {ls : Array Slot} {σ : pr_Sg} {a1 : Int32} {a2 : Int32} (h : wpb_X8_hoursFor g σ a1 a2 Q) (hR : pr_R D cs A ad g σ H) (hS : va_S A s.heap H locs) (hl : lv_has ls 7 [(0, .ref (ad 8 0 0)), (1, .int a1), (2, .int a2)]) : W p l e rm_X8_hoursFor s m args below meth c H locs 0 0 (MQ below (va_Qi Q (pr_E D cs A ad g) A) args s 0 0 A) (F0 m 0 ls []) := by
  unfold wpb_X8_hoursFor at h
  obtain ⟨hx, hb, hml, hown, hts, hK, hr, hlocks⟩ := id C
  refine lv_aload_n hx hb dX8_hoursFor_0 rfl (lv_at hl 0 rfl) ?_
  refine lv_iload_n hx hb dX8_hoursFor_1 rfl (lv_at hl 1 rfl) ?_
  refine pr_callr hS (pr_runV (As := [.int a1]) (rest := []) C hR pr_l8 (by omega) rfl (c_X8_sitterAt h) gw_RX8_81 rfl rfl hd_X8_sitterAt ⟨Nat.le_of_ble_eq_true rfl, Nat.le_of_ble_eq_true rfl⟩ rfl hl.1 rfl (Nat.le_of_ble_eq_true rfl) dX8_hoursFor_2 ⟨Nat.zero_le _, Nat.zero_le _⟩) (fun σ1 H locs h hR hS => ?_) (fun i1q j1q σ1 H locs h hv1 hR hS => ?_)
  · have h := h.1 rfl
    refine lv_astore_nN (lv' := [(3, .null), (0, .ref (ad 8 0 0)), (1, .int a1), (2, .int a2)]) hx hb dX8_hoursFor_5 rfl hl (by decide) rfl (fun ls hl => ?_)
    refine lv_iconst (v := (0 : Int32)) hx hb dX8_hoursFor_6 (by decide) ?_
    refine lv_istore (lv' := [(4, .int (0 : Int32)), (3, .null), (0, .ref (ad 8 0 0)), (1, .int a1), (2, .int a2)]) hx hb dX8_hoursFor_7 hl (by decide) rfl (fun ls hl => ?_)
    refine lv_iload_n hx hb dX8_hoursFor_9 rfl (lv_at hl 4 rfl) ?_
    refine pr_calli hS (pr_runS (As := [.int a2]) (rest := []) C hR (c_X8_lightHours h) gw_RX8_113 rfl rfl hs_X8_lightHours ⟨Nat.le_of_ble_eq_true rfl, Nat.le_of_ble_eq_true rfl⟩ rfl hl.1 rfl (Nat.le_of_ble_eq_true rfl) dX8_hoursFor_10 ⟨Nat.zero_le _, Nat.zero_le _⟩) (fun r2 σ2 H locs h hR hS => ?_)
    refine lv_istore (lv' := [(5, .int r2), (4, .int (0 : Int32)), (3, .null), (0, .ref (ad 8 0 0)), (1, .int a1), (2, .int a2)]) hx hb dX8_hoursFor_13 hl (by decide) rfl (fun ls hl => ?_)
    refine lv_iconst (v := (0 : Int32)) hx hb dX8_hoursFor_15 (by decide) ?_
    refine lv_istore (lv' := [(6, .int (0 : Int32)), (5, .int r2), (4, .int (0 : Int32)), (3, .null), (0, .ref (ad 8 0 0)), (1, .int a1), (2, .int a2)]) hx hb dX8_hoursFor_16 hl (by decide) rfl (fun ls hl => ?_)
    obtain ⟨n1, h⟩ := h
    exact t_X8_hoursFor_L18 C n1 h hR hS (lv_sub hl [4, 6, 3, 2, 1, 0] rfl)
  · obtain rfl : j1q = 0 := pr_lvj (by decide) hv1
    have h := h.2 i1q rfl
    refine lv_astore_n (lv' := [(3, .ref (ad 6 i1q 0)), (0, .ref (ad 8 0 0)), (1, .int a1), (2, .int a2)]) hx hb dX8_hoursFor_5 rfl hl (by decide) rfl (fun ls hl => ?_)
    refine lv_iconst (v := (0 : Int32)) hx hb dX8_hoursFor_6 (by decide) ?_
    refine lv_istore (lv' := [(4, .int (0 : Int32)), (3, .ref (ad 6 i1q 0)), (0, .ref (ad 8 0 0)), (1, .int a1), (2, .int a2)]) hx hb dX8_hoursFor_7 hl (by decide) rfl (fun ls hl => ?_)
    refine lv_iload_n hx hb dX8_hoursFor_9 rfl (lv_at hl 4 rfl) ?_
    refine pr_calli hS (pr_runS (As := [.int a2]) (rest := []) C hR (c_X8_lightHours h) gw_RX8_113 rfl rfl hs_X8_lightHours ⟨Nat.le_of_ble_eq_true rfl, Nat.le_of_ble_eq_true rfl⟩ rfl hl.1 rfl (Nat.le_of_ble_eq_true rfl) dX8_hoursFor_10 ⟨Nat.zero_le _, Nat.zero_le _⟩) (fun r4 σ4 H locs h hR hS => ?_)
    refine lv_istore (lv' := [(5, .int r4), (4, .int (0 : Int32)), (3, .ref (ad 6 i1q 0)), (0, .ref (ad 8 0 0)), (1, .int a1), (2, .int a2)]) hx hb dX8_hoursFor_13 hl (by decide) rfl (fun ls hl => ?_)
    refine lv_iconst (v := (0 : Int32)) hx hb dX8_hoursFor_15 (by decide) ?_
    refine lv_istore (lv' := [(6, .int (0 : Int32)), (5, .int r4), (4, .int (0 : Int32)), (3, .ref (ad 6 i1q 0)), (0, .ref (ad 8 0 0)), (1, .int a1), (2, .int a2)]) hx hb dX8_hoursFor_16 hl (by decide) rfl (fun ls hl => ?_)
    obtain ⟨n1, h⟩ := h
    exact t_X8_hoursFor_L18a C n1 h hR hS hv1 (lv_sub hl [4, 6, 3, 2, 1, 0] rfl)
abbrev wp_X8_hoursFor (g : Nat → Nat) (σ : pr_Sg) (a1 : Int32) (a2 : Int32) (Q : Int32 → pr_Sg → Prop) : Prop := wpb_X8_hoursFor g σ a1 a2 Q
set_option maxHeartbeats 4000000 in
set_option maxRecDepth 100000 in
theorem c_X8_hoursFor {l : Launch} {D : va_G} {cs : Nat → ClassId} {A : Nat → Prop} {ad : pr_Ad} {g : Nat → Nat} {σ : pr_Sg} {a1 : Int32} {a2 : Int32} {Q : Int32 → pr_Sg → Prop} (h : wp_X8_hoursFor g σ a1 a2 Q) : pr_Mi l D cs A ad g yX8_hoursFor cX8_hoursFor 7 (some .int) rm_X8_hoursFor [.ref (ad 8 0 0), .int a1, .int a2] σ Q := by
  refine Met.ofW (cc := cX8_hoursFor) (maxL := 7) (ret := (some .int)) (by decide) rfl ?_
  intro p e s m args below meth c s₁ B hml hv
  obtain ⟨rfl, hR, hK⟩ := hv
  have C : pr_C RX8 cX8_hoursFor 7 (some .int) D cs p s m [.ref (ad 8 0 0), .int a1, .int a2].toArray meth c := pr_C.of B hml hK
  have hS : va_S A s.heap s.heap [] := va_S.rf
  have hl := lv_entry ([.ref (ad 8 0 0), .int a1, .int a2]) (n := 7) (Nat.le_of_ble_eq_true rfl)
  rw [lg_entry_eq]
  generalize (lg_sl ([.ref (ad 8 0 0), .int a1, .int a2]) ++ List.replicate (7 - (lg_sl ([.ref (ad 8 0 0), .int a1, .int a2])).length) Slot.unset).toArray = ls at hl ⊢
  have hl : lv_has ls 7 [(0, .ref (ad 8 0 0)), (1, .int a1), (2, .int a2)] := hl
  exact t_X8_hoursFor C h hR hS hl
def rm_X8_search (d : Nat) : Room := { frames := d + 1, cells := 0, slots := 0, locals := 28 * d + 22 }
theorem hs_X8_search : yX8_search.cls ≠ "java/lang/invoke/MethodHandle" ∧ yX8_search.cls ≠ "java/lang/invoke/VarHandle" ∧ (parseMethodDescriptor yX8_search.desc).map (fun d => d.parameters.length) = some 5 := ⟨by decide, by decide, by decide +kernel⟩
def wp_X8_search_L66 (g : Nat → Nat) (rec : pr_Sg → Int32 → Int32 → Int32 → Int32 → (pr_Sg → Prop) → Prop) (Q : pr_Sg → Prop) : Nat → pr_Sg → Int32 → Int32 → Int32 → Int32 → Int32 → Int32 → Int32 → Prop
  | 0, _, _, _, _, _, _, _, _ => False
  | n + 1, σ, x1, x2, x3, x4, x5, x6, x7 => (((6 : Int32) ≤ x7 → (vp_in x1 5 ∧ ∀ σ8 : pr_Sg, σ8 = pr_up σ 1034 0 (x1).toNatClampNeg (-1 : Int32) →
  (rec σ8 (x1 + (1 : Int32)) x2 x3 (x4 - x5) (fun σ9 =>
  Q σ9)))) ∧
  (¬ (6 : Int32) ≤ x7 → (((x6 &&& ((1 : Int32) <<< (x7 &&& 31))) = 0 → wp_X8_search_L66 g rec Q n σ x1 x2 x3 x4 x5 x6 (x7 + (1 : Int32))) ∧
  (¬ (x6 &&& ((1 : Int32) <<< (x7 &&& 31))) = 0 → (vp_in x1 5 ∧ ∀ σ11 : pr_Sg, σ11 = pr_up σ 1034 0 (x1).toNatClampNeg x7 →
  (rec σ11 (x1 + (1 : Int32)) (x2 ||| ((1 : Int32) <<< (x7 &&& 31))) (x3 + x5) (x4 - x5) (fun σ12 =>
  wp_X8_search_L66 g rec Q n σ12 x1 x2 x3 x4 x5 x6 (x7 + (1 : Int32)))))))))
set_option maxHeartbeats 4000000 in
set_option maxRecDepth 100000 in
theorem t_X8_search_L66 {p : Program} {l : Launch} {e : Env} {s : State} {m : MethodId} {args : Array Value} {below : List Frame} {meth : Method} {c : Code} {D : va_G} {cs : Nat → ClassId} {A : Nat → Prop} {ad : pr_Ad} {g : Nat → Nat} {Q : pr_Sg → Prop} {rec : pr_Sg → Int32 → Int32 → Int32 → Int32 → (pr_Sg → Prop) → Prop} {d : Nat} (hrec : ∀ (σ : pr_Sg) (a2 : Int32) (a3 : Int32) (a4 : Int32) (a5 : Int32) (Q : pr_Sg → Prop), rec σ a2 a3 a4 a5 Q → pr_Mv l D cs A ad g yX8_search cX8_search 9 (rm_X8_search d) [.ref (ad 4 0 0), .int a2, .int a3, .int a4, .int a5] σ Q) (C : pr_C RX8 cX8_search 9 none D cs p s m args meth c) (n : Nat) : ∀ {H : Heap} {locs : List Loc} {ls : Array Slot} {σ : pr_Sg} {x1 : Int32} {x2 : Int32} {x3 : Int32} {x4 : Int32} {x5 : Int32} {x6 : Int32} {x7 : Int32} (_ : wp_X8_search_L66 g rec Q n σ x1 x2 x3 x4 x5 x6 x7) (_ : pr_R D cs A ad g σ H) (_ : va_S A s.heap H locs) (_ : lv_has ls 9 [(0, .ref (ad 4 0 0)), (1, .int x1), (2, .int x2), (3, .int x3), (4, .int x4), (5, .int x5), (6, .int x6), (7, .int x7)]), W p l e (rm_X8_search (d + 1)) s m args below meth c H locs 0 0 (MQ below (va_Qv Q (pr_E D cs A ad g) A) args s 0 0 A) (F0 m 66 ls []) := by
  induction n with
  | zero =>
    intro H locs ls σ x1 x2 x3 x4 x5 x6 x7 h
    exact False.elim h
  | succ n ih =>
    intro H locs ls σ x1 x2 x3 x4 x5 x6 x7 h hR hS hl
    unfold wp_X8_search_L66 at h
    obtain ⟨hx, hb, hml, hown, hts, hK, hr, hlocks⟩ := id C
    refine lv_iload hx hb dX8_search_66 (lv_at hl 7 rfl) ?_
    refine lv_bipush (v := (6 : Int32)) hx hb dX8_search_68 (by decide) ?_
    refine lv_icmp_ge (tgt := 121) hx hb dX8_search_70 (by decide) (fun c7 => ?_) (fun c7 => ?_)
    · have h := h.1 c7
      refine lv_aload_n hx hb dX8_search_121 rfl (lv_at hl 0 rfl) ?_
      refine gf_RX8_308 C hR pr_l4 dX8_search_122 ?_
      refine lv_iload_n hx hb dX8_search_125 rfl (lv_at hl 1 rfl) ?_
      refine lv_iconst (v := (-1 : Int32)) hx hb dX8_search_126 (by decide) ?_
      refine pr_ast hx hb hK hR hS pr_l34 (by omega) (by omega) (n := 5) (by decide) h.1 dX8_search_127 (t := 1034) rfl (fun H locs σ8 e8 hR hS => ?_)
      have h := h.2 σ8 e8
      refine lv_aload_n hx hb dX8_search_128 rfl (lv_at hl 0 rfl) ?_
      refine lv_iload_n hx hb dX8_search_129 rfl (lv_at hl 1 rfl) ?_
      refine lv_iconst (v := (1 : Int32)) hx hb dX8_search_130 (by decide) ?_
      refine lv_iadd hx hb dX8_search_131 ?_
      refine lv_iload_n hx hb dX8_search_132 rfl (lv_at hl 2 rfl) ?_
      refine lv_iload_n hx hb dX8_search_133 rfl (lv_at hl 3 rfl) ?_
      refine lv_iload hx hb dX8_search_134 (lv_at hl 4 rfl) ?_
      refine lv_iload hx hb dX8_search_136 (lv_at hl 5 rfl) ?_
      refine lv_isub hx hb dX8_search_138 ?_
      refine pr_callv hS (pr_runS (As := [.ref (ad 4 0 0), .int (x1 + (1 : Int32)), .int x2, .int x3, .int (x4 - x5)]) (rest := []) C hR (hrec _ _ _ _ _ _ h) gw_RX8_292 rfl rfl hs_X8_search ⟨by show _ + 1 ≤ d + 1 + 1; unfold rm_X8_search; dsimp only; omega, by show 8 + (9 + 11) + _ ≤ 28 * (d + 1) + 22; unfold rm_X8_search; dsimp only; omega⟩ rfl hl.1 rfl (Nat.le_of_ble_eq_true rfl) dX8_search_139 ⟨Nat.zero_le _, Nat.zero_le _⟩) (fun σ9 H locs h hR hS => ?_)
      exact pr_retv C h hR hS dX8_search_142
    · have h := h.2 c7
      refine lv_iconst (v := (1 : Int32)) hx hb dX8_search_73 (by decide) ?_
      refine lv_iload hx hb dX8_search_74 (lv_at hl 7 rfl) ?_
      refine lv_ishl hx hb dX8_search_76 ?_
      refine lv_istore (lv' := [(8, .int ((1 : Int32) <<< (x7 &&& 31))), (0, .ref (ad 4 0 0)), (1, .int x1), (2, .int x2), (3, .int x3), (4, .int x4), (5, .int x5), (6, .int x6), (7, .int x7)]) hx hb dX8_search_77 hl (by decide) rfl (fun ls hl => ?_)
      refine lv_iload hx hb dX8_search_79 (lv_at hl 7 rfl) ?_
      refine lv_iload hx hb dX8_search_81 (lv_at hl 0 rfl) ?_
      refine lv_iand hx hb dX8_search_83 ?_
      refine lv_if_eq (tgt := 115) hx hb dX8_search_84 (by decide) (fun c10 => ?_) (fun c10 => ?_)
      · have h := h.1 c10
        refine lv_iinc (v := (x7 + (1 : Int32))) (lv' := [(7, .int (x7 + (1 : Int32))), (8, .int ((1 : Int32) <<< (x7 &&& 31))), (0, .ref (ad 4 0 0)), (1, .int x1), (2, .int x2), (3, .int x3), (4, .int x4), (5, .int x5), (6, .int x6)]) hx hb dX8_search_115 hl (k := 8) rfl rfl (by decide) rfl (fun ls hl => ?_)
        refine lv_goto (tgt := 66) hx hb dX8_search_118 (by decide) ?_
        exact ih h hR hS (lv_sub hl [2, 3, 4, 5, 6, 7, 8, 0] rfl)
      · have h := h.2 c10
        refine lv_aload_n hx hb dX8_search_87 rfl (lv_at hl 1 rfl) ?_
        refine gf_RX8_308 C hR pr_l4 dX8_search_88 ?_
        refine lv_iload_n hx hb dX8_search_91 rfl (lv_at hl 2 rfl) ?_
        refine lv_iload hx hb dX8_search_92 (lv_at hl 8 rfl) ?_
        refine pr_ast hx hb hK hR hS pr_l34 (by omega) (by omega) (n := 5) (by decide) h.1 dX8_search_94 (t := 1034) rfl (fun H locs σ11 e11 hR hS => ?_)
        have h := h.2 σ11 e11
        refine lv_aload_n hx hb dX8_search_95 rfl (lv_at hl 1 rfl) ?_
        refine lv_iload_n hx hb dX8_search_96 rfl (lv_at hl 2 rfl) ?_
        refine lv_iconst (v := (1 : Int32)) hx hb dX8_search_97 (by decide) ?_
        refine lv_iadd hx hb dX8_search_98 ?_
        refine lv_iload_n hx hb dX8_search_99 rfl (lv_at hl 3 rfl) ?_
        refine lv_iload hx hb dX8_search_100 (lv_at hl 0 rfl) ?_
        refine lv_ior hx hb dX8_search_102 ?_
        refine lv_iload_n hx hb dX8_search_103 rfl (lv_at hl 4 rfl) ?_
        refine lv_iload hx hb dX8_search_104 (lv_at hl 6 rfl) ?_
        refine lv_iadd hx hb dX8_search_106 ?_
        refine lv_iload hx hb dX8_search_107 (lv_at hl 5 rfl) ?_
        refine lv_iload hx hb dX8_search_109 (lv_at hl 6 rfl) ?_
        refine lv_isub hx hb dX8_search_111 ?_
        refine pr_callv hS (pr_runS (As := [.ref (ad 4 0 0), .int (x1 + (1 : Int32)), .int (x2 ||| ((1 : Int32) <<< (x7 &&& 31))), .int (x3 + x5), .int (x4 - x5)]) (rest := []) C hR (hrec _ _ _ _ _ _ h) gw_RX8_292 rfl rfl hs_X8_search ⟨by show _ + 1 ≤ d + 1 + 1; unfold rm_X8_search; dsimp only; omega, by show 8 + (9 + 11) + _ ≤ 28 * (d + 1) + 22; unfold rm_X8_search; dsimp only; omega⟩ rfl hl.1 rfl (Nat.le_of_ble_eq_true rfl) dX8_search_112 ⟨Nat.zero_le _, Nat.zero_le _⟩) (fun σ12 H locs h hR hS => ?_)
        refine lv_iinc (v := (x7 + (1 : Int32))) (lv' := [(7, .int (x7 + (1 : Int32))), (8, .int ((1 : Int32) <<< (x7 &&& 31))), (0, .ref (ad 4 0 0)), (1, .int x1), (2, .int x2), (3, .int x3), (4, .int x4), (5, .int x5), (6, .int x6)]) hx hb dX8_search_115 hl (k := 8) rfl rfl (by decide) rfl (fun ls hl => ?_)
        refine lv_goto (tgt := 66) hx hb dX8_search_118 (by decide) ?_
        exact ih h hR hS (lv_sub hl [2, 3, 4, 5, 6, 7, 8, 0] rfl)
def wpb_X8_search (g : Nat → Nat) (rec : pr_Sg → Int32 → Int32 → Int32 → Int32 → (pr_Sg → Prop) → Prop) (σ : pr_Sg) (a2 : Int32) (a3 : Int32) (a4 : Int32) (a5 : Int32) (Q : pr_Sg → Prop) : Prop :=
  (((σ 264 0 0) < (a4 + a5) → (((σ 262 0 0) ≤ a2 → (wp_X4_keep g σ a4 (fun σ3 =>
  Q σ3))) ∧
  (¬ (σ 262 0 0) ≤ a2 → ((a2 < (5 : Int32) → (vp_in a2 5 ∧ (wp_X4_sitterIsPlaced g σ a2 (fun r5 σ5 =>
  ((r5 = 0 → (vp_in a2 5 ∧ (∃ n : Nat, wp_X8_search_L66 g rec Q n σ5 a2 a3 a4 a5 (σ 1033 0 (a2).toNatClampNeg) ((σ5 1032 0 (a2).toNatClampNeg) &&& (a3 ^^^ (-1 : Int32))) (0 : Int32)))) ∧
  (¬ r5 = 0 → (∃ n : Nat, wp_X8_search_L66 g rec Q n σ5 a2 a3 a4 a5 (σ 1033 0 (a2).toNatClampNeg) (0 : Int32) (0 : Int32)))))))) ∧
  (¬ a2 < (5 : Int32) → (wp_X4_keep g σ a4 (fun σ13 =>
  Q σ13))))))) ∧
  (¬ (σ 264 0 0) < (a4 + a5) → Q σ))
set_option maxHeartbeats 4000000 in
set_option maxRecDepth 100000 in
theorem t_X8_search {p : Program} {l : Launch} {e : Env} {s : State} {m : MethodId} {args : Array Value} {below : List Frame} {meth : Method} {c : Code} {D : va_G} {cs : Nat → ClassId} {A : Nat → Prop} {ad : pr_Ad} {g : Nat → Nat} {Q : pr_Sg → Prop} {rec : pr_Sg → Int32 → Int32 → Int32 → Int32 → (pr_Sg → Prop) → Prop} {d : Nat} (hrec : ∀ (σ : pr_Sg) (a2 : Int32) (a3 : Int32) (a4 : Int32) (a5 : Int32) (Q : pr_Sg → Prop), rec σ a2 a3 a4 a5 Q → pr_Mv l D cs A ad g yX8_search cX8_search 9 (rm_X8_search d) [.ref (ad 4 0 0), .int a2, .int a3, .int a4, .int a5] σ Q) (C : pr_C RX8 cX8_search 9 none D cs p s m args meth c) {H : Heap} {locs : List Loc} {ls : Array Slot} {σ : pr_Sg} {a2 : Int32} {a3 : Int32} {a4 : Int32} {a5 : Int32} (h : wpb_X8_search g rec σ a2 a3 a4 a5 Q) (hR : pr_R D cs A ad g σ H) (hS : va_S A s.heap H locs) (hl : lv_has ls 9 [(0, .ref (ad 4 0 0)), (1, .int a2), (2, .int a3), (3, .int a4), (4, .int a5)]) : W p l e (rm_X8_search (d + 1)) s m args below meth c H locs 0 0 (MQ below (va_Qv Q (pr_E D cs A ad g) A) args s 0 0 A) (F0 m 0 ls []) := by
  unfold wpb_X8_search at h
  obtain ⟨hx, hb, hml, hown, hts, hK, hr, hlocks⟩ := id C
  refine lv_iload_n hx hb dX8_search_0 rfl (lv_at hl 3 rfl) ?_
  refine lv_iload hx hb dX8_search_1 (lv_at hl 4 rfl) ?_
  refine lv_iadd hx hb dX8_search_3 ?_
  refine lv_aload_n hx hb dX8_search_4 rfl (lv_at hl 0 rfl) ?_
  refine gf_RX8_170 C hR pr_l4 dX8_search_5 ?_
  refine lv_icmp_gt (tgt := 12) hx hb dX8_search_8 (by decide) (fun c1 => ?_) (fun c1 => ?_)
  · have h := h.1 c1
    refine lv_iload_n hx hb dX8_search_12 rfl (lv_at hl 1 rfl) ?_
    refine lv_aload_n hx hb dX8_search_13 rfl (lv_at hl 0 rfl) ?_
    refine gf_RX8_286 C hR pr_l4 dX8_search_14 ?_
    refine lv_icmp_ge (tgt := 25) hx hb dX8_search_17 (by decide) (fun c2 => ?_) (fun c2 => ?_)
    · have h := h.1 c2
      refine lv_aload_n hx hb dX8_search_25 rfl (lv_at hl 0 rfl) ?_
      refine lv_iload_n hx hb dX8_search_26 rfl (lv_at hl 3 rfl) ?_
      refine pr_callv hS (pr_runV (As := [.int a4]) (rest := []) C hR pr_l4 (by omega) rfl (c_X4_keep h) gw_RX8_296 rfl rfl hd_X4_keep ⟨by show _ + 1 ≤ d + 1 + 1; unfold rm_X4_keep; dsimp only; omega, by show 8 + (3 + 11) + _ ≤ 28 * (d + 1) + 22; unfold rm_X4_keep; dsimp only; omega⟩ rfl hl.1 rfl (Nat.le_of_ble_eq_true rfl) dX8_search_27 ⟨Nat.zero_le _, Nat.zero_le _⟩) (fun σ3 H locs h hR hS => ?_)
      exact pr_retv C h hR hS dX8_search_30
    · have h := h.2 c2
      refine lv_iload_n hx hb dX8_search_20 rfl (lv_at hl 1 rfl) ?_
      refine lv_iconst (v := (5 : Int32)) hx hb dX8_search_21 (by decide) ?_
      refine lv_icmp_lt (tgt := 31) hx hb dX8_search_22 (by decide) (fun c4 => ?_) (fun c4 => ?_)
      · have h := h.1 c4
        refine lv_aload_n hx hb dX8_search_31 rfl (lv_at hl 0 rfl) ?_
        refine gf_RX8_299 C hR pr_l4 dX8_search_32 ?_
        refine lv_iload_n hx hb dX8_search_35 rfl (lv_at hl 1 rfl) ?_
        refine pr_ald hx hb hK hR pr_l33 (by omega) (by omega) (n := 5) (by decide) h.1 dX8_search_36 (t := 1033) rfl ?_
        have h := h.2
        refine lv_istore (lv' := [(5, .int (σ 1033 0 (a2).toNatClampNeg)), (0, .ref (ad 4 0 0)), (1, .int a2), (2, .int a3), (3, .int a4), (4, .int a5)]) hx hb dX8_search_37 hl (by decide) rfl (fun ls hl => ?_)
        refine lv_aload_n hx hb dX8_search_39 rfl (lv_at hl 1 rfl) ?_
        refine lv_iload_n hx hb dX8_search_40 rfl (lv_at hl 2 rfl) ?_
        refine pr_calli hS (pr_runV (As := [.int a2]) (rest := []) C hR pr_l4 (by omega) rfl (c_X4_sitterIsPlaced h) gw_RX8_302 rfl rfl hd_X4_sitterIsPlaced ⟨by show _ + 1 ≤ d + 1 + 1; unfold rm_X4_sitterIsPlaced; dsimp only; omega, by show 8 + (3 + 11) + _ ≤ 28 * (d + 1) + 22; unfold rm_X4_sitterIsPlaced; dsimp only; omega⟩ rfl hl.1 rfl (Nat.le_of_ble_eq_true rfl) dX8_search_41 ⟨Nat.zero_le _, Nat.zero_le _⟩) (fun r5 σ5 H locs h hR hS => ?_)
        obtain ⟨hz5, h⟩ := h
        refine lv_if_eq (tgt := 51) hx hb dX8_search_44 (by decide) (fun c6 => ?_) (fun c6 => ?_)
        · have h := h.1 c6
          refine lv_aload_n hx hb dX8_search_51 rfl (lv_at hl 1 rfl) ?_
          refine gf_RX8_305 C hR pr_l4 dX8_search_52 ?_
          refine lv_iload_n hx hb dX8_search_55 rfl (lv_at hl 2 rfl) ?_
          refine pr_ald hx hb hK hR pr_l32 (by omega) (by omega) (n := 5) (by decide) h.1 dX8_search_56 (t := 1032) rfl ?_
          have h := h.2
          refine lv_iload_n hx hb dX8_search_57 rfl (lv_at hl 3 rfl) ?_
          refine lv_iconst (v := (-1 : Int32)) hx hb dX8_search_58 (by decide) ?_
          refine lv_ixor hx hb dX8_search_59 ?_
          refine lv_iand hx hb dX8_search_60 ?_
          refine lv_istore (lv' := [(6, .int ((σ5 1032 0 (a2).toNatClampNeg) &&& (a3 ^^^ (-1 : Int32)))), (5, .int (σ 1033 0 (a2).toNatClampNeg)), (0, .ref (ad 4 0 0)), (1, .int a2), (2, .int a3), (3, .int a4), (4, .int a5)]) hx hb dX8_search_61 hl (by decide) rfl (fun ls hl => ?_)
          refine lv_iconst (v := (0 : Int32)) hx hb dX8_search_63 (by decide) ?_
          refine lv_istore (lv' := [(7, .int (0 : Int32)), (6, .int ((σ5 1032 0 (a2).toNatClampNeg) &&& (a3 ^^^ (-1 : Int32)))), (5, .int (σ 1033 0 (a2).toNatClampNeg)), (0, .ref (ad 4 0 0)), (1, .int a2), (2, .int a3), (3, .int a4), (4, .int a5)]) hx hb dX8_search_64 hl (by decide) rfl (fun ls hl => ?_)
          obtain ⟨n1, h⟩ := h
          exact t_X8_search_L66 hrec C n1 h hR hS (lv_sub hl [3, 4, 5, 6, 7, 2, 1, 0] rfl)
        · have h := h.2 c6
          refine lv_iconst (v := (0 : Int32)) hx hb dX8_search_47 (by decide) ?_
          refine lv_goto (tgt := 61) hx hb dX8_search_48 (by decide) ?_
          refine lv_istore (lv' := [(6, .int (0 : Int32)), (5, .int (σ 1033 0 (a2).toNatClampNeg)), (0, .ref (ad 4 0 0)), (1, .int a2), (2, .int a3), (3, .int a4), (4, .int a5)]) hx hb dX8_search_61 hl (by decide) rfl (fun ls hl => ?_)
          refine lv_iconst (v := (0 : Int32)) hx hb dX8_search_63 (by decide) ?_
          refine lv_istore (lv' := [(7, .int (0 : Int32)), (6, .int (0 : Int32)), (5, .int (σ 1033 0 (a2).toNatClampNeg)), (0, .ref (ad 4 0 0)), (1, .int a2), (2, .int a3), (3, .int a4), (4, .int a5)]) hx hb dX8_search_64 hl (by decide) rfl (fun ls hl => ?_)
          obtain ⟨n1, h⟩ := h
          exact t_X8_search_L66 hrec C n1 h hR hS (lv_sub hl [3, 4, 5, 6, 7, 2, 1, 0] rfl)
      · have h := h.2 c4
        refine lv_aload_n hx hb dX8_search_25 rfl (lv_at hl 0 rfl) ?_
        refine lv_iload_n hx hb dX8_search_26 rfl (lv_at hl 3 rfl) ?_
        refine pr_callv hS (pr_runV (As := [.int a4]) (rest := []) C hR pr_l4 (by omega) rfl (c_X4_keep h) gw_RX8_296 rfl rfl hd_X4_keep ⟨by show _ + 1 ≤ d + 1 + 1; unfold rm_X4_keep; dsimp only; omega, by show 8 + (3 + 11) + _ ≤ 28 * (d + 1) + 22; unfold rm_X4_keep; dsimp only; omega⟩ rfl hl.1 rfl (Nat.le_of_ble_eq_true rfl) dX8_search_27 ⟨Nat.zero_le _, Nat.zero_le _⟩) (fun σ13 H locs h hR hS => ?_)
        exact pr_retv C h hR hS dX8_search_30
  · have h := h.2 c1
    exact pr_retv C h hR hS dX8_search_11
def wp_X8_search (g : Nat → Nat) : Nat → pr_Sg → Int32 → Int32 → Int32 → Int32 → (pr_Sg → Prop) → Prop
  | 0, _, _, _, _, _, _ => False
  | d + 1, σ, a2, a3, a4, a5, Q => wpb_X8_search g (wp_X8_search g d) σ a2 a3 a4 a5 Q
set_option maxHeartbeats 4000000 in
set_option maxRecDepth 100000 in
theorem c_X8_search {l : Launch} {D : va_G} {cs : Nat → ClassId} {A : Nat → Prop} {ad : pr_Ad} {g : Nat → Nat} (d : Nat) : ∀ {σ : pr_Sg} {a2 : Int32} {a3 : Int32} {a4 : Int32} {a5 : Int32} {Q : pr_Sg → Prop} (_ : wp_X8_search g d σ a2 a3 a4 a5 Q), pr_Mv l D cs A ad g yX8_search cX8_search 9 (rm_X8_search d) [.ref (ad 4 0 0), .int a2, .int a3, .int a4, .int a5] σ Q := by
  induction d with
  | zero =>
    intro σ a2 a3 a4 a5 Q h
    exact False.elim h
  | succ d ih =>
    intro σ a2 a3 a4 a5 Q h
    unfold wp_X8_search at h
    refine Met.ofW (cc := cX8_search) (maxL := 9) (ret := none) (by decide) rfl ?_
    intro p e s m args below meth c s₁ B hml hv
    obtain ⟨rfl, hR, hK⟩ := hv
    have C : pr_C RX8 cX8_search 9 none D cs p s m [.ref (ad 4 0 0), .int a2, .int a3, .int a4, .int a5].toArray meth c := pr_C.of B hml hK
    have hS : va_S A s.heap s.heap [] := va_S.rf
    have hl := lv_entry ([.ref (ad 4 0 0), .int a2, .int a3, .int a4, .int a5]) (n := 9) (Nat.le_of_ble_eq_true rfl)
    rw [lg_entry_eq]
    generalize (lg_sl ([.ref (ad 4 0 0), .int a2, .int a3, .int a4, .int a5]) ++ List.replicate (9 - (lg_sl ([.ref (ad 4 0 0), .int a2, .int a3, .int a4, .int a5])).length) Slot.unset).toArray = ls at hl ⊢
    have hl : lv_has ls 9 [(0, .ref (ad 4 0 0)), (1, .int a2), (2, .int a3), (3, .int a4), (4, .int a5)] := hl
    exact t_X8_search (fun _ _ _ _ _ _ h => ih h) C h hR hS hl
def rm_X8_makePlan : Room := { frames := 9, cells := 0, slots := 0, locals := 246 }
theorem hd_X8_makePlan : yX8_makePlan.cls = RX8 ∧ yX8_makePlan.cls ≠ "java/lang/invoke/MethodHandle" ∧ yX8_makePlan.cls ≠ "java/lang/invoke/VarHandle" ∧ (parseMethodDescriptor yX8_makePlan.desc).map (fun d => d.parameters.length) = some 1 := ⟨rfl, by decide, by decide, by decide +kernel⟩
def wp_X8_makePlan_L19 (g : Nat → Nat) (Q : Int32 → pr_Sg → Prop) : Nat → pr_Sg → Int32 → Int32 → Prop
  | 0, _, _, _ => False
  | n + 1, σ, x1, x2 => (((σ 523 0 0) ≤ x2 → ((¬ (σ 262 0 0) = 0 → (wp_X8_search g 7 σ (0 : Int32) (0 : Int32) (0 : Int32) (σ 263 0 0) (fun σ6 =>
  Q (1 : Int32) σ6))) ∧
  ((σ 262 0 0) = 0 → Q (0 : Int32) σ))) ∧
  (¬ (σ 523 0 0) ≤ x2 → (wp_X8_pictureAt g σ x2 (fun x7 σ7 =>
  (x7 = none → wp_X8_makePlan_L19 g Q n σ7 x1 (x2 + (1 : Int32))) ∧
  (∀ i7q : Nat, x7 = some (i7q, 0) → (wp_X3_wantsHead g σ7 i7q (fun r8 σ8 =>
  ((r8 = 0 → wp_X8_makePlan_L19 g Q n σ8 x1 (x2 + (1 : Int32))) ∧
  (¬ r8 = 0 → (wp_X7_hasSitter g σ8 x1 (σ8 192 i7q 0) (fun r10 σ10 =>
  ((¬ r10 = 0 → wp_X8_makePlan_L19 g Q n σ10 x1 (x2 + (1 : Int32))) ∧
  (r10 = 0 → (wp_X8_hoursFor g σ10 (σ10 192 i7q 0) x1 (fun r12 σ12 =>
  (wp_X4_add g σ12 x2 (σ10 192 i7q 0) r12 (((1 : Int32) + (σ10 520 0 0)) - (σ10 195 i7q 0)) (fun r13 σ13 =>
  ((¬ r13 = 0 → wp_X8_makePlan_L19 g Q n σ13 x1 (x2 + (1 : Int32))) ∧
  (r13 = 0 → Q (0 : Int32) σ13)))))))))))))))))))
set_option maxHeartbeats 4000000 in
set_option maxRecDepth 100000 in
theorem t_X8_makePlan_L19 {p : Program} {l : Launch} {e : Env} {s : State} {m : MethodId} {args : Array Value} {below : List Frame} {meth : Method} {c : Code} {D : va_G} {cs : Nat → ClassId} {A : Nat → Prop} {ad : pr_Ad} {g : Nat → Nat} {Q : Int32 → pr_Sg → Prop} (C : pr_C RX8 cX8_makePlan 5 (some .boolean) D cs p s m args meth c) (n : Nat) : ∀ {H : Heap} {locs : List Loc} {ls : Array Slot} {σ : pr_Sg} {x1 : Int32} {x2 : Int32} (_ : wp_X8_makePlan_L19 g Q n σ x1 x2) (_ : pr_R D cs A ad g σ H) (_ : va_S A s.heap H locs) (_ : lv_has ls 5 [(0, .ref (ad 8 0 0)), (1, .int x1), (2, .int x2)]), W p l e rm_X8_makePlan s m args below meth c H locs 0 0 (MQ below (va_Qi (pr_Qz Q) (pr_E D cs A ad g) A) args s 0 0 A) (F0 m 19 ls []) := by
  induction n with
  | zero =>
    intro H locs ls σ x1 x2 h
    exact False.elim h
  | succ n ih =>
    intro H locs ls σ x1 x2 h hR hS hl
    unfold wp_X8_makePlan_L19 at h
    obtain ⟨hx, hb, hml, hown, hts, hK, hr, hlocks⟩ := id C
    refine lv_iload_n hx hb dX8_makePlan_19 rfl (lv_at hl 2 rfl) ?_
    refine lv_aload_n hx hb dX8_makePlan_20 rfl (lv_at hl 0 rfl) ?_
    refine gf_RX8_89 C hR pr_l8 dX8_makePlan_21 ?_
    refine lv_icmp_ge (tgt := 106) hx hb dX8_makePlan_24 (by decide) (fun c4 => ?_) (fun c4 => ?_)
    · have h := h.1 c4
      refine lv_aload_n hx hb dX8_makePlan_106 rfl (lv_at hl 0 rfl) ?_
      refine gf_RX8_55 C hR pr_l8 dX8_makePlan_107 ?_
      refine gf_RX8_286 C hR pr_l4 dX8_makePlan_110 ?_
      refine lv_if_ne (tgt := 118) hx hb dX8_makePlan_113 (by decide) (fun c5 => ?_) (fun c5 => ?_)
      · have h := h.1 c5
        refine lv_aload_n hx hb dX8_makePlan_118 rfl (lv_at hl 0 rfl) ?_
        refine gf_RX8_55 C hR pr_l8 dX8_makePlan_119 ?_
        refine lv_iconst (v := (0 : Int32)) hx hb dX8_makePlan_122 (by decide) ?_
        refine lv_iconst (v := (0 : Int32)) hx hb dX8_makePlan_123 (by decide) ?_
        refine lv_iconst (v := (0 : Int32)) hx hb dX8_makePlan_124 (by decide) ?_
        refine lv_aload_n hx hb dX8_makePlan_125 rfl (lv_at hl 0 rfl) ?_
        refine gf_RX8_55 C hR pr_l8 dX8_makePlan_126 ?_
        refine gf_RX8_289 C hR pr_l4 dX8_makePlan_129 ?_
        refine pr_callv hS (pr_runS (As := [.ref (ad 4 0 0), .int (0 : Int32), .int (0 : Int32), .int (0 : Int32), .int (σ 263 0 0)]) (rest := []) C hR (c_X8_search _ h) gw_RX8_292 rfl rfl hs_X8_search ⟨Nat.le_of_ble_eq_true rfl, Nat.le_of_ble_eq_true rfl⟩ rfl hl.1 rfl (Nat.le_of_ble_eq_true rfl) dX8_makePlan_132 ⟨Nat.zero_le _, Nat.zero_le _⟩) (fun σ6 H locs h hR hS => ?_)
        refine lv_iconst (v := (1 : Int32)) hx hb dX8_makePlan_135 (by decide) ?_
        exact pr_retz C (Or.inr rfl) h hR hS dX8_makePlan_136
      · have h := h.2 c5
        refine lv_iconst (v := (0 : Int32)) hx hb dX8_makePlan_116 (by decide) ?_
        exact pr_retz C (Or.inl rfl) h hR hS dX8_makePlan_117
    · have h := h.2 c4
      refine lv_aload_n hx hb dX8_makePlan_27 rfl (lv_at hl 0 rfl) ?_
      refine lv_iload_n hx hb dX8_makePlan_28 rfl (lv_at hl 2 rfl) ?_
      refine pr_callr hS (pr_runV (As := [.int x2]) (rest := []) C hR pr_l8 (by omega) rfl (c_X8_pictureAt h) gw_RX8_117 rfl rfl hd_X8_pictureAt ⟨Nat.le_of_ble_eq_true rfl, Nat.le_of_ble_eq_true rfl⟩ rfl hl.1 rfl (Nat.le_of_ble_eq_true rfl) dX8_makePlan_29 ⟨Nat.zero_le _, Nat.zero_le _⟩) (fun σ7 H locs h hR hS => ?_) (fun i7q j7q σ7 H locs h hv7 hR hS => ?_)
      · have h := h.1 rfl
        refine lv_astore_nN (lv' := [(3, .null), (0, .ref (ad 8 0 0)), (1, .int x1), (2, .int x2)]) hx hb dX8_makePlan_32 rfl hl (by decide) rfl (fun ls hl => ?_)
        refine lv_aload_nN hx hb dX8_makePlan_33 rfl (lv_at hl 0 rfl) ?_
        refine lv_ifnullN (tgt := 100) hx hb dX8_makePlan_34 (by decide) ?_
        refine lv_iinc (v := (x2 + (1 : Int32))) (lv' := [(2, .int (x2 + (1 : Int32))), (3, .null), (0, .ref (ad 8 0 0)), (1, .int x1)]) hx hb dX8_makePlan_100 hl (k := 3) rfl rfl (by decide) rfl (fun ls hl => ?_)
        refine lv_goto (tgt := 19) hx hb dX8_makePlan_103 (by decide) ?_
        exact ih h hR hS (lv_sub hl [2, 3, 0] rfl)
      · obtain rfl : j7q = 0 := pr_lvj (by decide) hv7
        have h := h.2 i7q rfl
        refine lv_astore_n (lv' := [(3, .ref (ad 3 i7q 0)), (0, .ref (ad 8 0 0)), (1, .int x1), (2, .int x2)]) hx hb dX8_makePlan_32 rfl hl (by decide) rfl (fun ls hl => ?_)
        refine lv_aload_n hx hb dX8_makePlan_33 rfl (lv_at hl 0 rfl) ?_
        refine lv_ifnull hx hb dX8_makePlan_34 ?_
        refine lv_aload_n hx hb dX8_makePlan_37 rfl (lv_at hl 0 rfl) ?_
        refine pr_calli hS (pr_runV (As := []) (rest := []) C hR hv7 (by omega) rfl (c_X3_wantsHead hv7 h) gw_RX8_279 rfl rfl hd_X3_wantsHead ⟨Nat.le_of_ble_eq_true rfl, Nat.le_of_ble_eq_true rfl⟩ rfl hl.1 rfl (Nat.le_of_ble_eq_true rfl) dX8_makePlan_38 ⟨Nat.zero_le _, Nat.zero_le _⟩) (fun r8 σ8 H locs h hR hS => ?_)
        obtain ⟨hz8, h⟩ := h
        refine lv_if_eq (tgt := 100) hx hb dX8_makePlan_41 (by decide) (fun c9 => ?_) (fun c9 => ?_)
        · have h := h.1 c9
          refine lv_iinc (v := (x2 + (1 : Int32))) (lv' := [(2, .int (x2 + (1 : Int32))), (3, .ref (ad 3 i7q 0)), (0, .ref (ad 8 0 0)), (1, .int x1)]) hx hb dX8_makePlan_100 hl (k := 3) rfl rfl (by decide) rfl (fun ls hl => ?_)
          refine lv_goto (tgt := 19) hx hb dX8_makePlan_103 (by decide) ?_
          exact ih h hR hS (lv_sub hl [2, 3, 0] rfl)
        · have h := h.2 c9
          refine lv_aload_n hx hb dX8_makePlan_44 rfl (lv_at hl 1 rfl) ?_
          refine gf_RX8_41 C hR pr_l8 dX8_makePlan_45 ?_
          refine lv_iload_n hx hb dX8_makePlan_48 rfl (lv_at hl 2 rfl) ?_
          refine lv_aload_n hx hb dX8_makePlan_49 rfl (lv_at hl 0 rfl) ?_
          refine gf_RX8_128 C hR hv7 dX8_makePlan_50 ?_
          refine pr_calli hS (pr_runV (As := [.int x1, .int (σ8 192 i7q 0)]) (rest := []) C hR pr_l7 (by omega) rfl (c_X7_hasSitter h) gw_RX8_137 rfl rfl hd_X7_hasSitter ⟨Nat.le_of_ble_eq_true rfl, Nat.le_of_ble_eq_true rfl⟩ rfl hl.1 rfl (Nat.le_of_ble_eq_true rfl) dX8_makePlan_53 ⟨Nat.zero_le _, Nat.zero_le _⟩) (fun r10 σ10 H locs h hR hS => ?_)
          obtain ⟨hz10, h⟩ := h
          refine lv_if_ne (tgt := 100) hx hb dX8_makePlan_56 (by decide) (fun c11 => ?_) (fun c11 => ?_)
          · have h := h.1 c11
            refine lv_iinc (v := (x2 + (1 : Int32))) (lv' := [(2, .int (x2 + (1 : Int32))), (3, .ref (ad 3 i7q 0)), (0, .ref (ad 8 0 0)), (1, .int x1)]) hx hb dX8_makePlan_100 hl (k := 3) rfl rfl (by decide) rfl (fun ls hl => ?_)
            refine lv_goto (tgt := 19) hx hb dX8_makePlan_103 (by decide) ?_
            exact ih h hR hS (lv_sub hl [2, 3, 0] rfl)
          · have h := h.2 c11
            refine lv_iconst (v := (1 : Int32)) hx hb dX8_makePlan_59 (by decide) ?_
            refine lv_aload_n hx hb dX8_makePlan_60 rfl (lv_at hl 1 rfl) ?_
            refine gf_RX8_92 C hR pr_l8 dX8_makePlan_61 ?_
            refine lv_iadd hx hb dX8_makePlan_64 ?_
            refine lv_aload_n hx hb dX8_makePlan_65 rfl (lv_at hl 0 rfl) ?_
            refine gf_RX8_208 C hR hv7 dX8_makePlan_66 ?_
            refine lv_isub hx hb dX8_makePlan_69 ?_
            refine lv_istore (lv' := [(4, .int (((1 : Int32) + (σ10 520 0 0)) - (σ10 195 i7q 0))), (3, .ref (ad 3 i7q 0)), (0, .ref (ad 8 0 0)), (1, .int x1), (2, .int x2)]) hx hb dX8_makePlan_70 hl (by decide) rfl (fun ls hl => ?_)
            refine lv_aload_n hx hb dX8_makePlan_72 rfl (lv_at hl 2 rfl) ?_
            refine gf_RX8_55 C hR pr_l8 dX8_makePlan_73 ?_
            refine lv_iload_n hx hb dX8_makePlan_76 rfl (lv_at hl 4 rfl) ?_
            refine lv_aload_n hx hb dX8_makePlan_77 rfl (lv_at hl 1 rfl) ?_
            refine gf_RX8_128 C hR hv7 dX8_makePlan_78 ?_
            refine lv_aload_n hx hb dX8_makePlan_81 rfl (lv_at hl 2 rfl) ?_
            refine lv_aload_n hx hb dX8_makePlan_82 rfl (lv_at hl 1 rfl) ?_
            refine gf_RX8_128 C hR hv7 dX8_makePlan_83 ?_
            refine lv_iload_n hx hb dX8_makePlan_86 rfl (lv_at hl 3 rfl) ?_
            refine pr_calli hS (pr_runV (As := [.int (σ10 192 i7q 0), .int x1]) (rest := [.int (σ10 192 i7q 0), .int x2, .ref (ad 4 0 0)]) C hR pr_l8 (by omega) rfl (c_X8_hoursFor h) gw_RX8_282 rfl rfl hd_X8_hoursFor ⟨Nat.le_of_ble_eq_true rfl, Nat.le_of_ble_eq_true rfl⟩ rfl hl.1 rfl (Nat.le_of_ble_eq_true rfl) dX8_makePlan_87 ⟨Nat.zero_le _, Nat.zero_le _⟩) (fun r12 σ12 H locs h hR hS => ?_)
            refine lv_iload hx hb dX8_makePlan_90 (lv_at hl 0 rfl) ?_
            refine pr_calli hS (pr_runV (As := [.int x2, .int (σ10 192 i7q 0), .int r12, .int (((1 : Int32) + (σ10 520 0 0)) - (σ10 195 i7q 0))]) (rest := []) C hR pr_l4 (by omega) rfl (c_X4_add h) gw_RX8_285 rfl rfl hd_X4_add ⟨Nat.le_of_ble_eq_true rfl, Nat.le_of_ble_eq_true rfl⟩ rfl hl.1 rfl (Nat.le_of_ble_eq_true rfl) dX8_makePlan_92 ⟨Nat.zero_le _, Nat.zero_le _⟩) (fun r13 σ13 H locs h hR hS => ?_)
            obtain ⟨hz13, h⟩ := h
            refine lv_if_ne (tgt := 100) hx hb dX8_makePlan_95 (by decide) (fun c14 => ?_) (fun c14 => ?_)
            · have h := h.1 c14
              refine lv_iinc (v := (x2 + (1 : Int32))) (lv' := [(2, .int (x2 + (1 : Int32))), (4, .int (((1 : Int32) + (σ10 520 0 0)) - (σ10 195 i7q 0))), (3, .ref (ad 3 i7q 0)), (0, .ref (ad 8 0 0)), (1, .int x1)]) hx hb dX8_makePlan_100 hl (k := 4) rfl rfl (by decide) rfl (fun ls hl => ?_)
              refine lv_goto (tgt := 19) hx hb dX8_makePlan_103 (by decide) ?_
              exact ih h hR hS (lv_sub hl [3, 4, 0] rfl)
            · have h := h.2 c14
              refine lv_iconst (v := (0 : Int32)) hx hb dX8_makePlan_98 (by decide) ?_
              exact pr_retz C (Or.inl rfl) h hR hS dX8_makePlan_99
def wpb_X8_makePlan (g : Nat → Nat) (σ : pr_Sg) (a1 : Int32) (Q : Int32 → pr_Sg → Prop) : Prop :=
  (wp_X8_isNowOrLater g σ a1 (fun r1 σ1 =>
  ((¬ r1 = 0 → (wp_X4_clear g σ1 (fun σ3 =>
  (∃ n : Nat, wp_X8_makePlan_L19 g Q n σ3 a1 (0 : Int32))))) ∧
  (r1 = 0 → Q (0 : Int32) σ1))))
set_option maxHeartbeats 4000000 in
set_option maxRecDepth 100000 in
theorem t_X8_makePlan {p : Program} {l : Launch} {e : Env} {s : State} {m : MethodId} {args : Array Value} {below : List Frame} {meth : Method} {c : Code} {D : va_G} {cs : Nat → ClassId} {A : Nat → Prop} {ad : pr_Ad} {g : Nat → Nat} {Q : Int32 → pr_Sg → Prop} (C : pr_C RX8 cX8_makePlan 5 (some .boolean) D cs p s m args meth c) {H : Heap} {locs : List Loc} {ls : Array Slot} {σ : pr_Sg} {a1 : Int32} (h : wpb_X8_makePlan g σ a1 Q) (hR : pr_R D cs A ad g σ H) (hS : va_S A s.heap H locs) (hl : lv_has ls 5 [(0, .ref (ad 8 0 0)), (1, .int a1)]) : W p l e rm_X8_makePlan s m args below meth c H locs 0 0 (MQ below (va_Qi (pr_Qz Q) (pr_E D cs A ad g) A) args s 0 0 A) (F0 m 0 ls []) := by
  unfold wpb_X8_makePlan at h
  obtain ⟨hx, hb, hml, hown, hts, hK, hr, hlocks⟩ := id C
  refine lv_aload_n hx hb dX8_makePlan_0 rfl (lv_at hl 0 rfl) ?_
  refine lv_iload_n hx hb dX8_makePlan_1 rfl (lv_at hl 1 rfl) ?_
  refine pr_calli hS (pr_runV (As := [.int a1]) (rest := []) C hR pr_l8 (by omega) rfl (c_X8_isNowOrLater h) gw_RX8_125 rfl rfl hd_X8_isNowOrLater ⟨Nat.le_of_ble_eq_true rfl, Nat.le_of_ble_eq_true rfl⟩ rfl hl.1 rfl (Nat.le_of_ble_eq_true rfl) dX8_makePlan_2 ⟨Nat.zero_le _, Nat.zero_le _⟩) (fun r1 σ1 H locs h hR hS => ?_)
  obtain ⟨hz1, h⟩ := h
  refine lv_if_ne (tgt := 10) hx hb dX8_makePlan_5 (by decide) (fun c2 => ?_) (fun c2 => ?_)
  · have h := h.1 c2
    refine lv_aload_n hx hb dX8_makePlan_10 rfl (lv_at hl 0 rfl) ?_
    refine gf_RX8_55 C hR pr_l8 dX8_makePlan_11 ?_
    refine pr_callv hS (pr_runV (As := []) (rest := []) C hR pr_l4 (by omega) rfl (c_X4_clear h) gw_RX8_276 rfl rfl hd_X4_clear ⟨Nat.le_of_ble_eq_true rfl, Nat.le_of_ble_eq_true rfl⟩ rfl hl.1 rfl (Nat.le_of_ble_eq_true rfl) dX8_makePlan_14 ⟨Nat.zero_le _, Nat.zero_le _⟩) (fun σ3 H locs h hR hS => ?_)
    refine lv_iconst (v := (0 : Int32)) hx hb dX8_makePlan_17 (by decide) ?_
    refine lv_istore_n (lv' := [(2, .int (0 : Int32)), (0, .ref (ad 8 0 0)), (1, .int a1)]) hx hb dX8_makePlan_18 rfl hl (by decide) rfl (fun ls hl => ?_)
    obtain ⟨n1, h⟩ := h
    exact t_X8_makePlan_L19 C n1 h hR hS (lv_sub hl [1, 2, 0] rfl)
  · have h := h.2 c2
    refine lv_iconst (v := (0 : Int32)) hx hb dX8_makePlan_8 (by decide) ?_
    exact pr_retz C (Or.inl rfl) h hR hS dX8_makePlan_9
abbrev wp_X8_makePlan (g : Nat → Nat) (σ : pr_Sg) (a1 : Int32) (Q : Int32 → pr_Sg → Prop) : Prop := wpb_X8_makePlan g σ a1 Q
set_option maxHeartbeats 4000000 in
set_option maxRecDepth 100000 in
theorem c_X8_makePlan {l : Launch} {D : va_G} {cs : Nat → ClassId} {A : Nat → Prop} {ad : pr_Ad} {g : Nat → Nat} {σ : pr_Sg} {a1 : Int32} {Q : Int32 → pr_Sg → Prop} (h : wp_X8_makePlan g σ a1 Q) : pr_Mi l D cs A ad g yX8_makePlan cX8_makePlan 5 (some .boolean) rm_X8_makePlan [.ref (ad 8 0 0), .int a1] σ (pr_Qz Q) := by
  refine Met.ofW (cc := cX8_makePlan) (maxL := 5) (ret := (some .boolean)) (by decide) rfl ?_
  intro p e s m args below meth c s₁ B hml hv
  obtain ⟨rfl, hR, hK⟩ := hv
  have C : pr_C RX8 cX8_makePlan 5 (some .boolean) D cs p s m [.ref (ad 8 0 0), .int a1].toArray meth c := pr_C.of B hml hK
  have hS : va_S A s.heap s.heap [] := va_S.rf
  have hl := lv_entry ([.ref (ad 8 0 0), .int a1]) (n := 5) (Nat.le_of_ble_eq_true rfl)
  rw [lg_entry_eq]
  generalize (lg_sl ([.ref (ad 8 0 0), .int a1]) ++ List.replicate (5 - (lg_sl ([.ref (ad 8 0 0), .int a1])).length) Slot.unset).toArray = ls at hl ⊢
  have hl : lv_has ls 5 [(0, .ref (ad 8 0 0)), (1, .int a1)] := hl
  exact t_X8_makePlan C h hR hS hl
def rm_X8_planned : Room := { frames := 10, cells := 0, slots := 0, locals := 270 }
theorem hd_X8_planned : yX8_planned.cls = RX8 ∧ yX8_planned.cls ≠ "java/lang/invoke/MethodHandle" ∧ yX8_planned.cls ≠ "java/lang/invoke/VarHandle" ∧ (parseMethodDescriptor yX8_planned.desc).map (fun d => d.parameters.length) = some 2 := ⟨rfl, by decide, by decide, by decide +kernel⟩
def wpb_X8_planned (g : Nat → Nat) (σ : pr_Sg) (a1 : Int32) (a2 : Int32) (Q : Int32 → pr_Sg → Prop) : Prop :=
  (wp_X8_makePlan g σ a1 (fun r1 σ1 =>
  ((r1 = 0 → Q (-1 : Int32) σ1) ∧
  (¬ r1 = 0 → (wp_X4_hourOf g σ1 a2 (fun r3 σ3 =>
  Q r3 σ3))))))
set_option maxHeartbeats 4000000 in
set_option maxRecDepth 100000 in
theorem t_X8_planned {p : Program} {l : Launch} {e : Env} {s : State} {m : MethodId} {args : Array Value} {below : List Frame} {meth : Method} {c : Code} {D : va_G} {cs : Nat → ClassId} {A : Nat → Prop} {ad : pr_Ad} {g : Nat → Nat} {Q : Int32 → pr_Sg → Prop} (C : pr_C RX8 cX8_planned 3 (some .int) D cs p s m args meth c) {H : Heap} {locs : List Loc} {ls : Array Slot} {σ : pr_Sg} {a1 : Int32} {a2 : Int32} (h : wpb_X8_planned g σ a1 a2 Q) (hR : pr_R D cs A ad g σ H) (hS : va_S A s.heap H locs) (hl : lv_has ls 3 [(0, .ref (ad 8 0 0)), (1, .int a1), (2, .int a2)]) : W p l e rm_X8_planned s m args below meth c H locs 0 0 (MQ below (va_Qi Q (pr_E D cs A ad g) A) args s 0 0 A) (F0 m 0 ls []) := by
  unfold wpb_X8_planned at h
  obtain ⟨hx, hb, hml, hown, hts, hK, hr, hlocks⟩ := id C
  refine lv_aload_n hx hb dX8_planned_0 rfl (lv_at hl 0 rfl) ?_
  refine lv_iload_n hx hb dX8_planned_1 rfl (lv_at hl 1 rfl) ?_
  refine pr_calli hS (pr_runV (As := [.int a1]) (rest := []) C hR pr_l8 (by omega) rfl (c_X8_makePlan h) gw_RX8_164 rfl rfl hd_X8_makePlan ⟨Nat.le_of_ble_eq_true rfl, Nat.le_of_ble_eq_true rfl⟩ rfl hl.1 rfl (Nat.le_of_ble_eq_true rfl) dX8_planned_2 ⟨Nat.zero_le _, Nat.zero_le _⟩) (fun r1 σ1 H locs h hR hS => ?_)
  obtain ⟨hz1, h⟩ := h
  refine lv_if_eq (tgt := 19) hx hb dX8_planned_5 (by decide) (fun c2 => ?_) (fun c2 => ?_)
  · have h := h.1 c2
    refine lv_iconst (v := (-1 : Int32)) hx hb dX8_planned_19 (by decide) ?_
    exact pr_reti C h hR hS dX8_planned_20
  · have h := h.2 c2
    refine lv_aload_n hx hb dX8_planned_8 rfl (lv_at hl 0 rfl) ?_
    refine gf_RX8_55 C hR pr_l8 dX8_planned_9 ?_
    refine lv_iload_n hx hb dX8_planned_12 rfl (lv_at hl 2 rfl) ?_
    refine pr_calli hS (pr_runV (As := [.int a2]) (rest := []) C hR pr_l4 (by omega) rfl (c_X4_hourOf h) gw_RX8_167 rfl rfl hd_X4_hourOf ⟨Nat.le_of_ble_eq_true rfl, Nat.le_of_ble_eq_true rfl⟩ rfl hl.1 rfl (Nat.le_of_ble_eq_true rfl) dX8_planned_13 ⟨Nat.zero_le _, Nat.zero_le _⟩) (fun r3 σ3 H locs h hR hS => ?_)
    refine lv_goto (tgt := 20) hx hb dX8_planned_16 (by decide) ?_
    exact pr_reti C h hR hS dX8_planned_20
abbrev wp_X8_planned (g : Nat → Nat) (σ : pr_Sg) (a1 : Int32) (a2 : Int32) (Q : Int32 → pr_Sg → Prop) : Prop := wpb_X8_planned g σ a1 a2 Q
set_option maxHeartbeats 4000000 in
set_option maxRecDepth 100000 in
theorem c_X8_planned {l : Launch} {D : va_G} {cs : Nat → ClassId} {A : Nat → Prop} {ad : pr_Ad} {g : Nat → Nat} {σ : pr_Sg} {a1 : Int32} {a2 : Int32} {Q : Int32 → pr_Sg → Prop} (h : wp_X8_planned g σ a1 a2 Q) : pr_Mi l D cs A ad g yX8_planned cX8_planned 3 (some .int) rm_X8_planned [.ref (ad 8 0 0), .int a1, .int a2] σ Q := by
  refine Met.ofW (cc := cX8_planned) (maxL := 3) (ret := (some .int)) (by decide) rfl ?_
  intro p e s m args below meth c s₁ B hml hv
  obtain ⟨rfl, hR, hK⟩ := hv
  have C : pr_C RX8 cX8_planned 3 (some .int) D cs p s m [.ref (ad 8 0 0), .int a1, .int a2].toArray meth c := pr_C.of B hml hK
  have hS : va_S A s.heap s.heap [] := va_S.rf
  have hl := lv_entry ([.ref (ad 8 0 0), .int a1, .int a2]) (n := 3) (Nat.le_of_ble_eq_true rfl)
  rw [lg_entry_eq]
  generalize (lg_sl ([.ref (ad 8 0 0), .int a1, .int a2]) ++ List.replicate (3 - (lg_sl ([.ref (ad 8 0 0), .int a1, .int a2])).length) Slot.unset).toArray = ls at hl ⊢
  have hl : lv_has ls 3 [(0, .ref (ad 8 0 0)), (1, .int a1), (2, .int a2)] := hl
  exact t_X8_planned C h hR hS hl
def rm_X8_worth : Room := { frames := 10, cells := 0, slots := 0, locals := 270 }
theorem hd_X8_worth : yX8_worth.cls = RX8 ∧ yX8_worth.cls ≠ "java/lang/invoke/MethodHandle" ∧ yX8_worth.cls ≠ "java/lang/invoke/VarHandle" ∧ (parseMethodDescriptor yX8_worth.desc).map (fun d => d.parameters.length) = some 1 := ⟨rfl, by decide, by decide, by decide +kernel⟩
def wpb_X8_worth (g : Nat → Nat) (σ : pr_Sg) (a1 : Int32) (Q : Int32 → pr_Sg → Prop) : Prop :=
  (wp_X8_makePlan g σ a1 (fun r1 σ1 =>
  ((r1 = 0 → Q (-1 : Int32) σ1) ∧
  (¬ r1 = 0 → Q (σ1 264 0 0) σ1))))
set_option maxHeartbeats 4000000 in
set_option maxRecDepth 100000 in
theorem t_X8_worth {p : Program} {l : Launch} {e : Env} {s : State} {m : MethodId} {args : Array Value} {below : List Frame} {meth : Method} {c : Code} {D : va_G} {cs : Nat → ClassId} {A : Nat → Prop} {ad : pr_Ad} {g : Nat → Nat} {Q : Int32 → pr_Sg → Prop} (C : pr_C RX8 cX8_worth 2 (some .int) D cs p s m args meth c) {H : Heap} {locs : List Loc} {ls : Array Slot} {σ : pr_Sg} {a1 : Int32} (h : wpb_X8_worth g σ a1 Q) (hR : pr_R D cs A ad g σ H) (hS : va_S A s.heap H locs) (hl : lv_has ls 2 [(0, .ref (ad 8 0 0)), (1, .int a1)]) : W p l e rm_X8_worth s m args below meth c H locs 0 0 (MQ below (va_Qi Q (pr_E D cs A ad g) A) args s 0 0 A) (F0 m 0 ls []) := by
  unfold wpb_X8_worth at h
  obtain ⟨hx, hb, hml, hown, hts, hK, hr, hlocks⟩ := id C
  refine lv_aload_n hx hb dX8_worth_0 rfl (lv_at hl 0 rfl) ?_
  refine lv_iload_n hx hb dX8_worth_1 rfl (lv_at hl 1 rfl) ?_
  refine pr_calli hS (pr_runV (As := [.int a1]) (rest := []) C hR pr_l8 (by omega) rfl (c_X8_makePlan h) gw_RX8_164 rfl rfl hd_X8_makePlan ⟨Nat.le_of_ble_eq_true rfl, Nat.le_of_ble_eq_true rfl⟩ rfl hl.1 rfl (Nat.le_of_ble_eq_true rfl) dX8_worth_2 ⟨Nat.zero_le _, Nat.zero_le _⟩) (fun r1 σ1 H locs h hR hS => ?_)
  obtain ⟨hz1, h⟩ := h
  refine lv_if_eq (tgt := 18) hx hb dX8_worth_5 (by decide) (fun c2 => ?_) (fun c2 => ?_)
  · have h := h.1 c2
    refine lv_iconst (v := (-1 : Int32)) hx hb dX8_worth_18 (by decide) ?_
    exact pr_reti C h hR hS dX8_worth_19
  · have h := h.2 c2
    refine lv_aload_n hx hb dX8_worth_8 rfl (lv_at hl 0 rfl) ?_
    refine gf_RX8_55 C hR pr_l8 dX8_worth_9 ?_
    refine gf_RX8_170 C hR pr_l4 dX8_worth_12 ?_
    refine lv_goto (tgt := 19) hx hb dX8_worth_15 (by decide) ?_
    exact pr_reti C h hR hS dX8_worth_19
abbrev wp_X8_worth (g : Nat → Nat) (σ : pr_Sg) (a1 : Int32) (Q : Int32 → pr_Sg → Prop) : Prop := wpb_X8_worth g σ a1 Q
set_option maxHeartbeats 4000000 in
set_option maxRecDepth 100000 in
theorem c_X8_worth {l : Launch} {D : va_G} {cs : Nat → ClassId} {A : Nat → Prop} {ad : pr_Ad} {g : Nat → Nat} {σ : pr_Sg} {a1 : Int32} {Q : Int32 → pr_Sg → Prop} (h : wp_X8_worth g σ a1 Q) : pr_Mi l D cs A ad g yX8_worth cX8_worth 2 (some .int) rm_X8_worth [.ref (ad 8 0 0), .int a1] σ Q := by
  refine Met.ofW (cc := cX8_worth) (maxL := 2) (ret := (some .int)) (by decide) rfl ?_
  intro p e s m args below meth c s₁ B hml hv
  obtain ⟨rfl, hR, hK⟩ := hv
  have C : pr_C RX8 cX8_worth 2 (some .int) D cs p s m [.ref (ad 8 0 0), .int a1].toArray meth c := pr_C.of B hml hK
  have hS : va_S A s.heap s.heap [] := va_S.rf
  have hl := lv_entry ([.ref (ad 8 0 0), .int a1]) (n := 2) (Nat.le_of_ble_eq_true rfl)
  rw [lg_entry_eq]
  generalize (lg_sl ([.ref (ad 8 0 0), .int a1]) ++ List.replicate (2 - (lg_sl ([.ref (ad 8 0 0), .int a1])).length) Slot.unset).toArray = ls at hl ⊢
  have hl : lv_has ls 2 [(0, .ref (ad 8 0 0)), (1, .int a1)] := hl
  exact t_X8_worth C h hR hS hl
def rm_X8_trace : Room := { frames := 1, cells := 0, slots := 0, locals := 21 }
theorem hd_X8_trace : yX8_trace.cls = RX8 ∧ yX8_trace.cls ≠ "java/lang/invoke/MethodHandle" ∧ yX8_trace.cls ≠ "java/lang/invoke/VarHandle" ∧ (parseMethodDescriptor yX8_trace.desc).map (fun d => d.parameters.length) = some 2 := ⟨rfl, by decide, by decide, by decide +kernel⟩
def wpb_X8_trace (g : Nat → Nat) (σ : pr_Sg) (a1 : Int32) (a2 : Int32) (Q : Int32 → pr_Sg → Prop) : Prop :=
  (wp_X8_pictureAt g σ a1 (fun x1 σ1 =>
  (x1 = none → Q (0 : Int32) σ1) ∧
  (∀ i1q : Nat, x1 = some (i1q, 0) → (wp_X8_within g σ1 a2 (65535 : Int32) (fun r2 σ2 =>
  ((¬ r2 = 0 → (∀ σ4 : pr_Sg, σ4 = pr_up σ2 201 i1q 0 a2 →
  Q (1 : Int32) σ4)) ∧
  (r2 = 0 → Q (0 : Int32) σ2)))))))
set_option maxHeartbeats 4000000 in
set_option maxRecDepth 100000 in
theorem t_X8_trace {p : Program} {l : Launch} {e : Env} {s : State} {m : MethodId} {args : Array Value} {below : List Frame} {meth : Method} {c : Code} {D : va_G} {cs : Nat → ClassId} {A : Nat → Prop} {ad : pr_Ad} {g : Nat → Nat} {Q : Int32 → pr_Sg → Prop} (C : pr_C RX8 cX8_trace 4 (some .boolean) D cs p s m args meth c) {H : Heap} {locs : List Loc} {ls : Array Slot} {σ : pr_Sg} {a1 : Int32} {a2 : Int32} (h : wpb_X8_trace g σ a1 a2 Q) (hR : pr_R D cs A ad g σ H) (hS : va_S A s.heap H locs) (hl : lv_has ls 4 [(0, .ref (ad 8 0 0)), (1, .int a1), (2, .int a2)]) : W p l e rm_X8_trace s m args below meth c H locs 0 0 (MQ below (va_Qi (pr_Qz Q) (pr_E D cs A ad g) A) args s 0 0 A) (F0 m 0 ls []) := by
  unfold wpb_X8_trace at h
  obtain ⟨hx, hb, hml, hown, hts, hK, hr, hlocks⟩ := id C
  refine lv_aload_n hx hb dX8_trace_0 rfl (lv_at hl 0 rfl) ?_
  refine lv_iload_n hx hb dX8_trace_1 rfl (lv_at hl 1 rfl) ?_
  refine pr_callr hS (pr_runV (As := [.int a1]) (rest := []) C hR pr_l8 (by omega) rfl (c_X8_pictureAt h) gw_RX8_117 rfl rfl hd_X8_pictureAt ⟨Nat.le_of_ble_eq_true rfl, Nat.le_of_ble_eq_true rfl⟩ rfl hl.1 rfl (Nat.le_of_ble_eq_true rfl) dX8_trace_2 ⟨Nat.zero_le _, Nat.zero_le _⟩) (fun σ1 H locs h hR hS => ?_) (fun i1q j1q σ1 H locs h hv1 hR hS => ?_)
  · have h := h.1 rfl
    refine lv_astore_nN (lv' := [(3, .null), (0, .ref (ad 8 0 0)), (1, .int a1), (2, .int a2)]) hx hb dX8_trace_5 rfl hl (by decide) rfl (fun ls hl => ?_)
    refine lv_aload_nN hx hb dX8_trace_6 rfl (lv_at hl 0 rfl) ?_
    refine lv_ifnullN (tgt := 19) hx hb dX8_trace_7 (by decide) ?_
    refine lv_iconst (v := (0 : Int32)) hx hb dX8_trace_19 (by decide) ?_
    exact pr_retz C (Or.inl rfl) h hR hS dX8_trace_20
  · obtain rfl : j1q = 0 := pr_lvj (by decide) hv1
    have h := h.2 i1q rfl
    refine lv_astore_n (lv' := [(3, .ref (ad 3 i1q 0)), (0, .ref (ad 8 0 0)), (1, .int a1), (2, .int a2)]) hx hb dX8_trace_5 rfl hl (by decide) rfl (fun ls hl => ?_)
    refine lv_aload_n hx hb dX8_trace_6 rfl (lv_at hl 0 rfl) ?_
    refine lv_ifnull hx hb dX8_trace_7 ?_
    refine lv_iload_n hx hb dX8_trace_10 rfl (lv_at hl 3 rfl) ?_
    refine lv_ldc (v := (65535 : Int32)) hx hb hown (hts _ (pr_in22 _ (List.mem_of_getElem? (i := 6) rfl))) dX8_trace_11 ?_
    refine pr_calli hS (pr_runS (As := [.int a2, .int (65535 : Int32)]) (rest := []) C hR (c_X8_within h) gw_RX8_67 rfl rfl hs_X8_within ⟨Nat.le_of_ble_eq_true rfl, Nat.le_of_ble_eq_true rfl⟩ rfl hl.1 rfl (Nat.le_of_ble_eq_true rfl) dX8_trace_13 ⟨Nat.zero_le _, Nat.zero_le _⟩) (fun r2 σ2 H locs h hR hS => ?_)
    obtain ⟨hz2, h⟩ := h
    refine lv_if_ne (tgt := 21) hx hb dX8_trace_16 (by decide) (fun c3 => ?_) (fun c3 => ?_)
    · have h := h.1 c3
      refine lv_aload_n hx hb dX8_trace_21 rfl (lv_at hl 0 rfl) ?_
      refine lv_iload_n hx hb dX8_trace_22 rfl (lv_at hl 3 rfl) ?_
      refine pf_RX8_174 C hR hS hv1 dX8_trace_23 (fun H locs σ4 e4 hR hS => ?_)
      have h := h σ4 e4
      refine lv_iconst (v := (1 : Int32)) hx hb dX8_trace_26 (by decide) ?_
      exact pr_retz C (Or.inr rfl) h hR hS dX8_trace_27
    · have h := h.2 c3
      refine lv_iconst (v := (0 : Int32)) hx hb dX8_trace_19 (by decide) ?_
      exact pr_retz C (Or.inl rfl) h hR hS dX8_trace_20
abbrev wp_X8_trace (g : Nat → Nat) (σ : pr_Sg) (a1 : Int32) (a2 : Int32) (Q : Int32 → pr_Sg → Prop) : Prop := wpb_X8_trace g σ a1 a2 Q
set_option maxHeartbeats 4000000 in
set_option maxRecDepth 100000 in
theorem c_X8_trace {l : Launch} {D : va_G} {cs : Nat → ClassId} {A : Nat → Prop} {ad : pr_Ad} {g : Nat → Nat} {σ : pr_Sg} {a1 : Int32} {a2 : Int32} {Q : Int32 → pr_Sg → Prop} (h : wp_X8_trace g σ a1 a2 Q) : pr_Mi l D cs A ad g yX8_trace cX8_trace 4 (some .boolean) rm_X8_trace [.ref (ad 8 0 0), .int a1, .int a2] σ (pr_Qz Q) := by
  refine Met.ofW (cc := cX8_trace) (maxL := 4) (ret := (some .boolean)) (by decide) rfl ?_
  intro p e s m args below meth c s₁ B hml hv
  obtain ⟨rfl, hR, hK⟩ := hv
  have C : pr_C RX8 cX8_trace 4 (some .boolean) D cs p s m [.ref (ad 8 0 0), .int a1, .int a2].toArray meth c := pr_C.of B hml hK
  have hS : va_S A s.heap s.heap [] := va_S.rf
  have hl := lv_entry ([.ref (ad 8 0 0), .int a1, .int a2]) (n := 4) (Nat.le_of_ble_eq_true rfl)
  rw [lg_entry_eq]
  generalize (lg_sl ([.ref (ad 8 0 0), .int a1, .int a2]) ++ List.replicate (4 - (lg_sl ([.ref (ad 8 0 0), .int a1, .int a2])).length) Slot.unset).toArray = ls at hl ⊢
  have hl : lv_has ls 4 [(0, .ref (ad 8 0 0)), (1, .int a1), (2, .int a2)] := hl
  exact t_X8_trace C h hR hS hl
def rm_X8_traceDistance : Room := { frames := 1, cells := 0, slots := 0, locals := 21 }
theorem hd_X8_traceDistance : yX8_traceDistance.cls = RX8 ∧ yX8_traceDistance.cls ≠ "java/lang/invoke/MethodHandle" ∧ yX8_traceDistance.cls ≠ "java/lang/invoke/VarHandle" ∧ (parseMethodDescriptor yX8_traceDistance.desc).map (fun d => d.parameters.length) = some 2 := ⟨rfl, by decide, by decide, by decide +kernel⟩
def wpb_X8_traceDistance (g : Nat → Nat) (σ : pr_Sg) (a1 : Int32) (a2 : Int32) (Q : Int32 → pr_Sg → Prop) : Prop :=
  (wp_X8_pictureAt g σ a1 (fun x1 σ1 =>
  (x1 = none → (wp_X8_pictureAt g σ1 a2 (fun x2 σ2 =>
  (x2 = none → Q (-1 : Int32) σ2) ∧
  (∀ i2q : Nat, x2 = some (i2q, 0) → Q (-1 : Int32) σ2)))) ∧
  (∀ i1q : Nat, x1 = some (i1q, 0) → (wp_X8_pictureAt g σ1 a2 (fun x3 σ3 =>
  (x3 = none → Q (-1 : Int32) σ3) ∧
  (∀ i3q : Nat, x3 = some (i3q, 0) → (((σ3 201 i1q 0) = (-1 : Int32) → Q (-1 : Int32) σ3) ∧
  (¬ (σ3 201 i1q 0) = (-1 : Int32) → ((¬ (σ3 201 i3q 0) = (-1 : Int32) → (wp_J6_bitCount_0f7a4 g σ3 ((σ3 201 i1q 0) ^^^ (σ3 201 i3q 0)) (fun r6 σ6 =>
  Q r6 σ6))) ∧
  ((σ3 201 i3q 0) = (-1 : Int32) → Q (-1 : Int32) σ3))))))))))
set_option maxHeartbeats 4000000 in
set_option maxRecDepth 100000 in
theorem t_X8_traceDistance {p : Program} {l : Launch} {e : Env} {s : State} {m : MethodId} {args : Array Value} {below : List Frame} {meth : Method} {c : Code} {D : va_G} {cs : Nat → ClassId} {A : Nat → Prop} {ad : pr_Ad} {g : Nat → Nat} {Q : Int32 → pr_Sg → Prop} (C : pr_C RX8 cX8_traceDistance 5 (some .int) D cs p s m args meth c) {H : Heap} {locs : List Loc} {ls : Array Slot} {σ : pr_Sg} {a1 : Int32} {a2 : Int32} (h : wpb_X8_traceDistance g σ a1 a2 Q) (hR : pr_R D cs A ad g σ H) (hS : va_S A s.heap H locs) (hl : lv_has ls 5 [(0, .ref (ad 8 0 0)), (1, .int a1), (2, .int a2)]) : W p l e rm_X8_traceDistance s m args below meth c H locs 0 0 (MQ below (va_Qi Q (pr_E D cs A ad g) A) args s 0 0 A) (F0 m 0 ls []) := by
  unfold wpb_X8_traceDistance at h
  obtain ⟨hx, hb, hml, hown, hts, hK, hr, hlocks⟩ := id C
  refine lv_aload_n hx hb dX8_traceDistance_0 rfl (lv_at hl 0 rfl) ?_
  refine lv_iload_n hx hb dX8_traceDistance_1 rfl (lv_at hl 1 rfl) ?_
  refine pr_callr hS (pr_runV (As := [.int a1]) (rest := []) C hR pr_l8 (by omega) rfl (c_X8_pictureAt h) gw_RX8_117 rfl rfl hd_X8_pictureAt ⟨Nat.le_of_ble_eq_true rfl, Nat.le_of_ble_eq_true rfl⟩ rfl hl.1 rfl (Nat.le_of_ble_eq_true rfl) dX8_traceDistance_2 ⟨Nat.zero_le _, Nat.zero_le _⟩) (fun σ1 H locs h hR hS => ?_) (fun i1q j1q σ1 H locs h hv1 hR hS => ?_)
  · have h := h.1 rfl
    refine lv_astore_nN (lv' := [(3, .null), (0, .ref (ad 8 0 0)), (1, .int a1), (2, .int a2)]) hx hb dX8_traceDistance_5 rfl hl (by decide) rfl (fun ls hl => ?_)
    refine lv_aload_n hx hb dX8_traceDistance_6 rfl (lv_at hl 1 rfl) ?_
    refine lv_iload_n hx hb dX8_traceDistance_7 rfl (lv_at hl 3 rfl) ?_
    refine pr_callr hS (pr_runV (As := [.int a2]) (rest := []) C hR pr_l8 (by omega) rfl (c_X8_pictureAt h) gw_RX8_117 rfl rfl hd_X8_pictureAt ⟨Nat.le_of_ble_eq_true rfl, Nat.le_of_ble_eq_true rfl⟩ rfl hl.1 rfl (Nat.le_of_ble_eq_true rfl) dX8_traceDistance_8 ⟨Nat.zero_le _, Nat.zero_le _⟩) (fun σ2 H locs h hR hS => ?_) (fun i2q j2q σ2 H locs h hv2 hR hS => ?_)
    · have h := h.1 rfl
      refine lv_astoreN (lv' := [(4, .null), (3, .null), (0, .ref (ad 8 0 0)), (1, .int a1), (2, .int a2)]) hx hb dX8_traceDistance_11 hl (by decide) rfl (fun ls hl => ?_)
      refine lv_aload_nN hx hb dX8_traceDistance_13 rfl (lv_at hl 1 rfl) ?_
      refine lv_ifnullN (tgt := 39) hx hb dX8_traceDistance_14 (by decide) ?_
      refine lv_iconst (v := (-1 : Int32)) hx hb dX8_traceDistance_39 (by decide) ?_
      exact pr_reti C h hR hS dX8_traceDistance_40
    · obtain rfl : j2q = 0 := pr_lvj (by decide) hv2
      have h := h.2 i2q rfl
      refine lv_astore (lv' := [(4, .ref (ad 3 i2q 0)), (3, .null), (0, .ref (ad 8 0 0)), (1, .int a1), (2, .int a2)]) hx hb dX8_traceDistance_11 hl (by decide) rfl (fun ls hl => ?_)
      refine lv_aload_nN hx hb dX8_traceDistance_13 rfl (lv_at hl 1 rfl) ?_
      refine lv_ifnullN (tgt := 39) hx hb dX8_traceDistance_14 (by decide) ?_
      refine lv_iconst (v := (-1 : Int32)) hx hb dX8_traceDistance_39 (by decide) ?_
      exact pr_reti C h hR hS dX8_traceDistance_40
  · obtain rfl : j1q = 0 := pr_lvj (by decide) hv1
    have h := h.2 i1q rfl
    refine lv_astore_n (lv' := [(3, .ref (ad 3 i1q 0)), (0, .ref (ad 8 0 0)), (1, .int a1), (2, .int a2)]) hx hb dX8_traceDistance_5 rfl hl (by decide) rfl (fun ls hl => ?_)
    refine lv_aload_n hx hb dX8_traceDistance_6 rfl (lv_at hl 1 rfl) ?_
    refine lv_iload_n hx hb dX8_traceDistance_7 rfl (lv_at hl 3 rfl) ?_
    refine pr_callr hS (pr_runV (As := [.int a2]) (rest := []) C hR pr_l8 (by omega) rfl (c_X8_pictureAt h) gw_RX8_117 rfl rfl hd_X8_pictureAt ⟨Nat.le_of_ble_eq_true rfl, Nat.le_of_ble_eq_true rfl⟩ rfl hl.1 rfl (Nat.le_of_ble_eq_true rfl) dX8_traceDistance_8 ⟨Nat.zero_le _, Nat.zero_le _⟩) (fun σ3 H locs h hR hS => ?_) (fun i3q j3q σ3 H locs h hv3 hR hS => ?_)
    · have h := h.1 rfl
      refine lv_astoreN (lv' := [(4, .null), (3, .ref (ad 3 i1q 0)), (0, .ref (ad 8 0 0)), (1, .int a1), (2, .int a2)]) hx hb dX8_traceDistance_11 hl (by decide) rfl (fun ls hl => ?_)
      refine lv_aload_n hx hb dX8_traceDistance_13 rfl (lv_at hl 1 rfl) ?_
      refine lv_ifnull hx hb dX8_traceDistance_14 ?_
      refine lv_aloadN hx hb dX8_traceDistance_17 (lv_at hl 0 rfl) ?_
      refine lv_ifnullN (tgt := 39) hx hb dX8_traceDistance_19 (by decide) ?_
      refine lv_iconst (v := (-1 : Int32)) hx hb dX8_traceDistance_39 (by decide) ?_
      exact pr_reti C h hR hS dX8_traceDistance_40
    · obtain rfl : j3q = 0 := pr_lvj (by decide) hv3
      have h := h.2 i3q rfl
      refine lv_astore (lv' := [(4, .ref (ad 3 i3q 0)), (3, .ref (ad 3 i1q 0)), (0, .ref (ad 8 0 0)), (1, .int a1), (2, .int a2)]) hx hb dX8_traceDistance_11 hl (by decide) rfl (fun ls hl => ?_)
      refine lv_aload_n hx hb dX8_traceDistance_13 rfl (lv_at hl 1 rfl) ?_
      refine lv_ifnull hx hb dX8_traceDistance_14 ?_
      refine lv_aload hx hb dX8_traceDistance_17 (lv_at hl 0 rfl) ?_
      refine lv_ifnull hx hb dX8_traceDistance_19 ?_
      refine lv_aload_n hx hb dX8_traceDistance_22 rfl (lv_at hl 1 rfl) ?_
      refine gf_RX8_174 C hR hv1 dX8_traceDistance_23 ?_
      refine lv_iconst (v := (-1 : Int32)) hx hb dX8_traceDistance_26 (by decide) ?_
      refine lv_icmp_eq (tgt := 39) hx hb dX8_traceDistance_27 (by decide) (fun c4 => ?_) (fun c4 => ?_)
      · have h := h.1 c4
        refine lv_iconst (v := (-1 : Int32)) hx hb dX8_traceDistance_39 (by decide) ?_
        exact pr_reti C h hR hS dX8_traceDistance_40
      · have h := h.2 c4
        refine lv_aload hx hb dX8_traceDistance_30 (lv_at hl 0 rfl) ?_
        refine gf_RX8_174 C hR hv3 dX8_traceDistance_32 ?_
        refine lv_iconst (v := (-1 : Int32)) hx hb dX8_traceDistance_35 (by decide) ?_
        refine lv_icmp_ne (tgt := 41) hx hb dX8_traceDistance_36 (by decide) (fun c5 => ?_) (fun c5 => ?_)
        · have h := h.1 c5
          refine lv_aload_n hx hb dX8_traceDistance_41 rfl (lv_at hl 1 rfl) ?_
          refine gf_RX8_174 C hR hv1 dX8_traceDistance_42 ?_
          refine lv_aload hx hb dX8_traceDistance_45 (lv_at hl 0 rfl) ?_
          refine gf_RX8_174 C hR hv3 dX8_traceDistance_47 ?_
          refine lv_ixor hx hb dX8_traceDistance_50 ?_
          refine pr_calli hS (pr_runS (As := [.int ((σ3 201 i1q 0) ^^^ (σ3 201 i3q 0))]) (rest := []) C hR (c_J6_bitCount_0f7a4 h) gw_RX8_311 rfl rfl hs_J6_bitCount_0f7a4 ⟨Nat.le_of_ble_eq_true rfl, Nat.le_of_ble_eq_true rfl⟩ rfl hl.1 rfl (Nat.le_of_ble_eq_true rfl) dX8_traceDistance_51 ⟨Nat.zero_le _, Nat.zero_le _⟩) (fun r6 σ6 H locs h hR hS => ?_)
          exact pr_reti C h hR hS dX8_traceDistance_54
        · have h := h.2 c5
          refine lv_iconst (v := (-1 : Int32)) hx hb dX8_traceDistance_39 (by decide) ?_
          exact pr_reti C h hR hS dX8_traceDistance_40
abbrev wp_X8_traceDistance (g : Nat → Nat) (σ : pr_Sg) (a1 : Int32) (a2 : Int32) (Q : Int32 → pr_Sg → Prop) : Prop := wpb_X8_traceDistance g σ a1 a2 Q
set_option maxHeartbeats 4000000 in
set_option maxRecDepth 100000 in
theorem c_X8_traceDistance {l : Launch} {D : va_G} {cs : Nat → ClassId} {A : Nat → Prop} {ad : pr_Ad} {g : Nat → Nat} {σ : pr_Sg} {a1 : Int32} {a2 : Int32} {Q : Int32 → pr_Sg → Prop} (h : wp_X8_traceDistance g σ a1 a2 Q) : pr_Mi l D cs A ad g yX8_traceDistance cX8_traceDistance 5 (some .int) rm_X8_traceDistance [.ref (ad 8 0 0), .int a1, .int a2] σ Q := by
  refine Met.ofW (cc := cX8_traceDistance) (maxL := 5) (ret := (some .int)) (by decide) rfl ?_
  intro p e s m args below meth c s₁ B hml hv
  obtain ⟨rfl, hR, hK⟩ := hv
  have C : pr_C RX8 cX8_traceDistance 5 (some .int) D cs p s m [.ref (ad 8 0 0), .int a1, .int a2].toArray meth c := pr_C.of B hml hK
  have hS : va_S A s.heap s.heap [] := va_S.rf
  have hl := lv_entry ([.ref (ad 8 0 0), .int a1, .int a2]) (n := 5) (Nat.le_of_ble_eq_true rfl)
  rw [lg_entry_eq]
  generalize (lg_sl ([.ref (ad 8 0 0), .int a1, .int a2]) ++ List.replicate (5 - (lg_sl ([.ref (ad 8 0 0), .int a1, .int a2])).length) Slot.unset).toArray = ls at hl ⊢
  have hl : lv_has ls 5 [(0, .ref (ad 8 0 0)), (1, .int a1), (2, .int a2)] := hl
  exact t_X8_traceDistance C h hR hS hl
def rm_X8_nearestTraced : Room := { frames := 2, cells := 0, slots := 0, locals := 45 }
theorem hd_X8_nearestTraced : yX8_nearestTraced.cls = RX8 ∧ yX8_nearestTraced.cls ≠ "java/lang/invoke/MethodHandle" ∧ yX8_nearestTraced.cls ≠ "java/lang/invoke/VarHandle" ∧ (parseMethodDescriptor yX8_nearestTraced.desc).map (fun d => d.parameters.length) = some 2 := ⟨rfl, by decide, by decide, by decide +kernel⟩
def wp_X8_nearestTraced_L29 (g : Nat → Nat) (Q : Int32 → pr_Sg → Prop) : Nat → pr_Sg → Int32 → Int32 → Int32 → Int32 → Int32 → Prop
  | 0, _, _, _, _, _, _ => False
  | n + 1, σ, x1, x2, x4, x5, x6 => ((x1 ≤ x6 → Q x4 σ) ∧
  (¬ x1 ≤ x6 → (wp_X8_traceDistance g σ x1 x6 (fun r4 σ4 =>
  ((x6 = x2 → wp_X8_nearestTraced_L29 g Q n σ4 x1 x2 x4 x5 (x6 + (1 : Int32))) ∧
  (¬ x6 = x2 → ((r4 = (-1 : Int32) → wp_X8_nearestTraced_L29 g Q n σ4 x1 x2 x4 x5 (x6 + (1 : Int32))) ∧
  (¬ r4 = (-1 : Int32) → ((x4 = (-1 : Int32) → wp_X8_nearestTraced_L29 g Q n σ4 x1 x2 x6 r4 (x6 + (1 : Int32))) ∧
  (¬ x4 = (-1 : Int32) → ((x5 ≤ r4 → wp_X8_nearestTraced_L29 g Q n σ4 x1 x2 x4 x5 (x6 + (1 : Int32))) ∧
  (¬ x5 ≤ r4 → wp_X8_nearestTraced_L29 g Q n σ4 x1 x2 x6 r4 (x6 + (1 : Int32))))))))))))))
set_option maxHeartbeats 4000000 in
set_option maxRecDepth 100000 in
theorem t_X8_nearestTraced_L29 {p : Program} {l : Launch} {e : Env} {s : State} {m : MethodId} {args : Array Value} {below : List Frame} {meth : Method} {c : Code} {D : va_G} {cs : Nat → ClassId} {A : Nat → Prop} {ad : pr_Ad} {g : Nat → Nat} {Q : Int32 → pr_Sg → Prop} (C : pr_C RX8 cX8_nearestTraced 8 (some .int) D cs p s m args meth c) (n : Nat) : ∀ {H : Heap} {locs : List Loc} {ls : Array Slot} {σ : pr_Sg} {x1 : Int32} {x2 : Int32} {x4 : Int32} {x5 : Int32} {x6 : Int32} (_ : wp_X8_nearestTraced_L29 g Q n σ x1 x2 x4 x5 x6) (_ : pr_R D cs A ad g σ H) (_ : va_S A s.heap H locs) (_ : lv_has ls 8 [(0, .ref (ad 8 0 0)), (1, .int x1), (2, .int x2), (4, .int x4), (5, .int x5), (6, .int x6)]), W p l e rm_X8_nearestTraced s m args below meth c H locs 0 0 (MQ below (va_Qi Q (pr_E D cs A ad g) A) args s 0 0 A) (F0 m 29 ls []) := by
  induction n with
  | zero =>
    intro H locs ls σ x1 x2 x4 x5 x6 h
    exact False.elim h
  | succ n ih =>
    intro H locs ls σ x1 x2 x4 x5 x6 h hR hS hl
    unfold wp_X8_nearestTraced_L29 at h
    obtain ⟨hx, hb, hml, hown, hts, hK, hr, hlocks⟩ := id C
    refine lv_iload hx hb dX8_nearestTraced_29 (lv_at hl 5 rfl) ?_
    refine lv_iload_n hx hb dX8_nearestTraced_31 rfl (lv_at hl 1 rfl) ?_
    refine lv_icmp_ge (tgt := 83) hx hb dX8_nearestTraced_32 (by decide) (fun c3 => ?_) (fun c3 => ?_)
    · have h := h.1 c3
      refine lv_iload hx hb dX8_nearestTraced_83 (lv_at hl 3 rfl) ?_
      exact pr_reti C h hR hS dX8_nearestTraced_85
    · have h := h.2 c3
      refine lv_aload_n hx hb dX8_nearestTraced_35 rfl (lv_at hl 0 rfl) ?_
      refine lv_iload_n hx hb dX8_nearestTraced_36 rfl (lv_at hl 1 rfl) ?_
      refine lv_iload hx hb dX8_nearestTraced_37 (lv_at hl 5 rfl) ?_
      refine pr_calli hS (pr_runV (As := [.int x1, .int x6]) (rest := []) C hR pr_l8 (by omega) rfl (c_X8_traceDistance h) gw_RX8_180 rfl rfl hd_X8_traceDistance ⟨Nat.le_of_ble_eq_true rfl, Nat.le_of_ble_eq_true rfl⟩ rfl hl.1 rfl (Nat.le_of_ble_eq_true rfl) dX8_nearestTraced_39 ⟨Nat.zero_le _, Nat.zero_le _⟩) (fun r4 σ4 H locs h hR hS => ?_)
      refine lv_istore (lv' := [(7, .int r4), (0, .ref (ad 8 0 0)), (1, .int x1), (2, .int x2), (4, .int x4), (5, .int x5), (6, .int x6)]) hx hb dX8_nearestTraced_42 hl (by decide) rfl (fun ls hl => ?_)
      refine lv_iload hx hb dX8_nearestTraced_44 (lv_at hl 6 rfl) ?_
      refine lv_iload_n hx hb dX8_nearestTraced_46 rfl (lv_at hl 3 rfl) ?_
      refine lv_icmp_eq (tgt := 77) hx hb dX8_nearestTraced_47 (by decide) (fun c5 => ?_) (fun c5 => ?_)
      · have h := h.1 c5
        refine lv_iinc (v := (x6 + (1 : Int32))) (lv' := [(6, .int (x6 + (1 : Int32))), (7, .int r4), (0, .ref (ad 8 0 0)), (1, .int x1), (2, .int x2), (4, .int x4), (5, .int x5)]) hx hb dX8_nearestTraced_77 hl (k := 6) rfl rfl (by decide) rfl (fun ls hl => ?_)
        refine lv_goto (tgt := 29) hx hb dX8_nearestTraced_80 (by decide) ?_
        exact ih h hR hS (lv_sub hl [2, 3, 4, 5, 6, 0] rfl)
      · have h := h.2 c5
        refine lv_iload hx hb dX8_nearestTraced_50 (lv_at hl 0 rfl) ?_
        refine lv_iconst (v := (-1 : Int32)) hx hb dX8_nearestTraced_52 (by decide) ?_
        refine lv_icmp_eq (tgt := 77) hx hb dX8_nearestTraced_53 (by decide) (fun c6 => ?_) (fun c6 => ?_)
        · have h := h.1 c6
          refine lv_iinc (v := (x6 + (1 : Int32))) (lv' := [(6, .int (x6 + (1 : Int32))), (7, .int r4), (0, .ref (ad 8 0 0)), (1, .int x1), (2, .int x2), (4, .int x4), (5, .int x5)]) hx hb dX8_nearestTraced_77 hl (k := 6) rfl rfl (by decide) rfl (fun ls hl => ?_)
          refine lv_goto (tgt := 29) hx hb dX8_nearestTraced_80 (by decide) ?_
          exact ih h hR hS (lv_sub hl [2, 3, 4, 5, 6, 0] rfl)
        · have h := h.2 c6
          refine lv_iload hx hb dX8_nearestTraced_56 (lv_at hl 4 rfl) ?_
          refine lv_iconst (v := (-1 : Int32)) hx hb dX8_nearestTraced_58 (by decide) ?_
          refine lv_icmp_eq (tgt := 69) hx hb dX8_nearestTraced_59 (by decide) (fun c7 => ?_) (fun c7 => ?_)
          · have h := h.1 c7
            refine lv_iload hx hb dX8_nearestTraced_69 (lv_at hl 6 rfl) ?_
            refine lv_istore (lv' := [(4, .int x6), (7, .int r4), (0, .ref (ad 8 0 0)), (1, .int x1), (2, .int x2), (5, .int x5), (6, .int x6)]) hx hb dX8_nearestTraced_71 hl (by decide) rfl (fun ls hl => ?_)
            refine lv_iload hx hb dX8_nearestTraced_73 (lv_at hl 1 rfl) ?_
            refine lv_istore (lv' := [(5, .int r4), (4, .int x6), (7, .int r4), (0, .ref (ad 8 0 0)), (1, .int x1), (2, .int x2), (6, .int x6)]) hx hb dX8_nearestTraced_75 hl (by decide) rfl (fun ls hl => ?_)
            refine lv_iinc (v := (x6 + (1 : Int32))) (lv' := [(6, .int (x6 + (1 : Int32))), (5, .int r4), (4, .int x6), (7, .int r4), (0, .ref (ad 8 0 0)), (1, .int x1), (2, .int x2)]) hx hb dX8_nearestTraced_77 hl (k := 6) rfl rfl (by decide) rfl (fun ls hl => ?_)
            refine lv_goto (tgt := 29) hx hb dX8_nearestTraced_80 (by decide) ?_
            exact ih h hR hS (lv_sub hl [4, 5, 6, 2, 1, 0] rfl)
          · have h := h.2 c7
            refine lv_iload hx hb dX8_nearestTraced_62 (lv_at hl 0 rfl) ?_
            refine lv_iload hx hb dX8_nearestTraced_64 (lv_at hl 5 rfl) ?_
            refine lv_icmp_ge (tgt := 77) hx hb dX8_nearestTraced_66 (by decide) (fun c8 => ?_) (fun c8 => ?_)
            · have h := h.1 c8
              refine lv_iinc (v := (x6 + (1 : Int32))) (lv' := [(6, .int (x6 + (1 : Int32))), (7, .int r4), (0, .ref (ad 8 0 0)), (1, .int x1), (2, .int x2), (4, .int x4), (5, .int x5)]) hx hb dX8_nearestTraced_77 hl (k := 6) rfl rfl (by decide) rfl (fun ls hl => ?_)
              refine lv_goto (tgt := 29) hx hb dX8_nearestTraced_80 (by decide) ?_
              exact ih h hR hS (lv_sub hl [2, 3, 4, 5, 6, 0] rfl)
            · have h := h.2 c8
              refine lv_iload hx hb dX8_nearestTraced_69 (lv_at hl 6 rfl) ?_
              refine lv_istore (lv' := [(4, .int x6), (7, .int r4), (0, .ref (ad 8 0 0)), (1, .int x1), (2, .int x2), (5, .int x5), (6, .int x6)]) hx hb dX8_nearestTraced_71 hl (by decide) rfl (fun ls hl => ?_)
              refine lv_iload hx hb dX8_nearestTraced_73 (lv_at hl 1 rfl) ?_
              refine lv_istore (lv' := [(5, .int r4), (4, .int x6), (7, .int r4), (0, .ref (ad 8 0 0)), (1, .int x1), (2, .int x2), (6, .int x6)]) hx hb dX8_nearestTraced_75 hl (by decide) rfl (fun ls hl => ?_)
              refine lv_iinc (v := (x6 + (1 : Int32))) (lv' := [(6, .int (x6 + (1 : Int32))), (5, .int r4), (4, .int x6), (7, .int r4), (0, .ref (ad 8 0 0)), (1, .int x1), (2, .int x2)]) hx hb dX8_nearestTraced_77 hl (k := 6) rfl rfl (by decide) rfl (fun ls hl => ?_)
              refine lv_goto (tgt := 29) hx hb dX8_nearestTraced_80 (by decide) ?_
              exact ih h hR hS (lv_sub hl [4, 5, 6, 2, 1, 0] rfl)
def wpb_X8_nearestTraced (g : Nat → Nat) (σ : pr_Sg) (a1 : Int32) (a2 : Int32) (Q : Int32 → pr_Sg → Prop) : Prop :=
  (wp_X8_pictureAt g σ a1 (fun x1 σ1 =>
  (x1 = none → Q (-1 : Int32) σ1) ∧
  (∀ i1q : Nat, x1 = some (i1q, 0) → ((¬ (σ1 201 i1q 0) = (-1 : Int32) → (∃ n : Nat, wp_X8_nearestTraced_L29 g Q n σ1 a1 a2 (-1 : Int32) (0 : Int32) (0 : Int32))) ∧
  ((σ1 201 i1q 0) = (-1 : Int32) → Q (-1 : Int32) σ1)))))
set_option maxHeartbeats 4000000 in
set_option maxRecDepth 100000 in
theorem t_X8_nearestTraced {p : Program} {l : Launch} {e : Env} {s : State} {m : MethodId} {args : Array Value} {below : List Frame} {meth : Method} {c : Code} {D : va_G} {cs : Nat → ClassId} {A : Nat → Prop} {ad : pr_Ad} {g : Nat → Nat} {Q : Int32 → pr_Sg → Prop} (C : pr_C RX8 cX8_nearestTraced 8 (some .int) D cs p s m args meth c) {H : Heap} {locs : List Loc} {ls : Array Slot} {σ : pr_Sg} {a1 : Int32} {a2 : Int32} (h : wpb_X8_nearestTraced g σ a1 a2 Q) (hR : pr_R D cs A ad g σ H) (hS : va_S A s.heap H locs) (hl : lv_has ls 8 [(0, .ref (ad 8 0 0)), (1, .int a1), (2, .int a2)]) : W p l e rm_X8_nearestTraced s m args below meth c H locs 0 0 (MQ below (va_Qi Q (pr_E D cs A ad g) A) args s 0 0 A) (F0 m 0 ls []) := by
  unfold wpb_X8_nearestTraced at h
  obtain ⟨hx, hb, hml, hown, hts, hK, hr, hlocks⟩ := id C
  refine lv_aload_n hx hb dX8_nearestTraced_0 rfl (lv_at hl 0 rfl) ?_
  refine lv_iload_n hx hb dX8_nearestTraced_1 rfl (lv_at hl 1 rfl) ?_
  refine pr_callr hS (pr_runV (As := [.int a1]) (rest := []) C hR pr_l8 (by omega) rfl (c_X8_pictureAt h) gw_RX8_117 rfl rfl hd_X8_pictureAt ⟨Nat.le_of_ble_eq_true rfl, Nat.le_of_ble_eq_true rfl⟩ rfl hl.1 rfl (Nat.le_of_ble_eq_true rfl) dX8_nearestTraced_2 ⟨Nat.zero_le _, Nat.zero_le _⟩) (fun σ1 H locs h hR hS => ?_) (fun i1q j1q σ1 H locs h hv1 hR hS => ?_)
  · have h := h.1 rfl
    refine lv_astore_nN (lv' := [(3, .null), (0, .ref (ad 8 0 0)), (1, .int a1), (2, .int a2)]) hx hb dX8_nearestTraced_5 rfl hl (by decide) rfl (fun ls hl => ?_)
    refine lv_aload_nN hx hb dX8_nearestTraced_6 rfl (lv_at hl 0 rfl) ?_
    refine lv_ifnullN (tgt := 18) hx hb dX8_nearestTraced_7 (by decide) ?_
    refine lv_iconst (v := (-1 : Int32)) hx hb dX8_nearestTraced_18 (by decide) ?_
    exact pr_reti C h hR hS dX8_nearestTraced_19
  · obtain rfl : j1q = 0 := pr_lvj (by decide) hv1
    have h := h.2 i1q rfl
    refine lv_astore_n (lv' := [(3, .ref (ad 3 i1q 0)), (0, .ref (ad 8 0 0)), (1, .int a1), (2, .int a2)]) hx hb dX8_nearestTraced_5 rfl hl (by decide) rfl (fun ls hl => ?_)
    refine lv_aload_n hx hb dX8_nearestTraced_6 rfl (lv_at hl 0 rfl) ?_
    refine lv_ifnull hx hb dX8_nearestTraced_7 ?_
    refine lv_aload_n hx hb dX8_nearestTraced_10 rfl (lv_at hl 0 rfl) ?_
    refine gf_RX8_174 C hR hv1 dX8_nearestTraced_11 ?_
    refine lv_iconst (v := (-1 : Int32)) hx hb dX8_nearestTraced_14 (by decide) ?_
    refine lv_icmp_ne (tgt := 20) hx hb dX8_nearestTraced_15 (by decide) (fun c2 => ?_) (fun c2 => ?_)
    · have h := h.1 c2
      refine lv_iconst (v := (-1 : Int32)) hx hb dX8_nearestTraced_20 (by decide) ?_
      refine lv_istore (lv' := [(4, .int (-1 : Int32)), (3, .ref (ad 3 i1q 0)), (0, .ref (ad 8 0 0)), (1, .int a1), (2, .int a2)]) hx hb dX8_nearestTraced_21 hl (by decide) rfl (fun ls hl => ?_)
      refine lv_iconst (v := (0 : Int32)) hx hb dX8_nearestTraced_23 (by decide) ?_
      refine lv_istore (lv' := [(5, .int (0 : Int32)), (4, .int (-1 : Int32)), (3, .ref (ad 3 i1q 0)), (0, .ref (ad 8 0 0)), (1, .int a1), (2, .int a2)]) hx hb dX8_nearestTraced_24 hl (by decide) rfl (fun ls hl => ?_)
      refine lv_iconst (v := (0 : Int32)) hx hb dX8_nearestTraced_26 (by decide) ?_
      refine lv_istore (lv' := [(6, .int (0 : Int32)), (5, .int (0 : Int32)), (4, .int (-1 : Int32)), (3, .ref (ad 3 i1q 0)), (0, .ref (ad 8 0 0)), (1, .int a1), (2, .int a2)]) hx hb dX8_nearestTraced_27 hl (by decide) rfl (fun ls hl => ?_)
      obtain ⟨n1, h⟩ := h
      exact t_X8_nearestTraced_L29 C n1 h hR hS (lv_sub hl [4, 5, 6, 2, 1, 0] rfl)
    · have h := h.2 c2
      refine lv_iconst (v := (-1 : Int32)) hx hb dX8_nearestTraced_18 (by decide) ?_
      exact pr_reti C h hR hS dX8_nearestTraced_19
abbrev wp_X8_nearestTraced (g : Nat → Nat) (σ : pr_Sg) (a1 : Int32) (a2 : Int32) (Q : Int32 → pr_Sg → Prop) : Prop := wpb_X8_nearestTraced g σ a1 a2 Q
set_option maxHeartbeats 4000000 in
set_option maxRecDepth 100000 in
theorem c_X8_nearestTraced {l : Launch} {D : va_G} {cs : Nat → ClassId} {A : Nat → Prop} {ad : pr_Ad} {g : Nat → Nat} {σ : pr_Sg} {a1 : Int32} {a2 : Int32} {Q : Int32 → pr_Sg → Prop} (h : wp_X8_nearestTraced g σ a1 a2 Q) : pr_Mi l D cs A ad g yX8_nearestTraced cX8_nearestTraced 8 (some .int) rm_X8_nearestTraced [.ref (ad 8 0 0), .int a1, .int a2] σ Q := by
  refine Met.ofW (cc := cX8_nearestTraced) (maxL := 8) (ret := (some .int)) (by decide) rfl ?_
  intro p e s m args below meth c s₁ B hml hv
  obtain ⟨rfl, hR, hK⟩ := hv
  have C : pr_C RX8 cX8_nearestTraced 8 (some .int) D cs p s m [.ref (ad 8 0 0), .int a1, .int a2].toArray meth c := pr_C.of B hml hK
  have hS : va_S A s.heap s.heap [] := va_S.rf
  have hl := lv_entry ([.ref (ad 8 0 0), .int a1, .int a2]) (n := 8) (Nat.le_of_ble_eq_true rfl)
  rw [lg_entry_eq]
  generalize (lg_sl ([.ref (ad 8 0 0), .int a1, .int a2]) ++ List.replicate (8 - (lg_sl ([.ref (ad 8 0 0), .int a1, .int a2])).length) Slot.unset).toArray = ls at hl ⊢
  have hl : lv_has ls 8 [(0, .ref (ad 8 0 0)), (1, .int a1), (2, .int a2)] := hl
  exact t_X8_nearestTraced C h hR hS hl
def rm_X8_from : Room := { frames := 3, cells := 0, slots := 0, locals := 72 }
theorem hd_X8_from : yX8_from.cls = RX8 ∧ yX8_from.cls ≠ "java/lang/invoke/MethodHandle" ∧ yX8_from.cls ≠ "java/lang/invoke/VarHandle" ∧ (parseMethodDescriptor yX8_from.desc).map (fun d => d.parameters.length) = some 1 := ⟨rfl, by decide, by decide, by decide +kernel⟩
def wpb_X8_from (g : Nat → Nat) (σ : pr_Sg) (a1 : Int32) (Q : Int32 → pr_Sg → Prop) : Prop :=
  (wp_X8_nearestTraced g σ a1 (-1 : Int32) (fun r1 σ1 =>
  Q r1 σ1))
set_option maxHeartbeats 4000000 in
set_option maxRecDepth 100000 in
theorem t_X8_from {p : Program} {l : Launch} {e : Env} {s : State} {m : MethodId} {args : Array Value} {below : List Frame} {meth : Method} {c : Code} {D : va_G} {cs : Nat → ClassId} {A : Nat → Prop} {ad : pr_Ad} {g : Nat → Nat} {Q : Int32 → pr_Sg → Prop} (C : pr_C RX8 cX8_from 2 (some .int) D cs p s m args meth c) {H : Heap} {locs : List Loc} {ls : Array Slot} {σ : pr_Sg} {a1 : Int32} (h : wpb_X8_from g σ a1 Q) (hR : pr_R D cs A ad g σ H) (hS : va_S A s.heap H locs) (hl : lv_has ls 2 [(0, .ref (ad 8 0 0)), (1, .int a1)]) : W p l e rm_X8_from s m args below meth c H locs 0 0 (MQ below (va_Qi Q (pr_E D cs A ad g) A) args s 0 0 A) (F0 m 0 ls []) := by
  unfold wpb_X8_from at h
  obtain ⟨hx, hb, hml, hown, hts, hK, hr, hlocks⟩ := id C
  refine lv_aload_n hx hb dX8_from_0 rfl (lv_at hl 0 rfl) ?_
  refine lv_iload_n hx hb dX8_from_1 rfl (lv_at hl 1 rfl) ?_
  refine lv_iconst (v := (-1 : Int32)) hx hb dX8_from_2 (by decide) ?_
  refine pr_calli hS (pr_runV (As := [.int a1, .int (-1 : Int32)]) (rest := []) C hR pr_l8 (by omega) rfl (c_X8_nearestTraced h) gw_RX8_177 rfl rfl hd_X8_nearestTraced ⟨Nat.le_of_ble_eq_true rfl, Nat.le_of_ble_eq_true rfl⟩ rfl hl.1 rfl (Nat.le_of_ble_eq_true rfl) dX8_from_3 ⟨Nat.zero_le _, Nat.zero_le _⟩) (fun r1 σ1 H locs h hR hS => ?_)
  exact pr_reti C h hR hS dX8_from_6
abbrev wp_X8_from (g : Nat → Nat) (σ : pr_Sg) (a1 : Int32) (Q : Int32 → pr_Sg → Prop) : Prop := wpb_X8_from g σ a1 Q
set_option maxHeartbeats 4000000 in
set_option maxRecDepth 100000 in
theorem c_X8_from {l : Launch} {D : va_G} {cs : Nat → ClassId} {A : Nat → Prop} {ad : pr_Ad} {g : Nat → Nat} {σ : pr_Sg} {a1 : Int32} {Q : Int32 → pr_Sg → Prop} (h : wp_X8_from g σ a1 Q) : pr_Mi l D cs A ad g yX8_from cX8_from 2 (some .int) rm_X8_from [.ref (ad 8 0 0), .int a1] σ Q := by
  refine Met.ofW (cc := cX8_from) (maxL := 2) (ret := (some .int)) (by decide) rfl ?_
  intro p e s m args below meth c s₁ B hml hv
  obtain ⟨rfl, hR, hK⟩ := hv
  have C : pr_C RX8 cX8_from 2 (some .int) D cs p s m [.ref (ad 8 0 0), .int a1].toArray meth c := pr_C.of B hml hK
  have hS : va_S A s.heap s.heap [] := va_S.rf
  have hl := lv_entry ([.ref (ad 8 0 0), .int a1]) (n := 2) (Nat.le_of_ble_eq_true rfl)
  rw [lg_entry_eq]
  generalize (lg_sl ([.ref (ad 8 0 0), .int a1]) ++ List.replicate (2 - (lg_sl ([.ref (ad 8 0 0), .int a1])).length) Slot.unset).toArray = ls at hl ⊢
  have hl : lv_has ls 2 [(0, .ref (ad 8 0 0)), (1, .int a1)] := hl
  exact t_X8_from C h hR hS hl
def rm_X8_doubt : Room := { frames := 3, cells := 0, slots := 0, locals := 72 }
theorem hd_X8_doubt : yX8_doubt.cls = RX8 ∧ yX8_doubt.cls ≠ "java/lang/invoke/MethodHandle" ∧ yX8_doubt.cls ≠ "java/lang/invoke/VarHandle" ∧ (parseMethodDescriptor yX8_doubt.desc).map (fun d => d.parameters.length) = some 1 := ⟨rfl, by decide, by decide, by decide +kernel⟩
def wpb_X8_doubt (g : Nat → Nat) (σ : pr_Sg) (a1 : Int32) (Q : Int32 → pr_Sg → Prop) : Prop :=
  (wp_X8_nearestTraced g σ a1 (-1 : Int32) (fun r1 σ1 =>
  (wp_X8_nearestTraced g σ1 a1 r1 (fun r2 σ2 =>
  ((r1 = (-1 : Int32) → Q (0 : Int32) σ2) ∧
  (¬ r1 = (-1 : Int32) → ((r2 = (-1 : Int32) → Q (0 : Int32) σ2) ∧
  (¬ r2 = (-1 : Int32) → (wp_X8_traceDistance g σ2 a1 r1 (fun r5 σ5 =>
  (wp_X8_traceDistance g σ5 a1 r2 (fun r6 σ6 =>
  ((¬ r5 = r6 → Q (0 : Int32) σ6) ∧
  (r5 = r6 → Q (1 : Int32) σ6))))))))))))))
set_option maxHeartbeats 4000000 in
set_option maxRecDepth 100000 in
theorem t_X8_doubt {p : Program} {l : Launch} {e : Env} {s : State} {m : MethodId} {args : Array Value} {below : List Frame} {meth : Method} {c : Code} {D : va_G} {cs : Nat → ClassId} {A : Nat → Prop} {ad : pr_Ad} {g : Nat → Nat} {Q : Int32 → pr_Sg → Prop} (C : pr_C RX8 cX8_doubt 4 (some .boolean) D cs p s m args meth c) {H : Heap} {locs : List Loc} {ls : Array Slot} {σ : pr_Sg} {a1 : Int32} (h : wpb_X8_doubt g σ a1 Q) (hR : pr_R D cs A ad g σ H) (hS : va_S A s.heap H locs) (hl : lv_has ls 4 [(0, .ref (ad 8 0 0)), (1, .int a1)]) : W p l e rm_X8_doubt s m args below meth c H locs 0 0 (MQ below (va_Qi (pr_Qz Q) (pr_E D cs A ad g) A) args s 0 0 A) (F0 m 0 ls []) := by
  unfold wpb_X8_doubt at h
  obtain ⟨hx, hb, hml, hown, hts, hK, hr, hlocks⟩ := id C
  refine lv_aload_n hx hb dX8_doubt_0 rfl (lv_at hl 0 rfl) ?_
  refine lv_iload_n hx hb dX8_doubt_1 rfl (lv_at hl 1 rfl) ?_
  refine lv_iconst (v := (-1 : Int32)) hx hb dX8_doubt_2 (by decide) ?_
  refine pr_calli hS (pr_runV (As := [.int a1, .int (-1 : Int32)]) (rest := []) C hR pr_l8 (by omega) rfl (c_X8_nearestTraced h) gw_RX8_177 rfl rfl hd_X8_nearestTraced ⟨Nat.le_of_ble_eq_true rfl, Nat.le_of_ble_eq_true rfl⟩ rfl hl.1 rfl (Nat.le_of_ble_eq_true rfl) dX8_doubt_3 ⟨Nat.zero_le _, Nat.zero_le _⟩) (fun r1 σ1 H locs h hR hS => ?_)
  refine lv_istore_n (lv' := [(2, .int r1), (0, .ref (ad 8 0 0)), (1, .int a1)]) hx hb dX8_doubt_6 rfl hl (by decide) rfl (fun ls hl => ?_)
  refine lv_aload_n hx hb dX8_doubt_7 rfl (lv_at hl 1 rfl) ?_
  refine lv_iload_n hx hb dX8_doubt_8 rfl (lv_at hl 2 rfl) ?_
  refine lv_iload_n hx hb dX8_doubt_9 rfl (lv_at hl 0 rfl) ?_
  refine pr_calli hS (pr_runV (As := [.int a1, .int r1]) (rest := []) C hR pr_l8 (by omega) rfl (c_X8_nearestTraced h) gw_RX8_177 rfl rfl hd_X8_nearestTraced ⟨Nat.le_of_ble_eq_true rfl, Nat.le_of_ble_eq_true rfl⟩ rfl hl.1 rfl (Nat.le_of_ble_eq_true rfl) dX8_doubt_10 ⟨Nat.zero_le _, Nat.zero_le _⟩) (fun r2 σ2 H locs h hR hS => ?_)
  refine lv_istore_n (lv' := [(3, .int r2), (2, .int r1), (0, .ref (ad 8 0 0)), (1, .int a1)]) hx hb dX8_doubt_13 rfl hl (by decide) rfl (fun ls hl => ?_)
  refine lv_iload_n hx hb dX8_doubt_14 rfl (lv_at hl 1 rfl) ?_
  refine lv_iconst (v := (-1 : Int32)) hx hb dX8_doubt_15 (by decide) ?_
  refine lv_icmp_eq (tgt := 43) hx hb dX8_doubt_16 (by decide) (fun c3 => ?_) (fun c3 => ?_)
  · have h := h.1 c3
    refine lv_iconst (v := (0 : Int32)) hx hb dX8_doubt_43 (by decide) ?_
    exact pr_retz C (Or.inl rfl) h hR hS dX8_doubt_44
  · have h := h.2 c3
    refine lv_iload_n hx hb dX8_doubt_19 rfl (lv_at hl 0 rfl) ?_
    refine lv_iconst (v := (-1 : Int32)) hx hb dX8_doubt_20 (by decide) ?_
    refine lv_icmp_eq (tgt := 43) hx hb dX8_doubt_21 (by decide) (fun c4 => ?_) (fun c4 => ?_)
    · have h := h.1 c4
      refine lv_iconst (v := (0 : Int32)) hx hb dX8_doubt_43 (by decide) ?_
      exact pr_retz C (Or.inl rfl) h hR hS dX8_doubt_44
    · have h := h.2 c4
      refine lv_aload_n hx hb dX8_doubt_24 rfl (lv_at hl 2 rfl) ?_
      refine lv_iload_n hx hb dX8_doubt_25 rfl (lv_at hl 3 rfl) ?_
      refine lv_iload_n hx hb dX8_doubt_26 rfl (lv_at hl 1 rfl) ?_
      refine pr_calli hS (pr_runV (As := [.int a1, .int r1]) (rest := []) C hR pr_l8 (by omega) rfl (c_X8_traceDistance h) gw_RX8_180 rfl rfl hd_X8_traceDistance ⟨Nat.le_of_ble_eq_true rfl, Nat.le_of_ble_eq_true rfl⟩ rfl hl.1 rfl (Nat.le_of_ble_eq_true rfl) dX8_doubt_27 ⟨Nat.zero_le _, Nat.zero_le _⟩) (fun r5 σ5 H locs h hR hS => ?_)
      refine lv_aload_n hx hb dX8_doubt_30 rfl (lv_at hl 2 rfl) ?_
      refine lv_iload_n hx hb dX8_doubt_31 rfl (lv_at hl 3 rfl) ?_
      refine lv_iload_n hx hb dX8_doubt_32 rfl (lv_at hl 0 rfl) ?_
      refine pr_calli hS (pr_runV (As := [.int a1, .int r2]) (rest := [.int r5]) C hR pr_l8 (by omega) rfl (c_X8_traceDistance h) gw_RX8_180 rfl rfl hd_X8_traceDistance ⟨Nat.le_of_ble_eq_true rfl, Nat.le_of_ble_eq_true rfl⟩ rfl hl.1 rfl (Nat.le_of_ble_eq_true rfl) dX8_doubt_33 ⟨Nat.zero_le _, Nat.zero_le _⟩) (fun r6 σ6 H locs h hR hS => ?_)
      refine lv_icmp_ne (tgt := 43) hx hb dX8_doubt_36 (by decide) (fun c7 => ?_) (fun c7 => ?_)
      · have h := h.1 c7
        refine lv_iconst (v := (0 : Int32)) hx hb dX8_doubt_43 (by decide) ?_
        exact pr_retz C (Or.inl rfl) h hR hS dX8_doubt_44
      · have h := h.2 c7
        refine lv_iconst (v := (1 : Int32)) hx hb dX8_doubt_39 (by decide) ?_
        refine lv_goto (tgt := 44) hx hb dX8_doubt_40 (by decide) ?_
        exact pr_retz C (Or.inr rfl) h hR hS dX8_doubt_44
abbrev wp_X8_doubt (g : Nat → Nat) (σ : pr_Sg) (a1 : Int32) (Q : Int32 → pr_Sg → Prop) : Prop := wpb_X8_doubt g σ a1 Q
set_option maxHeartbeats 4000000 in
set_option maxRecDepth 100000 in
theorem c_X8_doubt {l : Launch} {D : va_G} {cs : Nat → ClassId} {A : Nat → Prop} {ad : pr_Ad} {g : Nat → Nat} {σ : pr_Sg} {a1 : Int32} {Q : Int32 → pr_Sg → Prop} (h : wp_X8_doubt g σ a1 Q) : pr_Mi l D cs A ad g yX8_doubt cX8_doubt 4 (some .boolean) rm_X8_doubt [.ref (ad 8 0 0), .int a1] σ (pr_Qz Q) := by
  refine Met.ofW (cc := cX8_doubt) (maxL := 4) (ret := (some .boolean)) (by decide) rfl ?_
  intro p e s m args below meth c s₁ B hml hv
  obtain ⟨rfl, hR, hK⟩ := hv
  have C : pr_C RX8 cX8_doubt 4 (some .boolean) D cs p s m [.ref (ad 8 0 0), .int a1].toArray meth c := pr_C.of B hml hK
  have hS : va_S A s.heap s.heap [] := va_S.rf
  have hl := lv_entry ([.ref (ad 8 0 0), .int a1]) (n := 4) (Nat.le_of_ble_eq_true rfl)
  rw [lg_entry_eq]
  generalize (lg_sl ([.ref (ad 8 0 0), .int a1]) ++ List.replicate (4 - (lg_sl ([.ref (ad 8 0 0), .int a1])).length) Slot.unset).toArray = ls at hl ⊢
  have hl : lv_has ls 4 [(0, .ref (ad 8 0 0)), (1, .int a1)] := hl
  exact t_X8_doubt C h hR hS hl
def rm_X8_habit : Room := { frames := 1, cells := 0, slots := 0, locals := 21 }
theorem hd_X8_habit : yX8_habit.cls = RX8 ∧ yX8_habit.cls ≠ "java/lang/invoke/MethodHandle" ∧ yX8_habit.cls ≠ "java/lang/invoke/VarHandle" ∧ (parseMethodDescriptor yX8_habit.desc).map (fun d => d.parameters.length) = some 2 := ⟨rfl, by decide, by decide, by decide +kernel⟩
def wpb_X8_habit (g : Nat → Nat) (σ : pr_Sg) (a1 : Int32) (a2 : Int32) (Q : Int32 → pr_Sg → Prop) : Prop :=
  (wp_X8_handAt g σ a1 (fun x1 σ1 =>
  (x1 = none → Q (0 : Int32) σ1) ∧
  (∀ i1q : Nat, x1 = some (i1q, 0) → (wp_X8_within g σ1 a2 (9999 : Int32) (fun r2 σ2 =>
  ((¬ r2 = 0 → (∀ σ4 : pr_Sg, σ4 = pr_up σ2 0 i1q 0 a2 →
  Q (1 : Int32) σ4)) ∧
  (r2 = 0 → Q (0 : Int32) σ2)))))))
set_option maxHeartbeats 4000000 in
set_option maxRecDepth 100000 in
theorem t_X8_habit {p : Program} {l : Launch} {e : Env} {s : State} {m : MethodId} {args : Array Value} {below : List Frame} {meth : Method} {c : Code} {D : va_G} {cs : Nat → ClassId} {A : Nat → Prop} {ad : pr_Ad} {g : Nat → Nat} {Q : Int32 → pr_Sg → Prop} (C : pr_C RX8 cX8_habit 4 (some .boolean) D cs p s m args meth c) {H : Heap} {locs : List Loc} {ls : Array Slot} {σ : pr_Sg} {a1 : Int32} {a2 : Int32} (h : wpb_X8_habit g σ a1 a2 Q) (hR : pr_R D cs A ad g σ H) (hS : va_S A s.heap H locs) (hl : lv_has ls 4 [(0, .ref (ad 8 0 0)), (1, .int a1), (2, .int a2)]) : W p l e rm_X8_habit s m args below meth c H locs 0 0 (MQ below (va_Qi (pr_Qz Q) (pr_E D cs A ad g) A) args s 0 0 A) (F0 m 0 ls []) := by
  unfold wpb_X8_habit at h
  obtain ⟨hx, hb, hml, hown, hts, hK, hr, hlocks⟩ := id C
  refine lv_aload_n hx hb dX8_habit_0 rfl (lv_at hl 0 rfl) ?_
  refine lv_iload_n hx hb dX8_habit_1 rfl (lv_at hl 1 rfl) ?_
  refine pr_callr hS (pr_runV (As := [.int a1]) (rest := []) C hR pr_l8 (by omega) rfl (c_X8_handAt h) gw_RX8_183 rfl rfl hd_X8_handAt ⟨Nat.le_of_ble_eq_true rfl, Nat.le_of_ble_eq_true rfl⟩ rfl hl.1 rfl (Nat.le_of_ble_eq_true rfl) dX8_habit_2 ⟨Nat.zero_le _, Nat.zero_le _⟩) (fun σ1 H locs h hR hS => ?_) (fun i1q j1q σ1 H locs h hv1 hR hS => ?_)
  · have h := h.1 rfl
    refine lv_astore_nN (lv' := [(3, .null), (0, .ref (ad 8 0 0)), (1, .int a1), (2, .int a2)]) hx hb dX8_habit_5 rfl hl (by decide) rfl (fun ls hl => ?_)
    refine lv_aload_nN hx hb dX8_habit_6 rfl (lv_at hl 0 rfl) ?_
    refine lv_ifnullN (tgt := 20) hx hb dX8_habit_7 (by decide) ?_
    refine lv_iconst (v := (0 : Int32)) hx hb dX8_habit_20 (by decide) ?_
    exact pr_retz C (Or.inl rfl) h hR hS dX8_habit_21
  · obtain rfl : j1q = 0 := pr_lvj (by decide) hv1
    have h := h.2 i1q rfl
    refine lv_astore_n (lv' := [(3, .ref (ad 0 i1q 0)), (0, .ref (ad 8 0 0)), (1, .int a1), (2, .int a2)]) hx hb dX8_habit_5 rfl hl (by decide) rfl (fun ls hl => ?_)
    refine lv_aload_n hx hb dX8_habit_6 rfl (lv_at hl 0 rfl) ?_
    refine lv_ifnull hx hb dX8_habit_7 ?_
    refine lv_iload_n hx hb dX8_habit_10 rfl (lv_at hl 3 rfl) ?_
    refine lv_sipush (v := (9999 : Int32)) hx hb dX8_habit_11 (by decide) ?_
    refine pr_calli hS (pr_runS (As := [.int a2, .int (9999 : Int32)]) (rest := []) C hR (c_X8_within h) gw_RX8_67 rfl rfl hs_X8_within ⟨Nat.le_of_ble_eq_true rfl, Nat.le_of_ble_eq_true rfl⟩ rfl hl.1 rfl (Nat.le_of_ble_eq_true rfl) dX8_habit_14 ⟨Nat.zero_le _, Nat.zero_le _⟩) (fun r2 σ2 H locs h hR hS => ?_)
    obtain ⟨hz2, h⟩ := h
    refine lv_if_ne (tgt := 22) hx hb dX8_habit_17 (by decide) (fun c3 => ?_) (fun c3 => ?_)
    · have h := h.1 c3
      refine lv_aload_n hx hb dX8_habit_22 rfl (lv_at hl 0 rfl) ?_
      refine lv_iload_n hx hb dX8_habit_23 rfl (lv_at hl 3 rfl) ?_
      refine pf_RX8_187 C hR hS hv1 dX8_habit_24 (fun H locs σ4 e4 hR hS => ?_)
      have h := h σ4 e4
      refine lv_iconst (v := (1 : Int32)) hx hb dX8_habit_27 (by decide) ?_
      exact pr_retz C (Or.inr rfl) h hR hS dX8_habit_28
    · have h := h.2 c3
      refine lv_iconst (v := (0 : Int32)) hx hb dX8_habit_20 (by decide) ?_
      exact pr_retz C (Or.inl rfl) h hR hS dX8_habit_21
abbrev wp_X8_habit (g : Nat → Nat) (σ : pr_Sg) (a1 : Int32) (a2 : Int32) (Q : Int32 → pr_Sg → Prop) : Prop := wpb_X8_habit g σ a1 a2 Q
set_option maxHeartbeats 4000000 in
set_option maxRecDepth 100000 in
theorem c_X8_habit {l : Launch} {D : va_G} {cs : Nat → ClassId} {A : Nat → Prop} {ad : pr_Ad} {g : Nat → Nat} {σ : pr_Sg} {a1 : Int32} {a2 : Int32} {Q : Int32 → pr_Sg → Prop} (h : wp_X8_habit g σ a1 a2 Q) : pr_Mi l D cs A ad g yX8_habit cX8_habit 4 (some .boolean) rm_X8_habit [.ref (ad 8 0 0), .int a1, .int a2] σ (pr_Qz Q) := by
  refine Met.ofW (cc := cX8_habit) (maxL := 4) (ret := (some .boolean)) (by decide) rfl ?_
  intro p e s m args below meth c s₁ B hml hv
  obtain ⟨rfl, hR, hK⟩ := hv
  have C : pr_C RX8 cX8_habit 4 (some .boolean) D cs p s m [.ref (ad 8 0 0), .int a1, .int a2].toArray meth c := pr_C.of B hml hK
  have hS : va_S A s.heap s.heap [] := va_S.rf
  have hl := lv_entry ([.ref (ad 8 0 0), .int a1, .int a2]) (n := 4) (Nat.le_of_ble_eq_true rfl)
  rw [lg_entry_eq]
  generalize (lg_sl ([.ref (ad 8 0 0), .int a1, .int a2]) ++ List.replicate (4 - (lg_sl ([.ref (ad 8 0 0), .int a1, .int a2])).length) Slot.unset).toArray = ls at hl ⊢
  have hl : lv_has ls 4 [(0, .ref (ad 8 0 0)), (1, .int a1), (2, .int a2)] := hl
  exact t_X8_habit C h hR hS hl
def rm_X8_margin : Room := { frames := 1, cells := 0, slots := 0, locals := 21 }
theorem hd_X8_margin : yX8_margin.cls = RX8 ∧ yX8_margin.cls ≠ "java/lang/invoke/MethodHandle" ∧ yX8_margin.cls ≠ "java/lang/invoke/VarHandle" ∧ (parseMethodDescriptor yX8_margin.desc).map (fun d => d.parameters.length) = some 1 := ⟨rfl, by decide, by decide, by decide +kernel⟩
def wpb_X8_margin (g : Nat → Nat) (σ : pr_Sg) (a1 : Int32) (Q : Int32 → pr_Sg → Prop) : Prop :=
  (wp_X8_within g σ a1 (99 : Int32) (fun r1 σ1 =>
  ((¬ r1 = 0 → (∀ σ3 : pr_Sg, σ3 = pr_up σ1 528 0 0 a1 →
  Q (1 : Int32) σ3)) ∧
  (r1 = 0 → Q (0 : Int32) σ1))))
set_option maxHeartbeats 4000000 in
set_option maxRecDepth 100000 in
theorem t_X8_margin {p : Program} {l : Launch} {e : Env} {s : State} {m : MethodId} {args : Array Value} {below : List Frame} {meth : Method} {c : Code} {D : va_G} {cs : Nat → ClassId} {A : Nat → Prop} {ad : pr_Ad} {g : Nat → Nat} {Q : Int32 → pr_Sg → Prop} (C : pr_C RX8 cX8_margin 2 (some .boolean) D cs p s m args meth c) {H : Heap} {locs : List Loc} {ls : Array Slot} {σ : pr_Sg} {a1 : Int32} (h : wpb_X8_margin g σ a1 Q) (hR : pr_R D cs A ad g σ H) (hS : va_S A s.heap H locs) (hl : lv_has ls 2 [(0, .ref (ad 8 0 0)), (1, .int a1)]) : W p l e rm_X8_margin s m args below meth c H locs 0 0 (MQ below (va_Qi (pr_Qz Q) (pr_E D cs A ad g) A) args s 0 0 A) (F0 m 0 ls []) := by
  unfold wpb_X8_margin at h
  obtain ⟨hx, hb, hml, hown, hts, hK, hr, hlocks⟩ := id C
  refine lv_iload_n hx hb dX8_margin_0 rfl (lv_at hl 1 rfl) ?_
  refine lv_bipush (v := (99 : Int32)) hx hb dX8_margin_1 (by decide) ?_
  refine pr_calli hS (pr_runS (As := [.int a1, .int (99 : Int32)]) (rest := []) C hR (c_X8_within h) gw_RX8_67 rfl rfl hs_X8_within ⟨Nat.le_of_ble_eq_true rfl, Nat.le_of_ble_eq_true rfl⟩ rfl hl.1 rfl (Nat.le_of_ble_eq_true rfl) dX8_margin_3 ⟨Nat.zero_le _, Nat.zero_le _⟩) (fun r1 σ1 H locs h hR hS => ?_)
  obtain ⟨hz1, h⟩ := h
  refine lv_if_ne (tgt := 11) hx hb dX8_margin_6 (by decide) (fun c2 => ?_) (fun c2 => ?_)
  · have h := h.1 c2
    refine lv_aload_n hx hb dX8_margin_11 rfl (lv_at hl 0 rfl) ?_
    refine lv_iload_n hx hb dX8_margin_12 rfl (lv_at hl 1 rfl) ?_
    refine pf_RX8_64 C hR hS pr_l8 dX8_margin_13 (fun H locs σ3 e3 hR hS => ?_)
    have h := h σ3 e3
    refine lv_iconst (v := (1 : Int32)) hx hb dX8_margin_16 (by decide) ?_
    exact pr_retz C (Or.inr rfl) h hR hS dX8_margin_17
  · have h := h.2 c2
    refine lv_iconst (v := (0 : Int32)) hx hb dX8_margin_9 (by decide) ?_
    exact pr_retz C (Or.inl rfl) h hR hS dX8_margin_10
abbrev wp_X8_margin (g : Nat → Nat) (σ : pr_Sg) (a1 : Int32) (Q : Int32 → pr_Sg → Prop) : Prop := wpb_X8_margin g σ a1 Q
set_option maxHeartbeats 4000000 in
set_option maxRecDepth 100000 in
theorem c_X8_margin {l : Launch} {D : va_G} {cs : Nat → ClassId} {A : Nat → Prop} {ad : pr_Ad} {g : Nat → Nat} {σ : pr_Sg} {a1 : Int32} {Q : Int32 → pr_Sg → Prop} (h : wp_X8_margin g σ a1 Q) : pr_Mi l D cs A ad g yX8_margin cX8_margin 2 (some .boolean) rm_X8_margin [.ref (ad 8 0 0), .int a1] σ (pr_Qz Q) := by
  refine Met.ofW (cc := cX8_margin) (maxL := 2) (ret := (some .boolean)) (by decide) rfl ?_
  intro p e s m args below meth c s₁ B hml hv
  obtain ⟨rfl, hR, hK⟩ := hv
  have C : pr_C RX8 cX8_margin 2 (some .boolean) D cs p s m [.ref (ad 8 0 0), .int a1].toArray meth c := pr_C.of B hml hK
  have hS : va_S A s.heap s.heap [] := va_S.rf
  have hl := lv_entry ([.ref (ad 8 0 0), .int a1]) (n := 2) (Nat.le_of_ble_eq_true rfl)
  rw [lg_entry_eq]
  generalize (lg_sl ([.ref (ad 8 0 0), .int a1]) ++ List.replicate (2 - (lg_sl ([.ref (ad 8 0 0), .int a1])).length) Slot.unset).toArray = ls at hl ⊢
  have hl : lv_has ls 2 [(0, .ref (ad 8 0 0)), (1, .int a1)] := hl
  exact t_X8_margin C h hR hS hl
def rm_X8_strokes : Room := { frames := 2, cells := 0, slots := 0, locals := 44 }
theorem hd_X8_strokes : yX8_strokes.cls = RX8 ∧ yX8_strokes.cls ≠ "java/lang/invoke/MethodHandle" ∧ yX8_strokes.cls ≠ "java/lang/invoke/VarHandle" ∧ (parseMethodDescriptor yX8_strokes.desc).map (fun d => d.parameters.length) = some 3 := ⟨rfl, by decide, by decide, by decide +kernel⟩
def wpb_X8_strokes (g : Nat → Nat) (σ : pr_Sg) (a1 : Int32) (a2 : Int32) (a3 : Int32) (Q : Int32 → pr_Sg → Prop) : Prop :=
  (wp_X8_partAt g σ a1 a2 (fun x1 σ1 =>
  (x1 = none → Q (0 : Int32) σ1) ∧
  (∀ i1q j1q : Nat, x1 = some (i1q, j1q) → (wp_X8_within g σ1 a3 (9999 : Int32) (fun r2 σ2 =>
  ((¬ r2 = 0 → (∀ σ4 : pr_Sg, σ4 = pr_up σ2 132 i1q j1q a3 →
  Q (1 : Int32) σ4)) ∧
  (r2 = 0 → Q (0 : Int32) σ2)))))))
set_option maxHeartbeats 4000000 in
set_option maxRecDepth 100000 in
theorem t_X8_strokes {p : Program} {l : Launch} {e : Env} {s : State} {m : MethodId} {args : Array Value} {below : List Frame} {meth : Method} {c : Code} {D : va_G} {cs : Nat → ClassId} {A : Nat → Prop} {ad : pr_Ad} {g : Nat → Nat} {Q : Int32 → pr_Sg → Prop} (C : pr_C RX8 cX8_strokes 5 (some .boolean) D cs p s m args meth c) {H : Heap} {locs : List Loc} {ls : Array Slot} {σ : pr_Sg} {a1 : Int32} {a2 : Int32} {a3 : Int32} (h : wpb_X8_strokes g σ a1 a2 a3 Q) (hR : pr_R D cs A ad g σ H) (hS : va_S A s.heap H locs) (hl : lv_has ls 5 [(0, .ref (ad 8 0 0)), (1, .int a1), (2, .int a2), (3, .int a3)]) : W p l e rm_X8_strokes s m args below meth c H locs 0 0 (MQ below (va_Qi (pr_Qz Q) (pr_E D cs A ad g) A) args s 0 0 A) (F0 m 0 ls []) := by
  unfold wpb_X8_strokes at h
  obtain ⟨hx, hb, hml, hown, hts, hK, hr, hlocks⟩ := id C
  refine lv_aload_n hx hb dX8_strokes_0 rfl (lv_at hl 0 rfl) ?_
  refine lv_iload_n hx hb dX8_strokes_1 rfl (lv_at hl 1 rfl) ?_
  refine lv_iload_n hx hb dX8_strokes_2 rfl (lv_at hl 2 rfl) ?_
  refine pr_callr hS (pr_runV (As := [.int a1, .int a2]) (rest := []) C hR pr_l8 (by omega) rfl (c_X8_partAt h) gw_RX8_190 rfl rfl hd_X8_partAt ⟨Nat.le_of_ble_eq_true rfl, Nat.le_of_ble_eq_true rfl⟩ rfl hl.1 rfl (Nat.le_of_ble_eq_true rfl) dX8_strokes_3 ⟨Nat.zero_le _, Nat.zero_le _⟩) (fun σ1 H locs h hR hS => ?_) (fun i1q j1q σ1 H locs h hv1 hR hS => ?_)
  · have h := h.1 rfl
    refine lv_astoreN (lv' := [(4, .null), (0, .ref (ad 8 0 0)), (1, .int a1), (2, .int a2), (3, .int a3)]) hx hb dX8_strokes_6 hl (by decide) rfl (fun ls hl => ?_)
    refine lv_aloadN hx hb dX8_strokes_8 (lv_at hl 0 rfl) ?_
    refine lv_ifnullN (tgt := 23) hx hb dX8_strokes_10 (by decide) ?_
    refine lv_iconst (v := (0 : Int32)) hx hb dX8_strokes_23 (by decide) ?_
    exact pr_retz C (Or.inl rfl) h hR hS dX8_strokes_24
  · have h := h.2 i1q j1q rfl
    refine lv_astore (lv' := [(4, .ref (ad 2 i1q j1q)), (0, .ref (ad 8 0 0)), (1, .int a1), (2, .int a2), (3, .int a3)]) hx hb dX8_strokes_6 hl (by decide) rfl (fun ls hl => ?_)
    refine lv_aload hx hb dX8_strokes_8 (lv_at hl 0 rfl) ?_
    refine lv_ifnull hx hb dX8_strokes_10 ?_
    refine lv_iload_n hx hb dX8_strokes_13 rfl (lv_at hl 4 rfl) ?_
    refine lv_sipush (v := (9999 : Int32)) hx hb dX8_strokes_14 (by decide) ?_
    refine pr_calli hS (pr_runS (As := [.int a3, .int (9999 : Int32)]) (rest := []) C hR (c_X8_within h) gw_RX8_67 rfl rfl hs_X8_within ⟨Nat.le_of_ble_eq_true rfl, Nat.le_of_ble_eq_true rfl⟩ rfl hl.1 rfl (Nat.le_of_ble_eq_true rfl) dX8_strokes_17 ⟨Nat.zero_le _, Nat.zero_le _⟩) (fun r2 σ2 H locs h hR hS => ?_)
    obtain ⟨hz2, h⟩ := h
    refine lv_if_ne (tgt := 25) hx hb dX8_strokes_20 (by decide) (fun c3 => ?_) (fun c3 => ?_)
    · have h := h.1 c3
      refine lv_aload hx hb dX8_strokes_25 (lv_at hl 0 rfl) ?_
      refine lv_iload_n hx hb dX8_strokes_27 rfl (lv_at hl 4 rfl) ?_
      refine pf_RX8_194 C hR hS hv1 dX8_strokes_28 (fun H locs σ4 e4 hR hS => ?_)
      have h := h σ4 e4
      refine lv_iconst (v := (1 : Int32)) hx hb dX8_strokes_31 (by decide) ?_
      exact pr_retz C (Or.inr rfl) h hR hS dX8_strokes_32
    · have h := h.2 c3
      refine lv_iconst (v := (0 : Int32)) hx hb dX8_strokes_23 (by decide) ?_
      exact pr_retz C (Or.inl rfl) h hR hS dX8_strokes_24
abbrev wp_X8_strokes (g : Nat → Nat) (σ : pr_Sg) (a1 : Int32) (a2 : Int32) (a3 : Int32) (Q : Int32 → pr_Sg → Prop) : Prop := wpb_X8_strokes g σ a1 a2 a3 Q
set_option maxHeartbeats 4000000 in
set_option maxRecDepth 100000 in
theorem c_X8_strokes {l : Launch} {D : va_G} {cs : Nat → ClassId} {A : Nat → Prop} {ad : pr_Ad} {g : Nat → Nat} {σ : pr_Sg} {a1 : Int32} {a2 : Int32} {a3 : Int32} {Q : Int32 → pr_Sg → Prop} (h : wp_X8_strokes g σ a1 a2 a3 Q) : pr_Mi l D cs A ad g yX8_strokes cX8_strokes 5 (some .boolean) rm_X8_strokes [.ref (ad 8 0 0), .int a1, .int a2, .int a3] σ (pr_Qz Q) := by
  refine Met.ofW (cc := cX8_strokes) (maxL := 5) (ret := (some .boolean)) (by decide) rfl ?_
  intro p e s m args below meth c s₁ B hml hv
  obtain ⟨rfl, hR, hK⟩ := hv
  have C : pr_C RX8 cX8_strokes 5 (some .boolean) D cs p s m [.ref (ad 8 0 0), .int a1, .int a2, .int a3].toArray meth c := pr_C.of B hml hK
  have hS : va_S A s.heap s.heap [] := va_S.rf
  have hl := lv_entry ([.ref (ad 8 0 0), .int a1, .int a2, .int a3]) (n := 5) (Nat.le_of_ble_eq_true rfl)
  rw [lg_entry_eq]
  generalize (lg_sl ([.ref (ad 8 0 0), .int a1, .int a2, .int a3]) ++ List.replicate (5 - (lg_sl ([.ref (ad 8 0 0), .int a1, .int a2, .int a3])).length) Slot.unset).toArray = ls at hl ⊢
  have hl : lv_has ls 5 [(0, .ref (ad 8 0 0)), (1, .int a1), (2, .int a2), (3, .int a3)] := hl
  exact t_X8_strokes C h hR hS hl
def rm_X8_habitDistance : Room := { frames := 1, cells := 0, slots := 0, locals := 21 }
theorem hd_X8_habitDistance : yX8_habitDistance.cls = RX8 ∧ yX8_habitDistance.cls ≠ "java/lang/invoke/MethodHandle" ∧ yX8_habitDistance.cls ≠ "java/lang/invoke/VarHandle" ∧ (parseMethodDescriptor yX8_habitDistance.desc).map (fun d => d.parameters.length) = some 2 := ⟨rfl, by decide, by decide, by decide +kernel⟩
def wp_X8_habitDistance_L35 (g : Nat → Nat) (Q : Int32 → pr_Sg → Prop) : Nat → pr_Sg → Int32 → Int32 → Int32 → Int32 → Prop
  | 0, _, _, _, _, _ => False
  | n + 1, σ, x4, x5, x6, x7 => (((4 : Int32) ≤ x7 → Q x4 σ) ∧
  (¬ (4 : Int32) ≤ x7 → wp_X8_habitDistance_L35 g Q n σ (x4 + (((x5 - x5 / (10 : Int32) * (10 : Int32)) - (x6 - x6 / (10 : Int32) * (10 : Int32))) * ((x5 - x5 / (10 : Int32) * (10 : Int32)) - (x6 - x6 / (10 : Int32) * (10 : Int32))))) (x5 / (10 : Int32)) (x6 / (10 : Int32)) (x7 + (1 : Int32))))
set_option maxHeartbeats 4000000 in
set_option maxRecDepth 100000 in
theorem t_X8_habitDistance_L35 {p : Program} {l : Launch} {e : Env} {s : State} {m : MethodId} {args : Array Value} {below : List Frame} {meth : Method} {c : Code} {D : va_G} {cs : Nat → ClassId} {A : Nat → Prop} {ad : pr_Ad} {g : Nat → Nat} {Q : Int32 → pr_Sg → Prop} (C : pr_C RX8 cX8_habitDistance 9 (some .int) D cs p s m args meth c) (n : Nat) : ∀ {H : Heap} {locs : List Loc} {ls : Array Slot} {σ : pr_Sg} {x4 : Int32} {x5 : Int32} {x6 : Int32} {x7 : Int32} (_ : wp_X8_habitDistance_L35 g Q n σ x4 x5 x6 x7) (_ : pr_R D cs A ad g σ H) (_ : va_S A s.heap H locs) (_ : lv_has ls 9 [(4, .int x4), (5, .int x5), (6, .int x6), (7, .int x7)]), W p l e rm_X8_habitDistance s m args below meth c H locs 0 0 (MQ below (va_Qi Q (pr_E D cs A ad g) A) args s 0 0 A) (F0 m 35 ls []) := by
  induction n with
  | zero =>
    intro H locs ls σ x4 x5 x6 x7 h
    exact False.elim h
  | succ n ih =>
    intro H locs ls σ x4 x5 x6 x7 h hR hS hl
    unfold wp_X8_habitDistance_L35 at h
    obtain ⟨hx, hb, hml, hown, hts, hK, hr, hlocks⟩ := id C
    refine lv_iload hx hb dX8_habitDistance_35 (lv_at hl 3 rfl) ?_
    refine lv_iconst (v := (4 : Int32)) hx hb dX8_habitDistance_37 (by decide) ?_
    refine lv_icmp_ge (tgt := 84) hx hb dX8_habitDistance_38 (by decide) (fun c3 => ?_) (fun c3 => ?_)
    · have h := h.1 c3
      refine lv_iload hx hb dX8_habitDistance_84 (lv_at hl 0 rfl) ?_
      exact pr_reti C h hR hS dX8_habitDistance_86
    · have h := h.2 c3
      refine lv_iload hx hb dX8_habitDistance_41 (lv_at hl 1 rfl) ?_
      refine lv_bipush (v := (10 : Int32)) hx hb dX8_habitDistance_43 (by decide) ?_
      refine lv_irem hx hb dX8_habitDistance_45 (by decide) ?_
      refine lv_iload hx hb dX8_habitDistance_46 (lv_at hl 2 rfl) ?_
      refine lv_bipush (v := (10 : Int32)) hx hb dX8_habitDistance_48 (by decide) ?_
      refine lv_irem hx hb dX8_habitDistance_50 (by decide) ?_
      refine lv_isub hx hb dX8_habitDistance_51 ?_
      refine lv_istore (lv' := [(8, .int ((x5 - x5 / (10 : Int32) * (10 : Int32)) - (x6 - x6 / (10 : Int32) * (10 : Int32)))), (4, .int x4), (5, .int x5), (6, .int x6), (7, .int x7)]) hx hb dX8_habitDistance_52 hl (by decide) rfl (fun ls hl => ?_)
      refine lv_iload hx hb dX8_habitDistance_54 (lv_at hl 1 rfl) ?_
      refine lv_iload hx hb dX8_habitDistance_56 (lv_at hl 0 rfl) ?_
      refine lv_iload hx hb dX8_habitDistance_58 (lv_at hl 0 rfl) ?_
      refine lv_imul hx hb dX8_habitDistance_60 ?_
      refine lv_iadd hx hb dX8_habitDistance_61 ?_
      refine lv_istore (lv' := [(4, .int (x4 + (((x5 - x5 / (10 : Int32) * (10 : Int32)) - (x6 - x6 / (10 : Int32) * (10 : Int32))) * ((x5 - x5 / (10 : Int32) * (10 : Int32)) - (x6 - x6 / (10 : Int32) * (10 : Int32)))))), (8, .int ((x5 - x5 / (10 : Int32) * (10 : Int32)) - (x6 - x6 / (10 : Int32) * (10 : Int32)))), (5, .int x5), (6, .int x6), (7, .int x7)]) hx hb dX8_habitDistance_62 hl (by decide) rfl (fun ls hl => ?_)
      refine lv_iload hx hb dX8_habitDistance_64 (lv_at hl 2 rfl) ?_
      refine lv_bipush (v := (10 : Int32)) hx hb dX8_habitDistance_66 (by decide) ?_
      refine lv_idiv hx hb dX8_habitDistance_68 (by decide) ?_
      refine lv_istore (lv' := [(5, .int (x5 / (10 : Int32))), (4, .int (x4 + (((x5 - x5 / (10 : Int32) * (10 : Int32)) - (x6 - x6 / (10 : Int32) * (10 : Int32))) * ((x5 - x5 / (10 : Int32) * (10 : Int32)) - (x6 - x6 / (10 : Int32) * (10 : Int32)))))), (8, .int ((x5 - x5 / (10 : Int32) * (10 : Int32)) - (x6 - x6 / (10 : Int32) * (10 : Int32)))), (6, .int x6), (7, .int x7)]) hx hb dX8_habitDistance_69 hl (by decide) rfl (fun ls hl => ?_)
      refine lv_iload hx hb dX8_habitDistance_71 (lv_at hl 3 rfl) ?_
      refine lv_bipush (v := (10 : Int32)) hx hb dX8_habitDistance_73 (by decide) ?_
      refine lv_idiv hx hb dX8_habitDistance_75 (by decide) ?_
      refine lv_istore (lv' := [(6, .int (x6 / (10 : Int32))), (5, .int (x5 / (10 : Int32))), (4, .int (x4 + (((x5 - x5 / (10 : Int32) * (10 : Int32)) - (x6 - x6 / (10 : Int32) * (10 : Int32))) * ((x5 - x5 / (10 : Int32) * (10 : Int32)) - (x6 - x6 / (10 : Int32) * (10 : Int32)))))), (8, .int ((x5 - x5 / (10 : Int32) * (10 : Int32)) - (x6 - x6 / (10 : Int32) * (10 : Int32)))), (7, .int x7)]) hx hb dX8_habitDistance_76 hl (by decide) rfl (fun ls hl => ?_)
      refine lv_iinc (v := (x7 + (1 : Int32))) (lv' := [(7, .int (x7 + (1 : Int32))), (6, .int (x6 / (10 : Int32))), (5, .int (x5 / (10 : Int32))), (4, .int (x4 + (((x5 - x5 / (10 : Int32) * (10 : Int32)) - (x6 - x6 / (10 : Int32) * (10 : Int32))) * ((x5 - x5 / (10 : Int32) * (10 : Int32)) - (x6 - x6 / (10 : Int32) * (10 : Int32)))))), (8, .int ((x5 - x5 / (10 : Int32) * (10 : Int32)) - (x6 - x6 / (10 : Int32) * (10 : Int32))))]) hx hb dX8_habitDistance_78 hl (k := 4) rfl rfl (by decide) rfl (fun ls hl => ?_)
      refine lv_goto (tgt := 35) hx hb dX8_habitDistance_81 (by decide) ?_
      exact ih h hR hS (lv_sub hl [3, 2, 1, 0] rfl)
def wpb_X8_habitDistance (g : Nat → Nat) (σ : pr_Sg) (a1 : Int32) (a2 : Int32) (Q : Int32 → pr_Sg → Prop) : Prop :=
  (wp_X8_handAt g σ a1 (fun x1 σ1 =>
  (x1 = none → Q (-1 : Int32) σ1) ∧
  (∀ i1q : Nat, x1 = some (i1q, 0) → ((¬ (σ1 0 i1q 0) = (-1 : Int32) → (∃ n : Nat, wp_X8_habitDistance_L35 g Q n σ1 (0 : Int32) (σ1 0 i1q 0) a2 (0 : Int32))) ∧
  ((σ1 0 i1q 0) = (-1 : Int32) → Q (-1 : Int32) σ1)))))
set_option maxHeartbeats 4000000 in
set_option maxRecDepth 100000 in
theorem t_X8_habitDistance {p : Program} {l : Launch} {e : Env} {s : State} {m : MethodId} {args : Array Value} {below : List Frame} {meth : Method} {c : Code} {D : va_G} {cs : Nat → ClassId} {A : Nat → Prop} {ad : pr_Ad} {g : Nat → Nat} {Q : Int32 → pr_Sg → Prop} (C : pr_C RX8 cX8_habitDistance 9 (some .int) D cs p s m args meth c) {H : Heap} {locs : List Loc} {ls : Array Slot} {σ : pr_Sg} {a1 : Int32} {a2 : Int32} (h : wpb_X8_habitDistance g σ a1 a2 Q) (hR : pr_R D cs A ad g σ H) (hS : va_S A s.heap H locs) (hl : lv_has ls 9 [(0, .ref (ad 8 0 0)), (1, .int a1), (2, .int a2)]) : W p l e rm_X8_habitDistance s m args below meth c H locs 0 0 (MQ below (va_Qi Q (pr_E D cs A ad g) A) args s 0 0 A) (F0 m 0 ls []) := by
  unfold wpb_X8_habitDistance at h
  obtain ⟨hx, hb, hml, hown, hts, hK, hr, hlocks⟩ := id C
  refine lv_aload_n hx hb dX8_habitDistance_0 rfl (lv_at hl 0 rfl) ?_
  refine lv_iload_n hx hb dX8_habitDistance_1 rfl (lv_at hl 1 rfl) ?_
  refine pr_callr hS (pr_runV (As := [.int a1]) (rest := []) C hR pr_l8 (by omega) rfl (c_X8_handAt h) gw_RX8_183 rfl rfl hd_X8_handAt ⟨Nat.le_of_ble_eq_true rfl, Nat.le_of_ble_eq_true rfl⟩ rfl hl.1 rfl (Nat.le_of_ble_eq_true rfl) dX8_habitDistance_2 ⟨Nat.zero_le _, Nat.zero_le _⟩) (fun σ1 H locs h hR hS => ?_) (fun i1q j1q σ1 H locs h hv1 hR hS => ?_)
  · have h := h.1 rfl
    refine lv_astore_nN (lv' := [(3, .null), (0, .ref (ad 8 0 0)), (1, .int a1), (2, .int a2)]) hx hb dX8_habitDistance_5 rfl hl (by decide) rfl (fun ls hl => ?_)
    refine lv_aload_nN hx hb dX8_habitDistance_6 rfl (lv_at hl 0 rfl) ?_
    refine lv_ifnullN (tgt := 18) hx hb dX8_habitDistance_7 (by decide) ?_
    refine lv_iconst (v := (-1 : Int32)) hx hb dX8_habitDistance_18 (by decide) ?_
    exact pr_reti C h hR hS dX8_habitDistance_19
  · obtain rfl : j1q = 0 := pr_lvj (by decide) hv1
    have h := h.2 i1q rfl
    refine lv_astore_n (lv' := [(3, .ref (ad 0 i1q 0)), (0, .ref (ad 8 0 0)), (1, .int a1), (2, .int a2)]) hx hb dX8_habitDistance_5 rfl hl (by decide) rfl (fun ls hl => ?_)
    refine lv_aload_n hx hb dX8_habitDistance_6 rfl (lv_at hl 0 rfl) ?_
    refine lv_ifnull hx hb dX8_habitDistance_7 ?_
    refine lv_aload_n hx hb dX8_habitDistance_10 rfl (lv_at hl 0 rfl) ?_
    refine gf_RX8_187 C hR hv1 dX8_habitDistance_11 ?_
    refine lv_iconst (v := (-1 : Int32)) hx hb dX8_habitDistance_14 (by decide) ?_
    refine lv_icmp_ne (tgt := 20) hx hb dX8_habitDistance_15 (by decide) (fun c2 => ?_) (fun c2 => ?_)
    · have h := h.1 c2
      refine lv_iconst (v := (0 : Int32)) hx hb dX8_habitDistance_20 (by decide) ?_
      refine lv_istore (lv' := [(4, .int (0 : Int32)), (3, .ref (ad 0 i1q 0)), (0, .ref (ad 8 0 0)), (1, .int a1), (2, .int a2)]) hx hb dX8_habitDistance_21 hl (by decide) rfl (fun ls hl => ?_)
      refine lv_aload_n hx hb dX8_habitDistance_23 rfl (lv_at hl 1 rfl) ?_
      refine gf_RX8_187 C hR hv1 dX8_habitDistance_24 ?_
      refine lv_istore (lv' := [(5, .int (σ1 0 i1q 0)), (4, .int (0 : Int32)), (3, .ref (ad 0 i1q 0)), (0, .ref (ad 8 0 0)), (1, .int a1), (2, .int a2)]) hx hb dX8_habitDistance_27 hl (by decide) rfl (fun ls hl => ?_)
      refine lv_iload_n hx hb dX8_habitDistance_29 rfl (lv_at hl 5 rfl) ?_
      refine lv_istore (lv' := [(6, .int a2), (5, .int (σ1 0 i1q 0)), (4, .int (0 : Int32)), (3, .ref (ad 0 i1q 0)), (0, .ref (ad 8 0 0)), (1, .int a1), (2, .int a2)]) hx hb dX8_habitDistance_30 hl (by decide) rfl (fun ls hl => ?_)
      refine lv_iconst (v := (0 : Int32)) hx hb dX8_habitDistance_32 (by decide) ?_
      refine lv_istore (lv' := [(7, .int (0 : Int32)), (6, .int a2), (5, .int (σ1 0 i1q 0)), (4, .int (0 : Int32)), (3, .ref (ad 0 i1q 0)), (0, .ref (ad 8 0 0)), (1, .int a1), (2, .int a2)]) hx hb dX8_habitDistance_33 hl (by decide) rfl (fun ls hl => ?_)
      obtain ⟨n1, h⟩ := h
      exact t_X8_habitDistance_L35 C n1 h hR hS (lv_sub hl [3, 2, 1, 0] rfl)
    · have h := h.2 c2
      refine lv_iconst (v := (-1 : Int32)) hx hb dX8_habitDistance_18 (by decide) ?_
      exact pr_reti C h hR hS dX8_habitDistance_19
abbrev wp_X8_habitDistance (g : Nat → Nat) (σ : pr_Sg) (a1 : Int32) (a2 : Int32) (Q : Int32 → pr_Sg → Prop) : Prop := wpb_X8_habitDistance g σ a1 a2 Q
set_option maxHeartbeats 4000000 in
set_option maxRecDepth 100000 in
theorem c_X8_habitDistance {l : Launch} {D : va_G} {cs : Nat → ClassId} {A : Nat → Prop} {ad : pr_Ad} {g : Nat → Nat} {σ : pr_Sg} {a1 : Int32} {a2 : Int32} {Q : Int32 → pr_Sg → Prop} (h : wp_X8_habitDistance g σ a1 a2 Q) : pr_Mi l D cs A ad g yX8_habitDistance cX8_habitDistance 9 (some .int) rm_X8_habitDistance [.ref (ad 8 0 0), .int a1, .int a2] σ Q := by
  refine Met.ofW (cc := cX8_habitDistance) (maxL := 9) (ret := (some .int)) (by decide) rfl ?_
  intro p e s m args below meth c s₁ B hml hv
  obtain ⟨rfl, hR, hK⟩ := hv
  have C : pr_C RX8 cX8_habitDistance 9 (some .int) D cs p s m [.ref (ad 8 0 0), .int a1, .int a2].toArray meth c := pr_C.of B hml hK
  have hS : va_S A s.heap s.heap [] := va_S.rf
  have hl := lv_entry ([.ref (ad 8 0 0), .int a1, .int a2]) (n := 9) (Nat.le_of_ble_eq_true rfl)
  rw [lg_entry_eq]
  generalize (lg_sl ([.ref (ad 8 0 0), .int a1, .int a2]) ++ List.replicate (9 - (lg_sl ([.ref (ad 8 0 0), .int a1, .int a2])).length) Slot.unset).toArray = ls at hl ⊢
  have hl : lv_has ls 9 [(0, .ref (ad 8 0 0)), (1, .int a1), (2, .int a2)] := hl
  exact t_X8_habitDistance C h hR hS hl
def rm_X8_nearestHand : Room := { frames := 2, cells := 0, slots := 0, locals := 49 }
theorem hd_X8_nearestHand : yX8_nearestHand.cls = RX8 ∧ yX8_nearestHand.cls ≠ "java/lang/invoke/MethodHandle" ∧ yX8_nearestHand.cls ≠ "java/lang/invoke/VarHandle" ∧ (parseMethodDescriptor yX8_nearestHand.desc).map (fun d => d.parameters.length) = some 2 := ⟨rfl, by decide, by decide, by decide +kernel⟩
def wp_X8_nearestHand_L8 (g : Nat → Nat) (Q : Int32 → pr_Sg → Prop) : Nat → pr_Sg → Int32 → Int32 → Int32 → Int32 → Int32 → Prop
  | 0, _, _, _, _, _, _ => False
  | n + 1, σ, x1, x2, x3, x4, x5 => (((σ 521 0 0) ≤ x5 → Q x3 σ) ∧
  (¬ (σ 521 0 0) ≤ x5 → (wp_X8_habitDistance g σ x5 x1 (fun r2 σ2 =>
  ((x5 = x2 → wp_X8_nearestHand_L8 g Q n σ2 x1 x2 x3 x4 (x5 + (1 : Int32))) ∧
  (¬ x5 = x2 → ((r2 = (-1 : Int32) → wp_X8_nearestHand_L8 g Q n σ2 x1 x2 x3 x4 (x5 + (1 : Int32))) ∧
  (¬ r2 = (-1 : Int32) → ((x3 = (-1 : Int32) → wp_X8_nearestHand_L8 g Q n σ2 x1 x2 x5 r2 (x5 + (1 : Int32))) ∧
  (¬ x3 = (-1 : Int32) → ((x4 ≤ r2 → wp_X8_nearestHand_L8 g Q n σ2 x1 x2 x3 x4 (x5 + (1 : Int32))) ∧
  (¬ x4 ≤ r2 → wp_X8_nearestHand_L8 g Q n σ2 x1 x2 x5 r2 (x5 + (1 : Int32))))))))))))))
set_option maxHeartbeats 4000000 in
set_option maxRecDepth 100000 in
theorem t_X8_nearestHand_L8 {p : Program} {l : Launch} {e : Env} {s : State} {m : MethodId} {args : Array Value} {below : List Frame} {meth : Method} {c : Code} {D : va_G} {cs : Nat → ClassId} {A : Nat → Prop} {ad : pr_Ad} {g : Nat → Nat} {Q : Int32 → pr_Sg → Prop} (C : pr_C RX8 cX8_nearestHand 7 (some .int) D cs p s m args meth c) (n : Nat) : ∀ {H : Heap} {locs : List Loc} {ls : Array Slot} {σ : pr_Sg} {x1 : Int32} {x2 : Int32} {x3 : Int32} {x4 : Int32} {x5 : Int32} (_ : wp_X8_nearestHand_L8 g Q n σ x1 x2 x3 x4 x5) (_ : pr_R D cs A ad g σ H) (_ : va_S A s.heap H locs) (_ : lv_has ls 7 [(0, .ref (ad 8 0 0)), (1, .int x1), (2, .int x2), (3, .int x3), (4, .int x4), (5, .int x5)]), W p l e rm_X8_nearestHand s m args below meth c H locs 0 0 (MQ below (va_Qi Q (pr_E D cs A ad g) A) args s 0 0 A) (F0 m 8 ls []) := by
  induction n with
  | zero =>
    intro H locs ls σ x1 x2 x3 x4 x5 h
    exact False.elim h
  | succ n ih =>
    intro H locs ls σ x1 x2 x3 x4 x5 h hR hS hl
    unfold wp_X8_nearestHand_L8 at h
    obtain ⟨hx, hb, hml, hown, hts, hK, hr, hlocks⟩ := id C
    refine lv_iload hx hb dX8_nearestHand_8 (lv_at hl 5 rfl) ?_
    refine lv_aload_n hx hb dX8_nearestHand_10 rfl (lv_at hl 0 rfl) ?_
    refine gf_RX8_60 C hR pr_l8 dX8_nearestHand_11 ?_
    refine lv_icmp_ge (tgt := 63) hx hb dX8_nearestHand_14 (by decide) (fun c1 => ?_) (fun c1 => ?_)
    · have h := h.1 c1
      refine lv_iload_n hx hb dX8_nearestHand_63 rfl (lv_at hl 3 rfl) ?_
      exact pr_reti C h hR hS dX8_nearestHand_64
    · have h := h.2 c1
      refine lv_aload_n hx hb dX8_nearestHand_17 rfl (lv_at hl 0 rfl) ?_
      refine lv_iload hx hb dX8_nearestHand_18 (lv_at hl 5 rfl) ?_
      refine lv_iload_n hx hb dX8_nearestHand_20 rfl (lv_at hl 1 rfl) ?_
      refine pr_calli hS (pr_runV (As := [.int x5, .int x1]) (rest := []) C hR pr_l8 (by omega) rfl (c_X8_habitDistance h) gw_RX8_202 rfl rfl hd_X8_habitDistance ⟨Nat.le_of_ble_eq_true rfl, Nat.le_of_ble_eq_true rfl⟩ rfl hl.1 rfl (Nat.le_of_ble_eq_true rfl) dX8_nearestHand_21 ⟨Nat.zero_le _, Nat.zero_le _⟩) (fun r2 σ2 H locs h hR hS => ?_)
      refine lv_istore (lv' := [(6, .int r2), (0, .ref (ad 8 0 0)), (1, .int x1), (2, .int x2), (3, .int x3), (4, .int x4), (5, .int x5)]) hx hb dX8_nearestHand_24 hl (by decide) rfl (fun ls hl => ?_)
      refine lv_iload hx hb dX8_nearestHand_26 (lv_at hl 6 rfl) ?_
      refine lv_iload_n hx hb dX8_nearestHand_28 rfl (lv_at hl 3 rfl) ?_
      refine lv_icmp_eq (tgt := 57) hx hb dX8_nearestHand_29 (by decide) (fun c3 => ?_) (fun c3 => ?_)
      · have h := h.1 c3
        refine lv_iinc (v := (x5 + (1 : Int32))) (lv' := [(5, .int (x5 + (1 : Int32))), (6, .int r2), (0, .ref (ad 8 0 0)), (1, .int x1), (2, .int x2), (3, .int x3), (4, .int x4)]) hx hb dX8_nearestHand_57 hl (k := 6) rfl rfl (by decide) rfl (fun ls hl => ?_)
        refine lv_goto (tgt := 8) hx hb dX8_nearestHand_60 (by decide) ?_
        exact ih h hR hS (lv_sub hl [2, 3, 4, 5, 6, 0] rfl)
      · have h := h.2 c3
        refine lv_iload hx hb dX8_nearestHand_32 (lv_at hl 0 rfl) ?_
        refine lv_iconst (v := (-1 : Int32)) hx hb dX8_nearestHand_34 (by decide) ?_
        refine lv_icmp_eq (tgt := 57) hx hb dX8_nearestHand_35 (by decide) (fun c4 => ?_) (fun c4 => ?_)
        · have h := h.1 c4
          refine lv_iinc (v := (x5 + (1 : Int32))) (lv' := [(5, .int (x5 + (1 : Int32))), (6, .int r2), (0, .ref (ad 8 0 0)), (1, .int x1), (2, .int x2), (3, .int x3), (4, .int x4)]) hx hb dX8_nearestHand_57 hl (k := 6) rfl rfl (by decide) rfl (fun ls hl => ?_)
          refine lv_goto (tgt := 8) hx hb dX8_nearestHand_60 (by decide) ?_
          exact ih h hR hS (lv_sub hl [2, 3, 4, 5, 6, 0] rfl)
        · have h := h.2 c4
          refine lv_iload_n hx hb dX8_nearestHand_38 rfl (lv_at hl 4 rfl) ?_
          refine lv_iconst (v := (-1 : Int32)) hx hb dX8_nearestHand_39 (by decide) ?_
          refine lv_icmp_eq (tgt := 50) hx hb dX8_nearestHand_40 (by decide) (fun c5 => ?_) (fun c5 => ?_)
          · have h := h.1 c5
            refine lv_iload hx hb dX8_nearestHand_50 (lv_at hl 6 rfl) ?_
            refine lv_istore_n (lv' := [(3, .int x5), (6, .int r2), (0, .ref (ad 8 0 0)), (1, .int x1), (2, .int x2), (4, .int x4), (5, .int x5)]) hx hb dX8_nearestHand_52 rfl hl (by decide) rfl (fun ls hl => ?_)
            refine lv_iload hx hb dX8_nearestHand_53 (lv_at hl 1 rfl) ?_
            refine lv_istore (lv' := [(4, .int r2), (3, .int x5), (6, .int r2), (0, .ref (ad 8 0 0)), (1, .int x1), (2, .int x2), (5, .int x5)]) hx hb dX8_nearestHand_55 hl (by decide) rfl (fun ls hl => ?_)
            refine lv_iinc (v := (x5 + (1 : Int32))) (lv' := [(5, .int (x5 + (1 : Int32))), (4, .int r2), (3, .int x5), (6, .int r2), (0, .ref (ad 8 0 0)), (1, .int x1), (2, .int x2)]) hx hb dX8_nearestHand_57 hl (k := 6) rfl rfl (by decide) rfl (fun ls hl => ?_)
            refine lv_goto (tgt := 8) hx hb dX8_nearestHand_60 (by decide) ?_
            exact ih h hR hS (lv_sub hl [4, 5, 6, 2, 1, 0] rfl)
          · have h := h.2 c5
            refine lv_iload hx hb dX8_nearestHand_43 (lv_at hl 0 rfl) ?_
            refine lv_iload hx hb dX8_nearestHand_45 (lv_at hl 5 rfl) ?_
            refine lv_icmp_ge (tgt := 57) hx hb dX8_nearestHand_47 (by decide) (fun c6 => ?_) (fun c6 => ?_)
            · have h := h.1 c6
              refine lv_iinc (v := (x5 + (1 : Int32))) (lv' := [(5, .int (x5 + (1 : Int32))), (6, .int r2), (0, .ref (ad 8 0 0)), (1, .int x1), (2, .int x2), (3, .int x3), (4, .int x4)]) hx hb dX8_nearestHand_57 hl (k := 6) rfl rfl (by decide) rfl (fun ls hl => ?_)
              refine lv_goto (tgt := 8) hx hb dX8_nearestHand_60 (by decide) ?_
              exact ih h hR hS (lv_sub hl [2, 3, 4, 5, 6, 0] rfl)
            · have h := h.2 c6
              refine lv_iload hx hb dX8_nearestHand_50 (lv_at hl 6 rfl) ?_
              refine lv_istore_n (lv' := [(3, .int x5), (6, .int r2), (0, .ref (ad 8 0 0)), (1, .int x1), (2, .int x2), (4, .int x4), (5, .int x5)]) hx hb dX8_nearestHand_52 rfl hl (by decide) rfl (fun ls hl => ?_)
              refine lv_iload hx hb dX8_nearestHand_53 (lv_at hl 1 rfl) ?_
              refine lv_istore (lv' := [(4, .int r2), (3, .int x5), (6, .int r2), (0, .ref (ad 8 0 0)), (1, .int x1), (2, .int x2), (5, .int x5)]) hx hb dX8_nearestHand_55 hl (by decide) rfl (fun ls hl => ?_)
              refine lv_iinc (v := (x5 + (1 : Int32))) (lv' := [(5, .int (x5 + (1 : Int32))), (4, .int r2), (3, .int x5), (6, .int r2), (0, .ref (ad 8 0 0)), (1, .int x1), (2, .int x2)]) hx hb dX8_nearestHand_57 hl (k := 6) rfl rfl (by decide) rfl (fun ls hl => ?_)
              refine lv_goto (tgt := 8) hx hb dX8_nearestHand_60 (by decide) ?_
              exact ih h hR hS (lv_sub hl [4, 5, 6, 2, 1, 0] rfl)
def wpb_X8_nearestHand (g : Nat → Nat) (σ : pr_Sg) (a1 : Int32) (a2 : Int32) (Q : Int32 → pr_Sg → Prop) : Prop :=
  (∃ n : Nat, wp_X8_nearestHand_L8 g Q n σ a1 a2 (-1 : Int32) (0 : Int32) (0 : Int32))
set_option maxHeartbeats 4000000 in
set_option maxRecDepth 100000 in
theorem t_X8_nearestHand {p : Program} {l : Launch} {e : Env} {s : State} {m : MethodId} {args : Array Value} {below : List Frame} {meth : Method} {c : Code} {D : va_G} {cs : Nat → ClassId} {A : Nat → Prop} {ad : pr_Ad} {g : Nat → Nat} {Q : Int32 → pr_Sg → Prop} (C : pr_C RX8 cX8_nearestHand 7 (some .int) D cs p s m args meth c) {H : Heap} {locs : List Loc} {ls : Array Slot} {σ : pr_Sg} {a1 : Int32} {a2 : Int32} (h : wpb_X8_nearestHand g σ a1 a2 Q) (hR : pr_R D cs A ad g σ H) (hS : va_S A s.heap H locs) (hl : lv_has ls 7 [(0, .ref (ad 8 0 0)), (1, .int a1), (2, .int a2)]) : W p l e rm_X8_nearestHand s m args below meth c H locs 0 0 (MQ below (va_Qi Q (pr_E D cs A ad g) A) args s 0 0 A) (F0 m 0 ls []) := by
  unfold wpb_X8_nearestHand at h
  obtain ⟨hx, hb, hml, hown, hts, hK, hr, hlocks⟩ := id C
  refine lv_iconst (v := (-1 : Int32)) hx hb dX8_nearestHand_0 (by decide) ?_
  refine lv_istore_n (lv' := [(3, .int (-1 : Int32)), (0, .ref (ad 8 0 0)), (1, .int a1), (2, .int a2)]) hx hb dX8_nearestHand_1 rfl hl (by decide) rfl (fun ls hl => ?_)
  refine lv_iconst (v := (0 : Int32)) hx hb dX8_nearestHand_2 (by decide) ?_
  refine lv_istore (lv' := [(4, .int (0 : Int32)), (3, .int (-1 : Int32)), (0, .ref (ad 8 0 0)), (1, .int a1), (2, .int a2)]) hx hb dX8_nearestHand_3 hl (by decide) rfl (fun ls hl => ?_)
  refine lv_iconst (v := (0 : Int32)) hx hb dX8_nearestHand_5 (by decide) ?_
  refine lv_istore (lv' := [(5, .int (0 : Int32)), (4, .int (0 : Int32)), (3, .int (-1 : Int32)), (0, .ref (ad 8 0 0)), (1, .int a1), (2, .int a2)]) hx hb dX8_nearestHand_6 hl (by decide) rfl (fun ls hl => ?_)
  obtain ⟨n1, h⟩ := h
  exact t_X8_nearestHand_L8 C n1 h hR hS (lv_sub hl [3, 4, 5, 2, 1, 0] rfl)
abbrev wp_X8_nearestHand (g : Nat → Nat) (σ : pr_Sg) (a1 : Int32) (a2 : Int32) (Q : Int32 → pr_Sg → Prop) : Prop := wpb_X8_nearestHand g σ a1 a2 Q
set_option maxHeartbeats 4000000 in
set_option maxRecDepth 100000 in
theorem c_X8_nearestHand {l : Launch} {D : va_G} {cs : Nat → ClassId} {A : Nat → Prop} {ad : pr_Ad} {g : Nat → Nat} {σ : pr_Sg} {a1 : Int32} {a2 : Int32} {Q : Int32 → pr_Sg → Prop} (h : wp_X8_nearestHand g σ a1 a2 Q) : pr_Mi l D cs A ad g yX8_nearestHand cX8_nearestHand 7 (some .int) rm_X8_nearestHand [.ref (ad 8 0 0), .int a1, .int a2] σ Q := by
  refine Met.ofW (cc := cX8_nearestHand) (maxL := 7) (ret := (some .int)) (by decide) rfl ?_
  intro p e s m args below meth c s₁ B hml hv
  obtain ⟨rfl, hR, hK⟩ := hv
  have C : pr_C RX8 cX8_nearestHand 7 (some .int) D cs p s m [.ref (ad 8 0 0), .int a1, .int a2].toArray meth c := pr_C.of B hml hK
  have hS : va_S A s.heap s.heap [] := va_S.rf
  have hl := lv_entry ([.ref (ad 8 0 0), .int a1, .int a2]) (n := 7) (Nat.le_of_ble_eq_true rfl)
  rw [lg_entry_eq]
  generalize (lg_sl ([.ref (ad 8 0 0), .int a1, .int a2]) ++ List.replicate (7 - (lg_sl ([.ref (ad 8 0 0), .int a1, .int a2])).length) Slot.unset).toArray = ls at hl ⊢
  have hl : lv_has ls 7 [(0, .ref (ad 8 0 0)), (1, .int a1), (2, .int a2)] := hl
  exact t_X8_nearestHand C h hR hS hl
def rm_X8_whose : Room := { frames := 3, cells := 0, slots := 0, locals := 75 }
theorem hd_X8_whose : yX8_whose.cls = RX8 ∧ yX8_whose.cls ≠ "java/lang/invoke/MethodHandle" ∧ yX8_whose.cls ≠ "java/lang/invoke/VarHandle" ∧ (parseMethodDescriptor yX8_whose.desc).map (fun d => d.parameters.length) = some 2 := ⟨rfl, by decide, by decide, by decide +kernel⟩
def wpb_X8_whose (g : Nat → Nat) (σ : pr_Sg) (a1 : Int32) (a2 : Int32) (Q : Int32 → pr_Sg → Prop) : Prop :=
  (wp_X8_partAt g σ a1 a2 (fun x1 σ1 =>
  (x1 = none → Q (-1 : Int32) σ1) ∧
  (∀ i1q j1q : Nat, x1 = some (i1q, j1q) → ((¬ (σ1 132 i1q j1q) = (-1 : Int32) → (wp_X8_nearestHand g σ1 (σ1 132 i1q j1q) (-1 : Int32) (fun r3 σ3 =>
  (wp_X8_nearestHand g σ3 (σ3 132 i1q j1q) r3 (fun r4 σ4 =>
  ((r3 = (-1 : Int32) → Q r3 σ4) ∧
  (¬ r3 = (-1 : Int32) → ((¬ r4 = (-1 : Int32) → (wp_X8_habitDistance g σ4 r4 (σ4 132 i1q j1q) (fun r7 σ7 =>
  (wp_X8_habitDistance g σ7 r3 (σ7 132 i1q j1q) (fun r8 σ8 =>
  (((σ8 528 0 0) ≤ (r7 - r8) → Q r3 σ8) ∧
  (¬ (σ8 528 0 0) ≤ (r7 - r8) → Q (-2 : Int32) σ8))))))) ∧
  (r4 = (-1 : Int32) → Q r3 σ4))))))))) ∧
  ((σ1 132 i1q j1q) = (-1 : Int32) → Q (-1 : Int32) σ1)))))
set_option maxHeartbeats 4000000 in
set_option maxRecDepth 100000 in
theorem t_X8_whose {p : Program} {l : Launch} {e : Env} {s : State} {m : MethodId} {args : Array Value} {below : List Frame} {meth : Method} {c : Code} {D : va_G} {cs : Nat → ClassId} {A : Nat → Prop} {ad : pr_Ad} {g : Nat → Nat} {Q : Int32 → pr_Sg → Prop} (C : pr_C RX8 cX8_whose 7 (some .int) D cs p s m args meth c) {H : Heap} {locs : List Loc} {ls : Array Slot} {σ : pr_Sg} {a1 : Int32} {a2 : Int32} (h : wpb_X8_whose g σ a1 a2 Q) (hR : pr_R D cs A ad g σ H) (hS : va_S A s.heap H locs) (hl : lv_has ls 7 [(0, .ref (ad 8 0 0)), (1, .int a1), (2, .int a2)]) : W p l e rm_X8_whose s m args below meth c H locs 0 0 (MQ below (va_Qi Q (pr_E D cs A ad g) A) args s 0 0 A) (F0 m 0 ls []) := by
  unfold wpb_X8_whose at h
  obtain ⟨hx, hb, hml, hown, hts, hK, hr, hlocks⟩ := id C
  refine lv_aload_n hx hb dX8_whose_0 rfl (lv_at hl 0 rfl) ?_
  refine lv_iload_n hx hb dX8_whose_1 rfl (lv_at hl 1 rfl) ?_
  refine lv_iload_n hx hb dX8_whose_2 rfl (lv_at hl 2 rfl) ?_
  refine pr_callr hS (pr_runV (As := [.int a1, .int a2]) (rest := []) C hR pr_l8 (by omega) rfl (c_X8_partAt h) gw_RX8_190 rfl rfl hd_X8_partAt ⟨Nat.le_of_ble_eq_true rfl, Nat.le_of_ble_eq_true rfl⟩ rfl hl.1 rfl (Nat.le_of_ble_eq_true rfl) dX8_whose_3 ⟨Nat.zero_le _, Nat.zero_le _⟩) (fun σ1 H locs h hR hS => ?_) (fun i1q j1q σ1 H locs h hv1 hR hS => ?_)
  · have h := h.1 rfl
    refine lv_astore_nN (lv' := [(3, .null), (0, .ref (ad 8 0 0)), (1, .int a1), (2, .int a2)]) hx hb dX8_whose_6 rfl hl (by decide) rfl (fun ls hl => ?_)
    refine lv_aload_nN hx hb dX8_whose_7 rfl (lv_at hl 0 rfl) ?_
    refine lv_ifnullN (tgt := 19) hx hb dX8_whose_8 (by decide) ?_
    refine lv_iconst (v := (-1 : Int32)) hx hb dX8_whose_19 (by decide) ?_
    exact pr_reti C h hR hS dX8_whose_20
  · have h := h.2 i1q j1q rfl
    refine lv_astore_n (lv' := [(3, .ref (ad 2 i1q j1q)), (0, .ref (ad 8 0 0)), (1, .int a1), (2, .int a2)]) hx hb dX8_whose_6 rfl hl (by decide) rfl (fun ls hl => ?_)
    refine lv_aload_n hx hb dX8_whose_7 rfl (lv_at hl 0 rfl) ?_
    refine lv_ifnull hx hb dX8_whose_8 ?_
    refine lv_aload_n hx hb dX8_whose_11 rfl (lv_at hl 0 rfl) ?_
    refine gf_RX8_194 C hR hv1 dX8_whose_12 ?_
    refine lv_iconst (v := (-1 : Int32)) hx hb dX8_whose_15 (by decide) ?_
    refine lv_icmp_ne (tgt := 21) hx hb dX8_whose_16 (by decide) (fun c2 => ?_) (fun c2 => ?_)
    · have h := h.1 c2
      refine lv_aload_n hx hb dX8_whose_21 rfl (lv_at hl 1 rfl) ?_
      refine lv_aload_n hx hb dX8_whose_22 rfl (lv_at hl 0 rfl) ?_
      refine gf_RX8_194 C hR hv1 dX8_whose_23 ?_
      refine lv_iconst (v := (-1 : Int32)) hx hb dX8_whose_26 (by decide) ?_
      refine pr_calli hS (pr_runV (As := [.int (σ1 132 i1q j1q), .int (-1 : Int32)]) (rest := []) C hR pr_l8 (by omega) rfl (c_X8_nearestHand h) gw_RX8_199 rfl rfl hd_X8_nearestHand ⟨Nat.le_of_ble_eq_true rfl, Nat.le_of_ble_eq_true rfl⟩ rfl hl.1 rfl (Nat.le_of_ble_eq_true rfl) dX8_whose_27 ⟨Nat.zero_le _, Nat.zero_le _⟩) (fun r3 σ3 H locs h hR hS => ?_)
      refine lv_istore (lv' := [(4, .int r3), (3, .ref (ad 2 i1q j1q)), (0, .ref (ad 8 0 0)), (1, .int a1), (2, .int a2)]) hx hb dX8_whose_30 hl (by decide) rfl (fun ls hl => ?_)
      refine lv_aload_n hx hb dX8_whose_32 rfl (lv_at hl 2 rfl) ?_
      refine lv_aload_n hx hb dX8_whose_33 rfl (lv_at hl 1 rfl) ?_
      refine gf_RX8_194 C hR hv1 dX8_whose_34 ?_
      refine lv_iload hx hb dX8_whose_37 (lv_at hl 0 rfl) ?_
      refine pr_calli hS (pr_runV (As := [.int (σ3 132 i1q j1q), .int r3]) (rest := []) C hR pr_l8 (by omega) rfl (c_X8_nearestHand h) gw_RX8_199 rfl rfl hd_X8_nearestHand ⟨Nat.le_of_ble_eq_true rfl, Nat.le_of_ble_eq_true rfl⟩ rfl hl.1 rfl (Nat.le_of_ble_eq_true rfl) dX8_whose_39 ⟨Nat.zero_le _, Nat.zero_le _⟩) (fun r4 σ4 H locs h hR hS => ?_)
      refine lv_istore (lv' := [(5, .int r4), (4, .int r3), (3, .ref (ad 2 i1q j1q)), (0, .ref (ad 8 0 0)), (1, .int a1), (2, .int a2)]) hx hb dX8_whose_42 hl (by decide) rfl (fun ls hl => ?_)
      refine lv_iload hx hb dX8_whose_44 (lv_at hl 1 rfl) ?_
      refine lv_iconst (v := (-1 : Int32)) hx hb dX8_whose_46 (by decide) ?_
      refine lv_icmp_eq (tgt := 56) hx hb dX8_whose_47 (by decide) (fun c5 => ?_) (fun c5 => ?_)
      · have h := h.1 c5
        refine lv_iload hx hb dX8_whose_56 (lv_at hl 1 rfl) ?_
        exact pr_reti C h hR hS dX8_whose_58
      · have h := h.2 c5
        refine lv_iload hx hb dX8_whose_50 (lv_at hl 0 rfl) ?_
        refine lv_iconst (v := (-1 : Int32)) hx hb dX8_whose_52 (by decide) ?_
        refine lv_icmp_ne (tgt := 59) hx hb dX8_whose_53 (by decide) (fun c6 => ?_) (fun c6 => ?_)
        · have h := h.1 c6
          refine lv_aload_n hx hb dX8_whose_59 rfl (lv_at hl 3 rfl) ?_
          refine lv_iload hx hb dX8_whose_60 (lv_at hl 0 rfl) ?_
          refine lv_aload_n hx hb dX8_whose_62 rfl (lv_at hl 2 rfl) ?_
          refine gf_RX8_194 C hR hv1 dX8_whose_63 ?_
          refine pr_calli hS (pr_runV (As := [.int r4, .int (σ4 132 i1q j1q)]) (rest := []) C hR pr_l8 (by omega) rfl (c_X8_habitDistance h) gw_RX8_202 rfl rfl hd_X8_habitDistance ⟨Nat.le_of_ble_eq_true rfl, Nat.le_of_ble_eq_true rfl⟩ rfl hl.1 rfl (Nat.le_of_ble_eq_true rfl) dX8_whose_66 ⟨Nat.zero_le _, Nat.zero_le _⟩) (fun r7 σ7 H locs h hR hS => ?_)
          refine lv_aload_n hx hb dX8_whose_69 rfl (lv_at hl 3 rfl) ?_
          refine lv_iload hx hb dX8_whose_70 (lv_at hl 1 rfl) ?_
          refine lv_aload_n hx hb dX8_whose_72 rfl (lv_at hl 2 rfl) ?_
          refine gf_RX8_194 C hR hv1 dX8_whose_73 ?_
          refine pr_calli hS (pr_runV (As := [.int r3, .int (σ7 132 i1q j1q)]) (rest := [.int r7]) C hR pr_l8 (by omega) rfl (c_X8_habitDistance h) gw_RX8_202 rfl rfl hd_X8_habitDistance ⟨Nat.le_of_ble_eq_true rfl, Nat.le_of_ble_eq_true rfl⟩ rfl hl.1 rfl (Nat.le_of_ble_eq_true rfl) dX8_whose_76 ⟨Nat.zero_le _, Nat.zero_le _⟩) (fun r8 σ8 H locs h hR hS => ?_)
          refine lv_isub hx hb dX8_whose_79 ?_
          refine lv_istore (lv' := [(6, .int (r7 - r8)), (5, .int r4), (4, .int r3), (3, .ref (ad 2 i1q j1q)), (0, .ref (ad 8 0 0)), (1, .int a1), (2, .int a2)]) hx hb dX8_whose_80 hl (by decide) rfl (fun ls hl => ?_)
          refine lv_iload hx hb dX8_whose_82 (lv_at hl 0 rfl) ?_
          refine lv_aload_n hx hb dX8_whose_84 rfl (lv_at hl 4 rfl) ?_
          refine gf_RX8_64 C hR pr_l8 dX8_whose_85 ?_
          refine lv_icmp_ge (tgt := 96) hx hb dX8_whose_88 (by decide) (fun c9 => ?_) (fun c9 => ?_)
          · have h := h.1 c9
            refine lv_iload hx hb dX8_whose_96 (lv_at hl 2 rfl) ?_
            exact pr_reti C h hR hS dX8_whose_98
          · have h := h.2 c9
            refine lv_bipush (v := (-2 : Int32)) hx hb dX8_whose_91 (by decide) ?_
            refine lv_goto (tgt := 98) hx hb dX8_whose_93 (by decide) ?_
            exact pr_reti C h hR hS dX8_whose_98
        · have h := h.2 c6
          refine lv_iload hx hb dX8_whose_56 (lv_at hl 1 rfl) ?_
          exact pr_reti C h hR hS dX8_whose_58
    · have h := h.2 c2
      refine lv_iconst (v := (-1 : Int32)) hx hb dX8_whose_19 (by decide) ?_
      exact pr_reti C h hR hS dX8_whose_20
abbrev wp_X8_whose (g : Nat → Nat) (σ : pr_Sg) (a1 : Int32) (a2 : Int32) (Q : Int32 → pr_Sg → Prop) : Prop := wpb_X8_whose g σ a1 a2 Q
set_option maxHeartbeats 4000000 in
set_option maxRecDepth 100000 in
theorem c_X8_whose {l : Launch} {D : va_G} {cs : Nat → ClassId} {A : Nat → Prop} {ad : pr_Ad} {g : Nat → Nat} {σ : pr_Sg} {a1 : Int32} {a2 : Int32} {Q : Int32 → pr_Sg → Prop} (h : wp_X8_whose g σ a1 a2 Q) : pr_Mi l D cs A ad g yX8_whose cX8_whose 7 (some .int) rm_X8_whose [.ref (ad 8 0 0), .int a1, .int a2] σ Q := by
  refine Met.ofW (cc := cX8_whose) (maxL := 7) (ret := (some .int)) (by decide) rfl ?_
  intro p e s m args below meth c s₁ B hml hv
  obtain ⟨rfl, hR, hK⟩ := hv
  have C : pr_C RX8 cX8_whose 7 (some .int) D cs p s m [.ref (ad 8 0 0), .int a1, .int a2].toArray meth c := pr_C.of B hml hK
  have hS : va_S A s.heap s.heap [] := va_S.rf
  have hl := lv_entry ([.ref (ad 8 0 0), .int a1, .int a2]) (n := 7) (Nat.le_of_ble_eq_true rfl)
  rw [lg_entry_eq]
  generalize (lg_sl ([.ref (ad 8 0 0), .int a1, .int a2]) ++ List.replicate (7 - (lg_sl ([.ref (ad 8 0 0), .int a1, .int a2])).length) Slot.unset).toArray = ls at hl ⊢
  have hl : lv_has ls 7 [(0, .ref (ad 8 0 0)), (1, .int a1), (2, .int a2)] := hl
  exact t_X8_whose C h hR hS hl
def rm_X8_told : Room := { frames := 1, cells := 0, slots := 0, locals := 21 }
theorem hd_X8_told : yX8_told.cls = RX8 ∧ yX8_told.cls ≠ "java/lang/invoke/MethodHandle" ∧ yX8_told.cls ≠ "java/lang/invoke/VarHandle" ∧ (parseMethodDescriptor yX8_told.desc).map (fun d => d.parameters.length) = some 2 := ⟨rfl, by decide, by decide, by decide +kernel⟩
def wpb_X8_told (g : Nat → Nat) (σ : pr_Sg) (a1 : Int32) (a2 : Int32) (Q : Int32 → pr_Sg → Prop) : Prop :=
  (wp_X8_pictureAt g σ a1 (fun x1 σ1 =>
  (x1 = none → Q (-1 : Int32) σ1) ∧
  (∀ i1q : Nat, x1 = some (i1q, 0) → ((a2 = (0 : Int32) → (wp_X3_isDone g σ1 i1q (fun r3 σ3 =>
  ((r3 = 0 → Q (0 : Int32) σ3) ∧
  (¬ r3 = 0 → Q (1 : Int32) σ3))))) ∧
  (a2 = (1 : Int32) → Q (σ1 194 i1q 0) σ1) ∧
  (a2 = (2 : Int32) → Q (σ1 195 i1q 0) σ1) ∧
  (a2 = (3 : Int32) → Q (σ1 197 i1q 0) σ1) ∧
  (a2 = (4 : Int32) → Q (σ1 199 i1q 0) σ1) ∧
  (a2 = (5 : Int32) → Q (σ1 200 i1q 0) σ1) ∧
  (¬ a2 = (0 : Int32) → ¬ a2 = (1 : Int32) → ¬ a2 = (2 : Int32) → ¬ a2 = (3 : Int32) → ¬ a2 = (4 : Int32) → ¬ a2 = (5 : Int32) → Q (-1 : Int32) σ1)))))
set_option maxHeartbeats 4000000 in
set_option maxRecDepth 100000 in
theorem t_X8_told {p : Program} {l : Launch} {e : Env} {s : State} {m : MethodId} {args : Array Value} {below : List Frame} {meth : Method} {c : Code} {D : va_G} {cs : Nat → ClassId} {A : Nat → Prop} {ad : pr_Ad} {g : Nat → Nat} {Q : Int32 → pr_Sg → Prop} (C : pr_C RX8 cX8_told 4 (some .int) D cs p s m args meth c) {H : Heap} {locs : List Loc} {ls : Array Slot} {σ : pr_Sg} {a1 : Int32} {a2 : Int32} (h : wpb_X8_told g σ a1 a2 Q) (hR : pr_R D cs A ad g σ H) (hS : va_S A s.heap H locs) (hl : lv_has ls 4 [(0, .ref (ad 8 0 0)), (1, .int a1), (2, .int a2)]) : W p l e rm_X8_told s m args below meth c H locs 0 0 (MQ below (va_Qi Q (pr_E D cs A ad g) A) args s 0 0 A) (F0 m 0 ls []) := by
  unfold wpb_X8_told at h
  obtain ⟨hx, hb, hml, hown, hts, hK, hr, hlocks⟩ := id C
  refine lv_aload_n hx hb dX8_told_0 rfl (lv_at hl 0 rfl) ?_
  refine lv_iload_n hx hb dX8_told_1 rfl (lv_at hl 1 rfl) ?_
  refine pr_callr hS (pr_runV (As := [.int a1]) (rest := []) C hR pr_l8 (by omega) rfl (c_X8_pictureAt h) gw_RX8_117 rfl rfl hd_X8_pictureAt ⟨Nat.le_of_ble_eq_true rfl, Nat.le_of_ble_eq_true rfl⟩ rfl hl.1 rfl (Nat.le_of_ble_eq_true rfl) dX8_told_2 ⟨Nat.zero_le _, Nat.zero_le _⟩) (fun σ1 H locs h hR hS => ?_) (fun i1q j1q σ1 H locs h hv1 hR hS => ?_)
  · have h := h.1 rfl
    refine lv_astore_nN (lv' := [(3, .null), (0, .ref (ad 8 0 0)), (1, .int a1), (2, .int a2)]) hx hb dX8_told_5 rfl hl (by decide) rfl (fun ls hl => ?_)
    refine lv_aload_nN hx hb dX8_told_6 rfl (lv_at hl 0 rfl) ?_
    refine lv_ifnonnullN hx hb dX8_told_7 ?_
    refine lv_iconst (v := (-1 : Int32)) hx hb dX8_told_10 (by decide) ?_
    exact pr_reti C h hR hS dX8_told_11
  · obtain rfl : j1q = 0 := pr_lvj (by decide) hv1
    have h := h.2 i1q rfl
    refine lv_astore_n (lv' := [(3, .ref (ad 3 i1q 0)), (0, .ref (ad 8 0 0)), (1, .int a1), (2, .int a2)]) hx hb dX8_told_5 rfl hl (by decide) rfl (fun ls hl => ?_)
    refine lv_aload_n hx hb dX8_told_6 rfl (lv_at hl 0 rfl) ?_
    refine lv_ifnonnull (tgt := 12) hx hb dX8_told_7 (by decide) ?_
    refine lv_iload_n hx hb dX8_told_12 rfl (lv_at hl 3 rfl) ?_
    by_cases c2_0 : a2 = (0 : Int32)
    · have h := h.1 c2_0
      refine lv_tableIn (tgt := 52) hx hb dX8_told_13 (by rw [c2_0]; decide) (by rw [c2_0]; decide) (off := 39) (by rw [c2_0]; rfl) (by decide) ?_
      refine lv_aload_n hx hb dX8_told_52 rfl (lv_at hl 0 rfl) ?_
      refine pr_calli hS (pr_runV (As := []) (rest := []) C hR hv1 (by omega) rfl (c_X3_isDone hv1 h) gw_RX8_121 rfl rfl hd_X3_isDone ⟨Nat.le_of_ble_eq_true rfl, Nat.le_of_ble_eq_true rfl⟩ rfl hl.1 rfl (Nat.le_of_ble_eq_true rfl) dX8_told_53 ⟨Nat.zero_le _, Nat.zero_le _⟩) (fun r3 σ3 H locs h hR hS => ?_)
      obtain ⟨hz3, h⟩ := h
      refine lv_if_eq (tgt := 63) hx hb dX8_told_56 (by decide) (fun c4 => ?_) (fun c4 => ?_)
      · have h := h.1 c4
        refine lv_iconst (v := (0 : Int32)) hx hb dX8_told_63 (by decide) ?_
        exact pr_reti C h hR hS dX8_told_64
      · have h := h.2 c4
        refine lv_iconst (v := (1 : Int32)) hx hb dX8_told_59 (by decide) ?_
        refine lv_goto (tgt := 64) hx hb dX8_told_60 (by decide) ?_
        exact pr_reti C h hR hS dX8_told_64
    · by_cases c2_1 : a2 = (1 : Int32)
      · have h := h.2.1 c2_1
        refine lv_tableIn (tgt := 65) hx hb dX8_told_13 (by rw [c2_1]; decide) (by rw [c2_1]; decide) (off := 52) (by rw [c2_1]; rfl) (by decide) ?_
        refine lv_aload_n hx hb dX8_told_65 rfl (lv_at hl 0 rfl) ?_
        refine gf_RX8_205 C hR hv1 dX8_told_66 ?_
        exact pr_reti C h hR hS dX8_told_69
      · by_cases c2_2 : a2 = (2 : Int32)
        · have h := h.2.2.1 c2_2
          refine lv_tableIn (tgt := 70) hx hb dX8_told_13 (by rw [c2_2]; decide) (by rw [c2_2]; decide) (off := 57) (by rw [c2_2]; rfl) (by decide) ?_
          refine lv_aload_n hx hb dX8_told_70 rfl (lv_at hl 0 rfl) ?_
          refine gf_RX8_208 C hR hv1 dX8_told_71 ?_
          exact pr_reti C h hR hS dX8_told_74
        · by_cases c2_3 : a2 = (3 : Int32)
          · have h := h.2.2.2.1 c2_3
            refine lv_tableIn (tgt := 75) hx hb dX8_told_13 (by rw [c2_3]; decide) (by rw [c2_3]; decide) (off := 62) (by rw [c2_3]; rfl) (by decide) ?_
            refine lv_aload_n hx hb dX8_told_75 rfl (lv_at hl 0 rfl) ?_
            refine gf_RX8_211 C hR hv1 dX8_told_76 ?_
            exact pr_reti C h hR hS dX8_told_79
          · by_cases c2_4 : a2 = (4 : Int32)
            · have h := h.2.2.2.2.1 c2_4
              refine lv_tableIn (tgt := 80) hx hb dX8_told_13 (by rw [c2_4]; decide) (by rw [c2_4]; decide) (off := 67) (by rw [c2_4]; rfl) (by decide) ?_
              refine lv_aload_n hx hb dX8_told_80 rfl (lv_at hl 0 rfl) ?_
              refine gf_RX8_143 C hR hv1 dX8_told_81 ?_
              exact pr_reti C h hR hS dX8_told_84
            · by_cases c2_5 : a2 = (5 : Int32)
              · have h := h.2.2.2.2.2.1 c2_5
                refine lv_tableIn (tgt := 85) hx hb dX8_told_13 (by rw [c2_5]; decide) (by rw [c2_5]; decide) (off := 72) (by rw [c2_5]; rfl) (by decide) ?_
                refine lv_aload_n hx hb dX8_told_85 rfl (lv_at hl 0 rfl) ?_
                refine gf_RX8_214 C hR hv1 dX8_told_86 ?_
                exact pr_reti C h hR hS dX8_told_89
              · have h := h.2.2.2.2.2.2 c2_0 c2_1 c2_2 c2_3 c2_4 c2_5
                have o2_0 := pr_ne (n := 0) (by decide) c2_0
                have o2_1 := pr_ne (n := 1) (by decide) c2_1
                have o2_2 := pr_ne (n := 2) (by decide) c2_2
                have o2_3 := pr_ne (n := 3) (by decide) c2_3
                have o2_4 := pr_ne (n := 4) (by decide) c2_4
                have o2_5 := pr_ne (n := 5) (by decide) c2_5
                refine lv_tableOut (tgt := 90) hx hb dX8_told_13 (by omega) (by decide) ?_
                refine lv_iconst (v := (-1 : Int32)) hx hb dX8_told_90 (by decide) ?_
                exact pr_reti C h hR hS dX8_told_91
abbrev wp_X8_told (g : Nat → Nat) (σ : pr_Sg) (a1 : Int32) (a2 : Int32) (Q : Int32 → pr_Sg → Prop) : Prop := wpb_X8_told g σ a1 a2 Q
set_option maxHeartbeats 4000000 in
set_option maxRecDepth 100000 in
theorem c_X8_told {l : Launch} {D : va_G} {cs : Nat → ClassId} {A : Nat → Prop} {ad : pr_Ad} {g : Nat → Nat} {σ : pr_Sg} {a1 : Int32} {a2 : Int32} {Q : Int32 → pr_Sg → Prop} (h : wp_X8_told g σ a1 a2 Q) : pr_Mi l D cs A ad g yX8_told cX8_told 4 (some .int) rm_X8_told [.ref (ad 8 0 0), .int a1, .int a2] σ Q := by
  refine Met.ofW (cc := cX8_told) (maxL := 4) (ret := (some .int)) (by decide) rfl ?_
  intro p e s m args below meth c s₁ B hml hv
  obtain ⟨rfl, hR, hK⟩ := hv
  have C : pr_C RX8 cX8_told 4 (some .int) D cs p s m [.ref (ad 8 0 0), .int a1, .int a2].toArray meth c := pr_C.of B hml hK
  have hS : va_S A s.heap s.heap [] := va_S.rf
  have hl := lv_entry ([.ref (ad 8 0 0), .int a1, .int a2]) (n := 4) (Nat.le_of_ble_eq_true rfl)
  rw [lg_entry_eq]
  generalize (lg_sl ([.ref (ad 8 0 0), .int a1, .int a2]) ++ List.replicate (4 - (lg_sl ([.ref (ad 8 0 0), .int a1, .int a2])).length) Slot.unset).toArray = ls at hl ⊢
  have hl : lv_has ls 4 [(0, .ref (ad 8 0 0)), (1, .int a1), (2, .int a2)] := hl
  exact t_X8_told C h hR hS hl
def rm_X8_part : Room := { frames := 2, cells := 0, slots := 0, locals := 44 }
theorem hd_X8_part : yX8_part.cls = RX8 ∧ yX8_part.cls ≠ "java/lang/invoke/MethodHandle" ∧ yX8_part.cls ≠ "java/lang/invoke/VarHandle" ∧ (parseMethodDescriptor yX8_part.desc).map (fun d => d.parameters.length) = some 3 := ⟨rfl, by decide, by decide, by decide +kernel⟩
def wpb_X8_part (g : Nat → Nat) (σ : pr_Sg) (a1 : Int32) (a2 : Int32) (a3 : Int32) (Q : Int32 → pr_Sg → Prop) : Prop :=
  (wp_X8_partAt g σ a1 a2 (fun x1 σ1 =>
  (x1 = none → Q (-1 : Int32) σ1) ∧
  (∀ i1q j1q : Nat, x1 = some (i1q, j1q) → ((a3 = (0 : Int32) → Q (σ1 129 i1q j1q) σ1) ∧
  (a3 = (1 : Int32) → Q ((σ1 128 i1q j1q) - (σ1 129 i1q j1q)) σ1) ∧
  (a3 = (2 : Int32) → Q (σ1 130 i1q j1q) σ1) ∧
  (a3 = (3 : Int32) → Q (σ1 131 i1q j1q) σ1) ∧
  (a3 = (4 : Int32) → (vp_in a2 5 ∧ (wp_X2_isWet g σ1 i1q j1q (σ1 520 0 0) (σ1 1023 0 (a2).toNatClampNeg) (fun r3 σ3 =>
  ((r3 = 0 → Q (0 : Int32) σ3) ∧
  (¬ r3 = 0 → Q (1 : Int32) σ3)))))) ∧
  (¬ a3 = (0 : Int32) → ¬ a3 = (1 : Int32) → ¬ a3 = (2 : Int32) → ¬ a3 = (3 : Int32) → ¬ a3 = (4 : Int32) → Q (-1 : Int32) σ1)))))
set_option maxHeartbeats 4000000 in
set_option maxRecDepth 100000 in
theorem t_X8_part {p : Program} {l : Launch} {e : Env} {s : State} {m : MethodId} {args : Array Value} {below : List Frame} {meth : Method} {c : Code} {D : va_G} {cs : Nat → ClassId} {A : Nat → Prop} {ad : pr_Ad} {g : Nat → Nat} {Q : Int32 → pr_Sg → Prop} (C : pr_C RX8 cX8_part 5 (some .int) D cs p s m args meth c) {H : Heap} {locs : List Loc} {ls : Array Slot} {σ : pr_Sg} {a1 : Int32} {a2 : Int32} {a3 : Int32} (h : wpb_X8_part g σ a1 a2 a3 Q) (hR : pr_R D cs A ad g σ H) (hS : va_S A s.heap H locs) (hl : lv_has ls 5 [(0, .ref (ad 8 0 0)), (1, .int a1), (2, .int a2), (3, .int a3)]) : W p l e rm_X8_part s m args below meth c H locs 0 0 (MQ below (va_Qi Q (pr_E D cs A ad g) A) args s 0 0 A) (F0 m 0 ls []) := by
  unfold wpb_X8_part at h
  obtain ⟨hx, hb, hml, hown, hts, hK, hr, hlocks⟩ := id C
  refine lv_aload_n hx hb dX8_part_0 rfl (lv_at hl 0 rfl) ?_
  refine lv_iload_n hx hb dX8_part_1 rfl (lv_at hl 1 rfl) ?_
  refine lv_iload_n hx hb dX8_part_2 rfl (lv_at hl 2 rfl) ?_
  refine pr_callr hS (pr_runV (As := [.int a1, .int a2]) (rest := []) C hR pr_l8 (by omega) rfl (c_X8_partAt h) gw_RX8_190 rfl rfl hd_X8_partAt ⟨Nat.le_of_ble_eq_true rfl, Nat.le_of_ble_eq_true rfl⟩ rfl hl.1 rfl (Nat.le_of_ble_eq_true rfl) dX8_part_3 ⟨Nat.zero_le _, Nat.zero_le _⟩) (fun σ1 H locs h hR hS => ?_) (fun i1q j1q σ1 H locs h hv1 hR hS => ?_)
  · have h := h.1 rfl
    refine lv_astoreN (lv' := [(4, .null), (0, .ref (ad 8 0 0)), (1, .int a1), (2, .int a2), (3, .int a3)]) hx hb dX8_part_6 hl (by decide) rfl (fun ls hl => ?_)
    refine lv_aloadN hx hb dX8_part_8 (lv_at hl 0 rfl) ?_
    refine lv_ifnonnullN hx hb dX8_part_10 ?_
    refine lv_iconst (v := (-1 : Int32)) hx hb dX8_part_13 (by decide) ?_
    exact pr_reti C h hR hS dX8_part_14
  · have h := h.2 i1q j1q rfl
    refine lv_astore (lv' := [(4, .ref (ad 2 i1q j1q)), (0, .ref (ad 8 0 0)), (1, .int a1), (2, .int a2), (3, .int a3)]) hx hb dX8_part_6 hl (by decide) rfl (fun ls hl => ?_)
    refine lv_aload hx hb dX8_part_8 (lv_at hl 0 rfl) ?_
    refine lv_ifnonnull (tgt := 15) hx hb dX8_part_10 (by decide) ?_
    refine lv_iload_n hx hb dX8_part_15 rfl (lv_at hl 4 rfl) ?_
    by_cases c2_0 : a3 = (0 : Int32)
    · have h := h.1 c2_0
      refine lv_tableIn (tgt := 52) hx hb dX8_part_16 (by rw [c2_0]; decide) (by rw [c2_0]; decide) (off := 36) (by rw [c2_0]; rfl) (by decide) ?_
      refine lv_aload hx hb dX8_part_52 (lv_at hl 0 rfl) ?_
      refine gf_RX8_217 C hR hv1 dX8_part_54 ?_
      exact pr_reti C h hR hS dX8_part_57
    · by_cases c2_1 : a3 = (1 : Int32)
      · have h := h.2.1 c2_1
        refine lv_tableIn (tgt := 58) hx hb dX8_part_16 (by rw [c2_1]; decide) (by rw [c2_1]; decide) (off := 42) (by rw [c2_1]; rfl) (by decide) ?_
        refine lv_aload hx hb dX8_part_58 (lv_at hl 0 rfl) ?_
        refine gf_RX8_220 C hR hv1 dX8_part_60 ?_
        refine lv_aload hx hb dX8_part_63 (lv_at hl 0 rfl) ?_
        refine gf_RX8_217 C hR hv1 dX8_part_65 ?_
        refine lv_isub hx hb dX8_part_68 ?_
        exact pr_reti C h hR hS dX8_part_69
      · by_cases c2_2 : a3 = (2 : Int32)
        · have h := h.2.2.1 c2_2
          refine lv_tableIn (tgt := 70) hx hb dX8_part_16 (by rw [c2_2]; decide) (by rw [c2_2]; decide) (off := 54) (by rw [c2_2]; rfl) (by decide) ?_
          refine lv_aload hx hb dX8_part_70 (lv_at hl 0 rfl) ?_
          refine gf_RX8_223 C hR hv1 dX8_part_72 ?_
          exact pr_reti C h hR hS dX8_part_75
        · by_cases c2_3 : a3 = (3 : Int32)
          · have h := h.2.2.2.1 c2_3
            refine lv_tableIn (tgt := 76) hx hb dX8_part_16 (by rw [c2_3]; decide) (by rw [c2_3]; decide) (off := 60) (by rw [c2_3]; rfl) (by decide) ?_
            refine lv_aload hx hb dX8_part_76 (lv_at hl 0 rfl) ?_
            refine gf_RX8_226 C hR hv1 dX8_part_78 ?_
            exact pr_reti C h hR hS dX8_part_81
          · by_cases c2_4 : a3 = (4 : Int32)
            · have h := h.2.2.2.2.1 c2_4
              refine lv_tableIn (tgt := 82) hx hb dX8_part_16 (by rw [c2_4]; decide) (by rw [c2_4]; decide) (off := 66) (by rw [c2_4]; rfl) (by decide) ?_
              refine lv_aload hx hb dX8_part_82 (lv_at hl 0 rfl) ?_
              refine lv_aload_n hx hb dX8_part_84 rfl (lv_at hl 1 rfl) ?_
              refine gf_RX8_92 C hR pr_l8 dX8_part_85 ?_
              refine lv_aload_n hx hb dX8_part_88 rfl (lv_at hl 1 rfl) ?_
              refine gf_RX8_16 C hR pr_l8 dX8_part_89 ?_
              refine lv_iload_n hx hb dX8_part_92 rfl (lv_at hl 3 rfl) ?_
              refine pr_ald hx hb hK hR pr_l23 (by omega) (by omega) (n := 5) (by decide) h.1 dX8_part_93 (t := 1023) rfl ?_
              have h := h.2
              refine pr_calli hS (pr_runV (As := [.int (σ1 520 0 0), .int (σ1 1023 0 (a2).toNatClampNeg)]) (rest := []) C hR hv1 (by omega) rfl (c_X2_isWet hv1 h) gw_RX8_229 rfl rfl hd_X2_isWet ⟨Nat.le_of_ble_eq_true rfl, Nat.le_of_ble_eq_true rfl⟩ rfl hl.1 rfl (Nat.le_of_ble_eq_true rfl) dX8_part_94 ⟨Nat.zero_le _, Nat.zero_le _⟩) (fun r3 σ3 H locs h hR hS => ?_)
              obtain ⟨hz3, h⟩ := h
              refine lv_if_eq (tgt := 104) hx hb dX8_part_97 (by decide) (fun c4 => ?_) (fun c4 => ?_)
              · have h := h.1 c4
                refine lv_iconst (v := (0 : Int32)) hx hb dX8_part_104 (by decide) ?_
                exact pr_reti C h hR hS dX8_part_105
              · have h := h.2 c4
                refine lv_iconst (v := (1 : Int32)) hx hb dX8_part_100 (by decide) ?_
                refine lv_goto (tgt := 105) hx hb dX8_part_101 (by decide) ?_
                exact pr_reti C h hR hS dX8_part_105
            · have h := h.2.2.2.2.2 c2_0 c2_1 c2_2 c2_3 c2_4
              have o2_0 := pr_ne (n := 0) (by decide) c2_0
              have o2_1 := pr_ne (n := 1) (by decide) c2_1
              have o2_2 := pr_ne (n := 2) (by decide) c2_2
              have o2_3 := pr_ne (n := 3) (by decide) c2_3
              have o2_4 := pr_ne (n := 4) (by decide) c2_4
              refine lv_tableOut (tgt := 106) hx hb dX8_part_16 (by omega) (by decide) ?_
              refine lv_iconst (v := (-1 : Int32)) hx hb dX8_part_106 (by decide) ?_
              exact pr_reti C h hR hS dX8_part_107
abbrev wp_X8_part (g : Nat → Nat) (σ : pr_Sg) (a1 : Int32) (a2 : Int32) (a3 : Int32) (Q : Int32 → pr_Sg → Prop) : Prop := wpb_X8_part g σ a1 a2 a3 Q
set_option maxHeartbeats 4000000 in
set_option maxRecDepth 100000 in
theorem c_X8_part {l : Launch} {D : va_G} {cs : Nat → ClassId} {A : Nat → Prop} {ad : pr_Ad} {g : Nat → Nat} {σ : pr_Sg} {a1 : Int32} {a2 : Int32} {a3 : Int32} {Q : Int32 → pr_Sg → Prop} (h : wp_X8_part g σ a1 a2 a3 Q) : pr_Mi l D cs A ad g yX8_part cX8_part 5 (some .int) rm_X8_part [.ref (ad 8 0 0), .int a1, .int a2, .int a3] σ Q := by
  refine Met.ofW (cc := cX8_part) (maxL := 5) (ret := (some .int)) (by decide) rfl ?_
  intro p e s m args below meth c s₁ B hml hv
  obtain ⟨rfl, hR, hK⟩ := hv
  have C : pr_C RX8 cX8_part 5 (some .int) D cs p s m [.ref (ad 8 0 0), .int a1, .int a2, .int a3].toArray meth c := pr_C.of B hml hK
  have hS : va_S A s.heap s.heap [] := va_S.rf
  have hl := lv_entry ([.ref (ad 8 0 0), .int a1, .int a2, .int a3]) (n := 5) (Nat.le_of_ble_eq_true rfl)
  rw [lg_entry_eq]
  generalize (lg_sl ([.ref (ad 8 0 0), .int a1, .int a2, .int a3]) ++ List.replicate (5 - (lg_sl ([.ref (ad 8 0 0), .int a1, .int a2, .int a3])).length) Slot.unset).toArray = ls at hl ⊢
  have hl : lv_has ls 5 [(0, .ref (ad 8 0 0)), (1, .int a1), (2, .int a2), (3, .int a3)] := hl
  exact t_X8_part C h hR hS hl
def rm_X8_due : Room := { frames := 1, cells := 0, slots := 0, locals := 21 }
theorem hd_X8_due : yX8_due.cls = RX8 ∧ yX8_due.cls ≠ "java/lang/invoke/MethodHandle" ∧ yX8_due.cls ≠ "java/lang/invoke/VarHandle" ∧ (parseMethodDescriptor yX8_due.desc).map (fun d => d.parameters.length) = some 1 := ⟨rfl, by decide, by decide, by decide +kernel⟩
def wpb_X8_due (g : Nat → Nat) (σ : pr_Sg) (a1 : Int32) (Q : Int32 → pr_Sg → Prop) : Prop :=
  (wp_X8_sitterAt g σ a1 (fun x1 σ1 =>
  (x1 = none → Q (-1 : Int32) σ1) ∧
  (∀ i1q : Nat, x1 = some (i1q, 0) → Q (σ1 386 i1q 0) σ1)))
set_option maxHeartbeats 4000000 in
set_option maxRecDepth 100000 in
theorem t_X8_due {p : Program} {l : Launch} {e : Env} {s : State} {m : MethodId} {args : Array Value} {below : List Frame} {meth : Method} {c : Code} {D : va_G} {cs : Nat → ClassId} {A : Nat → Prop} {ad : pr_Ad} {g : Nat → Nat} {Q : Int32 → pr_Sg → Prop} (C : pr_C RX8 cX8_due 3 (some .int) D cs p s m args meth c) {H : Heap} {locs : List Loc} {ls : Array Slot} {σ : pr_Sg} {a1 : Int32} (h : wpb_X8_due g σ a1 Q) (hR : pr_R D cs A ad g σ H) (hS : va_S A s.heap H locs) (hl : lv_has ls 3 [(0, .ref (ad 8 0 0)), (1, .int a1)]) : W p l e rm_X8_due s m args below meth c H locs 0 0 (MQ below (va_Qi Q (pr_E D cs A ad g) A) args s 0 0 A) (F0 m 0 ls []) := by
  unfold wpb_X8_due at h
  obtain ⟨hx, hb, hml, hown, hts, hK, hr, hlocks⟩ := id C
  refine lv_aload_n hx hb dX8_due_0 rfl (lv_at hl 0 rfl) ?_
  refine lv_iload_n hx hb dX8_due_1 rfl (lv_at hl 1 rfl) ?_
  refine pr_callr hS (pr_runV (As := [.int a1]) (rest := []) C hR pr_l8 (by omega) rfl (c_X8_sitterAt h) gw_RX8_81 rfl rfl hd_X8_sitterAt ⟨Nat.le_of_ble_eq_true rfl, Nat.le_of_ble_eq_true rfl⟩ rfl hl.1 rfl (Nat.le_of_ble_eq_true rfl) dX8_due_2 ⟨Nat.zero_le _, Nat.zero_le _⟩) (fun σ1 H locs h hR hS => ?_) (fun i1q j1q σ1 H locs h hv1 hR hS => ?_)
  · have h := h.1 rfl
    refine lv_astore_nN (lv' := [(2, .null), (0, .ref (ad 8 0 0)), (1, .int a1)]) hx hb dX8_due_5 rfl hl (by decide) rfl (fun ls hl => ?_)
    refine lv_aload_nN hx hb dX8_due_6 rfl (lv_at hl 0 rfl) ?_
    refine lv_ifnonnullN hx hb dX8_due_7 ?_
    refine lv_iconst (v := (-1 : Int32)) hx hb dX8_due_10 (by decide) ?_
    refine lv_goto (tgt := 18) hx hb dX8_due_11 (by decide) ?_
    exact pr_reti C h hR hS dX8_due_18
  · obtain rfl : j1q = 0 := pr_lvj (by decide) hv1
    have h := h.2 i1q rfl
    refine lv_astore_n (lv' := [(2, .ref (ad 6 i1q 0)), (0, .ref (ad 8 0 0)), (1, .int a1)]) hx hb dX8_due_5 rfl hl (by decide) rfl (fun ls hl => ?_)
    refine lv_aload_n hx hb dX8_due_6 rfl (lv_at hl 0 rfl) ?_
    refine lv_ifnonnull (tgt := 14) hx hb dX8_due_7 (by decide) ?_
    refine lv_aload_n hx hb dX8_due_14 rfl (lv_at hl 0 rfl) ?_
    refine gf_RX8_105 C hR hv1 dX8_due_15 ?_
    exact pr_reti C h hR hS dX8_due_18
abbrev wp_X8_due (g : Nat → Nat) (σ : pr_Sg) (a1 : Int32) (Q : Int32 → pr_Sg → Prop) : Prop := wpb_X8_due g σ a1 Q
set_option maxHeartbeats 4000000 in
set_option maxRecDepth 100000 in
theorem c_X8_due {l : Launch} {D : va_G} {cs : Nat → ClassId} {A : Nat → Prop} {ad : pr_Ad} {g : Nat → Nat} {σ : pr_Sg} {a1 : Int32} {Q : Int32 → pr_Sg → Prop} (h : wp_X8_due g σ a1 Q) : pr_Mi l D cs A ad g yX8_due cX8_due 3 (some .int) rm_X8_due [.ref (ad 8 0 0), .int a1] σ Q := by
  refine Met.ofW (cc := cX8_due) (maxL := 3) (ret := (some .int)) (by decide) rfl ?_
  intro p e s m args below meth c s₁ B hml hv
  obtain ⟨rfl, hR, hK⟩ := hv
  have C : pr_C RX8 cX8_due 3 (some .int) D cs p s m [.ref (ad 8 0 0), .int a1].toArray meth c := pr_C.of B hml hK
  have hS : va_S A s.heap s.heap [] := va_S.rf
  have hl := lv_entry ([.ref (ad 8 0 0), .int a1]) (n := 3) (Nat.le_of_ble_eq_true rfl)
  rw [lg_entry_eq]
  generalize (lg_sl ([.ref (ad 8 0 0), .int a1]) ++ List.replicate (3 - (lg_sl ([.ref (ad 8 0 0), .int a1])).length) Slot.unset).toArray = ls at hl ⊢
  have hl : lv_has ls 3 [(0, .ref (ad 8 0 0)), (1, .int a1)] := hl
  exact t_X8_due C h hR hS hl
def rm_X8_count : Room := { frames := 0, cells := 0, slots := 0, locals := 0 }
theorem hd_X8_count : yX8_count.cls = RX8 ∧ yX8_count.cls ≠ "java/lang/invoke/MethodHandle" ∧ yX8_count.cls ≠ "java/lang/invoke/VarHandle" ∧ (parseMethodDescriptor yX8_count.desc).map (fun d => d.parameters.length) = some 1 := ⟨rfl, by decide, by decide, by decide +kernel⟩
def wpb_X8_count (g : Nat → Nat) (σ : pr_Sg) (a1 : Int32) (Q : Int32 → pr_Sg → Prop) : Prop :=
  ((a1 = (0 : Int32) → Q (σ 520 0 0) σ) ∧
  (a1 = (1 : Int32) → Q (σ 521 0 0) σ) ∧
  (a1 = (2 : Int32) → Q (σ 522 0 0) σ) ∧
  (a1 = (3 : Int32) → Q (σ 523 0 0) σ) ∧
  (a1 = (4 : Int32) → Q (σ 524 0 0) σ) ∧
  (a1 = (5 : Int32) → Q (σ 453 0 0) σ) ∧
  (a1 = (6 : Int32) → Q (σ 525 0 0) σ) ∧
  (a1 = (7 : Int32) → Q (σ 526 0 0) σ) ∧
  (a1 = (8 : Int32) → Q (σ 527 0 0) σ) ∧
  (¬ a1 = (0 : Int32) → ¬ a1 = (1 : Int32) → ¬ a1 = (2 : Int32) → ¬ a1 = (3 : Int32) → ¬ a1 = (4 : Int32) → ¬ a1 = (5 : Int32) → ¬ a1 = (6 : Int32) → ¬ a1 = (7 : Int32) → ¬ a1 = (8 : Int32) → Q (-1 : Int32) σ))
set_option maxHeartbeats 4000000 in
set_option maxRecDepth 100000 in
theorem t_X8_count {p : Program} {l : Launch} {e : Env} {s : State} {m : MethodId} {args : Array Value} {below : List Frame} {meth : Method} {c : Code} {D : va_G} {cs : Nat → ClassId} {A : Nat → Prop} {ad : pr_Ad} {g : Nat → Nat} {Q : Int32 → pr_Sg → Prop} (C : pr_C RX8 cX8_count 2 (some .int) D cs p s m args meth c) {H : Heap} {locs : List Loc} {ls : Array Slot} {σ : pr_Sg} {a1 : Int32} (h : wpb_X8_count g σ a1 Q) (hR : pr_R D cs A ad g σ H) (hS : va_S A s.heap H locs) (hl : lv_has ls 2 [(0, .ref (ad 8 0 0)), (1, .int a1)]) : W p l e rm_X8_count s m args below meth c H locs 0 0 (MQ below (va_Qi Q (pr_E D cs A ad g) A) args s 0 0 A) (F0 m 0 ls []) := by
  unfold wpb_X8_count at h
  obtain ⟨hx, hb, hml, hown, hts, hK, hr, hlocks⟩ := id C
  refine lv_iload_n hx hb dX8_count_0 rfl (lv_at hl 1 rfl) ?_
  by_cases c1_0 : a1 = (0 : Int32)
  · have h := h.1 c1_0
    refine lv_tableIn (tgt := 52) hx hb dX8_count_1 (by rw [c1_0]; decide) (by rw [c1_0]; decide) (off := 51) (by rw [c1_0]; rfl) (by decide) ?_
    refine lv_aload_n hx hb dX8_count_52 rfl (lv_at hl 0 rfl) ?_
    refine gf_RX8_92 C hR pr_l8 dX8_count_53 ?_
    exact pr_reti C h hR hS dX8_count_56
  · by_cases c1_1 : a1 = (1 : Int32)
    · have h := h.2.1 c1_1
      refine lv_tableIn (tgt := 57) hx hb dX8_count_1 (by rw [c1_1]; decide) (by rw [c1_1]; decide) (off := 56) (by rw [c1_1]; rfl) (by decide) ?_
      refine lv_aload_n hx hb dX8_count_57 rfl (lv_at hl 0 rfl) ?_
      refine gf_RX8_60 C hR pr_l8 dX8_count_58 ?_
      exact pr_reti C h hR hS dX8_count_61
    · by_cases c1_2 : a1 = (2 : Int32)
      · have h := h.2.2.1 c1_2
        refine lv_tableIn (tgt := 62) hx hb dX8_count_1 (by rw [c1_2]; decide) (by rw [c1_2]; decide) (off := 61) (by rw [c1_2]; rfl) (by decide) ?_
        refine lv_aload_n hx hb dX8_count_62 rfl (lv_at hl 0 rfl) ?_
        refine gf_RX8_75 C hR pr_l8 dX8_count_63 ?_
        exact pr_reti C h hR hS dX8_count_66
      · by_cases c1_3 : a1 = (3 : Int32)
        · have h := h.2.2.2.1 c1_3
          refine lv_tableIn (tgt := 67) hx hb dX8_count_1 (by rw [c1_3]; decide) (by rw [c1_3]; decide) (off := 66) (by rw [c1_3]; rfl) (by decide) ?_
          refine lv_aload_n hx hb dX8_count_67 rfl (lv_at hl 0 rfl) ?_
          refine gf_RX8_89 C hR pr_l8 dX8_count_68 ?_
          exact pr_reti C h hR hS dX8_count_71
        · by_cases c1_4 : a1 = (4 : Int32)
          · have h := h.2.2.2.2.1 c1_4
            refine lv_tableIn (tgt := 72) hx hb dX8_count_1 (by rw [c1_4]; decide) (by rw [c1_4]; decide) (off := 71) (by rw [c1_4]; rfl) (by decide) ?_
            refine lv_aload_n hx hb dX8_count_72 rfl (lv_at hl 0 rfl) ?_
            refine gf_RX8_232 C hR pr_l8 dX8_count_73 ?_
            exact pr_reti C h hR hS dX8_count_76
          · by_cases c1_5 : a1 = (5 : Int32)
            · have h := h.2.2.2.2.2.1 c1_5
              refine lv_tableIn (tgt := 77) hx hb dX8_count_1 (by rw [c1_5]; decide) (by rw [c1_5]; decide) (off := 76) (by rw [c1_5]; rfl) (by decide) ?_
              refine lv_aload_n hx hb dX8_count_77 rfl (lv_at hl 0 rfl) ?_
              refine gf_RX8_41 C hR pr_l8 dX8_count_78 ?_
              refine gf_RX8_235 C hR pr_l7 dX8_count_81 ?_
              exact pr_reti C h hR hS dX8_count_84
            · by_cases c1_6 : a1 = (6 : Int32)
              · have h := h.2.2.2.2.2.2.1 c1_6
                refine lv_tableIn (tgt := 85) hx hb dX8_count_1 (by rw [c1_6]; decide) (by rw [c1_6]; decide) (off := 84) (by rw [c1_6]; rfl) (by decide) ?_
                refine lv_aload_n hx hb dX8_count_85 rfl (lv_at hl 0 rfl) ?_
                refine gf_RX8_238 C hR pr_l8 dX8_count_86 ?_
                exact pr_reti C h hR hS dX8_count_89
              · by_cases c1_7 : a1 = (7 : Int32)
                · have h := h.2.2.2.2.2.2.2.1 c1_7
                  refine lv_tableIn (tgt := 90) hx hb dX8_count_1 (by rw [c1_7]; decide) (by rw [c1_7]; decide) (off := 89) (by rw [c1_7]; rfl) (by decide) ?_
                  refine lv_aload_n hx hb dX8_count_90 rfl (lv_at hl 0 rfl) ?_
                  refine gf_RX8_161 C hR pr_l8 dX8_count_91 ?_
                  exact pr_reti C h hR hS dX8_count_94
                · by_cases c1_8 : a1 = (8 : Int32)
                  · have h := h.2.2.2.2.2.2.2.2.1 c1_8
                    refine lv_tableIn (tgt := 95) hx hb dX8_count_1 (by rw [c1_8]; decide) (by rw [c1_8]; decide) (off := 94) (by rw [c1_8]; rfl) (by decide) ?_
                    refine lv_aload_n hx hb dX8_count_95 rfl (lv_at hl 0 rfl) ?_
                    refine gf_RX8_102 C hR pr_l8 dX8_count_96 ?_
                    exact pr_reti C h hR hS dX8_count_99
                  · have h := h.2.2.2.2.2.2.2.2.2 c1_0 c1_1 c1_2 c1_3 c1_4 c1_5 c1_6 c1_7 c1_8
                    have o1_0 := pr_ne (n := 0) (by decide) c1_0
                    have o1_1 := pr_ne (n := 1) (by decide) c1_1
                    have o1_2 := pr_ne (n := 2) (by decide) c1_2
                    have o1_3 := pr_ne (n := 3) (by decide) c1_3
                    have o1_4 := pr_ne (n := 4) (by decide) c1_4
                    have o1_5 := pr_ne (n := 5) (by decide) c1_5
                    have o1_6 := pr_ne (n := 6) (by decide) c1_6
                    have o1_7 := pr_ne (n := 7) (by decide) c1_7
                    have o1_8 := pr_ne (n := 8) (by decide) c1_8
                    refine lv_tableOut (tgt := 100) hx hb dX8_count_1 (by omega) (by decide) ?_
                    refine lv_iconst (v := (-1 : Int32)) hx hb dX8_count_100 (by decide) ?_
                    exact pr_reti C h hR hS dX8_count_101
abbrev wp_X8_count (g : Nat → Nat) (σ : pr_Sg) (a1 : Int32) (Q : Int32 → pr_Sg → Prop) : Prop := wpb_X8_count g σ a1 Q
set_option maxHeartbeats 4000000 in
set_option maxRecDepth 100000 in
theorem c_X8_count {l : Launch} {D : va_G} {cs : Nat → ClassId} {A : Nat → Prop} {ad : pr_Ad} {g : Nat → Nat} {σ : pr_Sg} {a1 : Int32} {Q : Int32 → pr_Sg → Prop} (h : wp_X8_count g σ a1 Q) : pr_Mi l D cs A ad g yX8_count cX8_count 2 (some .int) rm_X8_count [.ref (ad 8 0 0), .int a1] σ Q := by
  refine Met.ofW (cc := cX8_count) (maxL := 2) (ret := (some .int)) (by decide) rfl ?_
  intro p e s m args below meth c s₁ B hml hv
  obtain ⟨rfl, hR, hK⟩ := hv
  have C : pr_C RX8 cX8_count 2 (some .int) D cs p s m [.ref (ad 8 0 0), .int a1].toArray meth c := pr_C.of B hml hK
  have hS : va_S A s.heap s.heap [] := va_S.rf
  have hl := lv_entry ([.ref (ad 8 0 0), .int a1]) (n := 2) (Nat.le_of_ble_eq_true rfl)
  rw [lg_entry_eq]
  generalize (lg_sl ([.ref (ad 8 0 0), .int a1]) ++ List.replicate (2 - (lg_sl ([.ref (ad 8 0 0), .int a1])).length) Slot.unset).toArray = ls at hl ⊢
  have hl : lv_has ls 2 [(0, .ref (ad 8 0 0)), (1, .int a1)] := hl
  exact t_X8_count C h hR hS hl
