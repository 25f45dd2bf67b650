def rm_X8_hand : Room := { frames := 2, cells := 1, slots := 3, locals := 32 }
theorem hd_X8_hand : yX8_hand.cls = RX8 ∧ yX8_hand.cls ≠ "java/lang/invoke/MethodHandle" ∧ yX8_hand.cls ≠ "java/lang/invoke/VarHandle" ∧ (parseMethodDescriptor yX8_hand.desc).map (fun d => d.parameters.length) = some 0 := ⟨rfl, by decide, by decide, by decide +kernel⟩
def wpb_X8_hand (g : Nat → Nat) (σ : pr_Sg) (Q : Int32 → (Nat → Nat) → pr_Sg → Prop) : Prop :=
  (((σ 521 0 0) < (7 : Int32) → (vp_in (σ 521 0 0) 7 ∧ ((σ 521 0 0)).toNatClampNeg = g 0 ∧ ∀ σ2 : pr_Sg, σ2 = pr_mkH σ (g 0) →
  (∀ σ3 : pr_Sg, σ3 = pr_up σ2 521 0 0 ((σ2 521 0 0) + (1 : Int32)) →
  Q ((σ3 521 0 0) - (1 : Int32)) (pr_g g 0) σ3))) ∧
  (¬ (σ 521 0 0) < (7 : Int32) → Q (-1 : Int32) g σ))
set_option maxHeartbeats 4000000 in
set_option maxRecDepth 100000 in
theorem t_X8_hand {p : Program} {l : Launch} {e : Env} {s : State} {m : MethodId} {args : Array Value} {below : List Frame} {meth : Method} {c : Code} {D : va_G} {cs : Nat → ClassId} {A : Nat → Prop} {ad : pr_Ad} {g : Nat → Nat} {Q : Int32 → (Nat → Nat) → pr_Sg → Prop} (C : pr_C RX8 cX8_hand 1 (some .int) D cs p s m args meth c) {H : Heap} {locs : List Loc} {ls : Array Slot} {σ : pr_Sg} (h : wpb_X8_hand g σ Q) (hR : pr_R D cs A ad g σ H) (hS : va_S A s.heap H locs) (hup : ∀ x y : Nat, A x → x ≤ y → A y) (hl : lv_has ls 1 [(0, .ref (ad 8 0 0))]) : W p l e rm_X8_hand s m args below meth c H locs 0 0 (MQ below (pr_Qa D cs A ad Q) args s 1 3 A) (F0 m 0 ls []) := by
  unfold wpb_X8_hand at h
  obtain ⟨hx, hb, hml, hown, hts, hK, hr, hlocks⟩ := id C
  refine lv_aload_n hx hb dX8_hand_0 rfl (lv_at hl 0 rfl) ?_
  refine gf_RX8_60 C hR pr_l8 dX8_hand_1 ?_
  refine lv_bipush (v := (7 : Int32)) hx hb dX8_hand_4 (by decide) ?_
  refine lv_icmp_lt (tgt := 11) hx hb dX8_hand_6 (by decide) (fun c1 => ?_) (fun c1 => ?_)
  · have h := h.1 c1
    refine lv_aload_n hx hb dX8_hand_11 rfl (lv_at hl 0 rfl) ?_
    refine gf_RX8_22 C hR pr_l8 dX8_hand_12 ?_
    refine lv_aload_n hx hb dX8_hand_15 rfl (lv_at hl 0 rfl) ?_
    refine gf_RX8_60 C hR pr_l8 dX8_hand_16 ?_
    refine kr_new (k' := 0) C hR hup hS rfl inlX0 tyX0 tyX0_ok (pr_in1 _ (List.mem_of_getElem? (i := 18) rfl)) (pr_in2 _ (List.mem_of_getElem? (i := 12) rfl)) (pr_in2 _ (List.mem_of_getElem? (i := 13) rfl)) (gs := [.int 0, .int 0, .int 0]) (fun j hj => by rcases (show j = 0 ∨ j = 1 ∨ j = 2 by omega) with rfl | rfl | rfl <;> rfl) (Nat.le_of_ble_eq_true rfl) (Nat.le_of_ble_eq_true rfl) dX8_hand_19 (fun q H hq hAq hR hG hS => ?_)
    refine lv_dup hx hb dX8_hand_22 rfl ?_
    refine kr_ctor (As := []) (rest := [.ref q, .int (σ 521 0 0), .ref (ad 80 0 0)]) (q := q) C hR hup hS hq hAq hG c_X0_init (pr_in4 _ (List.mem_of_getElem? (i := 3) rfl)) (pr_in2 _ (List.mem_of_getElem? (i := 13) rfl)) (pr_in4 _ (List.mem_of_getElem? (i := 1) rfl)) (pr_in4 _ (List.mem_of_getElem? (i := 2) rfl)) rfl rfl rfl ha_X0_init ⟨(Nat.le_of_ble_eq_true rfl), (Nat.le_of_ble_eq_true rfl)⟩ rfl hl.1 rfl (Nat.le_of_ble_eq_true rfl) dX8_hand_23 ⟨(Nat.le_of_ble_eq_true rfl), (Nat.le_of_ble_eq_true rfl)⟩ (fun H locs hR hG hS => ?_)
    refine kr_hand C hR hS hq hAq hG h.1 h.2.1 dX8_hand_26 (fun H locs σ2 e2 hR hS => ?_)
    have h := h.2.2 σ2 e2
    have hl : lv_has ls 1 [(0, .ref ((pr_adH ad (g 0) q) 8 0 0))] := hl
    refine lv_aload_n hx hb dX8_hand_27 rfl (lv_at hl 0 rfl) ?_
    refine lv_dup hx hb dX8_hand_28 rfl ?_
    refine gf_RX8_60 C hR pr_l8 dX8_hand_29 ?_
    refine lv_iconst (v := (1 : Int32)) hx hb dX8_hand_32 (by decide) ?_
    refine lv_iadd hx hb dX8_hand_33 ?_
    refine pf_RX8_60 C hR hS pr_l8 dX8_hand_34 (fun H locs σ3 e3 hR hS => ?_)
    have h := h σ3 e3
    refine lv_aload_n hx hb dX8_hand_37 rfl (lv_at hl 0 rfl) ?_
    refine gf_RX8_60 C hR pr_l8 dX8_hand_38 ?_
    refine lv_iconst (v := (1 : Int32)) hx hb dX8_hand_41 (by decide) ?_
    refine lv_isub hx hb dX8_hand_42 ?_
    exact pr_reta (ad' := (pr_adH ad (g 0) q)) C (Nat.le_of_ble_eq_true rfl) (Nat.le_of_ble_eq_true rfl) h hR rfl rfl hS dX8_hand_43
  · have h := h.2 c1
    refine lv_iconst (v := (-1 : Int32)) hx hb dX8_hand_9 (by decide) ?_
    exact pr_reta (ad' := ad) C (Nat.le_of_ble_eq_true rfl) (Nat.le_of_ble_eq_true rfl) h hR rfl rfl hS dX8_hand_10
abbrev wp_X8_hand (g : Nat → Nat) (σ : pr_Sg) (Q : Int32 → (Nat → Nat) → pr_Sg → Prop) : Prop := wpb_X8_hand g σ Q
set_option maxHeartbeats 4000000 in
set_option maxRecDepth 100000 in
theorem c_X8_hand {l : Launch} {D : va_G} {cs : Nat → ClassId} {A : Nat → Prop} {ad : pr_Ad} {g : Nat → Nat} {σ : pr_Sg} {Q : Int32 → (Nat → Nat) → pr_Sg → Prop} (hup : ∀ x y : Nat, A x → x ≤ y → A y) (h : wp_X8_hand g σ Q) : pr_Ma l D cs A ad g yX8_hand cX8_hand 1 rm_X8_hand [.ref (ad 8 0 0)] σ 1 3 Q := by
  refine Met.ofW (cc := cX8_hand) (maxL := 1) (ret := (some .int)) (by decide) rfl ?_
  intro p e s m args below meth c s₁ B hml hv
  obtain ⟨rfl, hR, hK⟩ := hv
  have C : pr_C RX8 cX8_hand 1 (some .int) D cs p s m [.ref (ad 8 0 0)].toArray meth c := pr_C.of B hml hK
  have hS : va_S A s.heap s.heap [] := va_S.rf
  have hl := lv_entry ([.ref (ad 8 0 0)]) (n := 1) (Nat.le_of_ble_eq_true rfl)
  rw [lg_entry_eq]
  generalize (lg_sl ([.ref (ad 8 0 0)]) ++ List.replicate (1 - (lg_sl ([.ref (ad 8 0 0)])).length) Slot.unset).toArray = ls at hl ⊢
  have hl : lv_has ls 1 [(0, .ref (ad 8 0 0))] := hl
  exact t_X8_hand C h hR hS hup hl
def rm_X8_sitter : Room := { frames := 2, cells := 1, slots := 3, locals := 34 }
theorem hd_X8_sitter : yX8_sitter.cls = RX8 ∧ yX8_sitter.cls ≠ "java/lang/invoke/MethodHandle" ∧ yX8_sitter.cls ≠ "java/lang/invoke/VarHandle" ∧ (parseMethodDescriptor yX8_sitter.desc).map (fun d => d.parameters.length) = some 2 := ⟨rfl, by decide, by decide, by decide +kernel⟩
def wpb_X8_sitter (g : Nat → Nat) (σ : pr_Sg) (a1 : Int32) (a2 : Int32) (Q : Int32 → (Nat → Nat) → pr_Sg → Prop) : Prop :=
  (wp_X8_within g σ a1 a2 (fun r1 σ1 =>
  ((r1 = 0 → Q (-1 : Int32) g σ1) ∧
  (¬ r1 = 0 → (wp_X8_within g σ1 a2 (5 : Int32) (fun r3 σ3 =>
  ((r3 = 0 → Q (-1 : Int32) g σ3) ∧
  (¬ r3 = 0 → (((σ3 522 0 0) < (20 : Int32) → (vp_in (σ3 522 0 0) 20 ∧ ((σ3 522 0 0)).toNatClampNeg = g 1 ∧ ∀ σ6 : pr_Sg, σ6 = pr_mkS σ3 (g 1) a1 a2 →
  (∀ σ7 : pr_Sg, σ7 = pr_up σ6 522 0 0 ((σ6 522 0 0) + (1 : Int32)) →
  Q ((σ7 522 0 0) - (1 : Int32)) (pr_g g 1) σ7))) ∧
  (¬ (σ3 522 0 0) < (20 : Int32) → Q (-1 : Int32) g σ3))))))))))
set_option maxHeartbeats 4000000 in
set_option maxRecDepth 100000 in
theorem t_X8_sitter {p : Program} {l : Launch} {e : Env} {s : State} {m : MethodId} {args : Array Value} {below : List Frame} {meth : Method} {c : Code} {D : va_G} {cs : Nat → ClassId} {A : Nat → Prop} {ad : pr_Ad} {g : Nat → Nat} {Q : Int32 → (Nat → Nat) → pr_Sg → Prop} (C : pr_C RX8 cX8_sitter 3 (some .int) D cs p s m args meth c) {H : Heap} {locs : List Loc} {ls : Array Slot} {σ : pr_Sg} {a1 : Int32} {a2 : Int32} (h : wpb_X8_sitter g σ a1 a2 Q) (hR : pr_R D cs A ad g σ H) (hS : va_S A s.heap H locs) (hup : ∀ x y : Nat, A x → x ≤ y → A y) (hl : lv_has ls 3 [(0, .ref (ad 8 0 0)), (1, .int a1), (2, .int a2)]) : W p l e rm_X8_sitter s m args below meth c H locs 0 0 (MQ below (pr_Qa D cs A ad Q) args s 1 3 A) (F0 m 0 ls []) := by
  unfold wpb_X8_sitter at h
  obtain ⟨hx, hb, hml, hown, hts, hK, hr, hlocks⟩ := id C
  refine lv_iload_n hx hb dX8_sitter_0 rfl (lv_at hl 1 rfl) ?_
  refine lv_iload_n hx hb dX8_sitter_1 rfl (lv_at hl 2 rfl) ?_
  refine pr_calli hS (pr_runS (As := [.int a1, .int a2]) (rest := []) C hR (c_X8_within h) gw_RX8_67 rfl rfl hs_X8_within ⟨Nat.le_of_ble_eq_true rfl, Nat.le_of_ble_eq_true rfl⟩ rfl hl.1 rfl (Nat.le_of_ble_eq_true rfl) dX8_sitter_2 ⟨Nat.zero_le _, Nat.zero_le _⟩) (fun r1 σ1 H locs h hR hS => ?_)
  obtain ⟨hz1, h⟩ := h
  refine lv_if_eq (tgt := 25) hx hb dX8_sitter_5 (by decide) (fun c2 => ?_) (fun c2 => ?_)
  · have h := h.1 c2
    refine lv_iconst (v := (-1 : Int32)) hx hb dX8_sitter_25 (by decide) ?_
    exact pr_reta (ad' := ad) C (Nat.le_of_ble_eq_true rfl) (Nat.le_of_ble_eq_true rfl) h hR rfl rfl hS dX8_sitter_26
  · have h := h.2 c2
    refine lv_iload_n hx hb dX8_sitter_8 rfl (lv_at hl 2 rfl) ?_
    refine lv_iconst (v := (5 : Int32)) hx hb dX8_sitter_9 (by decide) ?_
    refine pr_calli hS (pr_runS (As := [.int a2, .int (5 : Int32)]) (rest := []) C hR (c_X8_within h) gw_RX8_67 rfl rfl hs_X8_within ⟨Nat.le_of_ble_eq_true rfl, Nat.le_of_ble_eq_true rfl⟩ rfl hl.1 rfl (Nat.le_of_ble_eq_true rfl) dX8_sitter_10 ⟨Nat.zero_le _, Nat.zero_le _⟩) (fun r3 σ3 H locs h hR hS => ?_)
    obtain ⟨hz3, h⟩ := h
    refine lv_if_eq (tgt := 25) hx hb dX8_sitter_13 (by decide) (fun c4 => ?_) (fun c4 => ?_)
    · have h := h.1 c4
      refine lv_iconst (v := (-1 : Int32)) hx hb dX8_sitter_25 (by decide) ?_
      exact pr_reta (ad' := ad) C (Nat.le_of_ble_eq_true rfl) (Nat.le_of_ble_eq_true rfl) h hR rfl rfl hS dX8_sitter_26
    · have h := h.2 c4
      refine lv_aload_n hx hb dX8_sitter_16 rfl (lv_at hl 0 rfl) ?_
      refine gf_RX8_75 C hR pr_l8 dX8_sitter_17 ?_
      refine lv_bipush (v := (20 : Int32)) hx hb dX8_sitter_20 (by decide) ?_
      refine lv_icmp_lt (tgt := 27) hx hb dX8_sitter_22 (by decide) (fun c5 => ?_) (fun c5 => ?_)
      · have h := h.1 c5
        refine lv_aload_n hx hb dX8_sitter_27 rfl (lv_at hl 0 rfl) ?_
        refine gf_RX8_28 C hR pr_l8 dX8_sitter_28 ?_
        refine lv_aload_n hx hb dX8_sitter_31 rfl (lv_at hl 0 rfl) ?_
        refine gf_RX8_75 C hR pr_l8 dX8_sitter_32 ?_
        refine kr_new (k' := 6) C hR hup hS rfl inlX6 tyX6 tyX6_ok (pr_in1 _ (List.mem_of_getElem? (i := 20) rfl)) (pr_in7 _ (List.mem_of_getElem? (i := 13) rfl)) (pr_in7 _ (List.mem_of_getElem? (i := 14) rfl)) (gs := [.int 0, .int 0, .int 0]) (fun j hj => by rcases (show j = 0 ∨ j = 1 ∨ j = 2 by omega) with rfl | rfl | rfl <;> rfl) (Nat.le_of_ble_eq_true rfl) (Nat.le_of_ble_eq_true rfl) dX8_sitter_35 (fun q H hq hAq hR hG hS => ?_)
        refine lv_dup hx hb dX8_sitter_38 rfl ?_
        refine lv_iload_n hx hb dX8_sitter_39 rfl (lv_at hl 1 rfl) ?_
        refine lv_iload_n hx hb dX8_sitter_40 rfl (lv_at hl 2 rfl) ?_
        refine kr_ctor (As := [.int a1, .int a2]) (rest := [.ref q, .int (σ3 522 0 0), .ref (ad 81 0 0)]) (q := q) C hR hup hS hq hAq hG c_X6_init (pr_in7 _ (List.mem_of_getElem? (i := 17) rfl)) (pr_in7 _ (List.mem_of_getElem? (i := 14) rfl)) (pr_in7 _ (List.mem_of_getElem? (i := 15) rfl)) (pr_in7 _ (List.mem_of_getElem? (i := 16) rfl)) rfl rfl rfl ha_X6_init ⟨(Nat.le_of_ble_eq_true rfl), (Nat.le_of_ble_eq_true rfl)⟩ rfl hl.1 rfl (Nat.le_of_ble_eq_true rfl) dX8_sitter_41 ⟨(Nat.le_of_ble_eq_true rfl), (Nat.le_of_ble_eq_true rfl)⟩ (fun H locs hR hG hS => ?_)
        refine kr_sitter C hR hS hq hAq hG h.1 h.2.1 dX8_sitter_44 (fun H locs σ6 e6 hR hS => ?_)
        have h := h.2.2 σ6 e6
        have hl : lv_has ls 3 [(0, .ref ((pr_adS ad (g 1) q) 8 0 0)), (1, .int a1), (2, .int a2)] := hl
        refine lv_aload_n hx hb dX8_sitter_45 rfl (lv_at hl 0 rfl) ?_
        refine lv_dup hx hb dX8_sitter_46 rfl ?_
        refine gf_RX8_75 C hR pr_l8 dX8_sitter_47 ?_
        refine lv_iconst (v := (1 : Int32)) hx hb dX8_sitter_50 (by decide) ?_
        refine lv_iadd hx hb dX8_sitter_51 ?_
        refine pf_RX8_75 C hR hS pr_l8 dX8_sitter_52 (fun H locs σ7 e7 hR hS => ?_)
        have h := h σ7 e7
        refine lv_aload_n hx hb dX8_sitter_55 rfl (lv_at hl 0 rfl) ?_
        refine gf_RX8_75 C hR pr_l8 dX8_sitter_56 ?_
        refine lv_iconst (v := (1 : Int32)) hx hb dX8_sitter_59 (by decide) ?_
        refine lv_isub hx hb dX8_sitter_60 ?_
        exact pr_reta (ad' := (pr_adS ad (g 1) q)) C (Nat.le_of_ble_eq_true rfl) (Nat.le_of_ble_eq_true rfl) h hR rfl rfl hS dX8_sitter_61
      · have h := h.2 c5
        refine lv_iconst (v := (-1 : Int32)) hx hb dX8_sitter_25 (by decide) ?_
        exact pr_reta (ad' := ad) C (Nat.le_of_ble_eq_true rfl) (Nat.le_of_ble_eq_true rfl) h hR rfl rfl hS dX8_sitter_26
abbrev wp_X8_sitter (g : Nat → Nat) (σ : pr_Sg) (a1 : Int32) (a2 : Int32) (Q : Int32 → (Nat → Nat) → pr_Sg → Prop) : Prop := wpb_X8_sitter g σ a1 a2 Q
set_option maxHeartbeats 4000000 in
set_option maxRecDepth 100000 in
theorem c_X8_sitter {l : Launch} {D : va_G} {cs : Nat → ClassId} {A : Nat → Prop} {ad : pr_Ad} {g : Nat → Nat} {σ : pr_Sg} {a1 : Int32} {a2 : Int32} {Q : Int32 → (Nat → Nat) → pr_Sg → Prop} (hup : ∀ x y : Nat, A x → x ≤ y → A y) (h : wp_X8_sitter g σ a1 a2 Q) : pr_Ma l D cs A ad g yX8_sitter cX8_sitter 3 rm_X8_sitter [.ref (ad 8 0 0), .int a1, .int a2] σ 1 3 Q := by
  refine Met.ofW (cc := cX8_sitter) (maxL := 3) (ret := (some .int)) (by decide) rfl ?_
  intro p e s m args below meth c s₁ B hml hv
  obtain ⟨rfl, hR, hK⟩ := hv
  have C : pr_C RX8 cX8_sitter 3 (some .int) D cs p s m [.ref (ad 8 0 0), .int a1, .int a2].toArray meth c := pr_C.of B hml hK
  have hS : va_S A s.heap s.heap [] := va_S.rf
  have hl := lv_entry ([.ref (ad 8 0 0), .int a1, .int a2]) (n := 3) (Nat.le_of_ble_eq_true rfl)
  rw [lg_entry_eq]
  generalize (lg_sl ([.ref (ad 8 0 0), .int a1, .int a2]) ++ List.replicate (3 - (lg_sl ([.ref (ad 8 0 0), .int a1, .int a2])).length) Slot.unset).toArray = ls at hl ⊢
  have hl : lv_has ls 3 [(0, .ref (ad 8 0 0)), (1, .int a1), (2, .int a2)] := hl
  exact t_X8_sitter C h hR hS hup hl
def rm_X8_picture : Room := { frames := 3, cells := 7, slots := 40, locals := 60 }
theorem hd_X8_picture : yX8_picture.cls = RX8 ∧ yX8_picture.cls ≠ "java/lang/invoke/MethodHandle" ∧ yX8_picture.cls ≠ "java/lang/invoke/VarHandle" ∧ (parseMethodDescriptor yX8_picture.desc).map (fun d => d.parameters.length) = some 4 := ⟨rfl, by decide, by decide, by decide +kernel⟩
def wp_X8_picture_L22 (g : Nat → Nat) (Q : Int32 → (Nat → Nat) → pr_Sg → Prop) (σ : pr_Sg) (x1 : Int32) (x2 : Int32) (x3 : Int32) (x4 : Int32) : Prop :=
  Q (-1 : Int32) g σ
set_option maxHeartbeats 4000000 in
set_option maxRecDepth 100000 in
theorem t_X8_picture_L22 {p : Program} {l : Launch} {e : Env} {s : State} {m : MethodId} {args : Array Value} {below : List Frame} {meth : Method} {c : Code} {D : va_G} {cs : Nat → ClassId} {A : Nat → Prop} {ad : pr_Ad} {g : Nat → Nat} {Q : Int32 → (Nat → Nat) → pr_Sg → Prop} (C : pr_C RX8 cX8_picture 8 (some .int) D cs p s m args meth c) {H : Heap} {locs : List Loc} {ls : Array Slot} {σ : pr_Sg} {x1 : Int32} {x2 : Int32} {x3 : Int32} {x4 : Int32} (h : wp_X8_picture_L22 g Q σ x1 x2 x3 x4) (hR : pr_R D cs A ad g σ H) (hS : va_S A s.heap H locs) (hup : ∀ x y : Nat, A x → x ≤ y → A y) (hl : lv_has ls 8 [(0, .ref (ad 8 0 0)), (1, .int x1), (2, .int x2), (3, .int x3), (4, .int x4), (5, .null)]) : W p l e rm_X8_picture s m args below meth c H locs 0 0 (MQ below (pr_Qa D cs A ad Q) args s 7 40 A) (F0 m 22 ls []) := by
  unfold wp_X8_picture_L22 at h
  obtain ⟨hx, hb, hml, hown, hts, hK, hr, hlocks⟩ := id C
  refine lv_iconst (v := (1 : Int32)) hx hb dX8_picture_22 (by decide) ?_
  refine lv_goto (tgt := 27) hx hb dX8_picture_23 (by decide) ?_
  refine lv_istore (lv' := [(6, .int (1 : Int32)), (0, .ref (ad 8 0 0)), (1, .int x1), (2, .int x2), (3, .int x3), (4, .int x4), (5, .null)]) hx hb dX8_picture_27 hl (by decide) rfl (fun ls hl => ?_)
  refine lv_aloadN hx hb dX8_picture_29 (lv_at hl 6 rfl) ?_
  refine lv_ifnullN (tgt := 63) hx hb dX8_picture_31 (by decide) ?_
  refine lv_iconst (v := (-1 : Int32)) hx hb dX8_picture_63 (by decide) ?_
  exact pr_reta (ad' := ad) C (Nat.le_of_ble_eq_true rfl) (Nat.le_of_ble_eq_true rfl) h hR rfl rfl hS dX8_picture_64
def wp_X8_picture_L22a (g : Nat → Nat) (Q : Int32 → (Nat → Nat) → pr_Sg → Prop) (σ : pr_Sg) (x1 : Int32) (x2 : Int32) (x3 : Int32) (x4 : Int32) (i5 : Nat) : Prop :=
  (wp_X8_within g σ x2 (3 : Int32) (fun r6 σ6 =>
  ((r6 = 0 → Q (-1 : Int32) g σ6) ∧
  (¬ r6 = 0 → (wp_X8_layersCanBe g σ6 x3 (fun r8 σ8 =>
  ((r8 = 0 → Q (-1 : Int32) g σ8) ∧
  (¬ r8 = 0 → (((σ8 523 0 0) < (40 : Int32) → (wp_X1_priceIn g σ8 ((σ8 520 0 0) / (365 : Int32)) x2 (fun r11 σ11 =>
  (vp_in (σ11 523 0 0) 40 ∧ ((σ11 523 0 0)).toNatClampNeg = g 2 ∧ ∀ σ12 : pr_Sg, σ12 = pr_mkP σ11 (g 2) x1 x3 x4 r11 (σ11 520 0 0) →
  (∀ σ13 : pr_Sg, σ13 = pr_up σ12 523 0 0 ((σ12 523 0 0) + (1 : Int32)) →
  (∀ σ14 : pr_Sg, σ14 = pr_up σ13 527 0 0 ((σ13 527 0 0) + r11) →
  (∀ σ15 : pr_Sg, σ15 = pr_up σ14 386 i5 0 ((σ14 386 i5 0) + (r11 / (2 : Int32))) →
  Q ((σ15 523 0 0) - (1 : Int32)) (pr_g g 2) σ15))))))) ∧
  (¬ (σ8 523 0 0) < (40 : Int32) → Q (-1 : Int32) g σ8))))))))))
set_option maxHeartbeats 4000000 in
set_option maxRecDepth 100000 in
theorem t_X8_picture_L22a {p : Program} {l : Launch} {e : Env} {s : State} {m : MethodId} {args : Array Value} {below : List Frame} {meth : Method} {c : Code} {D : va_G} {cs : Nat → ClassId} {A : Nat → Prop} {ad : pr_Ad} {g : Nat → Nat} {Q : Int32 → (Nat → Nat) → pr_Sg → Prop} (C : pr_C RX8 cX8_picture 8 (some .int) D cs p s m args meth c) {H : Heap} {locs : List Loc} {ls : Array Slot} {σ : pr_Sg} {x1 : Int32} {x2 : Int32} {x3 : Int32} {x4 : Int32} {i5 : Nat} (h : wp_X8_picture_L22a g Q σ x1 x2 x3 x4 i5) (hR : pr_R D cs A ad g σ H) (hS : va_S A s.heap H locs) (hi5 : pr_lv g 6 i5 0) (hup : ∀ x y : Nat, A x → x ≤ y → A y) (hl : lv_has ls 8 [(0, .ref (ad 8 0 0)), (1, .int x1), (2, .int x2), (3, .int x3), (4, .int x4), (5, .ref (ad 6 i5 0))]) : W p l e rm_X8_picture s m args below meth c H locs 0 0 (MQ below (pr_Qa D cs A ad Q) args s 7 40 A) (F0 m 22 ls []) := by
  unfold wp_X8_picture_L22a at h
  obtain ⟨hx, hb, hml, hown, hts, hK, hr, hlocks⟩ := id C
  refine lv_iconst (v := (1 : Int32)) hx hb dX8_picture_22 (by decide) ?_
  refine lv_goto (tgt := 27) hx hb dX8_picture_23 (by decide) ?_
  refine lv_istore (lv' := [(6, .int (1 : Int32)), (0, .ref (ad 8 0 0)), (1, .int x1), (2, .int x2), (3, .int x3), (4, .int x4), (5, .ref (ad 6 i5 0))]) hx hb dX8_picture_27 hl (by decide) rfl (fun ls hl => ?_)
  refine lv_aload hx hb dX8_picture_29 (lv_at hl 6 rfl) ?_
  refine lv_ifnull hx hb dX8_picture_31 ?_
  refine lv_iload_n hx hb dX8_picture_34 rfl (lv_at hl 3 rfl) ?_
  refine lv_iconst (v := (3 : Int32)) hx hb dX8_picture_35 (by decide) ?_
  refine pr_calli hS (pr_runS (As := [.int x2, .int (3 : Int32)]) (rest := []) C hR (c_X8_within h) gw_RX8_67 rfl rfl hs_X8_within ⟨Nat.le_of_ble_eq_true rfl, Nat.le_of_ble_eq_true rfl⟩ rfl hl.1 rfl (Nat.le_of_ble_eq_true rfl) dX8_picture_36 ⟨Nat.zero_le _, Nat.zero_le _⟩) (fun r6 σ6 H locs h hR hS => ?_)
  obtain ⟨hz6, h⟩ := h
  refine lv_if_eq (tgt := 63) hx hb dX8_picture_39 (by decide) (fun c7 => ?_) (fun c7 => ?_)
  · have h := h.1 c7
    refine lv_iconst (v := (-1 : Int32)) hx hb dX8_picture_63 (by decide) ?_
    exact pr_reta (ad' := ad) C (Nat.le_of_ble_eq_true rfl) (Nat.le_of_ble_eq_true rfl) h hR rfl rfl hS dX8_picture_64
  · have h := h.2 c7
    refine lv_iload_n hx hb dX8_picture_42 rfl (lv_at hl 4 rfl) ?_
    refine pr_calli hS (pr_runS (As := [.int x3]) (rest := []) C hR (c_X8_layersCanBe h) gw_RX8_85 rfl rfl hs_X8_layersCanBe ⟨Nat.le_of_ble_eq_true rfl, Nat.le_of_ble_eq_true rfl⟩ rfl hl.1 rfl (Nat.le_of_ble_eq_true rfl) dX8_picture_43 ⟨Nat.zero_le _, Nat.zero_le _⟩) (fun r8 σ8 H locs h hR hS => ?_)
    obtain ⟨hz8, h⟩ := h
    refine lv_if_eq (tgt := 63) hx hb dX8_picture_46 (by decide) (fun c9 => ?_) (fun c9 => ?_)
    · have h := h.1 c9
      refine lv_iconst (v := (-1 : Int32)) hx hb dX8_picture_63 (by decide) ?_
      exact pr_reta (ad' := ad) C (Nat.le_of_ble_eq_true rfl) (Nat.le_of_ble_eq_true rfl) h hR rfl rfl hS dX8_picture_64
    · have h := h.2 c9
      refine lv_iload hx hb dX8_picture_49 (lv_at hl 0 rfl) ?_
      refine lv_if_eq (tgt := 63) hx hb dX8_picture_51 (by decide) (fun c9 => absurd c9 (by decide)) (fun _ => ?_)
      refine lv_aload_n hx hb dX8_picture_54 rfl (lv_at hl 1 rfl) ?_
      refine gf_RX8_89 C hR pr_l8 dX8_picture_55 ?_
      refine lv_bipush (v := (40 : Int32)) hx hb dX8_picture_58 (by decide) ?_
      refine lv_icmp_lt (tgt := 65) hx hb dX8_picture_60 (by decide) (fun c10 => ?_) (fun c10 => ?_)
      · have h := h.1 c10
        refine lv_aload_n hx hb dX8_picture_65 rfl (lv_at hl 1 rfl) ?_
        refine gf_RX8_12 C hR pr_l8 dX8_picture_66 ?_
        refine lv_aload_n hx hb dX8_picture_69 rfl (lv_at hl 1 rfl) ?_
        refine gf_RX8_92 C hR pr_l8 dX8_picture_70 ?_
        refine lv_sipush (v := (365 : Int32)) hx hb dX8_picture_73 (by decide) ?_
        refine lv_idiv hx hb dX8_picture_76 (by decide) ?_
        refine lv_iload_n hx hb dX8_picture_77 rfl (lv_at hl 3 rfl) ?_
        refine pr_calli hS (pr_runV (As := [.int ((σ8 520 0 0) / (365 : Int32)), .int x2]) (rest := []) C hR pr_l1 (by omega) rfl (c_X1_priceIn h) gw_RX8_95 rfl rfl hd_X1_priceIn ⟨Nat.le_of_ble_eq_true rfl, Nat.le_of_ble_eq_true rfl⟩ rfl hl.1 rfl (Nat.le_of_ble_eq_true rfl) dX8_picture_78 ⟨Nat.zero_le _, Nat.zero_le _⟩) (fun r11 σ11 H locs h hR hS => ?_)
        refine lv_istore (lv' := [(7, .int r11), (6, .int (1 : Int32)), (0, .ref (ad 8 0 0)), (1, .int x1), (2, .int x2), (3, .int x3), (4, .int x4), (5, .ref (ad 6 i5 0))]) hx hb dX8_picture_81 hl (by decide) rfl (fun ls hl => ?_)
        refine lv_aload_n hx hb dX8_picture_83 rfl (lv_at hl 2 rfl) ?_
        refine gf_RX8_34 C hR pr_l8 dX8_picture_84 ?_
        refine lv_aload_n hx hb dX8_picture_87 rfl (lv_at hl 2 rfl) ?_
        refine gf_RX8_89 C hR pr_l8 dX8_picture_88 ?_
        refine kr_new (k' := 3) C hR hup hS rfl inlX3 tyX3 tyX3_ok (pr_in1 _ (List.mem_of_getElem? (i := 22) rfl)) (pr_in8 _ (List.mem_of_getElem? (i := 8) rfl)) (pr_in8 _ (List.mem_of_getElem? (i := 9) rfl)) (gs := [.int 0, .int 0, .int 0, .int 0, .null, .int 0, .int 0, .int 0, .int 0, .int 0]) (fun j hj => by rcases (show j = 0 ∨ j = 1 ∨ j = 2 ∨ j = 3 ∨ j = 4 ∨ j = 5 ∨ j = 6 ∨ j = 7 ∨ j = 8 ∨ j = 9 by omega) with rfl | rfl | rfl | rfl | rfl | rfl | rfl | rfl | rfl | rfl <;> rfl) (Nat.le_of_ble_eq_true rfl) (Nat.le_of_ble_eq_true rfl) dX8_picture_91 (fun q H hq hAq hR hG hS => ?_)
        refine lv_dup hx hb dX8_picture_94 rfl ?_
        refine lv_iload_n hx hb dX8_picture_95 rfl (lv_at hl 3 rfl) ?_
        refine lv_iload_n hx hb dX8_picture_96 rfl (lv_at hl 5 rfl) ?_
        refine lv_iload hx hb dX8_picture_97 (lv_at hl 6 rfl) ?_
        refine lv_iload hx hb dX8_picture_99 (lv_at hl 0 rfl) ?_
        refine lv_aload_n hx hb dX8_picture_101 rfl (lv_at hl 2 rfl) ?_
        refine gf_RX8_92 C hR pr_l8 dX8_picture_102 ?_
        refine kr_ctor (As := [.int x1, .int x3, .int x4, .int r11, .int (σ11 520 0 0)]) (rest := [.ref q, .int (σ11 523 0 0), .ref (ad 82 0 0)]) (q := q) C hR hup hS hq hAq hG c_X3_init (pr_in9 _ (List.mem_of_getElem? (i := 1) rfl)) (pr_in8 _ (List.mem_of_getElem? (i := 9) rfl)) (pr_in8 _ (List.mem_of_getElem? (i := 23) rfl)) (pr_in9 _ (List.mem_of_getElem? (i := 0) rfl)) rfl rfl rfl ha_X3_init ⟨(Nat.le_of_ble_eq_true rfl), (Nat.le_of_ble_eq_true rfl)⟩ rfl hl.1 rfl (Nat.le_of_ble_eq_true rfl) dX8_picture_105 ⟨(Nat.le_of_ble_eq_true rfl), (Nat.le_of_ble_eq_true rfl)⟩ (fun H locs hR hG hS => ?_)
        refine kr_picture C hR hup hS hq hAq hG h.1 h.2.1 dX8_picture_108 (fun H locs σ12 e12 hR hS => ?_)
        have h := h.2.2 σ12 e12
        have hl : lv_has ls 8 [(7, .int r11), (6, .int (1 : Int32)), (0, .ref ((pr_adP ad (g 2) q) 8 0 0)), (1, .int x1), (2, .int x2), (3, .int x3), (4, .int x4), (5, .ref ((pr_adP ad (g 2) q) 6 i5 0))] := hl
        have hw5 : pr_lv (pr_g g 2) 6 i5 0 := by have := hi5; simp only [pr_live6, pr_gn g (show (1 : Nat) ≠ 2 by omega)] at this ⊢; exact this
        refine lv_aload_n hx hb dX8_picture_109 rfl (lv_at hl 2 rfl) ?_
        refine lv_dup hx hb dX8_picture_110 rfl ?_
        refine gf_RX8_89 C hR pr_l8 dX8_picture_111 ?_
        refine lv_iconst (v := (1 : Int32)) hx hb dX8_picture_114 (by decide) ?_
        refine lv_iadd hx hb dX8_picture_115 ?_
        refine pf_RX8_89 C hR hS pr_l8 dX8_picture_116 (fun H locs σ13 e13 hR hS => ?_)
        have h := h σ13 e13
        refine lv_aload_n hx hb dX8_picture_119 rfl (lv_at hl 2 rfl) ?_
        refine lv_dup hx hb dX8_picture_120 rfl ?_
        refine gf_RX8_102 C hR pr_l8 dX8_picture_121 ?_
        refine lv_iload hx hb dX8_picture_124 (lv_at hl 0 rfl) ?_
        refine lv_iadd hx hb dX8_picture_126 ?_
        refine pf_RX8_102 C hR hS pr_l8 dX8_picture_127 (fun H locs σ14 e14 hR hS => ?_)
        have h := h σ14 e14
        refine lv_aload hx hb dX8_picture_130 (lv_at hl 7 rfl) ?_
        refine lv_dup hx hb dX8_picture_132 rfl ?_
        refine gf_RX8_105 C hR hw5 dX8_picture_133 ?_
        refine lv_iload hx hb dX8_picture_136 (lv_at hl 0 rfl) ?_
        refine lv_iconst (v := (2 : Int32)) hx hb dX8_picture_138 (by decide) ?_
        refine lv_idiv hx hb dX8_picture_139 (by decide) ?_
        refine lv_iadd hx hb dX8_picture_140 ?_
        refine pf_RX8_105 C hR hS hw5 dX8_picture_141 (fun H locs σ15 e15 hR hS => ?_)
        have h := h σ15 e15
        refine lv_aload_n hx hb dX8_picture_144 rfl (lv_at hl 2 rfl) ?_
        refine gf_RX8_89 C hR pr_l8 dX8_picture_145 ?_
        refine lv_iconst (v := (1 : Int32)) hx hb dX8_picture_148 (by decide) ?_
        refine lv_isub hx hb dX8_picture_149 ?_
        exact pr_reta (ad' := (pr_adP ad (g 2) q)) C (Nat.le_of_ble_eq_true rfl) (Nat.le_of_ble_eq_true rfl) h hR rfl rfl hS dX8_picture_150
      · have h := h.2 c10
        refine lv_iconst (v := (-1 : Int32)) hx hb dX8_picture_63 (by decide) ?_
        exact pr_reta (ad' := ad) C (Nat.le_of_ble_eq_true rfl) (Nat.le_of_ble_eq_true rfl) h hR rfl rfl hS dX8_picture_64
def wpb_X8_picture (g : Nat → Nat) (σ : pr_Sg) (a1 : Int32) (a2 : Int32) (a3 : Int32) (a4 : Int32) (Q : Int32 → (Nat → Nat) → pr_Sg → Prop) : Prop :=
  (wp_X8_sitterAt g σ a1 (fun x1 σ1 =>
  (x1 = none → ((a4 = (-1 : Int32) → wp_X8_picture_L22 g Q σ1 a1 a2 a3 a4) ∧
  (¬ a4 = (-1 : Int32) → (wp_X8_within g σ1 a4 (4 : Int32) (fun r3 σ3 =>
  ((r3 = 0 → Q (-1 : Int32) g σ3) ∧
  (¬ r3 = 0 → wp_X8_picture_L22 g Q σ3 a1 a2 a3 a4))))))) ∧
  (∀ i1q : Nat, x1 = some (i1q, 0) → ((a4 = (-1 : Int32) → wp_X8_picture_L22a g Q σ1 a1 a2 a3 a4 i1q) ∧
  (¬ a4 = (-1 : Int32) → (wp_X8_within g σ1 a4 (4 : Int32) (fun r16 σ16 =>
  ((r16 = 0 → (wp_X8_within g σ16 a2 (3 : Int32) (fun r18 σ18 =>
  ((r18 = 0 → Q (-1 : Int32) g σ18) ∧
  (¬ r18 = 0 → (wp_X8_layersCanBe g σ18 a3 (fun r20 σ20 =>
  ((r20 = 0 → Q (-1 : Int32) g σ20) ∧
  (¬ r20 = 0 → Q (-1 : Int32) g σ20))))))))) ∧
  (¬ r16 = 0 → wp_X8_picture_L22a g Q σ16 a1 a2 a3 a4 i1q)))))))))
set_option maxHeartbeats 4000000 in
set_option maxRecDepth 100000 in
theorem t_X8_picture {p : Program} {l : Launch} {e : Env} {s : State} {m : MethodId} {args : Array Value} {below : List Frame} {meth : Method} {c : Code} {D : va_G} {cs : Nat → ClassId} {A : Nat → Prop} {ad : pr_Ad} {g : Nat → Nat} {Q : Int32 → (Nat → Nat) → pr_Sg → Prop} (C : pr_C RX8 cX8_picture 8 (some .int) D cs p s m args meth c) {H : Heap} {locs : List Loc} {ls : Array Slot} {σ : pr_Sg} {a1 : Int32} {a2 : Int32} {a3 : Int32} {a4 : Int32} (h : wpb_X8_picture g σ a1 a2 a3 a4 Q) (hR : pr_R D cs A ad g σ H) (hS : va_S A s.heap H locs) (hup : ∀ x y : Nat, A x → x ≤ y → A y) (hl : lv_has ls 8 [(0, .ref (ad 8 0 0)), (1, .int a1), (2, .int a2), (3, .int a3), (4, .int a4)]) : W p l e rm_X8_picture s m args below meth c H locs 0 0 (MQ below (pr_Qa D cs A ad Q) args s 7 40 A) (F0 m 0 ls []) := by
  unfold wpb_X8_picture at h
  obtain ⟨hx, hb, hml, hown, hts, hK, hr, hlocks⟩ := id C
  refine lv_aload_n hx hb dX8_picture_0 rfl (lv_at hl 0 rfl) ?_
  refine lv_iload_n hx hb dX8_picture_1 rfl (lv_at hl 1 rfl) ?_
  refine pr_callr hS (pr_runV (As := [.int a1]) (rest := []) C hR pr_l8 (by omega) rfl (c_X8_sitterAt h) gw_RX8_81 rfl rfl hd_X8_sitterAt ⟨Nat.le_of_ble_eq_true rfl, Nat.le_of_ble_eq_true rfl⟩ rfl hl.1 rfl (Nat.le_of_ble_eq_true rfl) dX8_picture_2 ⟨Nat.zero_le _, Nat.zero_le _⟩) (fun σ1 H locs h hR hS => ?_) (fun i1q j1q σ1 H locs h hv1 hR hS => ?_)
  · have h := h.1 rfl
    refine lv_astoreN (lv' := [(5, .null), (0, .ref (ad 8 0 0)), (1, .int a1), (2, .int a2), (3, .int a3), (4, .int a4)]) hx hb dX8_picture_5 hl (by decide) rfl (fun ls hl => ?_)
    refine lv_iload hx hb dX8_picture_7 (lv_at hl 5 rfl) ?_
    refine lv_iconst (v := (-1 : Int32)) hx hb dX8_picture_9 (by decide) ?_
    refine lv_icmp_eq (tgt := 22) hx hb dX8_picture_10 (by decide) (fun c2 => ?_) (fun c2 => ?_)
    · have h := h.1 c2
      exact t_X8_picture_L22 C h hR hS hup (lv_sub hl [1, 2, 3, 4, 5, 0] rfl)
    · have h := h.2 c2
      refine lv_iload hx hb dX8_picture_13 (lv_at hl 5 rfl) ?_
      refine lv_iconst (v := (4 : Int32)) hx hb dX8_picture_15 (by decide) ?_
      refine pr_calli hS (pr_runS (As := [.int a4, .int (4 : Int32)]) (rest := []) C hR (c_X8_within h) gw_RX8_67 rfl rfl hs_X8_within ⟨Nat.le_of_ble_eq_true rfl, Nat.le_of_ble_eq_true rfl⟩ rfl hl.1 rfl (Nat.le_of_ble_eq_true rfl) dX8_picture_16 ⟨Nat.zero_le _, Nat.zero_le _⟩) (fun r3 σ3 H locs h hR hS => ?_)
      obtain ⟨hz3, h⟩ := h
      refine lv_if_eq (tgt := 26) hx hb dX8_picture_19 (by decide) (fun c4 => ?_) (fun c4 => ?_)
      · have h := h.1 c4
        refine lv_iconst (v := (0 : Int32)) hx hb dX8_picture_26 (by decide) ?_
        refine lv_istore (lv' := [(6, .int (0 : Int32)), (5, .null), (0, .ref (ad 8 0 0)), (1, .int a1), (2, .int a2), (3, .int a3), (4, .int a4)]) hx hb dX8_picture_27 hl (by decide) rfl (fun ls hl => ?_)
        refine lv_aloadN hx hb dX8_picture_29 (lv_at hl 1 rfl) ?_
        refine lv_ifnullN (tgt := 63) hx hb dX8_picture_31 (by decide) ?_
        refine lv_iconst (v := (-1 : Int32)) hx hb dX8_picture_63 (by decide) ?_
        exact pr_reta (ad' := ad) C (Nat.le_of_ble_eq_true rfl) (Nat.le_of_ble_eq_true rfl) h hR rfl rfl hS dX8_picture_64
      · have h := h.2 c4
        exact t_X8_picture_L22 C h hR hS hup (lv_sub hl [1, 2, 3, 4, 5, 0] rfl)
  · obtain rfl : j1q = 0 := pr_lvj (by decide) hv1
    have h := h.2 i1q rfl
    refine lv_astore (lv' := [(5, .ref (ad 6 i1q 0)), (0, .ref (ad 8 0 0)), (1, .int a1), (2, .int a2), (3, .int a3), (4, .int a4)]) hx hb dX8_picture_5 hl (by decide) rfl (fun ls hl => ?_)
    refine lv_iload hx hb dX8_picture_7 (lv_at hl 5 rfl) ?_
    refine lv_iconst (v := (-1 : Int32)) hx hb dX8_picture_9 (by decide) ?_
    refine lv_icmp_eq (tgt := 22) hx hb dX8_picture_10 (by decide) (fun c5 => ?_) (fun c5 => ?_)
    · have h := h.1 c5
      exact t_X8_picture_L22a C h hR hS hv1 hup (lv_sub hl [1, 2, 3, 4, 5, 0] rfl)
    · have h := h.2 c5
      refine lv_iload hx hb dX8_picture_13 (lv_at hl 5 rfl) ?_
      refine lv_iconst (v := (4 : Int32)) hx hb dX8_picture_15 (by decide) ?_
      refine pr_calli hS (pr_runS (As := [.int a4, .int (4 : Int32)]) (rest := []) C hR (c_X8_within h) gw_RX8_67 rfl rfl hs_X8_within ⟨Nat.le_of_ble_eq_true rfl, Nat.le_of_ble_eq_true rfl⟩ rfl hl.1 rfl (Nat.le_of_ble_eq_true rfl) dX8_picture_16 ⟨Nat.zero_le _, Nat.zero_le _⟩) (fun r16 σ16 H locs h hR hS => ?_)
      obtain ⟨hz16, h⟩ := h
      refine lv_if_eq (tgt := 26) hx hb dX8_picture_19 (by decide) (fun c17 => ?_) (fun c17 => ?_)
      · have h := h.1 c17
        refine lv_iconst (v := (0 : Int32)) hx hb dX8_picture_26 (by decide) ?_
        refine lv_istore (lv' := [(6, .int (0 : Int32)), (5, .ref (ad 6 i1q 0)), (0, .ref (ad 8 0 0)), (1, .int a1), (2, .int a2), (3, .int a3), (4, .int a4)]) hx hb dX8_picture_27 hl (by decide) rfl (fun ls hl => ?_)
        refine lv_aload hx hb dX8_picture_29 (lv_at hl 1 rfl) ?_
        refine lv_ifnull hx hb dX8_picture_31 ?_
        refine lv_iload_n hx hb dX8_picture_34 rfl (lv_at hl 4 rfl) ?_
        refine lv_iconst (v := (3 : Int32)) hx hb dX8_picture_35 (by decide) ?_
        refine pr_calli hS (pr_runS (As := [.int a2, .int (3 : Int32)]) (rest := []) C hR (c_X8_within h) gw_RX8_67 rfl rfl hs_X8_within ⟨Nat.le_of_ble_eq_true rfl, Nat.le_of_ble_eq_true rfl⟩ rfl hl.1 rfl (Nat.le_of_ble_eq_true rfl) dX8_picture_36 ⟨Nat.zero_le _, Nat.zero_le _⟩) (fun r18 σ18 H locs h hR hS => ?_)
        obtain ⟨hz18, h⟩ := h
        refine lv_if_eq (tgt := 63) hx hb dX8_picture_39 (by decide) (fun c19 => ?_) (fun c19 => ?_)
        · have h := h.1 c19
          refine lv_iconst (v := (-1 : Int32)) hx hb dX8_picture_63 (by decide) ?_
          exact pr_reta (ad' := ad) C (Nat.le_of_ble_eq_true rfl) (Nat.le_of_ble_eq_true rfl) h hR rfl rfl hS dX8_picture_64
        · have h := h.2 c19
          refine lv_iload_n hx hb dX8_picture_42 rfl (lv_at hl 5 rfl) ?_
          refine pr_calli hS (pr_runS (As := [.int a3]) (rest := []) C hR (c_X8_layersCanBe h) gw_RX8_85 rfl rfl hs_X8_layersCanBe ⟨Nat.le_of_ble_eq_true rfl, Nat.le_of_ble_eq_true rfl⟩ rfl hl.1 rfl (Nat.le_of_ble_eq_true rfl) dX8_picture_43 ⟨Nat.zero_le _, Nat.zero_le _⟩) (fun r20 σ20 H locs h hR hS => ?_)
          obtain ⟨hz20, h⟩ := h
          refine lv_if_eq (tgt := 63) hx hb dX8_picture_46 (by decide) (fun c21 => ?_) (fun c21 => ?_)
          · have h := h.1 c21
            refine lv_iconst (v := (-1 : Int32)) hx hb dX8_picture_63 (by decide) ?_
            exact pr_reta (ad' := ad) C (Nat.le_of_ble_eq_true rfl) (Nat.le_of_ble_eq_true rfl) h hR rfl rfl hS dX8_picture_64
          · have h := h.2 c21
            refine lv_iload hx hb dX8_picture_49 (lv_at hl 0 rfl) ?_
            refine lv_if_eq (tgt := 63) hx hb dX8_picture_51 (by decide) (fun _ => ?_) (fun c9 => absurd c9 (by decide))
            refine lv_iconst (v := (-1 : Int32)) hx hb dX8_picture_63 (by decide) ?_
            exact pr_reta (ad' := ad) C (Nat.le_of_ble_eq_true rfl) (Nat.le_of_ble_eq_true rfl) h hR rfl rfl hS dX8_picture_64
      · have h := h.2 c17
        exact t_X8_picture_L22a C h hR hS hv1 hup (lv_sub hl [1, 2, 3, 4, 5, 0] rfl)
abbrev wp_X8_picture (g : Nat → Nat) (σ : pr_Sg) (a1 : Int32) (a2 : Int32) (a3 : Int32) (a4 : Int32) (Q : Int32 → (Nat → Nat) → pr_Sg → Prop) : Prop := wpb_X8_picture g σ a1 a2 a3 a4 Q
set_option maxHeartbeats 4000000 in
set_option maxRecDepth 100000 in
theorem c_X8_picture {l : Launch} {D : va_G} {cs : Nat → ClassId} {A : Nat → Prop} {ad : pr_Ad} {g : Nat → Nat} {σ : pr_Sg} {a1 : Int32} {a2 : Int32} {a3 : Int32} {a4 : Int32} {Q : Int32 → (Nat → Nat) → pr_Sg → Prop} (hup : ∀ x y : Nat, A x → x ≤ y → A y) (h : wp_X8_picture g σ a1 a2 a3 a4 Q) : pr_Ma l D cs A ad g yX8_picture cX8_picture 8 rm_X8_picture [.ref (ad 8 0 0), .int a1, .int a2, .int a3, .int a4] σ 7 40 Q := by
  refine Met.ofW (cc := cX8_picture) (maxL := 8) (ret := (some .int)) (by decide) rfl ?_
  intro p e s m args below meth c s₁ B hml hv
  obtain ⟨rfl, hR, hK⟩ := hv
  have C : pr_C RX8 cX8_picture 8 (some .int) D cs p s m [.ref (ad 8 0 0), .int a1, .int a2, .int a3, .int a4].toArray meth c := pr_C.of B hml hK
  have hS : va_S A s.heap s.heap [] := va_S.rf
  have hl := lv_entry ([.ref (ad 8 0 0), .int a1, .int a2, .int a3, .int a4]) (n := 8) (Nat.le_of_ble_eq_true rfl)
  rw [lg_entry_eq]
  generalize (lg_sl ([.ref (ad 8 0 0), .int a1, .int a2, .int a3, .int a4]) ++ List.replicate (8 - (lg_sl ([.ref (ad 8 0 0), .int a1, .int a2, .int a3, .int a4])).length) Slot.unset).toArray = ls at hl ⊢
  have hl : lv_has ls 8 [(0, .ref (ad 8 0 0)), (1, .int a1), (2, .int a2), (3, .int a3), (4, .int a4)] := hl
  exact t_X8_picture C h hR hS hup hl
