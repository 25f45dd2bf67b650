def rm_X0_init : Room := { frames := 1, cells := 0, slots := 0, locals := 12 }
theorem ha_X0_init : yX0_init.cls ≠ "java/lang/invoke/MethodHandle" ∧ yX0_init.cls ≠ "java/lang/invoke/VarHandle" ∧ (parseMethodDescriptor yX0_init.desc).map (fun d => d.parameters.length) = some 0 := ⟨by decide, by decide, by decide +kernel⟩
def kF_X0_init (cs : Nat → ClassId) (b : Nat) : Nat → va_E :=
  pr_F0
set_option maxHeartbeats 4000000 in
set_option maxRecDepth 100000 in
theorem c_X0_init {l : Launch} {D : va_G} {cs : Nat → ClassId} {b h0 : Nat} : pr_Mc l D cs yX0_init cX0_init 1 rm_X0_init b h0 0 [] [.int 0, .int 0, .int 0] 0 (kF_X0_init cs b) [.int (-1 : Int32), .int (-1 : Int32), .int 0] 0 0 := by
  refine Met.ofW (cc := cX0_init) (maxL := 1) (ret := none) (by decide) rfl ?_
  intro p e s m args below meth c s₁ B hml hv
  obtain ⟨rfl, hG, hK⟩ := hv
  have C : pr_C RX0 cX0_init 1 none D cs p s m [.ref h0].toArray meth c := pr_C.of B hml hK
  have hin : meth.name = "<init>" := (name_of_methodNamed B.named B.method).1
  have hS : va_S (pr_A h0 b) s.heap s.heap [] := va_S.rf
  have hl := lv_entry ([.ref h0]) (n := 1) (Nat.le_of_ble_eq_true rfl)
  rw [lg_entry_eq]
  generalize (lg_sl ([.ref h0]) ++ List.replicate (1 - (lg_sl ([.ref h0])).length) Slot.unset).toArray = ls at hl ⊢
  have hl : lv_has ls 1 [(0, .ref h0)] := hl
  obtain ⟨hx, hb, hml, hown, hts, hK, hr, hlocks⟩ := id C
  refine lv_aload_n hx hb dX0_init_0 rfl (lv_at hl 0 rfl) ?_
  refine W.objInit hx hb hown (hts _ (pr_in4 _ (List.mem_of_getElem? (i := 4) rfl))) (hts _ (pr_in1 _ (List.mem_of_getElem? (i := 10) rfl))) (hts _ (pr_in1 _ (List.mem_of_getElem? (i := 11) rfl))) rfl (by rw [hml]; exact hl.1) rfl dX0_init_1 (Nat.le_of_ble_eq_true rfl) (Nat.le_of_ble_eq_true rfl) ?_
  refine W.eq (g2 := F0 m 4 ls []) rfl ?_
  refine lv_aload_n hx hb dX0_init_4 rfl (lv_at hl 0 rfl) ?_
  refine lv_iconst (v := (-1 : Int32)) hx hb dX0_init_5 (by decide) ?_
  refine kc_put C hG hS rfl inlX0 tyX0 tyX0_ok nmX0 0 (by omega) (pr_in4 _ (List.mem_of_getElem? (i := 5) rfl)) rfl rfl rfl rfl (Nat.le_of_ble_eq_true rfl) dX0_init_6 (fs' := [.int (-1 : Int32), .int 0, .int 0]) rfl (fun H locs hG hS => ?_)
  refine lv_aload_n hx hb dX0_init_9 rfl (lv_at hl 0 rfl) ?_
  refine lv_iconst (v := (-1 : Int32)) hx hb dX0_init_10 (by decide) ?_
  refine kc_put C hG hS rfl inlX0 tyX0 tyX0_ok nmX0 1 (by omega) (pr_in4 _ (List.mem_of_getElem? (i := 6) rfl)) rfl rfl rfl rfl (Nat.le_of_ble_eq_true rfl) dX0_init_11 (fs' := [.int (-1 : Int32), .int (-1 : Int32), .int 0]) rfl (fun H locs hG hS => ?_)
  exact kc_ret C hG hS rfl (fun _ _ => rfl) rfl rfl rfl dX0_init_14
def rm_X1_init : Room := { frames := 1, cells := 3, slots := 180, locals := 12 }
theorem ha_X1_init : yX1_init.cls ≠ "java/lang/invoke/MethodHandle" ∧ yX1_init.cls ≠ "java/lang/invoke/VarHandle" ∧ (parseMethodDescriptor yX1_init.desc).map (fun d => d.parameters.length) = some 0 := ⟨by decide, by decide, by decide +kernel⟩
def kF_X1_init (cs : Nat → ClassId) (b : Nat) : Nat → va_E :=
  (va_up (va_up (va_up pr_F0 0 (.inl (cs 0, 60, .inl (fun _ => 0)))) 1 (.inl (cs 0, 60, .inl (fun _ => 0)))) 2 (.inl (cs 0, 60, .inl (fun _ => 0))))
set_option maxHeartbeats 4000000 in
set_option maxRecDepth 100000 in
theorem c_X1_init {l : Launch} {D : va_G} {cs : Nat → ClassId} {b h0 : Nat} : pr_Mc l D cs yX1_init cX1_init 1 rm_X1_init b h0 1 [] [.null, .null, .null, .int 0] 3 (kF_X1_init cs b) [.ref (b + 0), .ref (b + 1), .ref (b + 2), .int 0] 3 180 := by
  refine Met.ofW (cc := cX1_init) (maxL := 1) (ret := none) (by decide) rfl ?_
  intro p e s m args below meth c s₁ B hml hv
  obtain ⟨rfl, hG, hK⟩ := hv
  have C : pr_C RX1 cX1_init 1 none D cs p s m [.ref h0].toArray meth c := pr_C.of B hml hK
  have hin : meth.name = "<init>" := (name_of_methodNamed B.named B.method).1
  have hS : va_S (pr_A h0 b) s.heap s.heap [] := va_S.rf
  have hl := lv_entry ([.ref h0]) (n := 1) (Nat.le_of_ble_eq_true rfl)
  rw [lg_entry_eq]
  generalize (lg_sl ([.ref h0]) ++ List.replicate (1 - (lg_sl ([.ref h0])).length) Slot.unset).toArray = ls at hl ⊢
  have hl : lv_has ls 1 [(0, .ref h0)] := hl
  obtain ⟨hx, hb, hml, hown, hts, hK, hr, hlocks⟩ := id C
  refine lv_aload_n hx hb dX1_init_0 rfl (lv_at hl 0 rfl) ?_
  refine W.objInit hx hb hown (hts _ (pr_in2 _ (List.mem_of_getElem? (i := 19) rfl))) (hts _ (pr_in1 _ (List.mem_of_getElem? (i := 10) rfl))) (hts _ (pr_in1 _ (List.mem_of_getElem? (i := 11) rfl))) rfl (by rw [hml]; exact hl.1) rfl dX1_init_1 (Nat.le_of_ble_eq_true rfl) (Nat.le_of_ble_eq_true rfl) ?_
  refine W.eq (g2 := F0 m 4 ls []) rfl ?_
  refine lv_aload_n hx hb dX1_init_4 rfl (lv_at hl 0 rfl) ?_
  refine lv_bipush (v := (60 : Int32)) hx hb dX1_init_5 (by decide) ?_
  refine kc_newi C hG hS (N' := 60) (pr_in1 _ (List.mem_of_getElem? (i := 16) rfl)) (by decide) (by decide) (by decide) (Nat.le_of_ble_eq_true rfl) (Nat.le_of_ble_eq_true rfl) dX1_init_7 (N1 := 1) rfl (fun H hG hS => ?_)
  refine kc_putF C hin hG hS rfl inlX1 tyX1 tyX1_ok nmX1 0 (by omega) (pr_in2 _ (List.mem_of_getElem? (i := 20) rfl)) rfl rfl rfl rfl rfl (Nat.le_of_ble_eq_true rfl) dX1_init_9 (fs' := [.ref (b + 0), .null, .null, .int 0]) rfl (fun H locs hG hS => ?_)
  refine lv_aload_n hx hb dX1_init_12 rfl (lv_at hl 0 rfl) ?_
  refine lv_bipush (v := (60 : Int32)) hx hb dX1_init_13 (by decide) ?_
  refine kc_newi C hG hS (N' := 60) (pr_in1 _ (List.mem_of_getElem? (i := 16) rfl)) (by decide) (by decide) (by decide) (Nat.le_of_ble_eq_true rfl) (Nat.le_of_ble_eq_true rfl) dX1_init_15 (N1 := 2) rfl (fun H hG hS => ?_)
  refine kc_putF C hin hG hS rfl inlX1 tyX1 tyX1_ok nmX1 1 (by omega) (pr_in2 _ (List.mem_of_getElem? (i := 21) rfl)) rfl rfl rfl rfl rfl (Nat.le_of_ble_eq_true rfl) dX1_init_17 (fs' := [.ref (b + 0), .ref (b + 1), .null, .int 0]) rfl (fun H locs hG hS => ?_)
  refine lv_aload_n hx hb dX1_init_20 rfl (lv_at hl 0 rfl) ?_
  refine lv_bipush (v := (60 : Int32)) hx hb dX1_init_21 (by decide) ?_
  refine kc_newi C hG hS (N' := 60) (pr_in1 _ (List.mem_of_getElem? (i := 16) rfl)) (by decide) (by decide) (by decide) (Nat.le_of_ble_eq_true rfl) (Nat.le_of_ble_eq_true rfl) dX1_init_23 (N1 := 3) rfl (fun H hG hS => ?_)
  refine kc_putF C hin hG hS rfl inlX1 tyX1 tyX1_ok nmX1 2 (by omega) (pr_in2 _ (List.mem_of_getElem? (i := 22) rfl)) rfl rfl rfl rfl rfl (Nat.le_of_ble_eq_true rfl) dX1_init_25 (fs' := [.ref (b + 0), .ref (b + 1), .ref (b + 2), .int 0]) rfl (fun H locs hG hS => ?_)
  exact kc_ret C hG hS rfl (fun _ _ => rfl) rfl rfl rfl dX1_init_28
def rm_X2_init : Room := { frames := 1, cells := 0, slots := 0, locals := 12 }
theorem ha_X2_init : yX2_init.cls ≠ "java/lang/invoke/MethodHandle" ∧ yX2_init.cls ≠ "java/lang/invoke/VarHandle" ∧ (parseMethodDescriptor yX2_init.desc).map (fun d => d.parameters.length) = some 1 := ⟨by decide, by decide, by decide +kernel⟩
def kF_X2_init (cs : Nat → ClassId) (b : Nat) (a1 : Int32) : Nat → va_E :=
  pr_F0
set_option maxHeartbeats 4000000 in
set_option maxRecDepth 100000 in
theorem c_X2_init {l : Launch} {D : va_G} {cs : Nat → ClassId} {b h0 : Nat} {a1 : Int32} : pr_Mc l D cs yX2_init cX2_init 2 rm_X2_init b h0 2 [.int a1] [.int 0, .int 0, .int 0, .int 0, .int 0] 0 (kF_X2_init cs b a1) [.int a1, .int 0, .int (-1 : Int32), .int (-1 : Int32), .int (-1 : Int32)] 0 0 := by
  refine Met.ofW (cc := cX2_init) (maxL := 2) (ret := none) (by decide) rfl ?_
  intro p e s m args below meth c s₁ B hml hv
  obtain ⟨rfl, hG, hK⟩ := hv
  have C : pr_C RX2 cX2_init 2 none D cs p s m [.ref h0, .int a1].toArray meth c := pr_C.of B hml hK
  have hin : meth.name = "<init>" := (name_of_methodNamed B.named B.method).1
  have hS : va_S (pr_A h0 b) s.heap s.heap [] := va_S.rf
  have hl := lv_entry ([.ref h0, .int a1]) (n := 2) (Nat.le_of_ble_eq_true rfl)
  rw [lg_entry_eq]
  generalize (lg_sl ([.ref h0, .int a1]) ++ List.replicate (2 - (lg_sl ([.ref h0, .int a1])).length) Slot.unset).toArray = ls at hl ⊢
  have hl : lv_has ls 2 [(0, .ref h0), (1, .int a1)] := hl
  obtain ⟨hx, hb, hml, hown, hts, hK, hr, hlocks⟩ := id C
  refine lv_aload_n hx hb dX2_init_0 rfl (lv_at hl 0 rfl) ?_
  refine W.objInit hx hb hown (hts _ (pr_in9 _ (List.mem_of_getElem? (i := 17) rfl))) (hts _ (pr_in1 _ (List.mem_of_getElem? (i := 10) rfl))) (hts _ (pr_in1 _ (List.mem_of_getElem? (i := 11) rfl))) rfl (by rw [hml]; exact hl.1) rfl dX2_init_1 (Nat.le_of_ble_eq_true rfl) (Nat.le_of_ble_eq_true rfl) ?_
  refine W.eq (g2 := F0 m 4 ls []) rfl ?_
  refine lv_aload_n hx hb dX2_init_4 rfl (lv_at hl 0 rfl) ?_
  refine lv_iload_n hx hb dX2_init_5 rfl (lv_at hl 1 rfl) ?_
  refine kc_putF C hin hG hS rfl inlX2 tyX2 tyX2_ok nmX2 0 (by omega) (pr_in9 _ (List.mem_of_getElem? (i := 18) rfl)) rfl rfl rfl rfl rfl (Nat.le_of_ble_eq_true rfl) dX2_init_6 (fs' := [.int a1, .int 0, .int 0, .int 0, .int 0]) rfl (fun H locs hG hS => ?_)
  refine lv_aload_n hx hb dX2_init_9 rfl (lv_at hl 0 rfl) ?_
  refine lv_iconst (v := (-1 : Int32)) hx hb dX2_init_10 (by decide) ?_
  refine kc_put C hG hS rfl inlX2 tyX2 tyX2_ok nmX2 2 (by omega) (pr_in9 _ (List.mem_of_getElem? (i := 19) rfl)) rfl rfl rfl rfl (Nat.le_of_ble_eq_true rfl) dX2_init_11 (fs' := [.int a1, .int 0, .int (-1 : Int32), .int 0, .int 0]) rfl (fun H locs hG hS => ?_)
  refine lv_aload_n hx hb dX2_init_14 rfl (lv_at hl 0 rfl) ?_
  refine lv_iconst (v := (-1 : Int32)) hx hb dX2_init_15 (by decide) ?_
  refine kc_put C hG hS rfl inlX2 tyX2 tyX2_ok nmX2 3 (by omega) (pr_in9 _ (List.mem_of_getElem? (i := 20) rfl)) rfl rfl rfl rfl (Nat.le_of_ble_eq_true rfl) dX2_init_16 (fs' := [.int a1, .int 0, .int (-1 : Int32), .int (-1 : Int32), .int 0]) rfl (fun H locs hG hS => ?_)
  refine lv_aload_n hx hb dX2_init_19 rfl (lv_at hl 0 rfl) ?_
  refine lv_iconst (v := (-1 : Int32)) hx hb dX2_init_20 (by decide) ?_
  refine kc_put C hG hS rfl inlX2 tyX2 tyX2_ok nmX2 4 (by omega) (pr_in9 _ (List.mem_of_getElem? (i := 21) rfl)) rfl rfl rfl rfl (Nat.le_of_ble_eq_true rfl) dX2_init_21 (fs' := [.int a1, .int 0, .int (-1 : Int32), .int (-1 : Int32), .int (-1 : Int32)]) rfl (fun H locs hG hS => ?_)
  exact kc_ret C hG hS rfl (fun _ _ => rfl) rfl rfl rfl dX2_init_24
def rm_X4_init : Room := { frames := 1, cells := 6, slots := 30, locals := 12 }
theorem ha_X4_init : yX4_init.cls ≠ "java/lang/invoke/MethodHandle" ∧ yX4_init.cls ≠ "java/lang/invoke/VarHandle" ∧ (parseMethodDescriptor yX4_init.desc).map (fun d => d.parameters.length) = some 0 := ⟨by decide, by decide, by decide +kernel⟩
def kF_X4_init (cs : Nat → ClassId) (b : Nat) : Nat → va_E :=
  (va_up (va_up (va_up (va_up (va_up (va_up pr_F0 0 (.inl (cs 0, 5, .inl (fun _ => 0)))) 1 (.inl (cs 0, 5, .inl (fun _ => 0)))) 2 (.inl (cs 0, 5, .inl (fun _ => 0)))) 3 (.inl (cs 0, 5, .inl (fun _ => 0)))) 4 (.inl (cs 0, 5, .inl (fun _ => 0)))) 5 (.inl (cs 0, 5, .inl (fun _ => 0))))
set_option maxHeartbeats 4000000 in
set_option maxRecDepth 100000 in
theorem c_X4_init {l : Launch} {D : va_G} {cs : Nat → ClassId} {b h0 : Nat} : pr_Mc l D cs yX4_init cX4_init 1 rm_X4_init b h0 4 [] [.null, .null, .null, .null, .null, .null, .int 0, .int 0, .int 0] 6 (kF_X4_init cs b) [.ref (b + 0), .ref (b + 1), .ref (b + 2), .ref (b + 3), .ref (b + 4), .ref (b + 5), .int 0, .int 0, .int 0] 6 30 := by
  refine Met.ofW (cc := cX4_init) (maxL := 1) (ret := none) (by decide) rfl ?_
  intro p e s m args below meth c s₁ B hml hv
  obtain ⟨rfl, hG, hK⟩ := hv
  have C : pr_C RX4 cX4_init 1 none D cs p s m [.ref h0].toArray meth c := pr_C.of B hml hK
  have hin : meth.name = "<init>" := (name_of_methodNamed B.named B.method).1
  have hS : va_S (pr_A h0 b) s.heap s.heap [] := va_S.rf
  have hl := lv_entry ([.ref h0]) (n := 1) (Nat.le_of_ble_eq_true rfl)
  rw [lg_entry_eq]
  generalize (lg_sl ([.ref h0]) ++ List.replicate (1 - (lg_sl ([.ref h0])).length) Slot.unset).toArray = ls at hl ⊢
  have hl : lv_has ls 1 [(0, .ref h0)] := hl
  obtain ⟨hx, hb, hml, hown, hts, hK, hr, hlocks⟩ := id C
  refine lv_aload_n hx hb dX4_init_0 rfl (lv_at hl 0 rfl) ?_
  refine W.objInit hx hb hown (hts _ (pr_in3 _ (List.mem_of_getElem? (i := 18) rfl))) (hts _ (pr_in1 _ (List.mem_of_getElem? (i := 10) rfl))) (hts _ (pr_in1 _ (List.mem_of_getElem? (i := 11) rfl))) rfl (by rw [hml]; exact hl.1) rfl dX4_init_1 (Nat.le_of_ble_eq_true rfl) (Nat.le_of_ble_eq_true rfl) ?_
  refine W.eq (g2 := F0 m 4 ls []) rfl ?_
  refine lv_aload_n hx hb dX4_init_4 rfl (lv_at hl 0 rfl) ?_
  refine lv_iconst (v := (5 : Int32)) hx hb dX4_init_5 (by decide) ?_
  refine kc_newi C hG hS (N' := 5) (pr_in1 _ (List.mem_of_getElem? (i := 16) rfl)) (by decide) (by decide) (by decide) (Nat.le_of_ble_eq_true rfl) (Nat.le_of_ble_eq_true rfl) dX4_init_6 (N1 := 1) rfl (fun H hG hS => ?_)
  refine kc_putF C hin hG hS rfl inlX4 tyX4 tyX4_ok nmX4 0 (by omega) (pr_in3 _ (List.mem_of_getElem? (i := 19) rfl)) rfl rfl rfl rfl rfl (Nat.le_of_ble_eq_true rfl) dX4_init_8 (fs' := [.ref (b + 0), .null, .null, .null, .null, .null, .int 0, .int 0, .int 0]) rfl (fun H locs hG hS => ?_)
  refine lv_aload_n hx hb dX4_init_11 rfl (lv_at hl 0 rfl) ?_
  refine lv_iconst (v := (5 : Int32)) hx hb dX4_init_12 (by decide) ?_
  refine kc_newi C hG hS (N' := 5) (pr_in1 _ (List.mem_of_getElem? (i := 16) rfl)) (by decide) (by decide) (by decide) (Nat.le_of_ble_eq_true rfl) (Nat.le_of_ble_eq_true rfl) dX4_init_13 (N1 := 2) rfl (fun H hG hS => ?_)
  refine kc_putF C hin hG hS rfl inlX4 tyX4 tyX4_ok nmX4 1 (by omega) (pr_in3 _ (List.mem_of_getElem? (i := 20) rfl)) rfl rfl rfl rfl rfl (Nat.le_of_ble_eq_true rfl) dX4_init_15 (fs' := [.ref (b + 0), .ref (b + 1), .null, .null, .null, .null, .int 0, .int 0, .int 0]) rfl (fun H locs hG hS => ?_)
  refine lv_aload_n hx hb dX4_init_18 rfl (lv_at hl 0 rfl) ?_
  refine lv_iconst (v := (5 : Int32)) hx hb dX4_init_19 (by decide) ?_
  refine kc_newi C hG hS (N' := 5) (pr_in1 _ (List.mem_of_getElem? (i := 16) rfl)) (by decide) (by decide) (by decide) (Nat.le_of_ble_eq_true rfl) (Nat.le_of_ble_eq_true rfl) dX4_init_20 (N1 := 3) rfl (fun H hG hS => ?_)
  refine kc_putF C hin hG hS rfl inlX4 tyX4 tyX4_ok nmX4 2 (by omega) (pr_in3 _ (List.mem_of_getElem? (i := 21) rfl)) rfl rfl rfl rfl rfl (Nat.le_of_ble_eq_true rfl) dX4_init_22 (fs' := [.ref (b + 0), .ref (b + 1), .ref (b + 2), .null, .null, .null, .int 0, .int 0, .int 0]) rfl (fun H locs hG hS => ?_)
  refine lv_aload_n hx hb dX4_init_25 rfl (lv_at hl 0 rfl) ?_
  refine lv_iconst (v := (5 : Int32)) hx hb dX4_init_26 (by decide) ?_
  refine kc_newi C hG hS (N' := 5) (pr_in1 _ (List.mem_of_getElem? (i := 16) rfl)) (by decide) (by decide) (by decide) (Nat.le_of_ble_eq_true rfl) (Nat.le_of_ble_eq_true rfl) dX4_init_27 (N1 := 4) rfl (fun H hG hS => ?_)
  refine kc_putF C hin hG hS rfl inlX4 tyX4 tyX4_ok nmX4 3 (by omega) (pr_in3 _ (List.mem_of_getElem? (i := 22) rfl)) rfl rfl rfl rfl rfl (Nat.le_of_ble_eq_true rfl) dX4_init_29 (fs' := [.ref (b + 0), .ref (b + 1), .ref (b + 2), .ref (b + 3), .null, .null, .int 0, .int 0, .int 0]) rfl (fun H locs hG hS => ?_)
  refine lv_aload_n hx hb dX4_init_32 rfl (lv_at hl 0 rfl) ?_
  refine lv_iconst (v := (5 : Int32)) hx hb dX4_init_33 (by decide) ?_
  refine kc_newi C hG hS (N' := 5) (pr_in1 _ (List.mem_of_getElem? (i := 16) rfl)) (by decide) (by decide) (by decide) (Nat.le_of_ble_eq_true rfl) (Nat.le_of_ble_eq_true rfl) dX4_init_34 (N1 := 5) rfl (fun H hG hS => ?_)
  refine kc_putF C hin hG hS rfl inlX4 tyX4 tyX4_ok nmX4 4 (by omega) (pr_in3 _ (List.mem_of_getElem? (i := 23) rfl)) rfl rfl rfl rfl rfl (Nat.le_of_ble_eq_true rfl) dX4_init_36 (fs' := [.ref (b + 0), .ref (b + 1), .ref (b + 2), .ref (b + 3), .ref (b + 4), .null, .int 0, .int 0, .int 0]) rfl (fun H locs hG hS => ?_)
  refine lv_aload_n hx hb dX4_init_39 rfl (lv_at hl 0 rfl) ?_
  refine lv_iconst (v := (5 : Int32)) hx hb dX4_init_40 (by decide) ?_
  refine kc_newi C hG hS (N' := 5) (pr_in1 _ (List.mem_of_getElem? (i := 16) rfl)) (by decide) (by decide) (by decide) (Nat.le_of_ble_eq_true rfl) (Nat.le_of_ble_eq_true rfl) dX4_init_41 (N1 := 6) rfl (fun H hG hS => ?_)
  refine kc_putF C hin hG hS rfl inlX4 tyX4 tyX4_ok nmX4 5 (by omega) (pr_in4 _ (List.mem_of_getElem? (i := 0) rfl)) rfl rfl rfl rfl rfl (Nat.le_of_ble_eq_true rfl) dX4_init_43 (fs' := [.ref (b + 0), .ref (b + 1), .ref (b + 2), .ref (b + 3), .ref (b + 4), .ref (b + 5), .int 0, .int 0, .int 0]) rfl (fun H locs hG hS => ?_)
  exact kc_ret C hG hS rfl (fun _ _ => rfl) rfl rfl rfl dX4_init_46
def rm_X5_init : Room := { frames := 1, cells := 2, slots := 10, locals := 12 }
theorem ha_X5_init : yX5_init.cls ≠ "java/lang/invoke/MethodHandle" ∧ yX5_init.cls ≠ "java/lang/invoke/VarHandle" ∧ (parseMethodDescriptor yX5_init.desc).map (fun d => d.parameters.length) = some 0 := ⟨by decide, by decide, by decide +kernel⟩
def kF_X5_init (cs : Nat → ClassId) (b : Nat) : Nat → va_E :=
  (va_up (va_up (va_up (va_up (va_up (va_up (va_up (va_up (va_up (va_up (va_up (va_up pr_F0 0 (.inl (cs 0, 5, .inl (fun _ => 0)))) 1 (.inl (cs 0, 5, .inl (fun _ => 0)))) 0 (.inl (cs 0, 5, .inl (upd (fun _ => 0) ((0 : Int32)).toNatClampNeg (-1 : Int32))))) 1 (.inl (cs 0, 5, .inl (upd (fun _ => 0) ((0 : Int32)).toNatClampNeg (-1 : Int32))))) 0 (.inl (cs 0, 5, .inl (upd (upd (fun _ => 0) ((0 : Int32)).toNatClampNeg (-1 : Int32)) ((1 : Int32)).toNatClampNeg (-1 : Int32))))) 1 (.inl (cs 0, 5, .inl (upd (upd (fun _ => 0) ((0 : Int32)).toNatClampNeg (-1 : Int32)) ((1 : Int32)).toNatClampNeg (-1 : Int32))))) 0 (.inl (cs 0, 5, .inl (upd (upd (upd (fun _ => 0) ((0 : Int32)).toNatClampNeg (-1 : Int32)) ((1 : Int32)).toNatClampNeg (-1 : Int32)) ((2 : Int32)).toNatClampNeg (-1 : Int32))))) 1 (.inl (cs 0, 5, .inl (upd (upd (upd (fun _ => 0) ((0 : Int32)).toNatClampNeg (-1 : Int32)) ((1 : Int32)).toNatClampNeg (-1 : Int32)) ((2 : Int32)).toNatClampNeg (-1 : Int32))))) 0 (.inl (cs 0, 5, .inl (upd (upd (upd (upd (fun _ => 0) ((0 : Int32)).toNatClampNeg (-1 : Int32)) ((1 : Int32)).toNatClampNeg (-1 : Int32)) ((2 : Int32)).toNatClampNeg (-1 : Int32)) ((3 : Int32)).toNatClampNeg (-1 : Int32))))) 1 (.inl (cs 0, 5, .inl (upd (upd (upd (upd (fun _ => 0) ((0 : Int32)).toNatClampNeg (-1 : Int32)) ((1 : Int32)).toNatClampNeg (-1 : Int32)) ((2 : Int32)).toNatClampNeg (-1 : Int32)) ((3 : Int32)).toNatClampNeg (-1 : Int32))))) 0 (.inl (cs 0, 5, .inl (upd (upd (upd (upd (upd (fun _ => 0) ((0 : Int32)).toNatClampNeg (-1 : Int32)) ((1 : Int32)).toNatClampNeg (-1 : Int32)) ((2 : Int32)).toNatClampNeg (-1 : Int32)) ((3 : Int32)).toNatClampNeg (-1 : Int32)) ((4 : Int32)).toNatClampNeg (-1 : Int32))))) 1 (.inl (cs 0, 5, .inl (upd (upd (upd (upd (upd (fun _ => 0) ((0 : Int32)).toNatClampNeg (-1 : Int32)) ((1 : Int32)).toNatClampNeg (-1 : Int32)) ((2 : Int32)).toNatClampNeg (-1 : Int32)) ((3 : Int32)).toNatClampNeg (-1 : Int32)) ((4 : Int32)).toNatClampNeg (-1 : Int32)))))
set_option maxHeartbeats 4000000 in
set_option maxRecDepth 100000 in
theorem c_X5_init {l : Launch} {D : va_G} {cs : Nat → ClassId} {b h0 : Nat} : pr_Mc l D cs yX5_init cX5_init 2 rm_X5_init b h0 5 [] [.null, .null] 2 (kF_X5_init cs b) [.ref (b + 0), .ref (b + 1)] 2 10 := by
  refine Met.ofW (cc := cX5_init) (maxL := 2) (ret := none) (by decide) rfl ?_
  intro p e s m args below meth c s₁ B hml hv
  obtain ⟨rfl, hG, hK⟩ := hv
  have C : pr_C RX5 cX5_init 2 none D cs p s m [.ref h0].toArray meth c := pr_C.of B hml hK
  have hin : meth.name = "<init>" := (name_of_methodNamed B.named B.method).1
  have hS : va_S (pr_A h0 b) s.heap s.heap [] := va_S.rf
  have hl := lv_entry ([.ref h0]) (n := 2) (Nat.le_of_ble_eq_true rfl)
  rw [lg_entry_eq]
  generalize (lg_sl ([.ref h0]) ++ List.replicate (2 - (lg_sl ([.ref h0])).length) Slot.unset).toArray = ls at hl ⊢
  have hl : lv_has ls 2 [(0, .ref h0)] := hl
  obtain ⟨hx, hb, hml, hown, hts, hK, hr, hlocks⟩ := id C
  refine lv_aload_n hx hb dX5_init_0 rfl (lv_at hl 0 rfl) ?_
  refine W.objInit hx hb hown (hts _ (pr_in3 _ (List.mem_of_getElem? (i := 12) rfl))) (hts _ (pr_in1 _ (List.mem_of_getElem? (i := 10) rfl))) (hts _ (pr_in1 _ (List.mem_of_getElem? (i := 11) rfl))) rfl (by rw [hml]; exact hl.1) rfl dX5_init_1 (Nat.le_of_ble_eq_true rfl) (Nat.le_of_ble_eq_true rfl) ?_
  refine W.eq (g2 := F0 m 4 ls []) rfl ?_
  refine lv_aload_n hx hb dX5_init_4 rfl (lv_at hl 0 rfl) ?_
  refine lv_iconst (v := (5 : Int32)) hx hb dX5_init_5 (by decide) ?_
  refine kc_newi C hG hS (N' := 5) (pr_in1 _ (List.mem_of_getElem? (i := 16) rfl)) (by decide) (by decide) (by decide) (Nat.le_of_ble_eq_true rfl) (Nat.le_of_ble_eq_true rfl) dX5_init_6 (N1 := 1) rfl (fun H hG hS => ?_)
  refine kc_putF C hin hG hS rfl inlX5 tyX5 tyX5_ok nmX5 0 (by omega) (pr_in3 _ (List.mem_of_getElem? (i := 13) rfl)) rfl rfl rfl rfl rfl (Nat.le_of_ble_eq_true rfl) dX5_init_8 (fs' := [.ref (b + 0), .null]) rfl (fun H locs hG hS => ?_)
  refine lv_aload_n hx hb dX5_init_11 rfl (lv_at hl 0 rfl) ?_
  refine lv_iconst (v := (5 : Int32)) hx hb dX5_init_12 (by decide) ?_
  refine kc_newi C hG hS (N' := 5) (pr_in1 _ (List.mem_of_getElem? (i := 16) rfl)) (by decide) (by decide) (by decide) (Nat.le_of_ble_eq_true rfl) (Nat.le_of_ble_eq_true rfl) dX5_init_13 (N1 := 2) rfl (fun H hG hS => ?_)
  refine kc_putF C hin hG hS rfl inlX5 tyX5 tyX5_ok nmX5 1 (by omega) (pr_in3 _ (List.mem_of_getElem? (i := 14) rfl)) rfl rfl rfl rfl rfl (Nat.le_of_ble_eq_true rfl) dX5_init_15 (fs' := [.ref (b + 0), .ref (b + 1)]) rfl (fun H locs hG hS => ?_)
  refine lv_iconst (v := (0 : Int32)) hx hb dX5_init_18 (by decide) ?_
  refine lv_istore_n (lv' := [(1, .int (0 : Int32)), (0, .ref h0)]) hx hb dX5_init_19 rfl hl (by decide) rfl (fun ls hl => ?_)
  refine lv_iload_n hx hb dX5_init_20 rfl (lv_at hl 0 rfl) ?_
  refine lv_iconst (v := (5 : Int32)) hx hb dX5_init_21 (by decide) ?_
  refine lv_icmp_ge (tgt := 45) hx hb dX5_init_22 (by decide) (fun c9 => absurd c9 (by decide)) (fun _ => ?_)
  refine lv_aload_n hx hb dX5_init_25 rfl (lv_at hl 1 rfl) ?_
  refine kc_get C hG rfl inlX5 0 (by omega) (pr_in3 _ (List.mem_of_getElem? (i := 13) rfl)) rfl (v := .ref (b + 0)) rfl dX5_init_26 ?_
  refine lv_iload_n hx hb dX5_init_29 rfl (lv_at hl 0 rfl) ?_
  refine lv_iconst (v := (-1 : Int32)) hx hb dX5_init_30 (by decide) ?_
  refine kc_ast C hG hS 0 (by decide) (len := 5) (f := (fun _ => 0)) rfl (by unfold vp_in; decide) dX5_init_31 (fun H locs hG hS => ?_)
  refine lv_aload_n hx hb dX5_init_32 rfl (lv_at hl 1 rfl) ?_
  refine kc_get C hG rfl inlX5 1 (by omega) (pr_in3 _ (List.mem_of_getElem? (i := 14) rfl)) rfl (v := .ref (b + 1)) rfl dX5_init_33 ?_
  refine lv_iload_n hx hb dX5_init_36 rfl (lv_at hl 0 rfl) ?_
  refine lv_iconst (v := (-1 : Int32)) hx hb dX5_init_37 (by decide) ?_
  refine kc_ast C hG hS 1 (by decide) (len := 5) (f := (fun _ => 0)) rfl (by unfold vp_in; decide) dX5_init_38 (fun H locs hG hS => ?_)
  refine lv_iinc (v := (1 : Int32)) (lv' := [(1, .int (1 : Int32)), (0, .ref h0)]) hx hb dX5_init_39 hl (k := 0) rfl (by decide) (by decide) rfl (fun ls hl => ?_)
  refine lv_goto (tgt := 20) hx hb dX5_init_42 (by decide) ?_
  refine lv_iload_n hx hb dX5_init_20 rfl (lv_at hl 0 rfl) ?_
  refine lv_iconst (v := (5 : Int32)) hx hb dX5_init_21 (by decide) ?_
  refine lv_icmp_ge (tgt := 45) hx hb dX5_init_22 (by decide) (fun c9 => absurd c9 (by decide)) (fun _ => ?_)
  refine lv_aload_n hx hb dX5_init_25 rfl (lv_at hl 1 rfl) ?_
  refine kc_get C hG rfl inlX5 0 (by omega) (pr_in3 _ (List.mem_of_getElem? (i := 13) rfl)) rfl (v := .ref (b + 0)) rfl dX5_init_26 ?_
  refine lv_iload_n hx hb dX5_init_29 rfl (lv_at hl 0 rfl) ?_
  refine lv_iconst (v := (-1 : Int32)) hx hb dX5_init_30 (by decide) ?_
  refine kc_ast C hG hS 0 (by decide) (len := 5) (f := (upd (fun _ => 0) ((0 : Int32)).toNatClampNeg (-1 : Int32))) rfl (by unfold vp_in; decide) dX5_init_31 (fun H locs hG hS => ?_)
  refine lv_aload_n hx hb dX5_init_32 rfl (lv_at hl 1 rfl) ?_
  refine kc_get C hG rfl inlX5 1 (by omega) (pr_in3 _ (List.mem_of_getElem? (i := 14) rfl)) rfl (v := .ref (b + 1)) rfl dX5_init_33 ?_
  refine lv_iload_n hx hb dX5_init_36 rfl (lv_at hl 0 rfl) ?_
  refine lv_iconst (v := (-1 : Int32)) hx hb dX5_init_37 (by decide) ?_
  refine kc_ast C hG hS 1 (by decide) (len := 5) (f := (upd (fun _ => 0) ((0 : Int32)).toNatClampNeg (-1 : Int32))) rfl (by unfold vp_in; decide) dX5_init_38 (fun H locs hG hS => ?_)
  refine lv_iinc (v := (2 : Int32)) (lv' := [(1, .int (2 : Int32)), (0, .ref h0)]) hx hb dX5_init_39 hl (k := 0) rfl (by decide) (by decide) rfl (fun ls hl => ?_)
  refine lv_goto (tgt := 20) hx hb dX5_init_42 (by decide) ?_
  refine lv_iload_n hx hb dX5_init_20 rfl (lv_at hl 0 rfl) ?_
  refine lv_iconst (v := (5 : Int32)) hx hb dX5_init_21 (by decide) ?_
  refine lv_icmp_ge (tgt := 45) hx hb dX5_init_22 (by decide) (fun c9 => absurd c9 (by decide)) (fun _ => ?_)
  refine lv_aload_n hx hb dX5_init_25 rfl (lv_at hl 1 rfl) ?_
  refine kc_get C hG rfl inlX5 0 (by omega) (pr_in3 _ (List.mem_of_getElem? (i := 13) rfl)) rfl (v := .ref (b + 0)) rfl dX5_init_26 ?_
  refine lv_iload_n hx hb dX5_init_29 rfl (lv_at hl 0 rfl) ?_
  refine lv_iconst (v := (-1 : Int32)) hx hb dX5_init_30 (by decide) ?_
  refine kc_ast C hG hS 0 (by decide) (len := 5) (f := (upd (upd (fun _ => 0) ((0 : Int32)).toNatClampNeg (-1 : Int32)) ((1 : Int32)).toNatClampNeg (-1 : Int32))) rfl (by unfold vp_in; decide) dX5_init_31 (fun H locs hG hS => ?_)
  refine lv_aload_n hx hb dX5_init_32 rfl (lv_at hl 1 rfl) ?_
  refine kc_get C hG rfl inlX5 1 (by omega) (pr_in3 _ (List.mem_of_getElem? (i := 14) rfl)) rfl (v := .ref (b + 1)) rfl dX5_init_33 ?_
  refine lv_iload_n hx hb dX5_init_36 rfl (lv_at hl 0 rfl) ?_
  refine lv_iconst (v := (-1 : Int32)) hx hb dX5_init_37 (by decide) ?_
  refine kc_ast C hG hS 1 (by decide) (len := 5) (f := (upd (upd (fun _ => 0) ((0 : Int32)).toNatClampNeg (-1 : Int32)) ((1 : Int32)).toNatClampNeg (-1 : Int32))) rfl (by unfold vp_in; decide) dX5_init_38 (fun H locs hG hS => ?_)
  refine lv_iinc (v := (3 : Int32)) (lv' := [(1, .int (3 : Int32)), (0, .ref h0)]) hx hb dX5_init_39 hl (k := 0) rfl (by decide) (by decide) rfl (fun ls hl => ?_)
  refine lv_goto (tgt := 20) hx hb dX5_init_42 (by decide) ?_
  refine lv_iload_n hx hb dX5_init_20 rfl (lv_at hl 0 rfl) ?_
  refine lv_iconst (v := (5 : Int32)) hx hb dX5_init_21 (by decide) ?_
  refine lv_icmp_ge (tgt := 45) hx hb dX5_init_22 (by decide) (fun c9 => absurd c9 (by decide)) (fun _ => ?_)
  refine lv_aload_n hx hb dX5_init_25 rfl (lv_at hl 1 rfl) ?_
  refine kc_get C hG rfl inlX5 0 (by omega) (pr_in3 _ (List.mem_of_getElem? (i := 13) rfl)) rfl (v := .ref (b + 0)) rfl dX5_init_26 ?_
  refine lv_iload_n hx hb dX5_init_29 rfl (lv_at hl 0 rfl) ?_
  refine lv_iconst (v := (-1 : Int32)) hx hb dX5_init_30 (by decide) ?_
  refine kc_ast C hG hS 0 (by decide) (len := 5) (f := (upd (upd (upd (fun _ => 0) ((0 : Int32)).toNatClampNeg (-1 : Int32)) ((1 : Int32)).toNatClampNeg (-1 : Int32)) ((2 : Int32)).toNatClampNeg (-1 : Int32))) rfl (by unfold vp_in; decide) dX5_init_31 (fun H locs hG hS => ?_)
  refine lv_aload_n hx hb dX5_init_32 rfl (lv_at hl 1 rfl) ?_
  refine kc_get C hG rfl inlX5 1 (by omega) (pr_in3 _ (List.mem_of_getElem? (i := 14) rfl)) rfl (v := .ref (b + 1)) rfl dX5_init_33 ?_
  refine lv_iload_n hx hb dX5_init_36 rfl (lv_at hl 0 rfl) ?_
  refine lv_iconst (v := (-1 : Int32)) hx hb dX5_init_37 (by decide) ?_
  refine kc_ast C hG hS 1 (by decide) (len := 5) (f := (upd (upd (upd (fun _ => 0) ((0 : Int32)).toNatClampNeg (-1 : Int32)) ((1 : Int32)).toNatClampNeg (-1 : Int32)) ((2 : Int32)).toNatClampNeg (-1 : Int32))) rfl (by unfold vp_in; decide) dX5_init_38 (fun H locs hG hS => ?_)
  refine lv_iinc (v := (4 : Int32)) (lv' := [(1, .int (4 : Int32)), (0, .ref h0)]) hx hb dX5_init_39 hl (k := 0) rfl (by decide) (by decide) rfl (fun ls hl => ?_)
  refine lv_goto (tgt := 20) hx hb dX5_init_42 (by decide) ?_
  refine lv_iload_n hx hb dX5_init_20 rfl (lv_at hl 0 rfl) ?_
  refine lv_iconst (v := (5 : Int32)) hx hb dX5_init_21 (by decide) ?_
  refine lv_icmp_ge (tgt := 45) hx hb dX5_init_22 (by decide) (fun c9 => absurd c9 (by decide)) (fun _ => ?_)
  refine lv_aload_n hx hb dX5_init_25 rfl (lv_at hl 1 rfl) ?_
  refine kc_get C hG rfl inlX5 0 (by omega) (pr_in3 _ (List.mem_of_getElem? (i := 13) rfl)) rfl (v := .ref (b + 0)) rfl dX5_init_26 ?_
  refine lv_iload_n hx hb dX5_init_29 rfl (lv_at hl 0 rfl) ?_
  refine lv_iconst (v := (-1 : Int32)) hx hb dX5_init_30 (by decide) ?_
  refine kc_ast C hG hS 0 (by decide) (len := 5) (f := (upd (upd (upd (upd (fun _ => 0) ((0 : Int32)).toNatClampNeg (-1 : Int32)) ((1 : Int32)).toNatClampNeg (-1 : Int32)) ((2 : Int32)).toNatClampNeg (-1 : Int32)) ((3 : Int32)).toNatClampNeg (-1 : Int32))) rfl (by unfold vp_in; decide) dX5_init_31 (fun H locs hG hS => ?_)
  refine lv_aload_n hx hb dX5_init_32 rfl (lv_at hl 1 rfl) ?_
  refine kc_get C hG rfl inlX5 1 (by omega) (pr_in3 _ (List.mem_of_getElem? (i := 14) rfl)) rfl (v := .ref (b + 1)) rfl dX5_init_33 ?_
  refine lv_iload_n hx hb dX5_init_36 rfl (lv_at hl 0 rfl) ?_
  refine lv_iconst (v := (-1 : Int32)) hx hb dX5_init_37 (by decide) ?_
  refine kc_ast C hG hS 1 (by decide) (len := 5) (f := (upd (upd (upd (upd (fun _ => 0) ((0 : Int32)).toNatClampNeg (-1 : Int32)) ((1 : Int32)).toNatClampNeg (-1 : Int32)) ((2 : Int32)).toNatClampNeg (-1 : Int32)) ((3 : Int32)).toNatClampNeg (-1 : Int32))) rfl (by unfold vp_in; decide) dX5_init_38 (fun H locs hG hS => ?_)
  refine lv_iinc (v := (5 : Int32)) (lv' := [(1, .int (5 : Int32)), (0, .ref h0)]) hx hb dX5_init_39 hl (k := 0) rfl (by decide) (by decide) rfl (fun ls hl => ?_)
  refine lv_goto (tgt := 20) hx hb dX5_init_42 (by decide) ?_
  refine lv_iload_n hx hb dX5_init_20 rfl (lv_at hl 0 rfl) ?_
  refine lv_iconst (v := (5 : Int32)) hx hb dX5_init_21 (by decide) ?_
  refine lv_icmp_ge (tgt := 45) hx hb dX5_init_22 (by decide) (fun _ => ?_) (fun c9 => absurd c9 (by decide))
  exact kc_ret C hG hS rfl (fun _ _ => rfl) rfl rfl rfl dX5_init_45
def rm_X6_init : Room := { frames := 1, cells := 0, slots := 0, locals := 12 }
theorem ha_X6_init : yX6_init.cls ≠ "java/lang/invoke/MethodHandle" ∧ yX6_init.cls ≠ "java/lang/invoke/VarHandle" ∧ (parseMethodDescriptor yX6_init.desc).map (fun d => d.parameters.length) = some 2 := ⟨by decide, by decide, by decide +kernel⟩
def kF_X6_init (cs : Nat → ClassId) (b : Nat) (a1 : Int32) (a2 : Int32) : Nat → va_E :=
  pr_F0
set_option maxHeartbeats 4000000 in
set_option maxRecDepth 100000 in
theorem c_X6_init {l : Launch} {D : va_G} {cs : Nat → ClassId} {b h0 : Nat} {a1 : Int32} {a2 : Int32} : pr_Mc l D cs yX6_init cX6_init 3 rm_X6_init b h0 6 [.int a1, .int a2] [.int 0, .int 0, .int 0] 0 (kF_X6_init cs b a1 a2) [.int a1, .int a2, .int 0] 0 0 := by
  refine Met.ofW (cc := cX6_init) (maxL := 3) (ret := none) (by decide) rfl ?_
  intro p e s m args below meth c s₁ B hml hv
  obtain ⟨rfl, hG, hK⟩ := hv
  have C : pr_C RX6 cX6_init 3 none D cs p s m [.ref h0, .int a1, .int a2].toArray meth c := pr_C.of B hml hK
  have hin : meth.name = "<init>" := (name_of_methodNamed B.named B.method).1
  have hS : va_S (pr_A h0 b) s.heap s.heap [] := va_S.rf
  have hl := lv_entry ([.ref h0, .int a1, .int a2]) (n := 3) (Nat.le_of_ble_eq_true rfl)
  rw [lg_entry_eq]
  generalize (lg_sl ([.ref h0, .int a1, .int a2]) ++ List.replicate (3 - (lg_sl ([.ref h0, .int a1, .int a2])).length) Slot.unset).toArray = ls at hl ⊢
  have hl : lv_has ls 3 [(0, .ref h0), (1, .int a1), (2, .int a2)] := hl
  obtain ⟨hx, hb, hml, hown, hts, hK, hr, hlocks⟩ := id C
  refine lv_aload_n hx hb dX6_init_0 rfl (lv_at hl 0 rfl) ?_
  refine W.objInit hx hb hown (hts _ (pr_in7 _ (List.mem_of_getElem? (i := 18) rfl))) (hts _ (pr_in1 _ (List.mem_of_getElem? (i := 10) rfl))) (hts _ (pr_in1 _ (List.mem_of_getElem? (i := 11) rfl))) rfl (by rw [hml]; exact hl.1) rfl dX6_init_1 (Nat.le_of_ble_eq_true rfl) (Nat.le_of_ble_eq_true rfl) ?_
  refine W.eq (g2 := F0 m 4 ls []) rfl ?_
  refine lv_aload_n hx hb dX6_init_4 rfl (lv_at hl 0 rfl) ?_
  refine lv_iload_n hx hb dX6_init_5 rfl (lv_at hl 1 rfl) ?_
  refine kc_putF C hin hG hS rfl inlX6 tyX6 tyX6_ok nmX6 0 (by omega) (pr_in7 _ (List.mem_of_getElem? (i := 19) rfl)) rfl rfl rfl rfl rfl (Nat.le_of_ble_eq_true rfl) dX6_init_6 (fs' := [.int a1, .int 0, .int 0]) rfl (fun H locs hG hS => ?_)
  refine lv_aload_n hx hb dX6_init_9 rfl (lv_at hl 0 rfl) ?_
  refine lv_iload_n hx hb dX6_init_10 rfl (lv_at hl 2 rfl) ?_
  refine kc_putF C hin hG hS rfl inlX6 tyX6 tyX6_ok nmX6 1 (by omega) (pr_in7 _ (List.mem_of_getElem? (i := 20) rfl)) rfl rfl rfl rfl rfl (Nat.le_of_ble_eq_true rfl) dX6_init_11 (fs' := [.int a1, .int a2, .int 0]) rfl (fun H locs hG hS => ?_)
  exact kc_ret C hG hS rfl (fun _ _ => rfl) rfl rfl rfl dX6_init_14
def rm_X7_init : Room := { frames := 1, cells := 5, slots := 1000, locals := 12 }
theorem ha_X7_init : yX7_init.cls ≠ "java/lang/invoke/MethodHandle" ∧ yX7_init.cls ≠ "java/lang/invoke/VarHandle" ∧ (parseMethodDescriptor yX7_init.desc).map (fun d => d.parameters.length) = some 0 := ⟨by decide, by decide, by decide +kernel⟩
def kF_X7_init (cs : Nat → ClassId) (b : Nat) : Nat → va_E :=
  (va_up (va_up (va_up (va_up (va_up pr_F0 0 (.inl (cs 0, 200, .inl (fun _ => 0)))) 1 (.inl (cs 0, 200, .inl (fun _ => 0)))) 2 (.inl (cs 0, 200, .inl (fun _ => 0)))) 3 (.inl (cs 0, 200, .inl (fun _ => 0)))) 4 (.inl (cs 1, 200, .inl (fun _ => 0))))
set_option maxHeartbeats 4000000 in
set_option maxRecDepth 100000 in
theorem c_X7_init {l : Launch} {D : va_G} {cs : Nat → ClassId} {b h0 : Nat} : pr_Mc l D cs yX7_init cX7_init 1 rm_X7_init b h0 7 [] [.null, .null, .null, .null, .null, .int 0] 5 (kF_X7_init cs b) [.ref (b + 0), .ref (b + 1), .ref (b + 2), .ref (b + 3), .ref (b + 4), .int 0] 5 1000 := by
  refine Met.ofW (cc := cX7_init) (maxL := 1) (ret := none) (by decide) rfl ?_
  intro p e s m args below meth c s₁ B hml hv
  obtain ⟨rfl, hG, hK⟩ := hv
  have C : pr_C RX7 cX7_init 1 none D cs p s m [.ref h0].toArray meth c := pr_C.of B hml hK
  have hin : meth.name = "<init>" := (name_of_methodNamed B.named B.method).1
  have hS : va_S (pr_A h0 b) s.heap s.heap [] := va_S.rf
  have hl := lv_entry ([.ref h0]) (n := 1) (Nat.le_of_ble_eq_true rfl)
  rw [lg_entry_eq]
  generalize (lg_sl ([.ref h0]) ++ List.replicate (1 - (lg_sl ([.ref h0])).length) Slot.unset).toArray = ls at hl ⊢
  have hl : lv_has ls 1 [(0, .ref h0)] := hl
  obtain ⟨hx, hb, hml, hown, hts, hK, hr, hlocks⟩ := id C
  refine lv_aload_n hx hb dX7_init_0 rfl (lv_at hl 0 rfl) ?_
  refine W.objInit hx hb hown (hts _ (pr_in3 _ (List.mem_of_getElem? (i := 2) rfl))) (hts _ (pr_in1 _ (List.mem_of_getElem? (i := 10) rfl))) (hts _ (pr_in1 _ (List.mem_of_getElem? (i := 11) rfl))) rfl (by rw [hml]; exact hl.1) rfl dX7_init_1 (Nat.le_of_ble_eq_true rfl) (Nat.le_of_ble_eq_true rfl) ?_
  refine W.eq (g2 := F0 m 4 ls []) rfl ?_
  refine lv_aload_n hx hb dX7_init_4 rfl (lv_at hl 0 rfl) ?_
  refine lv_sipush (v := (200 : Int32)) hx hb dX7_init_5 (by decide) ?_
  refine kc_newi C hG hS (N' := 200) (pr_in1 _ (List.mem_of_getElem? (i := 16) rfl)) (by decide) (by decide) (by decide) (Nat.le_of_ble_eq_true rfl) (Nat.le_of_ble_eq_true rfl) dX7_init_8 (N1 := 1) rfl (fun H hG hS => ?_)
  refine kc_putF C hin hG hS rfl inlX7 tyX7 tyX7_ok nmX7 0 (by omega) (pr_in3 _ (List.mem_of_getElem? (i := 3) rfl)) rfl rfl rfl rfl rfl (Nat.le_of_ble_eq_true rfl) dX7_init_10 (fs' := [.ref (b + 0), .null, .null, .null, .null, .int 0]) rfl (fun H locs hG hS => ?_)
  refine lv_aload_n hx hb dX7_init_13 rfl (lv_at hl 0 rfl) ?_
  refine lv_sipush (v := (200 : Int32)) hx hb dX7_init_14 (by decide) ?_
  refine kc_newi C hG hS (N' := 200) (pr_in1 _ (List.mem_of_getElem? (i := 16) rfl)) (by decide) (by decide) (by decide) (Nat.le_of_ble_eq_true rfl) (Nat.le_of_ble_eq_true rfl) dX7_init_17 (N1 := 2) rfl (fun H hG hS => ?_)
  refine kc_putF C hin hG hS rfl inlX7 tyX7 tyX7_ok nmX7 1 (by omega) (pr_in3 _ (List.mem_of_getElem? (i := 4) rfl)) rfl rfl rfl rfl rfl (Nat.le_of_ble_eq_true rfl) dX7_init_19 (fs' := [.ref (b + 0), .ref (b + 1), .null, .null, .null, .int 0]) rfl (fun H locs hG hS => ?_)
  refine lv_aload_n hx hb dX7_init_22 rfl (lv_at hl 0 rfl) ?_
  refine lv_sipush (v := (200 : Int32)) hx hb dX7_init_23 (by decide) ?_
  refine kc_newi C hG hS (N' := 200) (pr_in1 _ (List.mem_of_getElem? (i := 16) rfl)) (by decide) (by decide) (by decide) (Nat.le_of_ble_eq_true rfl) (Nat.le_of_ble_eq_true rfl) dX7_init_26 (N1 := 3) rfl (fun H hG hS => ?_)
  refine kc_putF C hin hG hS rfl inlX7 tyX7 tyX7_ok nmX7 2 (by omega) (pr_in3 _ (List.mem_of_getElem? (i := 5) rfl)) rfl rfl rfl rfl rfl (Nat.le_of_ble_eq_true rfl) dX7_init_28 (fs' := [.ref (b + 0), .ref (b + 1), .ref (b + 2), .null, .null, .int 0]) rfl (fun H locs hG hS => ?_)
  refine lv_aload_n hx hb dX7_init_31 rfl (lv_at hl 0 rfl) ?_
  refine lv_sipush (v := (200 : Int32)) hx hb dX7_init_32 (by decide) ?_
  refine kc_newi C hG hS (N' := 200) (pr_in1 _ (List.mem_of_getElem? (i := 16) rfl)) (by decide) (by decide) (by decide) (Nat.le_of_ble_eq_true rfl) (Nat.le_of_ble_eq_true rfl) dX7_init_35 (N1 := 4) rfl (fun H hG hS => ?_)
  refine kc_putF C hin hG hS rfl inlX7 tyX7 tyX7_ok nmX7 3 (by omega) (pr_in3 _ (List.mem_of_getElem? (i := 6) rfl)) rfl rfl rfl rfl rfl (Nat.le_of_ble_eq_true rfl) dX7_init_37 (fs' := [.ref (b + 0), .ref (b + 1), .ref (b + 2), .ref (b + 3), .null, .int 0]) rfl (fun H locs hG hS => ?_)
  refine lv_aload_n hx hb dX7_init_40 rfl (lv_at hl 0 rfl) ?_
  refine lv_sipush (v := (200 : Int32)) hx hb dX7_init_41 (by decide) ?_
  refine kc_newz C hG hS (N' := 200) (pr_in3 _ (List.mem_of_getElem? (i := 7) rfl)) (by decide) (by decide) (by decide) (Nat.le_of_ble_eq_true rfl) (Nat.le_of_ble_eq_true rfl) dX7_init_44 (N1 := 5) rfl (fun H hG hS => ?_)
  refine kc_putF C hin hG hS rfl inlX7 tyX7 tyX7_ok nmX7 4 (by omega) (pr_in3 _ (List.mem_of_getElem? (i := 8) rfl)) rfl rfl rfl rfl rfl (Nat.le_of_ble_eq_true rfl) dX7_init_46 (fs' := [.ref (b + 0), .ref (b + 1), .ref (b + 2), .ref (b + 3), .ref (b + 4), .int 0]) rfl (fun H locs hG hS => ?_)
  exact kc_ret C hG hS rfl (fun _ _ => rfl) rfl rfl rfl dX7_init_49
def rm_X3_init : Room := { frames := 2, cells := 6, slots := 30, locals := 33 }
theorem ha_X3_init : yX3_init.cls ≠ "java/lang/invoke/MethodHandle" ∧ yX3_init.cls ≠ "java/lang/invoke/VarHandle" ∧ (parseMethodDescriptor yX3_init.desc).map (fun d => d.parameters.length) = some 5 := ⟨by decide, by decide, by decide +kernel⟩
def kF_X3_init (cs : Nat → ClassId) (b : Nat) (a1 : Int32) (a2 : Int32) (a3 : Int32) (a4 : Int32) (a5 : Int32) : Nat → va_E :=
  (va_up (fun q => if q < 5 then (va_up (va_up (fun q => if q < 4 then (va_up (va_up (fun q => if q < 3 then (va_up (va_up (fun q => if q < 2 then (va_up (va_up (fun q => if q < 1 then (va_up (va_up pr_F0 0 (.inl (cs 5, 5, .inr (.inr (.inr (.inr (fun _ => none))))))) 1 (.inr (2, [.int 0, .int 0, .int 0, .int 0, .int 0]))) q else if q = 1 then .inr (2, [.int ((a2 - a2 / (10 : Int32) * (10 : Int32))), .int 0, .int (-1 : Int32), .int (-1 : Int32), .int (-1 : Int32)]) else kF_X2_init cs (b + 2) ((a2 - a2 / (10 : Int32) * (10 : Int32))) (q - 2)) 0 (.inl (cs 5, 5, .inr (.inr (.inr (.inr (va_up (fun _ => none) ((4 : Int32)).toNatClampNeg (some (b + 1))))))))) 2 (.inr (2, [.int 0, .int 0, .int 0, .int 0, .int 0]))) q else if q = 2 then .inr (2, [.int (((a2 / (10 : Int32)) - (a2 / (10 : Int32)) / (10 : Int32) * (10 : Int32))), .int 0, .int (-1 : Int32), .int (-1 : Int32), .int (-1 : Int32)]) else kF_X2_init cs (b + 3) (((a2 / (10 : Int32)) - (a2 / (10 : Int32)) / (10 : Int32) * (10 : Int32))) (q - 3)) 0 (.inl (cs 5, 5, .inr (.inr (.inr (.inr (va_up (va_up (fun _ => none) ((4 : Int32)).toNatClampNeg (some (b + 1))) ((3 : Int32)).toNatClampNeg (some (b + 2))))))))) 3 (.inr (2, [.int 0, .int 0, .int 0, .int 0, .int 0]))) q else if q = 3 then .inr (2, [.int ((((a2 / (10 : Int32)) / (10 : Int32)) - ((a2 / (10 : Int32)) / (10 : Int32)) / (10 : Int32) * (10 : Int32))), .int 0, .int (-1 : Int32), .int (-1 : Int32), .int (-1 : Int32)]) else kF_X2_init cs (b + 4) ((((a2 / (10 : Int32)) / (10 : Int32)) - ((a2 / (10 : Int32)) / (10 : Int32)) / (10 : Int32) * (10 : Int32))) (q - 4)) 0 (.inl (cs 5, 5, .inr (.inr (.inr (.inr (va_up (va_up (va_up (fun _ => none) ((4 : Int32)).toNatClampNeg (some (b + 1))) ((3 : Int32)).toNatClampNeg (some (b + 2))) ((2 : Int32)).toNatClampNeg (some (b + 3))))))))) 4 (.inr (2, [.int 0, .int 0, .int 0, .int 0, .int 0]))) q else if q = 4 then .inr (2, [.int (((((a2 / (10 : Int32)) / (10 : Int32)) / (10 : Int32)) - (((a2 / (10 : Int32)) / (10 : Int32)) / (10 : Int32)) / (10 : Int32) * (10 : Int32))), .int 0, .int (-1 : Int32), .int (-1 : Int32), .int (-1 : Int32)]) else kF_X2_init cs (b + 5) (((((a2 / (10 : Int32)) / (10 : Int32)) / (10 : Int32)) - (((a2 / (10 : Int32)) / (10 : Int32)) / (10 : Int32)) / (10 : Int32) * (10 : Int32))) (q - 5)) 0 (.inl (cs 5, 5, .inr (.inr (.inr (.inr (va_up (va_up (va_up (va_up (fun _ => none) ((4 : Int32)).toNatClampNeg (some (b + 1))) ((3 : Int32)).toNatClampNeg (some (b + 2))) ((2 : Int32)).toNatClampNeg (some (b + 3))) ((1 : Int32)).toNatClampNeg (some (b + 4))))))))) 5 (.inr (2, [.int 0, .int 0, .int 0, .int 0, .int 0]))) q else if q = 5 then .inr (2, [.int ((((((a2 / (10 : Int32)) / (10 : Int32)) / (10 : Int32)) / (10 : Int32)) - ((((a2 / (10 : Int32)) / (10 : Int32)) / (10 : Int32)) / (10 : Int32)) / (10 : Int32) * (10 : Int32))), .int 0, .int (-1 : Int32), .int (-1 : Int32), .int (-1 : Int32)]) else kF_X2_init cs (b + 6) ((((((a2 / (10 : Int32)) / (10 : Int32)) / (10 : Int32)) / (10 : Int32)) - ((((a2 / (10 : Int32)) / (10 : Int32)) / (10 : Int32)) / (10 : Int32)) / (10 : Int32) * (10 : Int32))) (q - 6)) 0 (.inl (cs 5, 5, .inr (.inr (.inr (.inr (va_up (va_up (va_up (va_up (va_up (fun _ => none) ((4 : Int32)).toNatClampNeg (some (b + 1))) ((3 : Int32)).toNatClampNeg (some (b + 2))) ((2 : Int32)).toNatClampNeg (some (b + 3))) ((1 : Int32)).toNatClampNeg (some (b + 4))) ((0 : Int32)).toNatClampNeg (some (b + 5)))))))))
set_option maxHeartbeats 4000000 in
set_option maxRecDepth 100000 in
theorem c_X3_init {l : Launch} {D : va_G} {cs : Nat → ClassId} {b h0 : Nat} {a1 : Int32} {a2 : Int32} {a3 : Int32} {a4 : Int32} {a5 : Int32} : pr_Mc l D cs yX3_init cX3_init 8 rm_X3_init b h0 3 [.int a1, .int a2, .int a3, .int a4, .int a5] [.int 0, .int 0, .int 0, .int 0, .null, .int 0, .int 0, .int 0, .int 0, .int 0] 6 (kF_X3_init cs b a1 a2 a3 a4 a5) [.int a1, .int a3, .int a4, .int a5, .ref (b + 0), .int (-1 : Int32), .int ((((((0 : Int32) + (a2 - a2 / (10 : Int32) * (10 : Int32))) + ((a2 / (10 : Int32)) - (a2 / (10 : Int32)) / (10 : Int32) * (10 : Int32))) + (((a2 / (10 : Int32)) / (10 : Int32)) - ((a2 / (10 : Int32)) / (10 : Int32)) / (10 : Int32) * (10 : Int32))) + ((((a2 / (10 : Int32)) / (10 : Int32)) / (10 : Int32)) - (((a2 / (10 : Int32)) / (10 : Int32)) / (10 : Int32)) / (10 : Int32) * (10 : Int32))) + (((((a2 / (10 : Int32)) / (10 : Int32)) / (10 : Int32)) / (10 : Int32)) - ((((a2 / (10 : Int32)) / (10 : Int32)) / (10 : Int32)) / (10 : Int32)) / (10 : Int32) * (10 : Int32))), .int 0, .int 0, .int (-1 : Int32)] 6 30 := by
  refine Met.ofW (cc := cX3_init) (maxL := 8) (ret := none) (by decide) rfl ?_
  intro p e s m args below meth c s₁ B hml hv
  obtain ⟨rfl, hG, hK⟩ := hv
  have C : pr_C RX3 cX3_init 8 none D cs p s m [.ref h0, .int a1, .int a2, .int a3, .int a4, .int a5].toArray meth c := pr_C.of B hml hK
  have hin : meth.name = "<init>" := (name_of_methodNamed B.named B.method).1
  have hS : va_S (pr_A h0 b) s.heap s.heap [] := va_S.rf
  have hl := lv_entry ([.ref h0, .int a1, .int a2, .int a3, .int a4, .int a5]) (n := 8) (Nat.le_of_ble_eq_true rfl)
  rw [lg_entry_eq]
  generalize (lg_sl ([.ref h0, .int a1, .int a2, .int a3, .int a4, .int a5]) ++ List.replicate (8 - (lg_sl ([.ref h0, .int a1, .int a2, .int a3, .int a4, .int a5])).length) Slot.unset).toArray = ls at hl ⊢
  have hl : lv_has ls 8 [(0, .ref h0), (1, .int a1), (2, .int a2), (3, .int a3), (4, .int a4), (5, .int a5)] := hl
  obtain ⟨hx, hb, hml, hown, hts, hK, hr, hlocks⟩ := id C
  refine lv_aload_n hx hb dX3_init_0 rfl (lv_at hl 0 rfl) ?_
  refine W.objInit hx hb hown (hts _ (pr_in9 _ (List.mem_of_getElem? (i := 2) rfl))) (hts _ (pr_in1 _ (List.mem_of_getElem? (i := 10) rfl))) (hts _ (pr_in1 _ (List.mem_of_getElem? (i := 11) rfl))) rfl (by rw [hml]; exact hl.1) rfl dX3_init_1 (Nat.le_of_ble_eq_true rfl) (Nat.le_of_ble_eq_true rfl) ?_
  refine W.eq (g2 := F0 m 4 ls []) rfl ?_
  refine lv_aload_n hx hb dX3_init_4 rfl (lv_at hl 0 rfl) ?_
  refine lv_iload_n hx hb dX3_init_5 rfl (lv_at hl 1 rfl) ?_
  refine kc_putF C hin hG hS rfl inlX3 tyX3 tyX3_ok nmX3 0 (by omega) (pr_in9 _ (List.mem_of_getElem? (i := 3) rfl)) rfl rfl rfl rfl rfl (Nat.le_of_ble_eq_true rfl) dX3_init_6 (fs' := [.int a1, .int 0, .int 0, .int 0, .null, .int 0, .int 0, .int 0, .int 0, .int 0]) rfl (fun H locs hG hS => ?_)
  refine lv_aload_n hx hb dX3_init_9 rfl (lv_at hl 0 rfl) ?_
  refine lv_iload_n hx hb dX3_init_10 rfl (lv_at hl 3 rfl) ?_
  refine kc_putF C hin hG hS rfl inlX3 tyX3 tyX3_ok nmX3 1 (by omega) (pr_in9 _ (List.mem_of_getElem? (i := 4) rfl)) rfl rfl rfl rfl rfl (Nat.le_of_ble_eq_true rfl) dX3_init_11 (fs' := [.int a1, .int a3, .int 0, .int 0, .null, .int 0, .int 0, .int 0, .int 0, .int 0]) rfl (fun H locs hG hS => ?_)
  refine lv_aload_n hx hb dX3_init_14 rfl (lv_at hl 0 rfl) ?_
  refine lv_iload hx hb dX3_init_15 (lv_at hl 4 rfl) ?_
  refine kc_putF C hin hG hS rfl inlX3 tyX3 tyX3_ok nmX3 2 (by omega) (pr_in9 _ (List.mem_of_getElem? (i := 5) rfl)) rfl rfl rfl rfl rfl (Nat.le_of_ble_eq_true rfl) dX3_init_17 (fs' := [.int a1, .int a3, .int a4, .int 0, .null, .int 0, .int 0, .int 0, .int 0, .int 0]) rfl (fun H locs hG hS => ?_)
  refine lv_aload_n hx hb dX3_init_20 rfl (lv_at hl 0 rfl) ?_
  refine lv_iload hx hb dX3_init_21 (lv_at hl 5 rfl) ?_
  refine kc_putF C hin hG hS rfl inlX3 tyX3 tyX3_ok nmX3 3 (by omega) (pr_in9 _ (List.mem_of_getElem? (i := 6) rfl)) rfl rfl rfl rfl rfl (Nat.le_of_ble_eq_true rfl) dX3_init_23 (fs' := [.int a1, .int a3, .int a4, .int a5, .null, .int 0, .int 0, .int 0, .int 0, .int 0]) rfl (fun H locs hG hS => ?_)
  refine lv_aload_n hx hb dX3_init_26 rfl (lv_at hl 0 rfl) ?_
  refine lv_iconst (v := (5 : Int32)) hx hb dX3_init_27 (by decide) ?_
  refine kc_newq C hG hS (C := RX2) (t0 := 5) (Or.inr (Or.inr (Or.inr rfl))) rfl (N' := 5) (pr_in9 _ (List.mem_of_getElem? (i := 7) rfl)) (by decide) (by decide) (by decide) (Nat.le_of_ble_eq_true rfl) (Nat.le_of_ble_eq_true rfl) dX3_init_28 (N1 := 1) rfl (fun H hG hS => ?_)
  refine kc_putF C hin hG hS rfl inlX3 tyX3 tyX3_ok nmX3 4 (by omega) (pr_in9 _ (List.mem_of_getElem? (i := 8) rfl)) rfl rfl rfl rfl rfl (Nat.le_of_ble_eq_true rfl) dX3_init_31 (fs' := [.int a1, .int a3, .int a4, .int a5, .ref (b + 0), .int 0, .int 0, .int 0, .int 0, .int 0]) rfl (fun H locs hG hS => ?_)
  refine lv_iload_n hx hb dX3_init_34 rfl (lv_at hl 2 rfl) ?_
  refine lv_istore (lv' := [(6, .int a2), (0, .ref h0), (1, .int a1), (2, .int a2), (3, .int a3), (4, .int a4), (5, .int a5)]) hx hb dX3_init_35 hl (by decide) rfl (fun ls hl => ?_)
  refine lv_iconst (v := (4 : Int32)) hx hb dX3_init_37 (by decide) ?_
  refine lv_istore (lv' := [(7, .int (4 : Int32)), (6, .int a2), (0, .ref h0), (1, .int a1), (2, .int a2), (3, .int a3), (4, .int a4), (5, .int a5)]) hx hb dX3_init_38 hl (by decide) rfl (fun ls hl => ?_)
  refine lv_iload hx hb dX3_init_40 (lv_at hl 0 rfl) ?_
  refine lv_if_lt (tgt := 91) hx hb dX3_init_42 (by decide) (fun c9 => absurd c9 (by decide)) (fun _ => ?_)
  refine lv_aload_n hx hb dX3_init_45 rfl (lv_at hl 2 rfl) ?_
  refine kc_get C hG rfl inlX3 4 (by omega) (pr_in9 _ (List.mem_of_getElem? (i := 8) rfl)) rfl (v := .ref (b + 0)) rfl dX3_init_46 ?_
  refine lv_iload hx hb dX3_init_49 (lv_at hl 0 rfl) ?_
  refine kc_new (k' := 2) C hG hS rfl inlX2 tyX2 tyX2_ok (pr_in9 _ (List.mem_of_getElem? (i := 7) rfl)) (pr_in9 _ (List.mem_of_getElem? (i := 9) rfl)) (pr_in9 _ (List.mem_of_getElem? (i := 10) rfl)) (gs := [.int 0, .int 0, .int 0, .int 0, .int 0]) (fun j hj => by rcases (show j = 0 ∨ j = 1 ∨ j = 2 ∨ j = 3 ∨ j = 4 by omega) with rfl | rfl | rfl | rfl | rfl <;> rfl) (Nat.le_of_ble_eq_true rfl) (Nat.le_of_ble_eq_true rfl) dX3_init_51 (N1 := 2) rfl (fun H hG hS => ?_)
  refine lv_dup hx hb dX3_init_54 rfl ?_
  refine lv_iload hx hb dX3_init_55 (lv_at hl 1 rfl) ?_
  refine lv_bipush (v := (10 : Int32)) hx hb dX3_init_57 (by decide) ?_
  refine lv_irem hx hb dX3_init_59 (by decide) ?_
  refine kc_ctor (As := [.int (a2 - a2 / (10 : Int32) * (10 : Int32))]) (rest := [.ref (b + 1), .int (4 : Int32), .ref (b + 0)]) (n := 1) C hG hS rfl rfl c_X2_init (pr_in9 _ (List.mem_of_getElem? (i := 16) rfl)) (pr_in9 _ (List.mem_of_getElem? (i := 10) rfl)) (pr_in9 _ (List.mem_of_getElem? (i := 14) rfl)) (pr_in9 _ (List.mem_of_getElem? (i := 15) rfl)) rfl rfl rfl ha_X2_init ⟨(Nat.le_of_ble_eq_true rfl), (Nat.le_of_ble_eq_true rfl)⟩ rfl hl.1 rfl (Nat.le_of_ble_eq_true rfl) dX3_init_60 ⟨(Nat.le_of_ble_eq_true rfl), (Nat.le_of_ble_eq_true rfl)⟩ (n1 := 2) rfl (fun H locs hG hS => ?_)
  refine kc_asq C hG hS 0 1 (by decide) (by decide) (len := 5) (f := (fun _ => none)) (ci := 2) (vs := [.int ((a2 - a2 / (10 : Int32) * (10 : Int32))), .int 0, .int (-1 : Int32), .int (-1 : Int32), .int (-1 : Int32)]) (t0 := 5) rfl rfl rfl rfl (by unfold vp_in; decide) dX3_init_63 (fun H locs hG hS => ?_)
  refine lv_aload_n hx hb dX3_init_64 rfl (lv_at hl 2 rfl) ?_
  refine lv_dup hx hb dX3_init_65 rfl ?_
  refine kc_get C hG rfl inlX3 6 (by omega) (pr_in9 _ (List.mem_of_getElem? (i := 11) rfl)) rfl (v := .int 0) rfl dX3_init_66 ?_
  refine lv_iload hx hb dX3_init_69 (lv_at hl 1 rfl) ?_
  refine lv_bipush (v := (10 : Int32)) hx hb dX3_init_71 (by decide) ?_
  refine lv_irem hx hb dX3_init_73 (by decide) ?_
  refine lv_iadd hx hb dX3_init_74 ?_
  refine kc_put C hG hS rfl inlX3 tyX3 tyX3_ok nmX3 6 (by omega) (pr_in9 _ (List.mem_of_getElem? (i := 11) rfl)) rfl rfl rfl rfl (Nat.le_of_ble_eq_true rfl) dX3_init_75 (fs' := [.int a1, .int a3, .int a4, .int a5, .ref (b + 0), .int 0, .int ((0 : Int32) + (a2 - a2 / (10 : Int32) * (10 : Int32))), .int 0, .int 0, .int 0]) rfl (fun H locs hG hS => ?_)
  refine lv_iload hx hb dX3_init_78 (lv_at hl 1 rfl) ?_
  refine lv_bipush (v := (10 : Int32)) hx hb dX3_init_80 (by decide) ?_
  refine lv_idiv hx hb dX3_init_82 (by decide) ?_
  refine lv_istore (lv' := [(6, .int (a2 / (10 : Int32))), (7, .int (4 : Int32)), (0, .ref h0), (1, .int a1), (2, .int a2), (3, .int a3), (4, .int a4), (5, .int a5)]) hx hb dX3_init_83 hl (by decide) rfl (fun ls hl => ?_)
  refine lv_iinc (v := (3 : Int32)) (lv' := [(7, .int (3 : Int32)), (6, .int (a2 / (10 : Int32))), (0, .ref h0), (1, .int a1), (2, .int a2), (3, .int a3), (4, .int a4), (5, .int a5)]) hx hb dX3_init_85 hl (k := 1) rfl (by decide) (by decide) rfl (fun ls hl => ?_)
  refine lv_goto (tgt := 40) hx hb dX3_init_88 (by decide) ?_
  refine lv_iload hx hb dX3_init_40 (lv_at hl 0 rfl) ?_
  refine lv_if_lt (tgt := 91) hx hb dX3_init_42 (by decide) (fun c9 => absurd c9 (by decide)) (fun _ => ?_)
  refine lv_aload_n hx hb dX3_init_45 rfl (lv_at hl 2 rfl) ?_
  refine kc_get C hG rfl inlX3 4 (by omega) (pr_in9 _ (List.mem_of_getElem? (i := 8) rfl)) rfl (v := .ref (b + 0)) rfl dX3_init_46 ?_
  refine lv_iload hx hb dX3_init_49 (lv_at hl 0 rfl) ?_
  refine kc_new (k' := 2) C hG hS rfl inlX2 tyX2 tyX2_ok (pr_in9 _ (List.mem_of_getElem? (i := 7) rfl)) (pr_in9 _ (List.mem_of_getElem? (i := 9) rfl)) (pr_in9 _ (List.mem_of_getElem? (i := 10) rfl)) (gs := [.int 0, .int 0, .int 0, .int 0, .int 0]) (fun j hj => by rcases (show j = 0 ∨ j = 1 ∨ j = 2 ∨ j = 3 ∨ j = 4 by omega) with rfl | rfl | rfl | rfl | rfl <;> rfl) (Nat.le_of_ble_eq_true rfl) (Nat.le_of_ble_eq_true rfl) dX3_init_51 (N1 := 3) rfl (fun H hG hS => ?_)
  refine lv_dup hx hb dX3_init_54 rfl ?_
  refine lv_iload hx hb dX3_init_55 (lv_at hl 1 rfl) ?_
  refine lv_bipush (v := (10 : Int32)) hx hb dX3_init_57 (by decide) ?_
  refine lv_irem hx hb dX3_init_59 (by decide) ?_
  refine kc_ctor (As := [.int ((a2 / (10 : Int32)) - (a2 / (10 : Int32)) / (10 : Int32) * (10 : Int32))]) (rest := [.ref (b + 2), .int (3 : Int32), .ref (b + 0)]) (n := 2) C hG hS rfl rfl c_X2_init (pr_in9 _ (List.mem_of_getElem? (i := 16) rfl)) (pr_in9 _ (List.mem_of_getElem? (i := 10) rfl)) (pr_in9 _ (List.mem_of_getElem? (i := 14) rfl)) (pr_in9 _ (List.mem_of_getElem? (i := 15) rfl)) rfl rfl rfl ha_X2_init ⟨(Nat.le_of_ble_eq_true rfl), (Nat.le_of_ble_eq_true rfl)⟩ rfl hl.1 rfl (Nat.le_of_ble_eq_true rfl) dX3_init_60 ⟨(Nat.le_of_ble_eq_true rfl), (Nat.le_of_ble_eq_true rfl)⟩ (n1 := 3) rfl (fun H locs hG hS => ?_)
  refine kc_asq C hG hS 0 2 (by decide) (by decide) (len := 5) (f := (va_up (fun _ => none) ((4 : Int32)).toNatClampNeg (some (b + 1)))) (ci := 2) (vs := [.int (((a2 / (10 : Int32)) - (a2 / (10 : Int32)) / (10 : Int32) * (10 : Int32))), .int 0, .int (-1 : Int32), .int (-1 : Int32), .int (-1 : Int32)]) (t0 := 5) rfl rfl rfl rfl (by unfold vp_in; decide) dX3_init_63 (fun H locs hG hS => ?_)
  refine lv_aload_n hx hb dX3_init_64 rfl (lv_at hl 2 rfl) ?_
  refine lv_dup hx hb dX3_init_65 rfl ?_
  refine kc_get C hG rfl inlX3 6 (by omega) (pr_in9 _ (List.mem_of_getElem? (i := 11) rfl)) rfl (v := .int ((0 : Int32) + (a2 - a2 / (10 : Int32) * (10 : Int32)))) rfl dX3_init_66 ?_
  refine lv_iload hx hb dX3_init_69 (lv_at hl 1 rfl) ?_
  refine lv_bipush (v := (10 : Int32)) hx hb dX3_init_71 (by decide) ?_
  refine lv_irem hx hb dX3_init_73 (by decide) ?_
  refine lv_iadd hx hb dX3_init_74 ?_
  refine kc_put C hG hS rfl inlX3 tyX3 tyX3_ok nmX3 6 (by omega) (pr_in9 _ (List.mem_of_getElem? (i := 11) rfl)) rfl rfl rfl rfl (Nat.le_of_ble_eq_true rfl) dX3_init_75 (fs' := [.int a1, .int a3, .int a4, .int a5, .ref (b + 0), .int 0, .int (((0 : Int32) + (a2 - a2 / (10 : Int32) * (10 : Int32))) + ((a2 / (10 : Int32)) - (a2 / (10 : Int32)) / (10 : Int32) * (10 : Int32))), .int 0, .int 0, .int 0]) rfl (fun H locs hG hS => ?_)
  refine lv_iload hx hb dX3_init_78 (lv_at hl 1 rfl) ?_
  refine lv_bipush (v := (10 : Int32)) hx hb dX3_init_80 (by decide) ?_
  refine lv_idiv hx hb dX3_init_82 (by decide) ?_
  refine lv_istore (lv' := [(6, .int ((a2 / (10 : Int32)) / (10 : Int32))), (7, .int (3 : Int32)), (0, .ref h0), (1, .int a1), (2, .int a2), (3, .int a3), (4, .int a4), (5, .int a5)]) hx hb dX3_init_83 hl (by decide) rfl (fun ls hl => ?_)
  refine lv_iinc (v := (2 : Int32)) (lv' := [(7, .int (2 : Int32)), (6, .int ((a2 / (10 : Int32)) / (10 : Int32))), (0, .ref h0), (1, .int a1), (2, .int a2), (3, .int a3), (4, .int a4), (5, .int a5)]) hx hb dX3_init_85 hl (k := 1) rfl (by decide) (by decide) rfl (fun ls hl => ?_)
  refine lv_goto (tgt := 40) hx hb dX3_init_88 (by decide) ?_
  refine lv_iload hx hb dX3_init_40 (lv_at hl 0 rfl) ?_
  refine lv_if_lt (tgt := 91) hx hb dX3_init_42 (by decide) (fun c9 => absurd c9 (by decide)) (fun _ => ?_)
  refine lv_aload_n hx hb dX3_init_45 rfl (lv_at hl 2 rfl) ?_
  refine kc_get C hG rfl inlX3 4 (by omega) (pr_in9 _ (List.mem_of_getElem? (i := 8) rfl)) rfl (v := .ref (b + 0)) rfl dX3_init_46 ?_
  refine lv_iload hx hb dX3_init_49 (lv_at hl 0 rfl) ?_
  refine kc_new (k' := 2) C hG hS rfl inlX2 tyX2 tyX2_ok (pr_in9 _ (List.mem_of_getElem? (i := 7) rfl)) (pr_in9 _ (List.mem_of_getElem? (i := 9) rfl)) (pr_in9 _ (List.mem_of_getElem? (i := 10) rfl)) (gs := [.int 0, .int 0, .int 0, .int 0, .int 0]) (fun j hj => by rcases (show j = 0 ∨ j = 1 ∨ j = 2 ∨ j = 3 ∨ j = 4 by omega) with rfl | rfl | rfl | rfl | rfl <;> rfl) (Nat.le_of_ble_eq_true rfl) (Nat.le_of_ble_eq_true rfl) dX3_init_51 (N1 := 4) rfl (fun H hG hS => ?_)
  refine lv_dup hx hb dX3_init_54 rfl ?_
  refine lv_iload hx hb dX3_init_55 (lv_at hl 1 rfl) ?_
  refine lv_bipush (v := (10 : Int32)) hx hb dX3_init_57 (by decide) ?_
  refine lv_irem hx hb dX3_init_59 (by decide) ?_
  refine kc_ctor (As := [.int (((a2 / (10 : Int32)) / (10 : Int32)) - ((a2 / (10 : Int32)) / (10 : Int32)) / (10 : Int32) * (10 : Int32))]) (rest := [.ref (b + 3), .int (2 : Int32), .ref (b + 0)]) (n := 3) C hG hS rfl rfl c_X2_init (pr_in9 _ (List.mem_of_getElem? (i := 16) rfl)) (pr_in9 _ (List.mem_of_getElem? (i := 10) rfl)) (pr_in9 _ (List.mem_of_getElem? (i := 14) rfl)) (pr_in9 _ (List.mem_of_getElem? (i := 15) rfl)) rfl rfl rfl ha_X2_init ⟨(Nat.le_of_ble_eq_true rfl), (Nat.le_of_ble_eq_true rfl)⟩ rfl hl.1 rfl (Nat.le_of_ble_eq_true rfl) dX3_init_60 ⟨(Nat.le_of_ble_eq_true rfl), (Nat.le_of_ble_eq_true rfl)⟩ (n1 := 4) rfl (fun H locs hG hS => ?_)
  refine kc_asq C hG hS 0 3 (by decide) (by decide) (len := 5) (f := (va_up (va_up (fun _ => none) ((4 : Int32)).toNatClampNeg (some (b + 1))) ((3 : Int32)).toNatClampNeg (some (b + 2)))) (ci := 2) (vs := [.int ((((a2 / (10 : Int32)) / (10 : Int32)) - ((a2 / (10 : Int32)) / (10 : Int32)) / (10 : Int32) * (10 : Int32))), .int 0, .int (-1 : Int32), .int (-1 : Int32), .int (-1 : Int32)]) (t0 := 5) rfl rfl rfl rfl (by unfold vp_in; decide) dX3_init_63 (fun H locs hG hS => ?_)
  refine lv_aload_n hx hb dX3_init_64 rfl (lv_at hl 2 rfl) ?_
  refine lv_dup hx hb dX3_init_65 rfl ?_
  refine kc_get C hG rfl inlX3 6 (by omega) (pr_in9 _ (List.mem_of_getElem? (i := 11) rfl)) rfl (v := .int (((0 : Int32) + (a2 - a2 / (10 : Int32) * (10 : Int32))) + ((a2 / (10 : Int32)) - (a2 / (10 : Int32)) / (10 : Int32) * (10 : Int32)))) rfl dX3_init_66 ?_
  refine lv_iload hx hb dX3_init_69 (lv_at hl 1 rfl) ?_
  refine lv_bipush (v := (10 : Int32)) hx hb dX3_init_71 (by decide) ?_
  refine lv_irem hx hb dX3_init_73 (by decide) ?_
  refine lv_iadd hx hb dX3_init_74 ?_
  refine kc_put C hG hS rfl inlX3 tyX3 tyX3_ok nmX3 6 (by omega) (pr_in9 _ (List.mem_of_getElem? (i := 11) rfl)) rfl rfl rfl rfl (Nat.le_of_ble_eq_true rfl) dX3_init_75 (fs' := [.int a1, .int a3, .int a4, .int a5, .ref (b + 0), .int 0, .int ((((0 : Int32) + (a2 - a2 / (10 : Int32) * (10 : Int32))) + ((a2 / (10 : Int32)) - (a2 / (10 : Int32)) / (10 : Int32) * (10 : Int32))) + (((a2 / (10 : Int32)) / (10 : Int32)) - ((a2 / (10 : Int32)) / (10 : Int32)) / (10 : Int32) * (10 : Int32))), .int 0, .int 0, .int 0]) rfl (fun H locs hG hS => ?_)
  refine lv_iload hx hb dX3_init_78 (lv_at hl 1 rfl) ?_
  refine lv_bipush (v := (10 : Int32)) hx hb dX3_init_80 (by decide) ?_
  refine lv_idiv hx hb dX3_init_82 (by decide) ?_
  refine lv_istore (lv' := [(6, .int (((a2 / (10 : Int32)) / (10 : Int32)) / (10 : Int32))), (7, .int (2 : Int32)), (0, .ref h0), (1, .int a1), (2, .int a2), (3, .int a3), (4, .int a4), (5, .int a5)]) hx hb dX3_init_83 hl (by decide) rfl (fun ls hl => ?_)
  refine lv_iinc (v := (1 : Int32)) (lv' := [(7, .int (1 : Int32)), (6, .int (((a2 / (10 : Int32)) / (10 : Int32)) / (10 : Int32))), (0, .ref h0), (1, .int a1), (2, .int a2), (3, .int a3), (4, .int a4), (5, .int a5)]) hx hb dX3_init_85 hl (k := 1) rfl (by decide) (by decide) rfl (fun ls hl => ?_)
  refine lv_goto (tgt := 40) hx hb dX3_init_88 (by decide) ?_
  refine lv_iload hx hb dX3_init_40 (lv_at hl 0 rfl) ?_
  refine lv_if_lt (tgt := 91) hx hb dX3_init_42 (by decide) (fun c9 => absurd c9 (by decide)) (fun _ => ?_)
  refine lv_aload_n hx hb dX3_init_45 rfl (lv_at hl 2 rfl) ?_
  refine kc_get C hG rfl inlX3 4 (by omega) (pr_in9 _ (List.mem_of_getElem? (i := 8) rfl)) rfl (v := .ref (b + 0)) rfl dX3_init_46 ?_
  refine lv_iload hx hb dX3_init_49 (lv_at hl 0 rfl) ?_
  refine kc_new (k' := 2) C hG hS rfl inlX2 tyX2 tyX2_ok (pr_in9 _ (List.mem_of_getElem? (i := 7) rfl)) (pr_in9 _ (List.mem_of_getElem? (i := 9) rfl)) (pr_in9 _ (List.mem_of_getElem? (i := 10) rfl)) (gs := [.int 0, .int 0, .int 0, .int 0, .int 0]) (fun j hj => by rcases (show j = 0 ∨ j = 1 ∨ j = 2 ∨ j = 3 ∨ j = 4 by omega) with rfl | rfl | rfl | rfl | rfl <;> rfl) (Nat.le_of_ble_eq_true rfl) (Nat.le_of_ble_eq_true rfl) dX3_init_51 (N1 := 5) rfl (fun H hG hS => ?_)
  refine lv_dup hx hb dX3_init_54 rfl ?_
  refine lv_iload hx hb dX3_init_55 (lv_at hl 1 rfl) ?_
  refine lv_bipush (v := (10 : Int32)) hx hb dX3_init_57 (by decide) ?_
  refine lv_irem hx hb dX3_init_59 (by decide) ?_
  refine kc_ctor (As := [.int ((((a2 / (10 : Int32)) / (10 : Int32)) / (10 : Int32)) - (((a2 / (10 : Int32)) / (10 : Int32)) / (10 : Int32)) / (10 : Int32) * (10 : Int32))]) (rest := [.ref (b + 4), .int (1 : Int32), .ref (b + 0)]) (n := 4) C hG hS rfl rfl c_X2_init (pr_in9 _ (List.mem_of_getElem? (i := 16) rfl)) (pr_in9 _ (List.mem_of_getElem? (i := 10) rfl)) (pr_in9 _ (List.mem_of_getElem? (i := 14) rfl)) (pr_in9 _ (List.mem_of_getElem? (i := 15) rfl)) rfl rfl rfl ha_X2_init ⟨(Nat.le_of_ble_eq_true rfl), (Nat.le_of_ble_eq_true rfl)⟩ rfl hl.1 rfl (Nat.le_of_ble_eq_true rfl) dX3_init_60 ⟨(Nat.le_of_ble_eq_true rfl), (Nat.le_of_ble_eq_true rfl)⟩ (n1 := 5) rfl (fun H locs hG hS => ?_)
  refine kc_asq C hG hS 0 4 (by decide) (by decide) (len := 5) (f := (va_up (va_up (va_up (fun _ => none) ((4 : Int32)).toNatClampNeg (some (b + 1))) ((3 : Int32)).toNatClampNeg (some (b + 2))) ((2 : Int32)).toNatClampNeg (some (b + 3)))) (ci := 2) (vs := [.int (((((a2 / (10 : Int32)) / (10 : Int32)) / (10 : Int32)) - (((a2 / (10 : Int32)) / (10 : Int32)) / (10 : Int32)) / (10 : Int32) * (10 : Int32))), .int 0, .int (-1 : Int32), .int (-1 : Int32), .int (-1 : Int32)]) (t0 := 5) rfl rfl rfl rfl (by unfold vp_in; decide) dX3_init_63 (fun H locs hG hS => ?_)
  refine lv_aload_n hx hb dX3_init_64 rfl (lv_at hl 2 rfl) ?_
  refine lv_dup hx hb dX3_init_65 rfl ?_
  refine kc_get C hG rfl inlX3 6 (by omega) (pr_in9 _ (List.mem_of_getElem? (i := 11) rfl)) rfl (v := .int ((((0 : Int32) + (a2 - a2 / (10 : Int32) * (10 : Int32))) + ((a2 / (10 : Int32)) - (a2 / (10 : Int32)) / (10 : Int32) * (10 : Int32))) + (((a2 / (10 : Int32)) / (10 : Int32)) - ((a2 / (10 : Int32)) / (10 : Int32)) / (10 : Int32) * (10 : Int32)))) rfl dX3_init_66 ?_
  refine lv_iload hx hb dX3_init_69 (lv_at hl 1 rfl) ?_
  refine lv_bipush (v := (10 : Int32)) hx hb dX3_init_71 (by decide) ?_
  refine lv_irem hx hb dX3_init_73 (by decide) ?_
  refine lv_iadd hx hb dX3_init_74 ?_
  refine kc_put C hG hS rfl inlX3 tyX3 tyX3_ok nmX3 6 (by omega) (pr_in9 _ (List.mem_of_getElem? (i := 11) rfl)) rfl rfl rfl rfl (Nat.le_of_ble_eq_true rfl) dX3_init_75 (fs' := [.int a1, .int a3, .int a4, .int a5, .ref (b + 0), .int 0, .int (((((0 : Int32) + (a2 - a2 / (10 : Int32) * (10 : Int32))) + ((a2 / (10 : Int32)) - (a2 / (10 : Int32)) / (10 : Int32) * (10 : Int32))) + (((a2 / (10 : Int32)) / (10 : Int32)) - ((a2 / (10 : Int32)) / (10 : Int32)) / (10 : Int32) * (10 : Int32))) + ((((a2 / (10 : Int32)) / (10 : Int32)) / (10 : Int32)) - (((a2 / (10 : Int32)) / (10 : Int32)) / (10 : Int32)) / (10 : Int32) * (10 : Int32))), .int 0, .int 0, .int 0]) rfl (fun H locs hG hS => ?_)
  refine lv_iload hx hb dX3_init_78 (lv_at hl 1 rfl) ?_
  refine lv_bipush (v := (10 : Int32)) hx hb dX3_init_80 (by decide) ?_
  refine lv_idiv hx hb dX3_init_82 (by decide) ?_
  refine lv_istore (lv' := [(6, .int ((((a2 / (10 : Int32)) / (10 : Int32)) / (10 : Int32)) / (10 : Int32))), (7, .int (1 : Int32)), (0, .ref h0), (1, .int a1), (2, .int a2), (3, .int a3), (4, .int a4), (5, .int a5)]) hx hb dX3_init_83 hl (by decide) rfl (fun ls hl => ?_)
  refine lv_iinc (v := (0 : Int32)) (lv' := [(7, .int (0 : Int32)), (6, .int ((((a2 / (10 : Int32)) / (10 : Int32)) / (10 : Int32)) / (10 : Int32))), (0, .ref h0), (1, .int a1), (2, .int a2), (3, .int a3), (4, .int a4), (5, .int a5)]) hx hb dX3_init_85 hl (k := 1) rfl (by decide) (by decide) rfl (fun ls hl => ?_)
  refine lv_goto (tgt := 40) hx hb dX3_init_88 (by decide) ?_
  refine lv_iload hx hb dX3_init_40 (lv_at hl 0 rfl) ?_
  refine lv_if_lt (tgt := 91) hx hb dX3_init_42 (by decide) (fun c9 => absurd c9 (by decide)) (fun _ => ?_)
  refine lv_aload_n hx hb dX3_init_45 rfl (lv_at hl 2 rfl) ?_
  refine kc_get C hG rfl inlX3 4 (by omega) (pr_in9 _ (List.mem_of_getElem? (i := 8) rfl)) rfl (v := .ref (b + 0)) rfl dX3_init_46 ?_
  refine lv_iload hx hb dX3_init_49 (lv_at hl 0 rfl) ?_
  refine kc_new (k' := 2) C hG hS rfl inlX2 tyX2 tyX2_ok (pr_in9 _ (List.mem_of_getElem? (i := 7) rfl)) (pr_in9 _ (List.mem_of_getElem? (i := 9) rfl)) (pr_in9 _ (List.mem_of_getElem? (i := 10) rfl)) (gs := [.int 0, .int 0, .int 0, .int 0, .int 0]) (fun j hj => by rcases (show j = 0 ∨ j = 1 ∨ j = 2 ∨ j = 3 ∨ j = 4 by omega) with rfl | rfl | rfl | rfl | rfl <;> rfl) (Nat.le_of_ble_eq_true rfl) (Nat.le_of_ble_eq_true rfl) dX3_init_51 (N1 := 6) rfl (fun H hG hS => ?_)
  refine lv_dup hx hb dX3_init_54 rfl ?_
  refine lv_iload hx hb dX3_init_55 (lv_at hl 1 rfl) ?_
  refine lv_bipush (v := (10 : Int32)) hx hb dX3_init_57 (by decide) ?_
  refine lv_irem hx hb dX3_init_59 (by decide) ?_
  refine kc_ctor (As := [.int (((((a2 / (10 : Int32)) / (10 : Int32)) / (10 : Int32)) / (10 : Int32)) - ((((a2 / (10 : Int32)) / (10 : Int32)) / (10 : Int32)) / (10 : Int32)) / (10 : Int32) * (10 : Int32))]) (rest := [.ref (b + 5), .int (0 : Int32), .ref (b + 0)]) (n := 5) C hG hS rfl rfl c_X2_init (pr_in9 _ (List.mem_of_getElem? (i := 16) rfl)) (pr_in9 _ (List.mem_of_getElem? (i := 10) rfl)) (pr_in9 _ (List.mem_of_getElem? (i := 14) rfl)) (pr_in9 _ (List.mem_of_getElem? (i := 15) rfl)) rfl rfl rfl ha_X2_init ⟨(Nat.le_of_ble_eq_true rfl), (Nat.le_of_ble_eq_true rfl)⟩ rfl hl.1 rfl (Nat.le_of_ble_eq_true rfl) dX3_init_60 ⟨(Nat.le_of_ble_eq_true rfl), (Nat.le_of_ble_eq_true rfl)⟩ (n1 := 6) rfl (fun H locs hG hS => ?_)
  refine kc_asq C hG hS 0 5 (by decide) (by decide) (len := 5) (f := (va_up (va_up (va_up (va_up (fun _ => none) ((4 : Int32)).toNatClampNeg (some (b + 1))) ((3 : Int32)).toNatClampNeg (some (b + 2))) ((2 : Int32)).toNatClampNeg (some (b + 3))) ((1 : Int32)).toNatClampNeg (some (b + 4)))) (ci := 2) (vs := [.int ((((((a2 / (10 : Int32)) / (10 : Int32)) / (10 : Int32)) / (10 : Int32)) - ((((a2 / (10 : Int32)) / (10 : Int32)) / (10 : Int32)) / (10 : Int32)) / (10 : Int32) * (10 : Int32))), .int 0, .int (-1 : Int32), .int (-1 : Int32), .int (-1 : Int32)]) (t0 := 5) rfl rfl rfl rfl (by unfold vp_in; decide) dX3_init_63 (fun H locs hG hS => ?_)
  refine lv_aload_n hx hb dX3_init_64 rfl (lv_at hl 2 rfl) ?_
  refine lv_dup hx hb dX3_init_65 rfl ?_
  refine kc_get C hG rfl inlX3 6 (by omega) (pr_in9 _ (List.mem_of_getElem? (i := 11) rfl)) rfl (v := .int (((((0 : Int32) + (a2 - a2 / (10 : Int32) * (10 : Int32))) + ((a2 / (10 : Int32)) - (a2 / (10 : Int32)) / (10 : Int32) * (10 : Int32))) + (((a2 / (10 : Int32)) / (10 : Int32)) - ((a2 / (10 : Int32)) / (10 : Int32)) / (10 : Int32) * (10 : Int32))) + ((((a2 / (10 : Int32)) / (10 : Int32)) / (10 : Int32)) - (((a2 / (10 : Int32)) / (10 : Int32)) / (10 : Int32)) / (10 : Int32) * (10 : Int32)))) rfl dX3_init_66 ?_
  refine lv_iload hx hb dX3_init_69 (lv_at hl 1 rfl) ?_
  refine lv_bipush (v := (10 : Int32)) hx hb dX3_init_71 (by decide) ?_
  refine lv_irem hx hb dX3_init_73 (by decide) ?_
  refine lv_iadd hx hb dX3_init_74 ?_
  refine kc_put C hG hS rfl inlX3 tyX3 tyX3_ok nmX3 6 (by omega) (pr_in9 _ (List.mem_of_getElem? (i := 11) rfl)) rfl rfl rfl rfl (Nat.le_of_ble_eq_true rfl) dX3_init_75 (fs' := [.int a1, .int a3, .int a4, .int a5, .ref (b + 0), .int 0, .int ((((((0 : Int32) + (a2 - a2 / (10 : Int32) * (10 : Int32))) + ((a2 / (10 : Int32)) - (a2 / (10 : Int32)) / (10 : Int32) * (10 : Int32))) + (((a2 / (10 : Int32)) / (10 : Int32)) - ((a2 / (10 : Int32)) / (10 : Int32)) / (10 : Int32) * (10 : Int32))) + ((((a2 / (10 : Int32)) / (10 : Int32)) / (10 : Int32)) - (((a2 / (10 : Int32)) / (10 : Int32)) / (10 : Int32)) / (10 : Int32) * (10 : Int32))) + (((((a2 / (10 : Int32)) / (10 : Int32)) / (10 : Int32)) / (10 : Int32)) - ((((a2 / (10 : Int32)) / (10 : Int32)) / (10 : Int32)) / (10 : Int32)) / (10 : Int32) * (10 : Int32))), .int 0, .int 0, .int 0]) rfl (fun H locs hG hS => ?_)
  refine lv_iload hx hb dX3_init_78 (lv_at hl 1 rfl) ?_
  refine lv_bipush (v := (10 : Int32)) hx hb dX3_init_80 (by decide) ?_
  refine lv_idiv hx hb dX3_init_82 (by decide) ?_
  refine lv_istore (lv' := [(6, .int (((((a2 / (10 : Int32)) / (10 : Int32)) / (10 : Int32)) / (10 : Int32)) / (10 : Int32))), (7, .int (0 : Int32)), (0, .ref h0), (1, .int a1), (2, .int a2), (3, .int a3), (4, .int a4), (5, .int a5)]) hx hb dX3_init_83 hl (by decide) rfl (fun ls hl => ?_)
  refine lv_iinc (v := (-1 : Int32)) (lv' := [(7, .int (-1 : Int32)), (6, .int (((((a2 / (10 : Int32)) / (10 : Int32)) / (10 : Int32)) / (10 : Int32)) / (10 : Int32))), (0, .ref h0), (1, .int a1), (2, .int a2), (3, .int a3), (4, .int a4), (5, .int a5)]) hx hb dX3_init_85 hl (k := 1) rfl (by decide) (by decide) rfl (fun ls hl => ?_)
  refine lv_goto (tgt := 40) hx hb dX3_init_88 (by decide) ?_
  refine lv_iload hx hb dX3_init_40 (lv_at hl 0 rfl) ?_
  refine lv_if_lt (tgt := 91) hx hb dX3_init_42 (by decide) (fun _ => ?_) (fun c9 => absurd c9 (by decide))
  refine lv_aload_n hx hb dX3_init_91 rfl (lv_at hl 2 rfl) ?_
  refine lv_iconst (v := (-1 : Int32)) hx hb dX3_init_92 (by decide) ?_
  refine kc_put C hG hS rfl inlX3 tyX3 tyX3_ok nmX3 5 (by omega) (pr_in9 _ (List.mem_of_getElem? (i := 12) rfl)) rfl rfl rfl rfl (Nat.le_of_ble_eq_true rfl) dX3_init_93 (fs' := [.int a1, .int a3, .int a4, .int a5, .ref (b + 0), .int (-1 : Int32), .int ((((((0 : Int32) + (a2 - a2 / (10 : Int32) * (10 : Int32))) + ((a2 / (10 : Int32)) - (a2 / (10 : Int32)) / (10 : Int32) * (10 : Int32))) + (((a2 / (10 : Int32)) / (10 : Int32)) - ((a2 / (10 : Int32)) / (10 : Int32)) / (10 : Int32) * (10 : Int32))) + ((((a2 / (10 : Int32)) / (10 : Int32)) / (10 : Int32)) - (((a2 / (10 : Int32)) / (10 : Int32)) / (10 : Int32)) / (10 : Int32) * (10 : Int32))) + (((((a2 / (10 : Int32)) / (10 : Int32)) / (10 : Int32)) / (10 : Int32)) - ((((a2 / (10 : Int32)) / (10 : Int32)) / (10 : Int32)) / (10 : Int32)) / (10 : Int32) * (10 : Int32))), .int 0, .int 0, .int 0]) rfl (fun H locs hG hS => ?_)
  refine lv_aload_n hx hb dX3_init_96 rfl (lv_at hl 2 rfl) ?_
  refine lv_iconst (v := (-1 : Int32)) hx hb dX3_init_97 (by decide) ?_
  refine kc_put C hG hS rfl inlX3 tyX3 tyX3_ok nmX3 9 (by omega) (pr_in9 _ (List.mem_of_getElem? (i := 13) rfl)) rfl rfl rfl rfl (Nat.le_of_ble_eq_true rfl) dX3_init_98 (fs' := [.int a1, .int a3, .int a4, .int a5, .ref (b + 0), .int (-1 : Int32), .int ((((((0 : Int32) + (a2 - a2 / (10 : Int32) * (10 : Int32))) + ((a2 / (10 : Int32)) - (a2 / (10 : Int32)) / (10 : Int32) * (10 : Int32))) + (((a2 / (10 : Int32)) / (10 : Int32)) - ((a2 / (10 : Int32)) / (10 : Int32)) / (10 : Int32) * (10 : Int32))) + ((((a2 / (10 : Int32)) / (10 : Int32)) / (10 : Int32)) - (((a2 / (10 : Int32)) / (10 : Int32)) / (10 : Int32)) / (10 : Int32) * (10 : Int32))) + (((((a2 / (10 : Int32)) / (10 : Int32)) / (10 : Int32)) / (10 : Int32)) - ((((a2 / (10 : Int32)) / (10 : Int32)) / (10 : Int32)) / (10 : Int32)) / (10 : Int32) * (10 : Int32))), .int 0, .int 0, .int (-1 : Int32)]) rfl (fun H locs hG hS => ?_)
  exact kc_ret C hG hS rfl (fun _ _ => rfl) rfl rfl rfl dX3_init_101
def rm_X8_init : Room := { frames := 2, cells := 25, slots := 1316, locals := 33 }
theorem ha_X8_init : yX8_init.cls ≠ "java/lang/invoke/MethodHandle" ∧ yX8_init.cls ≠ "java/lang/invoke/VarHandle" ∧ (parseMethodDescriptor yX8_init.desc).map (fun d => d.parameters.length) = some 0 := ⟨by decide, by decide, by decide +kernel⟩
def kF_X8_init (cs : Nat → ClassId) (b : Nat) : Nat → va_E :=
  (va_up (fun q => if q < 24 then (va_up (fun q => if q < 17 then (va_up (fun q => if q < 14 then (va_up (fun q => if q < 8 then (va_up (va_up (va_up (va_up (va_up (fun q => if q < 0 then (va_up pr_F0 0 (.inr (1, [.null, .null, .null, .int 0]))) q else if q = 0 then .inr (1, [.ref (b + 1 + 0), .ref (b + 1 + 1), .ref (b + 1 + 2), .int 0]) else kF_X1_init cs (b + 1) (q - 1)) 4 (.inl (cs 0, 5, .inl (fun _ => 0)))) 5 (.inl (cs 2, 7, .inr (.inr (.inr (.inr (fun _ => none))))))) 6 (.inl (cs 3, 20, .inr (.inr (.inr (.inr (fun _ => none))))))) 7 (.inl (cs 4, 40, .inr (.inr (.inr (.inr (fun _ => none))))))) 8 (.inr (7, [.null, .null, .null, .null, .null, .int 0]))) q else if q = 8 then .inr (7, [.ref (b + 9 + 0), .ref (b + 9 + 1), .ref (b + 9 + 2), .ref (b + 9 + 3), .ref (b + 9 + 4), .int 0]) else kF_X7_init cs (b + 9) (q - 9)) 14 (.inr (5, [.null, .null]))) q else if q = 14 then .inr (5, [.ref (b + 15 + 0), .ref (b + 15 + 1)]) else kF_X5_init cs (b + 15) (q - 15)) 17 (.inr (4, [.null, .null, .null, .null, .null, .null, .int 0, .int 0, .int 0]))) q else if q = 17 then .inr (4, [.ref (b + 18 + 0), .ref (b + 18 + 1), .ref (b + 18 + 2), .ref (b + 18 + 3), .ref (b + 18 + 4), .ref (b + 18 + 5), .int 0, .int 0, .int 0]) else kF_X4_init cs (b + 18) (q - 18)) 24 (.inr (0, [.int 0, .int 0, .int 0]))) q else if q = 24 then .inr (0, [.int (-1 : Int32), .int (-1 : Int32), .int 0]) else kF_X0_init cs (b + 25) (q - 25)) 5 (.inl (cs 2, 7, .inr (.inr (.inr (.inr (va_up (fun _ => none) ((0 : Int32)).toNatClampNeg (some (b + 24)))))))))
set_option maxHeartbeats 4000000 in
set_option maxRecDepth 100000 in
theorem c_X8_init {l : Launch} {D : va_G} {cs : Nat → ClassId} {b h0 : Nat} : pr_Mc l D cs yX8_init cX8_init 1 rm_X8_init b h0 8 [] [.null, .null, .null, .null, .null, .null, .null, .null, .int 0, .int 0, .int 0, .int 0, .int 0, .int 0, .int 0, .int 0, .int 0] 25 (kF_X8_init cs b) [.ref (b + 0), .ref (b + 4), .ref (b + 5), .ref (b + 6), .ref (b + 7), .ref (b + 8), .ref (b + 14), .ref (b + 17), .int 0, .int (1 : Int32), .int 0, .int 0, .int 0, .int 0, .int 0, .int 0, .int (5 : Int32)] 25 1316 := by
  refine Met.ofW (cc := cX8_init) (maxL := 1) (ret := none) (by decide) rfl ?_
  intro p e s m args below meth c s₁ B hml hv
  obtain ⟨rfl, hG, hK⟩ := hv
  have C : pr_C RX8 cX8_init 1 none D cs p s m [.ref h0].toArray meth c := pr_C.of B hml hK
  have hin : meth.name = "<init>" := (name_of_methodNamed B.named B.method).1
  have hS : va_S (pr_A h0 b) s.heap s.heap [] := va_S.rf
  have hl := lv_entry ([.ref h0]) (n := 1) (Nat.le_of_ble_eq_true rfl)
  rw [lg_entry_eq]
  generalize (lg_sl ([.ref h0]) ++ List.replicate (1 - (lg_sl ([.ref h0])).length) Slot.unset).toArray = ls at hl ⊢
  have hl : lv_has ls 1 [(0, .ref h0)] := hl
  obtain ⟨hx, hb, hml, hown, hts, hK, hr, hlocks⟩ := id C
  refine lv_aload_n hx hb dX8_init_0 rfl (lv_at hl 0 rfl) ?_
  refine W.objInit hx hb hown (hts _ (pr_in1 _ (List.mem_of_getElem? (i := 9) rfl))) (hts _ (pr_in1 _ (List.mem_of_getElem? (i := 10) rfl))) (hts _ (pr_in1 _ (List.mem_of_getElem? (i := 11) rfl))) rfl (by rw [hml]; exact hl.1) rfl dX8_init_1 (Nat.le_of_ble_eq_true rfl) (Nat.le_of_ble_eq_true rfl) ?_
  refine W.eq (g2 := F0 m 4 ls []) rfl ?_
  refine lv_aload_n hx hb dX8_init_4 rfl (lv_at hl 0 rfl) ?_
  refine kc_new (k' := 1) C hG hS rfl inlX1 tyX1 tyX1_ok (pr_in1 _ (List.mem_of_getElem? (i := 12) rfl)) (pr_in1 _ (List.mem_of_getElem? (i := 13) rfl)) (pr_in1 _ (List.mem_of_getElem? (i := 14) rfl)) (gs := [.null, .null, .null, .int 0]) (fun j hj => by rcases (show j = 0 ∨ j = 1 ∨ j = 2 ∨ j = 3 by omega) with rfl | rfl | rfl | rfl <;> rfl) (Nat.le_of_ble_eq_true rfl) (Nat.le_of_ble_eq_true rfl) dX8_init_5 (N1 := 1) rfl (fun H hG hS => ?_)
  refine lv_dup hx hb dX8_init_8 rfl ?_
  refine kc_ctor (As := []) (rest := [.ref (b + 0), .ref h0]) (n := 0) C hG hS rfl rfl c_X1_init (pr_in2 _ (List.mem_of_getElem? (i := 18) rfl)) (pr_in1 _ (List.mem_of_getElem? (i := 14) rfl)) (pr_in2 _ (List.mem_of_getElem? (i := 16) rfl)) (pr_in2 _ (List.mem_of_getElem? (i := 17) rfl)) rfl rfl rfl ha_X1_init ⟨(Nat.le_of_ble_eq_true rfl), (Nat.le_of_ble_eq_true rfl)⟩ rfl hl.1 rfl (Nat.le_of_ble_eq_true rfl) dX8_init_9 ⟨(Nat.le_of_ble_eq_true rfl), (Nat.le_of_ble_eq_true rfl)⟩ (n1 := 4) rfl (fun H locs hG hS => ?_)
  refine kc_putF C hin hG hS rfl inlX8 tyX8 tyX8_ok nmX8 0 (by omega) (pr_in1 _ (List.mem_of_getElem? (i := 15) rfl)) rfl rfl rfl rfl rfl (Nat.le_of_ble_eq_true rfl) dX8_init_12 (fs' := [.ref (b + 0), .null, .null, .null, .null, .null, .null, .null, .int 0, .int 0, .int 0, .int 0, .int 0, .int 0, .int 0, .int 0, .int 0]) rfl (fun H locs hG hS => ?_)
  refine lv_aload_n hx hb dX8_init_15 rfl (lv_at hl 0 rfl) ?_
  refine lv_iconst (v := (5 : Int32)) hx hb dX8_init_16 (by decide) ?_
  refine kc_newi C hG hS (N' := 5) (pr_in1 _ (List.mem_of_getElem? (i := 16) rfl)) (by decide) (by decide) (by decide) (Nat.le_of_ble_eq_true rfl) (Nat.le_of_ble_eq_true rfl) dX8_init_17 (N1 := 5) rfl (fun H hG hS => ?_)
  refine kc_putF C hin hG hS rfl inlX8 tyX8 tyX8_ok nmX8 1 (by omega) (pr_in1 _ (List.mem_of_getElem? (i := 17) rfl)) rfl rfl rfl rfl rfl (Nat.le_of_ble_eq_true rfl) dX8_init_19 (fs' := [.ref (b + 0), .ref (b + 4), .null, .null, .null, .null, .null, .null, .int 0, .int 0, .int 0, .int 0, .int 0, .int 0, .int 0, .int 0, .int 0]) rfl (fun H locs hG hS => ?_)
  refine lv_aload_n hx hb dX8_init_22 rfl (lv_at hl 0 rfl) ?_
  refine lv_bipush (v := (7 : Int32)) hx hb dX8_init_23 (by decide) ?_
  refine kc_newq C hG hS (C := RX0) (t0 := 2) (Or.inl rfl) rfl (N' := 7) (pr_in1 _ (List.mem_of_getElem? (i := 18) rfl)) (by decide) (by decide) (by decide) (Nat.le_of_ble_eq_true rfl) (Nat.le_of_ble_eq_true rfl) dX8_init_25 (N1 := 6) rfl (fun H hG hS => ?_)
  refine kc_putF C hin hG hS rfl inlX8 tyX8 tyX8_ok nmX8 2 (by omega) (pr_in1 _ (List.mem_of_getElem? (i := 19) rfl)) rfl rfl rfl rfl rfl (Nat.le_of_ble_eq_true rfl) dX8_init_28 (fs' := [.ref (b + 0), .ref (b + 4), .ref (b + 5), .null, .null, .null, .null, .null, .int 0, .int 0, .int 0, .int 0, .int 0, .int 0, .int 0, .int 0, .int 0]) rfl (fun H locs hG hS => ?_)
  refine lv_aload_n hx hb dX8_init_31 rfl (lv_at hl 0 rfl) ?_
  refine lv_bipush (v := (20 : Int32)) hx hb dX8_init_32 (by decide) ?_
  refine kc_newq C hG hS (C := RX6) (t0 := 3) (Or.inr (Or.inl rfl)) rfl (N' := 20) (pr_in1 _ (List.mem_of_getElem? (i := 20) rfl)) (by decide) (by decide) (by decide) (Nat.le_of_ble_eq_true rfl) (Nat.le_of_ble_eq_true rfl) dX8_init_34 (N1 := 7) rfl (fun H hG hS => ?_)
  refine kc_putF C hin hG hS rfl inlX8 tyX8 tyX8_ok nmX8 3 (by omega) (pr_in1 _ (List.mem_of_getElem? (i := 21) rfl)) rfl rfl rfl rfl rfl (Nat.le_of_ble_eq_true rfl) dX8_init_37 (fs' := [.ref (b + 0), .ref (b + 4), .ref (b + 5), .ref (b + 6), .null, .null, .null, .null, .int 0, .int 0, .int 0, .int 0, .int 0, .int 0, .int 0, .int 0, .int 0]) rfl (fun H locs hG hS => ?_)
  refine lv_aload_n hx hb dX8_init_40 rfl (lv_at hl 0 rfl) ?_
  refine lv_bipush (v := (40 : Int32)) hx hb dX8_init_41 (by decide) ?_
  refine kc_newq C hG hS (C := RX3) (t0 := 4) (Or.inr (Or.inr (Or.inl rfl))) rfl (N' := 40) (pr_in1 _ (List.mem_of_getElem? (i := 22) rfl)) (by decide) (by decide) (by decide) (Nat.le_of_ble_eq_true rfl) (Nat.le_of_ble_eq_true rfl) dX8_init_43 (N1 := 8) rfl (fun H hG hS => ?_)
  refine kc_putF C hin hG hS rfl inlX8 tyX8 tyX8_ok nmX8 4 (by omega) (pr_in1 _ (List.mem_of_getElem? (i := 23) rfl)) rfl rfl rfl rfl rfl (Nat.le_of_ble_eq_true rfl) dX8_init_46 (fs' := [.ref (b + 0), .ref (b + 4), .ref (b + 5), .ref (b + 6), .ref (b + 7), .null, .null, .null, .int 0, .int 0, .int 0, .int 0, .int 0, .int 0, .int 0, .int 0, .int 0]) rfl (fun H locs hG hS => ?_)
  refine lv_aload_n hx hb dX8_init_49 rfl (lv_at hl 0 rfl) ?_
  refine kc_new (k' := 7) C hG hS rfl inlX7 tyX7 tyX7_ok (pr_in2 _ (List.mem_of_getElem? (i := 0) rfl)) (pr_in2 _ (List.mem_of_getElem? (i := 1) rfl)) (pr_in2 _ (List.mem_of_getElem? (i := 2) rfl)) (gs := [.null, .null, .null, .null, .null, .int 0]) (fun j hj => by rcases (show j = 0 ∨ j = 1 ∨ j = 2 ∨ j = 3 ∨ j = 4 ∨ j = 5 by omega) with rfl | rfl | rfl | rfl | rfl | rfl <;> rfl) (Nat.le_of_ble_eq_true rfl) (Nat.le_of_ble_eq_true rfl) dX8_init_50 (N1 := 9) rfl (fun H hG hS => ?_)
  refine lv_dup hx hb dX8_init_53 rfl ?_
  refine kc_ctor (As := []) (rest := [.ref (b + 8), .ref h0]) (n := 8) C hG hS rfl rfl c_X7_init (pr_in3 _ (List.mem_of_getElem? (i := 1) rfl)) (pr_in2 _ (List.mem_of_getElem? (i := 2) rfl)) (pr_in2 _ (List.mem_of_getElem? (i := 23) rfl)) (pr_in3 _ (List.mem_of_getElem? (i := 0) rfl)) rfl rfl rfl ha_X7_init ⟨(Nat.le_of_ble_eq_true rfl), (Nat.le_of_ble_eq_true rfl)⟩ rfl hl.1 rfl (Nat.le_of_ble_eq_true rfl) dX8_init_54 ⟨(Nat.le_of_ble_eq_true rfl), (Nat.le_of_ble_eq_true rfl)⟩ (n1 := 14) rfl (fun H locs hG hS => ?_)
  refine kc_putF C hin hG hS rfl inlX8 tyX8 tyX8_ok nmX8 5 (by omega) (pr_in2 _ (List.mem_of_getElem? (i := 3) rfl)) rfl rfl rfl rfl rfl (Nat.le_of_ble_eq_true rfl) dX8_init_57 (fs' := [.ref (b + 0), .ref (b + 4), .ref (b + 5), .ref (b + 6), .ref (b + 7), .ref (b + 8), .null, .null, .int 0, .int 0, .int 0, .int 0, .int 0, .int 0, .int 0, .int 0, .int 0]) rfl (fun H locs hG hS => ?_)
  refine lv_aload_n hx hb dX8_init_60 rfl (lv_at hl 0 rfl) ?_
  refine kc_new (k' := 5) C hG hS rfl inlX5 tyX5 tyX5_ok (pr_in2 _ (List.mem_of_getElem? (i := 4) rfl)) (pr_in2 _ (List.mem_of_getElem? (i := 5) rfl)) (pr_in2 _ (List.mem_of_getElem? (i := 6) rfl)) (gs := [.null, .null]) (fun j hj => by rcases (show j = 0 ∨ j = 1 by omega) with rfl | rfl <;> rfl) (Nat.le_of_ble_eq_true rfl) (Nat.le_of_ble_eq_true rfl) dX8_init_61 (N1 := 15) rfl (fun H hG hS => ?_)
  refine lv_dup hx hb dX8_init_64 rfl ?_
  refine kc_ctor (As := []) (rest := [.ref (b + 14), .ref h0]) (n := 14) C hG hS rfl rfl c_X5_init (pr_in3 _ (List.mem_of_getElem? (i := 11) rfl)) (pr_in2 _ (List.mem_of_getElem? (i := 6) rfl)) (pr_in3 _ (List.mem_of_getElem? (i := 9) rfl)) (pr_in3 _ (List.mem_of_getElem? (i := 10) rfl)) rfl rfl rfl ha_X5_init ⟨(Nat.le_of_ble_eq_true rfl), (Nat.le_of_ble_eq_true rfl)⟩ rfl hl.1 rfl (Nat.le_of_ble_eq_true rfl) dX8_init_65 ⟨(Nat.le_of_ble_eq_true rfl), (Nat.le_of_ble_eq_true rfl)⟩ (n1 := 17) rfl (fun H locs hG hS => ?_)
  refine kc_putF C hin hG hS rfl inlX8 tyX8 tyX8_ok nmX8 6 (by omega) (pr_in2 _ (List.mem_of_getElem? (i := 7) rfl)) rfl rfl rfl rfl rfl (Nat.le_of_ble_eq_true rfl) dX8_init_68 (fs' := [.ref (b + 0), .ref (b + 4), .ref (b + 5), .ref (b + 6), .ref (b + 7), .ref (b + 8), .ref (b + 14), .null, .int 0, .int 0, .int 0, .int 0, .int 0, .int 0, .int 0, .int 0, .int 0]) rfl (fun H locs hG hS => ?_)
  refine lv_aload_n hx hb dX8_init_71 rfl (lv_at hl 0 rfl) ?_
  refine kc_new (k' := 4) C hG hS rfl inlX4 tyX4 tyX4_ok (pr_in2 _ (List.mem_of_getElem? (i := 8) rfl)) (pr_in2 _ (List.mem_of_getElem? (i := 9) rfl)) (pr_in2 _ (List.mem_of_getElem? (i := 10) rfl)) (gs := [.null, .null, .null, .null, .null, .null, .int 0, .int 0, .int 0]) (fun j hj => by rcases (show j = 0 ∨ j = 1 ∨ j = 2 ∨ j = 3 ∨ j = 4 ∨ j = 5 ∨ j = 6 ∨ j = 7 ∨ j = 8 by omega) with rfl | rfl | rfl | rfl | rfl | rfl | rfl | rfl | rfl <;> rfl) (Nat.le_of_ble_eq_true rfl) (Nat.le_of_ble_eq_true rfl) dX8_init_72 (N1 := 18) rfl (fun H hG hS => ?_)
  refine lv_dup hx hb dX8_init_75 rfl ?_
  refine kc_ctor (As := []) (rest := [.ref (b + 17), .ref h0]) (n := 17) C hG hS rfl rfl c_X4_init (pr_in3 _ (List.mem_of_getElem? (i := 17) rfl)) (pr_in2 _ (List.mem_of_getElem? (i := 10) rfl)) (pr_in3 _ (List.mem_of_getElem? (i := 15) rfl)) (pr_in3 _ (List.mem_of_getElem? (i := 16) rfl)) rfl rfl rfl ha_X4_init ⟨(Nat.le_of_ble_eq_true rfl), (Nat.le_of_ble_eq_true rfl)⟩ rfl hl.1 rfl (Nat.le_of_ble_eq_true rfl) dX8_init_76 ⟨(Nat.le_of_ble_eq_true rfl), (Nat.le_of_ble_eq_true rfl)⟩ (n1 := 24) rfl (fun H locs hG hS => ?_)
  refine kc_putF C hin hG hS rfl inlX8 tyX8 tyX8_ok nmX8 7 (by omega) (pr_in2 _ (List.mem_of_getElem? (i := 11) rfl)) rfl rfl rfl rfl rfl (Nat.le_of_ble_eq_true rfl) dX8_init_79 (fs' := [.ref (b + 0), .ref (b + 4), .ref (b + 5), .ref (b + 6), .ref (b + 7), .ref (b + 8), .ref (b + 14), .ref (b + 17), .int 0, .int 0, .int 0, .int 0, .int 0, .int 0, .int 0, .int 0, .int 0]) rfl (fun H locs hG hS => ?_)
  refine lv_aload_n hx hb dX8_init_82 rfl (lv_at hl 0 rfl) ?_
  refine kc_get C hG rfl inlX8 2 (by omega) (pr_in1 _ (List.mem_of_getElem? (i := 19) rfl)) rfl (v := .ref (b + 5)) rfl dX8_init_83 ?_
  refine lv_iconst (v := (0 : Int32)) hx hb dX8_init_86 (by decide) ?_
  refine kc_new (k' := 0) C hG hS rfl inlX0 tyX0 tyX0_ok (pr_in1 _ (List.mem_of_getElem? (i := 18) rfl)) (pr_in2 _ (List.mem_of_getElem? (i := 12) rfl)) (pr_in2 _ (List.mem_of_getElem? (i := 13) rfl)) (gs := [.int 0, .int 0, .int 0]) (fun j hj => by rcases (show j = 0 ∨ j = 1 ∨ j = 2 by omega) with rfl | rfl | rfl <;> rfl) (Nat.le_of_ble_eq_true rfl) (Nat.le_of_ble_eq_true rfl) dX8_init_87 (N1 := 25) rfl (fun H hG hS => ?_)
  refine lv_dup hx hb dX8_init_90 rfl ?_
  refine kc_ctor (As := []) (rest := [.ref (b + 24), .int (0 : Int32), .ref (b + 5)]) (n := 24) C hG hS rfl rfl c_X0_init (pr_in4 _ (List.mem_of_getElem? (i := 3) rfl)) (pr_in2 _ (List.mem_of_getElem? (i := 13) rfl)) (pr_in4 _ (List.mem_of_getElem? (i := 1) rfl)) (pr_in4 _ (List.mem_of_getElem? (i := 2) rfl)) rfl rfl rfl ha_X0_init ⟨(Nat.le_of_ble_eq_true rfl), (Nat.le_of_ble_eq_true rfl)⟩ rfl hl.1 rfl (Nat.le_of_ble_eq_true rfl) dX8_init_91 ⟨(Nat.le_of_ble_eq_true rfl), (Nat.le_of_ble_eq_true rfl)⟩ (n1 := 25) rfl (fun H locs hG hS => ?_)
  refine kc_asq C hG hS 5 24 (by decide) (by decide) (len := 7) (f := (fun _ => none)) (ci := 0) (vs := [.int (-1 : Int32), .int (-1 : Int32), .int 0]) (t0 := 2) rfl rfl rfl rfl (by unfold vp_in; decide) dX8_init_94 (fun H locs hG hS => ?_)
  refine lv_aload_n hx hb dX8_init_95 rfl (lv_at hl 0 rfl) ?_
  refine lv_iconst (v := (1 : Int32)) hx hb dX8_init_96 (by decide) ?_
  refine kc_put C hG hS rfl inlX8 tyX8 tyX8_ok nmX8 9 (by omega) (pr_in2 _ (List.mem_of_getElem? (i := 14) rfl)) rfl rfl rfl rfl (Nat.le_of_ble_eq_true rfl) dX8_init_97 (fs' := [.ref (b + 0), .ref (b + 4), .ref (b + 5), .ref (b + 6), .ref (b + 7), .ref (b + 8), .ref (b + 14), .ref (b + 17), .int 0, .int (1 : Int32), .int 0, .int 0, .int 0, .int 0, .int 0, .int 0, .int 0]) rfl (fun H locs hG hS => ?_)
  refine lv_aload_n hx hb dX8_init_100 rfl (lv_at hl 0 rfl) ?_
  refine lv_iconst (v := (5 : Int32)) hx hb dX8_init_101 (by decide) ?_
  refine kc_put C hG hS rfl inlX8 tyX8 tyX8_ok nmX8 16 (by omega) (pr_in2 _ (List.mem_of_getElem? (i := 15) rfl)) rfl rfl rfl rfl (Nat.le_of_ble_eq_true rfl) dX8_init_102 (fs' := [.ref (b + 0), .ref (b + 4), .ref (b + 5), .ref (b + 6), .ref (b + 7), .ref (b + 8), .ref (b + 14), .ref (b + 17), .int 0, .int (1 : Int32), .int 0, .int 0, .int 0, .int 0, .int 0, .int 0, .int (5 : Int32)]) rfl (fun H locs hG hS => ?_)
  exact kc_ret C hG hS rfl (fun _ _ => rfl) rfl rfl rfl dX8_init_105
