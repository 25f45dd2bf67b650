def rm_X9_init : Room := { frames := 1, cells := 230, slots := 2531, locals := 12 }
theorem ha_X9_init : yX9_init.cls ≠ "java/lang/invoke/MethodHandle" ∧ yX9_init.cls ≠ "java/lang/invoke/VarHandle" ∧ (parseMethodDescriptor yX9_init.desc).map (fun d => d.parameters.length) = some 0 := ⟨by decide, by decide, by decide +kernel⟩
def kF_X9_init (cs : Nat → ClassId) (b : Nat) : Nat → va_E :=
  (va_up (va_up (va_up (va_up (va_up (va_up (va_up (va_up (va_up (va_up (va_up (va_up (va_up (va_up (va_up (va_up (va_up (va_up (va_up (va_up (va_up (va_up (va_up (va_up (va_up (va_up (va_up (va_up (fun q => if q < 180 then (fun q => if q < 139 then (fun q => if q < 98 then (fun q => if q < 57 then (fun q => if q < 16 then (va_up (va_up (va_up (va_up (va_up (va_up (va_up (va_up (va_up (va_up (va_up (va_up (va_up (va_up (va_up (va_up pr_F0 0 (.inl (cs 0, 60, .inl (fun _ => 0)))) 1 (.inl (cs 0, 60, .inl (fun _ => 0)))) 2 (.inl (cs 0, 60, .inl (fun _ => 0)))) 3 (.inl (cs 0, 5, .inl (fun _ => 0)))) 4 (.inl (cs 0, 7, .inl (fun _ => 0)))) 5 (.inl (cs 0, 7, .inl (fun _ => 0)))) 6 (.inl (cs 0, 7, .inl (fun _ => 0)))) 7 (.inl (cs 0, 20, .inl (fun _ => 0)))) 8 (.inl (cs 0, 20, .inl (fun _ => 0)))) 9 (.inl (cs 0, 20, .inl (fun _ => 0)))) 10 (.inl (cs 0, 40, .inl (fun _ => 0)))) 11 (.inl (cs 0, 40, .inl (fun _ => 0)))) 12 (.inl (cs 0, 40, .inl (fun _ => 0)))) 13 (.inl (cs 0, 40, .inl (fun _ => 0)))) 14 (.inl (cs 0, 40, .inl (fun _ => 0)))) 15 (.inl (cs 0, 40, .inl (fun _ => 0)))) q else if q = 16 then .inl (cs 6, 40, .inr (.inr (.inr (.inr (fun i => if i < 40 then some (b + 16 + 1 + i) else none))))) else .inl (cs 0, 5, .inl (fun _ => 0))) q else if q = 57 then .inl (cs 6, 40, .inr (.inr (.inr (.inr (fun i => if i < 40 then some (b + 57 + 1 + i) else none))))) else .inl (cs 0, 5, .inl (fun _ => 0))) q else if q = 98 then .inl (cs 6, 40, .inr (.inr (.inr (.inr (fun i => if i < 40 then some (b + 98 + 1 + i) else none))))) else .inl (cs 0, 5, .inl (fun _ => 0))) q else if q = 139 then .inl (cs 6, 40, .inr (.inr (.inr (.inr (fun i => if i < 40 then some (b + 139 + 1 + i) else none))))) else .inl (cs 0, 5, .inl (fun _ => 0))) q else if q = 180 then .inl (cs 6, 40, .inr (.inr (.inr (.inr (fun i => if i < 40 then some (b + 180 + 1 + i) else none))))) else .inl (cs 0, 5, .inl (fun _ => 0))) 221 (.inl (cs 0, 5, .inl (fun _ => 0)))) 222 (.inl (cs 0, 5, .inl (fun _ => 0)))) 223 (.inl (cs 0, 200, .inl (fun _ => 0)))) 224 (.inl (cs 0, 200, .inl (fun _ => 0)))) 225 (.inl (cs 0, 200, .inl (fun _ => 0)))) 226 (.inl (cs 1, 200, .inl (fun _ => 0)))) 227 (.inl (cs 0, 5, .inl (fun _ => 0)))) 228 (.inl (cs 0, 5, .inl (fun _ => 0)))) 229 (.inl (cs 0, 5, .inl (fun _ => 0)))) 4 (.inl (cs 0, 7, .inl (upd (fun _ => 0) ((0 : Int32)).toNatClampNeg (-1 : Int32))))) 6 (.inl (cs 0, 7, .inl (upd (fun _ => 0) ((0 : Int32)).toNatClampNeg (-1 : Int32))))) 4 (.inl (cs 0, 7, .inl (upd (upd (fun _ => 0) ((0 : Int32)).toNatClampNeg (-1 : Int32)) ((1 : Int32)).toNatClampNeg (-1 : Int32))))) 6 (.inl (cs 0, 7, .inl (upd (upd (fun _ => 0) ((0 : Int32)).toNatClampNeg (-1 : Int32)) ((1 : Int32)).toNatClampNeg (-1 : Int32))))) 4 (.inl (cs 0, 7, .inl (upd (upd (upd (fun _ => 0) ((0 : Int32)).toNatClampNeg (-1 : Int32)) ((1 : Int32)).toNatClampNeg (-1 : Int32)) ((2 : Int32)).toNatClampNeg (-1 : Int32))))) 6 (.inl (cs 0, 7, .inl (upd (upd (upd (fun _ => 0) ((0 : Int32)).toNatClampNeg (-1 : Int32)) ((1 : Int32)).toNatClampNeg (-1 : Int32)) ((2 : Int32)).toNatClampNeg (-1 : Int32))))) 4 (.inl (cs 0, 7, .inl (upd (upd (upd (upd (fun _ => 0) ((0 : Int32)).toNatClampNeg (-1 : Int32)) ((1 : Int32)).toNatClampNeg (-1 : Int32)) ((2 : Int32)).toNatClampNeg (-1 : Int32)) ((3 : Int32)).toNatClampNeg (-1 : Int32))))) 6 (.inl (cs 0, 7, .inl (upd (upd (upd (upd (fun _ => 0) ((0 : Int32)).toNatClampNeg (-1 : Int32)) ((1 : Int32)).toNatClampNeg (-1 : Int32)) ((2 : Int32)).toNatClampNeg (-1 : Int32)) ((3 : Int32)).toNatClampNeg (-1 : Int32))))) 4 (.inl (cs 0, 7, .inl (upd (upd (upd (upd (upd (fun _ => 0) ((0 : Int32)).toNatClampNeg (-1 : Int32)) ((1 : Int32)).toNatClampNeg (-1 : Int32)) ((2 : Int32)).toNatClampNeg (-1 : Int32)) ((3 : Int32)).toNatClampNeg (-1 : Int32)) ((4 : Int32)).toNatClampNeg (-1 : Int32))))) 6 (.inl (cs 0, 7, .inl (upd (upd (upd (upd (upd (fun _ => 0) ((0 : Int32)).toNatClampNeg (-1 : Int32)) ((1 : Int32)).toNatClampNeg (-1 : Int32)) ((2 : Int32)).toNatClampNeg (-1 : Int32)) ((3 : Int32)).toNatClampNeg (-1 : Int32)) ((4 : Int32)).toNatClampNeg (-1 : Int32))))) 4 (.inl (cs 0, 7, .inl (upd (upd (upd (upd (upd (upd (fun _ => 0) ((0 : Int32)).toNatClampNeg (-1 : Int32)) ((1 : Int32)).toNatClampNeg (-1 : Int32)) ((2 : Int32)).toNatClampNeg (-1 : Int32)) ((3 : Int32)).toNatClampNeg (-1 : Int32)) ((4 : Int32)).toNatClampNeg (-1 : Int32)) ((5 : Int32)).toNatClampNeg (-1 : Int32))))) 6 (.inl (cs 0, 7, .inl (upd (upd (upd (upd (upd (upd (fun _ => 0) ((0 : Int32)).toNatClampNeg (-1 : Int32)) ((1 : Int32)).toNatClampNeg (-1 : Int32)) ((2 : Int32)).toNatClampNeg (-1 : Int32)) ((3 : Int32)).toNatClampNeg (-1 : Int32)) ((4 : Int32)).toNatClampNeg (-1 : Int32)) ((5 : Int32)).toNatClampNeg (-1 : Int32))))) 4 (.inl (cs 0, 7, .inl (upd (upd (upd (upd (upd (upd (upd (fun _ => 0) ((0 : Int32)).toNatClampNeg (-1 : Int32)) ((1 : Int32)).toNatClampNeg (-1 : Int32)) ((2 : Int32)).toNatClampNeg (-1 : Int32)) ((3 : Int32)).toNatClampNeg (-1 : Int32)) ((4 : Int32)).toNatClampNeg (-1 : Int32)) ((5 : Int32)).toNatClampNeg (-1 : Int32)) ((6 : Int32)).toNatClampNeg (-1 : Int32))))) 6 (.inl (cs 0, 7, .inl (upd (upd (upd (upd (upd (upd (upd (fun _ => 0) ((0 : Int32)).toNatClampNeg (-1 : Int32)) ((1 : Int32)).toNatClampNeg (-1 : Int32)) ((2 : Int32)).toNatClampNeg (-1 : Int32)) ((3 : Int32)).toNatClampNeg (-1 : Int32)) ((4 : Int32)).toNatClampNeg (-1 : Int32)) ((5 : Int32)).toNatClampNeg (-1 : Int32)) ((6 : Int32)).toNatClampNeg (-1 : Int32))))) 221 (.inl (cs 0, 5, .inl (upd (fun _ => 0) ((0 : Int32)).toNatClampNeg (-1 : Int32))))) 221 (.inl (cs 0, 5, .inl (upd (upd (fun _ => 0) ((0 : Int32)).toNatClampNeg (-1 : Int32)) ((1 : Int32)).toNatClampNeg (-1 : Int32))))) 221 (.inl (cs 0, 5, .inl (upd (upd (upd (fun _ => 0) ((0 : Int32)).toNatClampNeg (-1 : Int32)) ((1 : Int32)).toNatClampNeg (-1 : Int32)) ((2 : Int32)).toNatClampNeg (-1 : Int32))))) 221 (.inl (cs 0, 5, .inl (upd (upd (upd (upd (fun _ => 0) ((0 : Int32)).toNatClampNeg (-1 : Int32)) ((1 : Int32)).toNatClampNeg (-1 : Int32)) ((2 : Int32)).toNatClampNeg (-1 : Int32)) ((3 : Int32)).toNatClampNeg (-1 : Int32))))) 221 (.inl (cs 0, 5, .inl (upd (upd (upd (upd (upd (fun _ => 0) ((0 : Int32)).toNatClampNeg (-1 : Int32)) ((1 : Int32)).toNatClampNeg (-1 : Int32)) ((2 : Int32)).toNatClampNeg (-1 : Int32)) ((3 : Int32)).toNatClampNeg (-1 : Int32)) ((4 : Int32)).toNatClampNeg (-1 : Int32)))))
set_option maxHeartbeats 4000000 in
set_option maxRecDepth 100000 in
theorem c_X9_init {l : Launch} {D : va_G} {cs : Nat → ClassId} {b h0 : Nat} : pr_Mc l D cs yX9_init cX9_init 2 rm_X9_init b h0 9 [] [.int 0, .null, .null, .null, .int 0, .null, .null, .null, .null, .int 0, .null, .null, .null, .int 0, .null, .null, .null, .null, .null, .null, .null, .null, .null, .null, .null, .int 0, .null, .null, .null, .null, .null, .null, .int 0, .int 0, .int 0, .int 0, .int 0, .null, .null, .null, .int 0, .int 0] 230 (kF_X9_init cs b) [.int 0, .ref (b + 0), .ref (b + 1), .ref (b + 2), .int 0, .ref (b + 3), .ref (b + 4), .ref (b + 5), .ref (b + 6), .int (1 : Int32), .ref (b + 7), .ref (b + 8), .ref (b + 9), .int 0, .ref (b + 10), .ref (b + 11), .ref (b + 12), .ref (b + 13), .ref (b + 14), .ref (b + 15), .ref (b + 16), .ref (b + 57), .ref (b + 98), .ref (b + 139), .ref (b + 180), .int 0, .ref (b + 221), .ref (b + 222), .ref (b + 223), .ref (b + 224), .ref (b + 225), .ref (b + 226), .int 0, .int (5 : Int32), .int 0, .int 0, .int 0, .ref (b + 227), .ref (b + 228), .ref (b + 229), .int 0, .int 0] 230 2531 := by
  refine Met.ofW (cc := cX9_init) (maxL := 2) (ret := none) (by decide) rfl ?_
  intro p e s m args below meth c s₁ B hml hv
  obtain ⟨rfl, hG, hK⟩ := hv
  have C : pr_C RX9 cX9_init 2 none D cs p s m [.ref h0].toArray meth c := pr_C.of B hml hK
  have hin : meth.name = "<init>" := (name_of_methodNamed B.named B.method).1
  have hS : va_S (pr_A h0 b) s.heap s.heap [] := va_S.rf
  have hl := lv_entry ([.ref h0]) (n := 2) (Nat.le_of_ble_eq_true rfl)
  rw [lg_entry_eq]
  generalize (lg_sl ([.ref h0]) ++ List.replicate (2 - (lg_sl ([.ref h0])).length) Slot.unset).toArray = ls at hl ⊢
  have hl : lv_has ls 2 [(0, .ref h0)] := hl
  obtain ⟨hx, hb, hml, hown, hts, hK, hr, hlocks⟩ := id C
  refine lv_aload_n hx hb dX9_init_0 rfl (lv_at hl 0 rfl) ?_
  refine W.objInit hx hb hown (hts _ (pr_in4 _ (List.mem_of_getElem? (i := 10) rfl))) (hts _ (pr_in1 _ (List.mem_of_getElem? (i := 10) rfl))) (hts _ (pr_in1 _ (List.mem_of_getElem? (i := 11) rfl))) rfl (by rw [hml]; exact hl.1) rfl dX9_init_1 (Nat.le_of_ble_eq_true rfl) (Nat.le_of_ble_eq_true rfl) ?_
  refine W.eq (g2 := F0 m 4 ls []) rfl ?_
  refine lv_aload_n hx hb dX9_init_4 rfl (lv_at hl 0 rfl) ?_
  refine lv_bipush (v := (60 : Int32)) hx hb dX9_init_5 (by decide) ?_
  refine kc_newi C hG hS (N' := 60) (pr_in1 _ (List.mem_of_getElem? (i := 16) rfl)) (by decide) (by decide) (by decide) (Nat.le_of_ble_eq_true rfl) (Nat.le_of_ble_eq_true rfl) dX9_init_7 (N1 := 1) rfl (fun H hG hS => ?_)
  refine kc_putF C hin hG hS rfl inlX9 tyX9 tyX9_ok nmX9 1 (by omega) (pr_in4 _ (List.mem_of_getElem? (i := 11) rfl)) rfl rfl rfl rfl rfl (Nat.le_of_ble_eq_true rfl) dX9_init_9 (fs' := [.int 0, .ref (b + 0), .null, .null, .int 0, .null, .null, .null, .null, .int 0, .null, .null, .null, .int 0, .null, .null, .null, .null, .null, .null, .null, .null, .null, .null, .null, .int 0, .null, .null, .null, .null, .null, .null, .int 0, .int 0, .int 0, .int 0, .int 0, .null, .null, .null, .int 0, .int 0]) rfl (fun H locs hG hS => ?_)
  refine lv_aload_n hx hb dX9_init_12 rfl (lv_at hl 0 rfl) ?_
  refine lv_bipush (v := (60 : Int32)) hx hb dX9_init_13 (by decide) ?_
  refine kc_newi C hG hS (N' := 60) (pr_in1 _ (List.mem_of_getElem? (i := 16) rfl)) (by decide) (by decide) (by decide) (Nat.le_of_ble_eq_true rfl) (Nat.le_of_ble_eq_true rfl) dX9_init_15 (N1 := 2) rfl (fun H hG hS => ?_)
  refine kc_putF C hin hG hS rfl inlX9 tyX9 tyX9_ok nmX9 2 (by omega) (pr_in4 _ (List.mem_of_getElem? (i := 12) rfl)) rfl rfl rfl rfl rfl (Nat.le_of_ble_eq_true rfl) dX9_init_17 (fs' := [.int 0, .ref (b + 0), .ref (b + 1), .null, .int 0, .null, .null, .null, .null, .int 0, .null, .null, .null, .int 0, .null, .null, .null, .null, .null, .null, .null, .null, .null, .null, .null, .int 0, .null, .null, .null, .null, .null, .null, .int 0, .int 0, .int 0, .int 0, .int 0, .null, .null, .null, .int 0, .int 0]) rfl (fun H locs hG hS => ?_)
  refine lv_aload_n hx hb dX9_init_20 rfl (lv_at hl 0 rfl) ?_
  refine lv_bipush (v := (60 : Int32)) hx hb dX9_init_21 (by decide) ?_
  refine kc_newi C hG hS (N' := 60) (pr_in1 _ (List.mem_of_getElem? (i := 16) rfl)) (by decide) (by decide) (by decide) (Nat.le_of_ble_eq_true rfl) (Nat.le_of_ble_eq_true rfl) dX9_init_23 (N1 := 3) rfl (fun H hG hS => ?_)
  refine kc_putF C hin hG hS rfl inlX9 tyX9 tyX9_ok nmX9 3 (by omega) (pr_in4 _ (List.mem_of_getElem? (i := 13) rfl)) rfl rfl rfl rfl rfl (Nat.le_of_ble_eq_true rfl) dX9_init_25 (fs' := [.int 0, .ref (b + 0), .ref (b + 1), .ref (b + 2), .int 0, .null, .null, .null, .null, .int 0, .null, .null, .null, .int 0, .null, .null, .null, .null, .null, .null, .null, .null, .null, .null, .null, .int 0, .null, .null, .null, .null, .null, .null, .int 0, .int 0, .int 0, .int 0, .int 0, .null, .null, .null, .int 0, .int 0]) rfl (fun H locs hG hS => ?_)
  refine lv_aload_n hx hb dX9_init_28 rfl (lv_at hl 0 rfl) ?_
  refine lv_iconst (v := (5 : Int32)) hx hb dX9_init_29 (by decide) ?_
  refine kc_newi C hG hS (N' := 5) (pr_in1 _ (List.mem_of_getElem? (i := 16) rfl)) (by decide) (by decide) (by decide) (Nat.le_of_ble_eq_true rfl) (Nat.le_of_ble_eq_true rfl) dX9_init_30 (N1 := 4) rfl (fun H hG hS => ?_)
  refine kc_putF C hin hG hS rfl inlX9 tyX9 tyX9_ok nmX9 5 (by omega) (pr_in4 _ (List.mem_of_getElem? (i := 14) rfl)) rfl rfl rfl rfl rfl (Nat.le_of_ble_eq_true rfl) dX9_init_32 (fs' := [.int 0, .ref (b + 0), .ref (b + 1), .ref (b + 2), .int 0, .ref (b + 3), .null, .null, .null, .int 0, .null, .null, .null, .int 0, .null, .null, .null, .null, .null, .null, .null, .null, .null, .null, .null, .int 0, .null, .null, .null, .null, .null, .null, .int 0, .int 0, .int 0, .int 0, .int 0, .null, .null, .null, .int 0, .int 0]) rfl (fun H locs hG hS => ?_)
  refine lv_aload_n hx hb dX9_init_35 rfl (lv_at hl 0 rfl) ?_
  refine lv_bipush (v := (7 : Int32)) hx hb dX9_init_36 (by decide) ?_
  refine kc_newi C hG hS (N' := 7) (pr_in1 _ (List.mem_of_getElem? (i := 16) rfl)) (by decide) (by decide) (by decide) (Nat.le_of_ble_eq_true rfl) (Nat.le_of_ble_eq_true rfl) dX9_init_38 (N1 := 5) rfl (fun H hG hS => ?_)
  refine kc_putF C hin hG hS rfl inlX9 tyX9 tyX9_ok nmX9 6 (by omega) (pr_in4 _ (List.mem_of_getElem? (i := 15) rfl)) rfl rfl rfl rfl rfl (Nat.le_of_ble_eq_true rfl) dX9_init_40 (fs' := [.int 0, .ref (b + 0), .ref (b + 1), .ref (b + 2), .int 0, .ref (b + 3), .ref (b + 4), .null, .null, .int 0, .null, .null, .null, .int 0, .null, .null, .null, .null, .null, .null, .null, .null, .null, .null, .null, .int 0, .null, .null, .null, .null, .null, .null, .int 0, .int 0, .int 0, .int 0, .int 0, .null, .null, .null, .int 0, .int 0]) rfl (fun H locs hG hS => ?_)
  refine lv_aload_n hx hb dX9_init_43 rfl (lv_at hl 0 rfl) ?_
  refine lv_bipush (v := (7 : Int32)) hx hb dX9_init_44 (by decide) ?_
  refine kc_newi C hG hS (N' := 7) (pr_in1 _ (List.mem_of_getElem? (i := 16) rfl)) (by decide) (by decide) (by decide) (Nat.le_of_ble_eq_true rfl) (Nat.le_of_ble_eq_true rfl) dX9_init_46 (N1 := 6) rfl (fun H hG hS => ?_)
  refine kc_putF C hin hG hS rfl inlX9 tyX9 tyX9_ok nmX9 7 (by omega) (pr_in4 _ (List.mem_of_getElem? (i := 16) rfl)) rfl rfl rfl rfl rfl (Nat.le_of_ble_eq_true rfl) dX9_init_48 (fs' := [.int 0, .ref (b + 0), .ref (b + 1), .ref (b + 2), .int 0, .ref (b + 3), .ref (b + 4), .ref (b + 5), .null, .int 0, .null, .null, .null, .int 0, .null, .null, .null, .null, .null, .null, .null, .null, .null, .null, .null, .int 0, .null, .null, .null, .null, .null, .null, .int 0, .int 0, .int 0, .int 0, .int 0, .null, .null, .null, .int 0, .int 0]) rfl (fun H locs hG hS => ?_)
  refine lv_aload_n hx hb dX9_init_51 rfl (lv_at hl 0 rfl) ?_
  refine lv_bipush (v := (7 : Int32)) hx hb dX9_init_52 (by decide) ?_
  refine kc_newi C hG hS (N' := 7) (pr_in1 _ (List.mem_of_getElem? (i := 16) rfl)) (by decide) (by decide) (by decide) (Nat.le_of_ble_eq_true rfl) (Nat.le_of_ble_eq_true rfl) dX9_init_54 (N1 := 7) rfl (fun H hG hS => ?_)
  refine kc_putF C hin hG hS rfl inlX9 tyX9 tyX9_ok nmX9 8 (by omega) (pr_in4 _ (List.mem_of_getElem? (i := 17) rfl)) rfl rfl rfl rfl rfl (Nat.le_of_ble_eq_true rfl) dX9_init_56 (fs' := [.int 0, .ref (b + 0), .ref (b + 1), .ref (b + 2), .int 0, .ref (b + 3), .ref (b + 4), .ref (b + 5), .ref (b + 6), .int 0, .null, .null, .null, .int 0, .null, .null, .null, .null, .null, .null, .null, .null, .null, .null, .null, .int 0, .null, .null, .null, .null, .null, .null, .int 0, .int 0, .int 0, .int 0, .int 0, .null, .null, .null, .int 0, .int 0]) rfl (fun H locs hG hS => ?_)
  refine lv_aload_n hx hb dX9_init_59 rfl (lv_at hl 0 rfl) ?_
  refine lv_iconst (v := (1 : Int32)) hx hb dX9_init_60 (by decide) ?_
  refine kc_put C hG hS rfl inlX9 tyX9 tyX9_ok nmX9 9 (by omega) (pr_in4 _ (List.mem_of_getElem? (i := 18) rfl)) rfl rfl rfl rfl (Nat.le_of_ble_eq_true rfl) dX9_init_61 (fs' := [.int 0, .ref (b + 0), .ref (b + 1), .ref (b + 2), .int 0, .ref (b + 3), .ref (b + 4), .ref (b + 5), .ref (b + 6), .int (1 : Int32), .null, .null, .null, .int 0, .null, .null, .null, .null, .null, .null, .null, .null, .null, .null, .null, .int 0, .null, .null, .null, .null, .null, .null, .int 0, .int 0, .int 0, .int 0, .int 0, .null, .null, .null, .int 0, .int 0]) rfl (fun H locs hG hS => ?_)
  refine lv_aload_n hx hb dX9_init_64 rfl (lv_at hl 0 rfl) ?_
  refine lv_bipush (v := (20 : Int32)) hx hb dX9_init_65 (by decide) ?_
  refine kc_newi C hG hS (N' := 20) (pr_in1 _ (List.mem_of_getElem? (i := 16) rfl)) (by decide) (by decide) (by decide) (Nat.le_of_ble_eq_true rfl) (Nat.le_of_ble_eq_true rfl) dX9_init_67 (N1 := 8) rfl (fun H hG hS => ?_)
  refine kc_putF C hin hG hS rfl inlX9 tyX9 tyX9_ok nmX9 10 (by omega) (pr_in4 _ (List.mem_of_getElem? (i := 19) rfl)) rfl rfl rfl rfl rfl (Nat.le_of_ble_eq_true rfl) dX9_init_69 (fs' := [.int 0, .ref (b + 0), .ref (b + 1), .ref (b + 2), .int 0, .ref (b + 3), .ref (b + 4), .ref (b + 5), .ref (b + 6), .int (1 : Int32), .ref (b + 7), .null, .null, .int 0, .null, .null, .null, .null, .null, .null, .null, .null, .null, .null, .null, .int 0, .null, .null, .null, .null, .null, .null, .int 0, .int 0, .int 0, .int 0, .int 0, .null, .null, .null, .int 0, .int 0]) rfl (fun H locs hG hS => ?_)
  refine lv_aload_n hx hb dX9_init_72 rfl (lv_at hl 0 rfl) ?_
  refine lv_bipush (v := (20 : Int32)) hx hb dX9_init_73 (by decide) ?_
  refine kc_newi C hG hS (N' := 20) (pr_in1 _ (List.mem_of_getElem? (i := 16) rfl)) (by decide) (by decide) (by decide) (Nat.le_of_ble_eq_true rfl) (Nat.le_of_ble_eq_true rfl) dX9_init_75 (N1 := 9) rfl (fun H hG hS => ?_)
  refine kc_putF C hin hG hS rfl inlX9 tyX9 tyX9_ok nmX9 11 (by omega) (pr_in4 _ (List.mem_of_getElem? (i := 20) rfl)) rfl rfl rfl rfl rfl (Nat.le_of_ble_eq_true rfl) dX9_init_77 (fs' := [.int 0, .ref (b + 0), .ref (b + 1), .ref (b + 2), .int 0, .ref (b + 3), .ref (b + 4), .ref (b + 5), .ref (b + 6), .int (1 : Int32), .ref (b + 7), .ref (b + 8), .null, .int 0, .null, .null, .null, .null, .null, .null, .null, .null, .null, .null, .null, .int 0, .null, .null, .null, .null, .null, .null, .int 0, .int 0, .int 0, .int 0, .int 0, .null, .null, .null, .int 0, .int 0]) rfl (fun H locs hG hS => ?_)
  refine lv_aload_n hx hb dX9_init_80 rfl (lv_at hl 0 rfl) ?_
  refine lv_bipush (v := (20 : Int32)) hx hb dX9_init_81 (by decide) ?_
  refine kc_newi C hG hS (N' := 20) (pr_in1 _ (List.mem_of_getElem? (i := 16) rfl)) (by decide) (by decide) (by decide) (Nat.le_of_ble_eq_true rfl) (Nat.le_of_ble_eq_true rfl) dX9_init_83 (N1 := 10) rfl (fun H hG hS => ?_)
  refine kc_putF C hin hG hS rfl inlX9 tyX9 tyX9_ok nmX9 12 (by omega) (pr_in4 _ (List.mem_of_getElem? (i := 21) rfl)) rfl rfl rfl rfl rfl (Nat.le_of_ble_eq_true rfl) dX9_init_85 (fs' := [.int 0, .ref (b + 0), .ref (b + 1), .ref (b + 2), .int 0, .ref (b + 3), .ref (b + 4), .ref (b + 5), .ref (b + 6), .int (1 : Int32), .ref (b + 7), .ref (b + 8), .ref (b + 9), .int 0, .null, .null, .null, .null, .null, .null, .null, .null, .null, .null, .null, .int 0, .null, .null, .null, .null, .null, .null, .int 0, .int 0, .int 0, .int 0, .int 0, .null, .null, .null, .int 0, .int 0]) rfl (fun H locs hG hS => ?_)
  refine lv_aload_n hx hb dX9_init_88 rfl (lv_at hl 0 rfl) ?_
  refine lv_bipush (v := (40 : Int32)) hx hb dX9_init_89 (by decide) ?_
  refine kc_newi C hG hS (N' := 40) (pr_in1 _ (List.mem_of_getElem? (i := 16) rfl)) (by decide) (by decide) (by decide) (Nat.le_of_ble_eq_true rfl) (Nat.le_of_ble_eq_true rfl) dX9_init_91 (N1 := 11) rfl (fun H hG hS => ?_)
  refine kc_putF C hin hG hS rfl inlX9 tyX9 tyX9_ok nmX9 14 (by omega) (pr_in4 _ (List.mem_of_getElem? (i := 22) rfl)) rfl rfl rfl rfl rfl (Nat.le_of_ble_eq_true rfl) dX9_init_93 (fs' := [.int 0, .ref (b + 0), .ref (b + 1), .ref (b + 2), .int 0, .ref (b + 3), .ref (b + 4), .ref (b + 5), .ref (b + 6), .int (1 : Int32), .ref (b + 7), .ref (b + 8), .ref (b + 9), .int 0, .ref (b + 10), .null, .null, .null, .null, .null, .null, .null, .null, .null, .null, .int 0, .null, .null, .null, .null, .null, .null, .int 0, .int 0, .int 0, .int 0, .int 0, .null, .null, .null, .int 0, .int 0]) rfl (fun H locs hG hS => ?_)
  refine lv_aload_n hx hb dX9_init_96 rfl (lv_at hl 0 rfl) ?_
  refine lv_bipush (v := (40 : Int32)) hx hb dX9_init_97 (by decide) ?_
  refine kc_newi C hG hS (N' := 40) (pr_in1 _ (List.mem_of_getElem? (i := 16) rfl)) (by decide) (by decide) (by decide) (Nat.le_of_ble_eq_true rfl) (Nat.le_of_ble_eq_true rfl) dX9_init_99 (N1 := 12) rfl (fun H hG hS => ?_)
  refine kc_putF C hin hG hS rfl inlX9 tyX9 tyX9_ok nmX9 15 (by omega) (pr_in4 _ (List.mem_of_getElem? (i := 23) rfl)) rfl rfl rfl rfl rfl (Nat.le_of_ble_eq_true rfl) dX9_init_101 (fs' := [.int 0, .ref (b + 0), .ref (b + 1), .ref (b + 2), .int 0, .ref (b + 3), .ref (b + 4), .ref (b + 5), .ref (b + 6), .int (1 : Int32), .ref (b + 7), .ref (b + 8), .ref (b + 9), .int 0, .ref (b + 10), .ref (b + 11), .null, .null, .null, .null, .null, .null, .null, .null, .null, .int 0, .null, .null, .null, .null, .null, .null, .int 0, .int 0, .int 0, .int 0, .int 0, .null, .null, .null, .int 0, .int 0]) rfl (fun H locs hG hS => ?_)
  refine lv_aload_n hx hb dX9_init_104 rfl (lv_at hl 0 rfl) ?_
  refine lv_bipush (v := (40 : Int32)) hx hb dX9_init_105 (by decide) ?_
  refine kc_newi C hG hS (N' := 40) (pr_in1 _ (List.mem_of_getElem? (i := 16) rfl)) (by decide) (by decide) (by decide) (Nat.le_of_ble_eq_true rfl) (Nat.le_of_ble_eq_true rfl) dX9_init_107 (N1 := 13) rfl (fun H hG hS => ?_)
  refine kc_putF C hin hG hS rfl inlX9 tyX9 tyX9_ok nmX9 16 (by omega) (pr_in5 _ (List.mem_of_getElem? (i := 0) rfl)) rfl rfl rfl rfl rfl (Nat.le_of_ble_eq_true rfl) dX9_init_109 (fs' := [.int 0, .ref (b + 0), .ref (b + 1), .ref (b + 2), .int 0, .ref (b + 3), .ref (b + 4), .ref (b + 5), .ref (b + 6), .int (1 : Int32), .ref (b + 7), .ref (b + 8), .ref (b + 9), .int 0, .ref (b + 10), .ref (b + 11), .ref (b + 12), .null, .null, .null, .null, .null, .null, .null, .null, .int 0, .null, .null, .null, .null, .null, .null, .int 0, .int 0, .int 0, .int 0, .int 0, .null, .null, .null, .int 0, .int 0]) rfl (fun H locs hG hS => ?_)
  refine lv_aload_n hx hb dX9_init_112 rfl (lv_at hl 0 rfl) ?_
  refine lv_bipush (v := (40 : Int32)) hx hb dX9_init_113 (by decide) ?_
  refine kc_newi C hG hS (N' := 40) (pr_in1 _ (List.mem_of_getElem? (i := 16) rfl)) (by decide) (by decide) (by decide) (Nat.le_of_ble_eq_true rfl) (Nat.le_of_ble_eq_true rfl) dX9_init_115 (N1 := 14) rfl (fun H hG hS => ?_)
  refine kc_putF C hin hG hS rfl inlX9 tyX9 tyX9_ok nmX9 17 (by omega) (pr_in5 _ (List.mem_of_getElem? (i := 1) rfl)) rfl rfl rfl rfl rfl (Nat.le_of_ble_eq_true rfl) dX9_init_117 (fs' := [.int 0, .ref (b + 0), .ref (b + 1), .ref (b + 2), .int 0, .ref (b + 3), .ref (b + 4), .ref (b + 5), .ref (b + 6), .int (1 : Int32), .ref (b + 7), .ref (b + 8), .ref (b + 9), .int 0, .ref (b + 10), .ref (b + 11), .ref (b + 12), .ref (b + 13), .null, .null, .null, .null, .null, .null, .null, .int 0, .null, .null, .null, .null, .null, .null, .int 0, .int 0, .int 0, .int 0, .int 0, .null, .null, .null, .int 0, .int 0]) rfl (fun H locs hG hS => ?_)
  refine lv_aload_n hx hb dX9_init_120 rfl (lv_at hl 0 rfl) ?_
  refine lv_bipush (v := (40 : Int32)) hx hb dX9_init_121 (by decide) ?_
  refine kc_newi C hG hS (N' := 40) (pr_in1 _ (List.mem_of_getElem? (i := 16) rfl)) (by decide) (by decide) (by decide) (Nat.le_of_ble_eq_true rfl) (Nat.le_of_ble_eq_true rfl) dX9_init_123 (N1 := 15) rfl (fun H hG hS => ?_)
  refine kc_putF C hin hG hS rfl inlX9 tyX9 tyX9_ok nmX9 18 (by omega) (pr_in5 _ (List.mem_of_getElem? (i := 2) rfl)) rfl rfl rfl rfl rfl (Nat.le_of_ble_eq_true rfl) dX9_init_125 (fs' := [.int 0, .ref (b + 0), .ref (b + 1), .ref (b + 2), .int 0, .ref (b + 3), .ref (b + 4), .ref (b + 5), .ref (b + 6), .int (1 : Int32), .ref (b + 7), .ref (b + 8), .ref (b + 9), .int 0, .ref (b + 10), .ref (b + 11), .ref (b + 12), .ref (b + 13), .ref (b + 14), .null, .null, .null, .null, .null, .null, .int 0, .null, .null, .null, .null, .null, .null, .int 0, .int 0, .int 0, .int 0, .int 0, .null, .null, .null, .int 0, .int 0]) rfl (fun H locs hG hS => ?_)
  refine lv_aload_n hx hb dX9_init_128 rfl (lv_at hl 0 rfl) ?_
  refine lv_bipush (v := (40 : Int32)) hx hb dX9_init_129 (by decide) ?_
  refine kc_newi C hG hS (N' := 40) (pr_in1 _ (List.mem_of_getElem? (i := 16) rfl)) (by decide) (by decide) (by decide) (Nat.le_of_ble_eq_true rfl) (Nat.le_of_ble_eq_true rfl) dX9_init_131 (N1 := 16) rfl (fun H hG hS => ?_)
  refine kc_putF C hin hG hS rfl inlX9 tyX9 tyX9_ok nmX9 19 (by omega) (pr_in5 _ (List.mem_of_getElem? (i := 3) rfl)) rfl rfl rfl rfl rfl (Nat.le_of_ble_eq_true rfl) dX9_init_133 (fs' := [.int 0, .ref (b + 0), .ref (b + 1), .ref (b + 2), .int 0, .ref (b + 3), .ref (b + 4), .ref (b + 5), .ref (b + 6), .int (1 : Int32), .ref (b + 7), .ref (b + 8), .ref (b + 9), .int 0, .ref (b + 10), .ref (b + 11), .ref (b + 12), .ref (b + 13), .ref (b + 14), .ref (b + 15), .null, .null, .null, .null, .null, .int 0, .null, .null, .null, .null, .null, .null, .int 0, .int 0, .int 0, .int 0, .int 0, .null, .null, .null, .int 0, .int 0]) rfl (fun H locs hG hS => ?_)
  refine lv_aload_n hx hb dX9_init_136 rfl (lv_at hl 0 rfl) ?_
  refine lv_bipush (v := (40 : Int32)) hx hb dX9_init_137 (by decide) ?_
  refine lv_iconst (v := (5 : Int32)) hx hb dX9_init_139 (by decide) ?_
  refine kc_mna C hG hS (N' := 40) (K' := 5) (pr_in5 _ (List.mem_of_getElem? (i := 4) rfl)) (pr_in1 _ (List.mem_of_getElem? (i := 16) rfl)) (by decide) (by decide) (by decide) (by decide) (by decide) (by decide) (Nat.le_of_ble_eq_true rfl) (Nat.le_of_ble_eq_true rfl) dX9_init_140 (N1 := 57) rfl (fun H hG hS => ?_)
  refine kc_putF C hin hG hS rfl inlX9 tyX9 tyX9_ok nmX9 20 (by omega) (pr_in5 _ (List.mem_of_getElem? (i := 5) rfl)) rfl rfl rfl rfl rfl (Nat.le_of_ble_eq_true rfl) dX9_init_144 (fs' := [.int 0, .ref (b + 0), .ref (b + 1), .ref (b + 2), .int 0, .ref (b + 3), .ref (b + 4), .ref (b + 5), .ref (b + 6), .int (1 : Int32), .ref (b + 7), .ref (b + 8), .ref (b + 9), .int 0, .ref (b + 10), .ref (b + 11), .ref (b + 12), .ref (b + 13), .ref (b + 14), .ref (b + 15), .ref (b + 16), .null, .null, .null, .null, .int 0, .null, .null, .null, .null, .null, .null, .int 0, .int 0, .int 0, .int 0, .int 0, .null, .null, .null, .int 0, .int 0]) rfl (fun H locs hG hS => ?_)
  refine lv_aload_n hx hb dX9_init_147 rfl (lv_at hl 0 rfl) ?_
  refine lv_bipush (v := (40 : Int32)) hx hb dX9_init_148 (by decide) ?_
  refine lv_iconst (v := (5 : Int32)) hx hb dX9_init_150 (by decide) ?_
  refine kc_mna C hG hS (N' := 40) (K' := 5) (pr_in5 _ (List.mem_of_getElem? (i := 4) rfl)) (pr_in1 _ (List.mem_of_getElem? (i := 16) rfl)) (by decide) (by decide) (by decide) (by decide) (by decide) (by decide) (Nat.le_of_ble_eq_true rfl) (Nat.le_of_ble_eq_true rfl) dX9_init_151 (N1 := 98) rfl (fun H hG hS => ?_)
  refine kc_putF C hin hG hS rfl inlX9 tyX9 tyX9_ok nmX9 21 (by omega) (pr_in5 _ (List.mem_of_getElem? (i := 6) rfl)) rfl rfl rfl rfl rfl (Nat.le_of_ble_eq_true rfl) dX9_init_155 (fs' := [.int 0, .ref (b + 0), .ref (b + 1), .ref (b + 2), .int 0, .ref (b + 3), .ref (b + 4), .ref (b + 5), .ref (b + 6), .int (1 : Int32), .ref (b + 7), .ref (b + 8), .ref (b + 9), .int 0, .ref (b + 10), .ref (b + 11), .ref (b + 12), .ref (b + 13), .ref (b + 14), .ref (b + 15), .ref (b + 16), .ref (b + 57), .null, .null, .null, .int 0, .null, .null, .null, .null, .null, .null, .int 0, .int 0, .int 0, .int 0, .int 0, .null, .null, .null, .int 0, .int 0]) rfl (fun H locs hG hS => ?_)
  refine lv_aload_n hx hb dX9_init_158 rfl (lv_at hl 0 rfl) ?_
  refine lv_bipush (v := (40 : Int32)) hx hb dX9_init_159 (by decide) ?_
  refine lv_iconst (v := (5 : Int32)) hx hb dX9_init_161 (by decide) ?_
  refine kc_mna C hG hS (N' := 40) (K' := 5) (pr_in5 _ (List.mem_of_getElem? (i := 4) rfl)) (pr_in1 _ (List.mem_of_getElem? (i := 16) rfl)) (by decide) (by decide) (by decide) (by decide) (by decide) (by decide) (Nat.le_of_ble_eq_true rfl) (Nat.le_of_ble_eq_true rfl) dX9_init_162 (N1 := 139) rfl (fun H hG hS => ?_)
  refine kc_putF C hin hG hS rfl inlX9 tyX9 tyX9_ok nmX9 22 (by omega) (pr_in5 _ (List.mem_of_getElem? (i := 7) rfl)) rfl rfl rfl rfl rfl (Nat.le_of_ble_eq_true rfl) dX9_init_166 (fs' := [.int 0, .ref (b + 0), .ref (b + 1), .ref (b + 2), .int 0, .ref (b + 3), .ref (b + 4), .ref (b + 5), .ref (b + 6), .int (1 : Int32), .ref (b + 7), .ref (b + 8), .ref (b + 9), .int 0, .ref (b + 10), .ref (b + 11), .ref (b + 12), .ref (b + 13), .ref (b + 14), .ref (b + 15), .ref (b + 16), .ref (b + 57), .ref (b + 98), .null, .null, .int 0, .null, .null, .null, .null, .null, .null, .int 0, .int 0, .int 0, .int 0, .int 0, .null, .null, .null, .int 0, .int 0]) rfl (fun H locs hG hS => ?_)
  refine lv_aload_n hx hb dX9_init_169 rfl (lv_at hl 0 rfl) ?_
  refine lv_bipush (v := (40 : Int32)) hx hb dX9_init_170 (by decide) ?_
  refine lv_iconst (v := (5 : Int32)) hx hb dX9_init_172 (by decide) ?_
  refine kc_mna C hG hS (N' := 40) (K' := 5) (pr_in5 _ (List.mem_of_getElem? (i := 4) rfl)) (pr_in1 _ (List.mem_of_getElem? (i := 16) rfl)) (by decide) (by decide) (by decide) (by decide) (by decide) (by decide) (Nat.le_of_ble_eq_true rfl) (Nat.le_of_ble_eq_true rfl) dX9_init_173 (N1 := 180) rfl (fun H hG hS => ?_)
  refine kc_putF C hin hG hS rfl inlX9 tyX9 tyX9_ok nmX9 23 (by omega) (pr_in5 _ (List.mem_of_getElem? (i := 8) rfl)) rfl rfl rfl rfl rfl (Nat.le_of_ble_eq_true rfl) dX9_init_177 (fs' := [.int 0, .ref (b + 0), .ref (b + 1), .ref (b + 2), .int 0, .ref (b + 3), .ref (b + 4), .ref (b + 5), .ref (b + 6), .int (1 : Int32), .ref (b + 7), .ref (b + 8), .ref (b + 9), .int 0, .ref (b + 10), .ref (b + 11), .ref (b + 12), .ref (b + 13), .ref (b + 14), .ref (b + 15), .ref (b + 16), .ref (b + 57), .ref (b + 98), .ref (b + 139), .null, .int 0, .null, .null, .null, .null, .null, .null, .int 0, .int 0, .int 0, .int 0, .int 0, .null, .null, .null, .int 0, .int 0]) rfl (fun H locs hG hS => ?_)
  refine lv_aload_n hx hb dX9_init_180 rfl (lv_at hl 0 rfl) ?_
  refine lv_bipush (v := (40 : Int32)) hx hb dX9_init_181 (by decide) ?_
  refine lv_iconst (v := (5 : Int32)) hx hb dX9_init_183 (by decide) ?_
  refine kc_mna C hG hS (N' := 40) (K' := 5) (pr_in5 _ (List.mem_of_getElem? (i := 4) rfl)) (pr_in1 _ (List.mem_of_getElem? (i := 16) rfl)) (by decide) (by decide) (by decide) (by decide) (by decide) (by decide) (Nat.le_of_ble_eq_true rfl) (Nat.le_of_ble_eq_true rfl) dX9_init_184 (N1 := 221) rfl (fun H hG hS => ?_)
  refine kc_putF C hin hG hS rfl inlX9 tyX9 tyX9_ok nmX9 24 (by omega) (pr_in5 _ (List.mem_of_getElem? (i := 9) rfl)) rfl rfl rfl rfl rfl (Nat.le_of_ble_eq_true rfl) dX9_init_188 (fs' := [.int 0, .ref (b + 0), .ref (b + 1), .ref (b + 2), .int 0, .ref (b + 3), .ref (b + 4), .ref (b + 5), .ref (b + 6), .int (1 : Int32), .ref (b + 7), .ref (b + 8), .ref (b + 9), .int 0, .ref (b + 10), .ref (b + 11), .ref (b + 12), .ref (b + 13), .ref (b + 14), .ref (b + 15), .ref (b + 16), .ref (b + 57), .ref (b + 98), .ref (b + 139), .ref (b + 180), .int 0, .null, .null, .null, .null, .null, .null, .int 0, .int 0, .int 0, .int 0, .int 0, .null, .null, .null, .int 0, .int 0]) rfl (fun H locs hG hS => ?_)
  refine lv_aload_n hx hb dX9_init_191 rfl (lv_at hl 0 rfl) ?_
  refine lv_iconst (v := (5 : Int32)) hx hb dX9_init_192 (by decide) ?_
  refine kc_newi C hG hS (N' := 5) (pr_in1 _ (List.mem_of_getElem? (i := 16) rfl)) (by decide) (by decide) (by decide) (Nat.le_of_ble_eq_true rfl) (Nat.le_of_ble_eq_true rfl) dX9_init_193 (N1 := 222) rfl (fun H hG hS => ?_)
  refine kc_putF C hin hG hS rfl inlX9 tyX9 tyX9_ok nmX9 26 (by omega) (pr_in5 _ (List.mem_of_getElem? (i := 10) rfl)) rfl rfl rfl rfl rfl (Nat.le_of_ble_eq_true rfl) dX9_init_195 (fs' := [.int 0, .ref (b + 0), .ref (b + 1), .ref (b + 2), .int 0, .ref (b + 3), .ref (b + 4), .ref (b + 5), .ref (b + 6), .int (1 : Int32), .ref (b + 7), .ref (b + 8), .ref (b + 9), .int 0, .ref (b + 10), .ref (b + 11), .ref (b + 12), .ref (b + 13), .ref (b + 14), .ref (b + 15), .ref (b + 16), .ref (b + 57), .ref (b + 98), .ref (b + 139), .ref (b + 180), .int 0, .ref (b + 221), .null, .null, .null, .null, .null, .int 0, .int 0, .int 0, .int 0, .int 0, .null, .null, .null, .int 0, .int 0]) rfl (fun H locs hG hS => ?_)
  refine lv_aload_n hx hb dX9_init_198 rfl (lv_at hl 0 rfl) ?_
  refine lv_iconst (v := (5 : Int32)) hx hb dX9_init_199 (by decide) ?_
  refine kc_newi C hG hS (N' := 5) (pr_in1 _ (List.mem_of_getElem? (i := 16) rfl)) (by decide) (by decide) (by decide) (Nat.le_of_ble_eq_true rfl) (Nat.le_of_ble_eq_true rfl) dX9_init_200 (N1 := 223) rfl (fun H hG hS => ?_)
  refine kc_putF C hin hG hS rfl inlX9 tyX9 tyX9_ok nmX9 27 (by omega) (pr_in5 _ (List.mem_of_getElem? (i := 11) rfl)) rfl rfl rfl rfl rfl (Nat.le_of_ble_eq_true rfl) dX9_init_202 (fs' := [.int 0, .ref (b + 0), .ref (b + 1), .ref (b + 2), .int 0, .ref (b + 3), .ref (b + 4), .ref (b + 5), .ref (b + 6), .int (1 : Int32), .ref (b + 7), .ref (b + 8), .ref (b + 9), .int 0, .ref (b + 10), .ref (b + 11), .ref (b + 12), .ref (b + 13), .ref (b + 14), .ref (b + 15), .ref (b + 16), .ref (b + 57), .ref (b + 98), .ref (b + 139), .ref (b + 180), .int 0, .ref (b + 221), .ref (b + 222), .null, .null, .null, .null, .int 0, .int 0, .int 0, .int 0, .int 0, .null, .null, .null, .int 0, .int 0]) rfl (fun H locs hG hS => ?_)
  refine lv_aload_n hx hb dX9_init_205 rfl (lv_at hl 0 rfl) ?_
  refine lv_sipush (v := (200 : Int32)) hx hb dX9_init_206 (by decide) ?_
  refine kc_newi C hG hS (N' := 200) (pr_in1 _ (List.mem_of_getElem? (i := 16) rfl)) (by decide) (by decide) (by decide) (Nat.le_of_ble_eq_true rfl) (Nat.le_of_ble_eq_true rfl) dX9_init_209 (N1 := 224) rfl (fun H hG hS => ?_)
  refine kc_putF C hin hG hS rfl inlX9 tyX9 tyX9_ok nmX9 28 (by omega) (pr_in5 _ (List.mem_of_getElem? (i := 12) rfl)) rfl rfl rfl rfl rfl (Nat.le_of_ble_eq_true rfl) dX9_init_211 (fs' := [.int 0, .ref (b + 0), .ref (b + 1), .ref (b + 2), .int 0, .ref (b + 3), .ref (b + 4), .ref (b + 5), .ref (b + 6), .int (1 : Int32), .ref (b + 7), .ref (b + 8), .ref (b + 9), .int 0, .ref (b + 10), .ref (b + 11), .ref (b + 12), .ref (b + 13), .ref (b + 14), .ref (b + 15), .ref (b + 16), .ref (b + 57), .ref (b + 98), .ref (b + 139), .ref (b + 180), .int 0, .ref (b + 221), .ref (b + 222), .ref (b + 223), .null, .null, .null, .int 0, .int 0, .int 0, .int 0, .int 0, .null, .null, .null, .int 0, .int 0]) rfl (fun H locs hG hS => ?_)
  refine lv_aload_n hx hb dX9_init_214 rfl (lv_at hl 0 rfl) ?_
  refine lv_sipush (v := (200 : Int32)) hx hb dX9_init_215 (by decide) ?_
  refine kc_newi C hG hS (N' := 200) (pr_in1 _ (List.mem_of_getElem? (i := 16) rfl)) (by decide) (by decide) (by decide) (Nat.le_of_ble_eq_true rfl) (Nat.le_of_ble_eq_true rfl) dX9_init_218 (N1 := 225) rfl (fun H hG hS => ?_)
  refine kc_putF C hin hG hS rfl inlX9 tyX9 tyX9_ok nmX9 29 (by omega) (pr_in5 _ (List.mem_of_getElem? (i := 13) rfl)) rfl rfl rfl rfl rfl (Nat.le_of_ble_eq_true rfl) dX9_init_220 (fs' := [.int 0, .ref (b + 0), .ref (b + 1), .ref (b + 2), .int 0, .ref (b + 3), .ref (b + 4), .ref (b + 5), .ref (b + 6), .int (1 : Int32), .ref (b + 7), .ref (b + 8), .ref (b + 9), .int 0, .ref (b + 10), .ref (b + 11), .ref (b + 12), .ref (b + 13), .ref (b + 14), .ref (b + 15), .ref (b + 16), .ref (b + 57), .ref (b + 98), .ref (b + 139), .ref (b + 180), .int 0, .ref (b + 221), .ref (b + 222), .ref (b + 223), .ref (b + 224), .null, .null, .int 0, .int 0, .int 0, .int 0, .int 0, .null, .null, .null, .int 0, .int 0]) rfl (fun H locs hG hS => ?_)
  refine lv_aload_n hx hb dX9_init_223 rfl (lv_at hl 0 rfl) ?_
  refine lv_sipush (v := (200 : Int32)) hx hb dX9_init_224 (by decide) ?_
  refine kc_newi C hG hS (N' := 200) (pr_in1 _ (List.mem_of_getElem? (i := 16) rfl)) (by decide) (by decide) (by decide) (Nat.le_of_ble_eq_true rfl) (Nat.le_of_ble_eq_true rfl) dX9_init_227 (N1 := 226) rfl (fun H hG hS => ?_)
  refine kc_putF C hin hG hS rfl inlX9 tyX9 tyX9_ok nmX9 30 (by omega) (pr_in5 _ (List.mem_of_getElem? (i := 14) rfl)) rfl rfl rfl rfl rfl (Nat.le_of_ble_eq_true rfl) dX9_init_229 (fs' := [.int 0, .ref (b + 0), .ref (b + 1), .ref (b + 2), .int 0, .ref (b + 3), .ref (b + 4), .ref (b + 5), .ref (b + 6), .int (1 : Int32), .ref (b + 7), .ref (b + 8), .ref (b + 9), .int 0, .ref (b + 10), .ref (b + 11), .ref (b + 12), .ref (b + 13), .ref (b + 14), .ref (b + 15), .ref (b + 16), .ref (b + 57), .ref (b + 98), .ref (b + 139), .ref (b + 180), .int 0, .ref (b + 221), .ref (b + 222), .ref (b + 223), .ref (b + 224), .ref (b + 225), .null, .int 0, .int 0, .int 0, .int 0, .int 0, .null, .null, .null, .int 0, .int 0]) rfl (fun H locs hG hS => ?_)
  refine lv_aload_n hx hb dX9_init_232 rfl (lv_at hl 0 rfl) ?_
  refine lv_sipush (v := (200 : Int32)) hx hb dX9_init_233 (by decide) ?_
  refine kc_newz C hG hS (N' := 200) (pr_in3 _ (List.mem_of_getElem? (i := 7) rfl)) (by decide) (by decide) (by decide) (Nat.le_of_ble_eq_true rfl) (Nat.le_of_ble_eq_true rfl) dX9_init_236 (N1 := 227) rfl (fun H hG hS => ?_)
  refine kc_putF C hin hG hS rfl inlX9 tyX9 tyX9_ok nmX9 31 (by omega) (pr_in5 _ (List.mem_of_getElem? (i := 15) rfl)) rfl rfl rfl rfl rfl (Nat.le_of_ble_eq_true rfl) dX9_init_238 (fs' := [.int 0, .ref (b + 0), .ref (b + 1), .ref (b + 2), .int 0, .ref (b + 3), .ref (b + 4), .ref (b + 5), .ref (b + 6), .int (1 : Int32), .ref (b + 7), .ref (b + 8), .ref (b + 9), .int 0, .ref (b + 10), .ref (b + 11), .ref (b + 12), .ref (b + 13), .ref (b + 14), .ref (b + 15), .ref (b + 16), .ref (b + 57), .ref (b + 98), .ref (b + 139), .ref (b + 180), .int 0, .ref (b + 221), .ref (b + 222), .ref (b + 223), .ref (b + 224), .ref (b + 225), .ref (b + 226), .int 0, .int 0, .int 0, .int 0, .int 0, .null, .null, .null, .int 0, .int 0]) rfl (fun H locs hG hS => ?_)
  refine lv_aload_n hx hb dX9_init_241 rfl (lv_at hl 0 rfl) ?_
  refine lv_iconst (v := (5 : Int32)) hx hb dX9_init_242 (by decide) ?_
  refine kc_put C hG hS rfl inlX9 tyX9 tyX9_ok nmX9 33 (by omega) (pr_in5 _ (List.mem_of_getElem? (i := 16) rfl)) rfl rfl rfl rfl (Nat.le_of_ble_eq_true rfl) dX9_init_243 (fs' := [.int 0, .ref (b + 0), .ref (b + 1), .ref (b + 2), .int 0, .ref (b + 3), .ref (b + 4), .ref (b + 5), .ref (b + 6), .int (1 : Int32), .ref (b + 7), .ref (b + 8), .ref (b + 9), .int 0, .ref (b + 10), .ref (b + 11), .ref (b + 12), .ref (b + 13), .ref (b + 14), .ref (b + 15), .ref (b + 16), .ref (b + 57), .ref (b + 98), .ref (b + 139), .ref (b + 180), .int 0, .ref (b + 221), .ref (b + 222), .ref (b + 223), .ref (b + 224), .ref (b + 225), .ref (b + 226), .int 0, .int (5 : Int32), .int 0, .int 0, .int 0, .null, .null, .null, .int 0, .int 0]) rfl (fun H locs hG hS => ?_)
  refine lv_aload_n hx hb dX9_init_246 rfl (lv_at hl 0 rfl) ?_
  refine lv_iconst (v := (5 : Int32)) hx hb dX9_init_247 (by decide) ?_
  refine kc_newi C hG hS (N' := 5) (pr_in1 _ (List.mem_of_getElem? (i := 16) rfl)) (by decide) (by decide) (by decide) (Nat.le_of_ble_eq_true rfl) (Nat.le_of_ble_eq_true rfl) dX9_init_248 (N1 := 228) rfl (fun H hG hS => ?_)
  refine kc_putF C hin hG hS rfl inlX9 tyX9 tyX9_ok nmX9 37 (by omega) (pr_in5 _ (List.mem_of_getElem? (i := 17) rfl)) rfl rfl rfl rfl rfl (Nat.le_of_ble_eq_true rfl) dX9_init_250 (fs' := [.int 0, .ref (b + 0), .ref (b + 1), .ref (b + 2), .int 0, .ref (b + 3), .ref (b + 4), .ref (b + 5), .ref (b + 6), .int (1 : Int32), .ref (b + 7), .ref (b + 8), .ref (b + 9), .int 0, .ref (b + 10), .ref (b + 11), .ref (b + 12), .ref (b + 13), .ref (b + 14), .ref (b + 15), .ref (b + 16), .ref (b + 57), .ref (b + 98), .ref (b + 139), .ref (b + 180), .int 0, .ref (b + 221), .ref (b + 222), .ref (b + 223), .ref (b + 224), .ref (b + 225), .ref (b + 226), .int 0, .int (5 : Int32), .int 0, .int 0, .int 0, .ref (b + 227), .null, .null, .int 0, .int 0]) rfl (fun H locs hG hS => ?_)
  refine lv_aload_n hx hb dX9_init_253 rfl (lv_at hl 0 rfl) ?_
  refine lv_iconst (v := (5 : Int32)) hx hb dX9_init_254 (by decide) ?_
  refine kc_newi C hG hS (N' := 5) (pr_in1 _ (List.mem_of_getElem? (i := 16) rfl)) (by decide) (by decide) (by decide) (Nat.le_of_ble_eq_true rfl) (Nat.le_of_ble_eq_true rfl) dX9_init_255 (N1 := 229) rfl (fun H hG hS => ?_)
  refine kc_putF C hin hG hS rfl inlX9 tyX9 tyX9_ok nmX9 38 (by omega) (pr_in5 _ (List.mem_of_getElem? (i := 18) rfl)) rfl rfl rfl rfl rfl (Nat.le_of_ble_eq_true rfl) dX9_init_257 (fs' := [.int 0, .ref (b + 0), .ref (b + 1), .ref (b + 2), .int 0, .ref (b + 3), .ref (b + 4), .ref (b + 5), .ref (b + 6), .int (1 : Int32), .ref (b + 7), .ref (b + 8), .ref (b + 9), .int 0, .ref (b + 10), .ref (b + 11), .ref (b + 12), .ref (b + 13), .ref (b + 14), .ref (b + 15), .ref (b + 16), .ref (b + 57), .ref (b + 98), .ref (b + 139), .ref (b + 180), .int 0, .ref (b + 221), .ref (b + 222), .ref (b + 223), .ref (b + 224), .ref (b + 225), .ref (b + 226), .int 0, .int (5 : Int32), .int 0, .int 0, .int 0, .ref (b + 227), .ref (b + 228), .null, .int 0, .int 0]) rfl (fun H locs hG hS => ?_)
  refine lv_aload_n hx hb dX9_init_260 rfl (lv_at hl 0 rfl) ?_
  refine lv_iconst (v := (5 : Int32)) hx hb dX9_init_261 (by decide) ?_
  refine kc_newi C hG hS (N' := 5) (pr_in1 _ (List.mem_of_getElem? (i := 16) rfl)) (by decide) (by decide) (by decide) (Nat.le_of_ble_eq_true rfl) (Nat.le_of_ble_eq_true rfl) dX9_init_262 (N1 := 230) rfl (fun H hG hS => ?_)
  refine kc_putF C hin hG hS rfl inlX9 tyX9 tyX9_ok nmX9 39 (by omega) (pr_in5 _ (List.mem_of_getElem? (i := 19) rfl)) rfl rfl rfl rfl rfl (Nat.le_of_ble_eq_true rfl) dX9_init_264 (fs' := [.int 0, .ref (b + 0), .ref (b + 1), .ref (b + 2), .int 0, .ref (b + 3), .ref (b + 4), .ref (b + 5), .ref (b + 6), .int (1 : Int32), .ref (b + 7), .ref (b + 8), .ref (b + 9), .int 0, .ref (b + 10), .ref (b + 11), .ref (b + 12), .ref (b + 13), .ref (b + 14), .ref (b + 15), .ref (b + 16), .ref (b + 57), .ref (b + 98), .ref (b + 139), .ref (b + 180), .int 0, .ref (b + 221), .ref (b + 222), .ref (b + 223), .ref (b + 224), .ref (b + 225), .ref (b + 226), .int 0, .int (5 : Int32), .int 0, .int 0, .int 0, .ref (b + 227), .ref (b + 228), .ref (b + 229), .int 0, .int 0]) rfl (fun H locs hG hS => ?_)
  refine lv_iconst (v := (0 : Int32)) hx hb dX9_init_267 (by decide) ?_
  refine lv_istore_n (lv' := [(1, .int (0 : Int32)), (0, .ref h0)]) hx hb dX9_init_268 rfl hl (by decide) rfl (fun ls hl => ?_)
  refine lv_iload_n hx hb dX9_init_269 rfl (lv_at hl 0 rfl) ?_
  refine lv_bipush (v := (7 : Int32)) hx hb dX9_init_270 (by decide) ?_
  refine lv_icmp_ge (tgt := 295) hx hb dX9_init_272 (by decide) (fun c9 => absurd c9 (by decide)) (fun _ => ?_)
  refine lv_aload_n hx hb dX9_init_275 rfl (lv_at hl 1 rfl) ?_
  refine kc_get C hG rfl inlX9 6 (by omega) (pr_in4 _ (List.mem_of_getElem? (i := 15) rfl)) rfl (v := .ref (b + 4)) rfl dX9_init_276 ?_
  refine lv_iload_n hx hb dX9_init_279 rfl (lv_at hl 0 rfl) ?_
  refine lv_iconst (v := (-1 : Int32)) hx hb dX9_init_280 (by decide) ?_
  refine kc_ast C hG hS 4 (by decide) (len := 7) (f := (fun _ => 0)) rfl (by unfold vp_in; decide) dX9_init_281 (fun H locs hG hS => ?_)
  refine lv_aload_n hx hb dX9_init_282 rfl (lv_at hl 1 rfl) ?_
  refine kc_get C hG rfl inlX9 8 (by omega) (pr_in4 _ (List.mem_of_getElem? (i := 17) rfl)) rfl (v := .ref (b + 6)) rfl dX9_init_283 ?_
  refine lv_iload_n hx hb dX9_init_286 rfl (lv_at hl 0 rfl) ?_
  refine lv_iconst (v := (-1 : Int32)) hx hb dX9_init_287 (by decide) ?_
  refine kc_ast C hG hS 6 (by decide) (len := 7) (f := (fun _ => 0)) rfl (by unfold vp_in; decide) dX9_init_288 (fun H locs hG hS => ?_)
  refine lv_iinc (v := (1 : Int32)) (lv' := [(1, .int (1 : Int32)), (0, .ref h0)]) hx hb dX9_init_289 hl (k := 0) rfl (by decide) (by decide) rfl (fun ls hl => ?_)
  refine lv_goto (tgt := 269) hx hb dX9_init_292 (by decide) ?_
  refine lv_iload_n hx hb dX9_init_269 rfl (lv_at hl 0 rfl) ?_
  refine lv_bipush (v := (7 : Int32)) hx hb dX9_init_270 (by decide) ?_
  refine lv_icmp_ge (tgt := 295) hx hb dX9_init_272 (by decide) (fun c9 => absurd c9 (by decide)) (fun _ => ?_)
  refine lv_aload_n hx hb dX9_init_275 rfl (lv_at hl 1 rfl) ?_
  refine kc_get C hG rfl inlX9 6 (by omega) (pr_in4 _ (List.mem_of_getElem? (i := 15) rfl)) rfl (v := .ref (b + 4)) rfl dX9_init_276 ?_
  refine lv_iload_n hx hb dX9_init_279 rfl (lv_at hl 0 rfl) ?_
  refine lv_iconst (v := (-1 : Int32)) hx hb dX9_init_280 (by decide) ?_
  refine kc_ast C hG hS 4 (by decide) (len := 7) (f := (upd (fun _ => 0) ((0 : Int32)).toNatClampNeg (-1 : Int32))) rfl (by unfold vp_in; decide) dX9_init_281 (fun H locs hG hS => ?_)
  refine lv_aload_n hx hb dX9_init_282 rfl (lv_at hl 1 rfl) ?_
  refine kc_get C hG rfl inlX9 8 (by omega) (pr_in4 _ (List.mem_of_getElem? (i := 17) rfl)) rfl (v := .ref (b + 6)) rfl dX9_init_283 ?_
  refine lv_iload_n hx hb dX9_init_286 rfl (lv_at hl 0 rfl) ?_
  refine lv_iconst (v := (-1 : Int32)) hx hb dX9_init_287 (by decide) ?_
  refine kc_ast C hG hS 6 (by decide) (len := 7) (f := (upd (fun _ => 0) ((0 : Int32)).toNatClampNeg (-1 : Int32))) rfl (by unfold vp_in; decide) dX9_init_288 (fun H locs hG hS => ?_)
  refine lv_iinc (v := (2 : Int32)) (lv' := [(1, .int (2 : Int32)), (0, .ref h0)]) hx hb dX9_init_289 hl (k := 0) rfl (by decide) (by decide) rfl (fun ls hl => ?_)
  refine lv_goto (tgt := 269) hx hb dX9_init_292 (by decide) ?_
  refine lv_iload_n hx hb dX9_init_269 rfl (lv_at hl 0 rfl) ?_
  refine lv_bipush (v := (7 : Int32)) hx hb dX9_init_270 (by decide) ?_
  refine lv_icmp_ge (tgt := 295) hx hb dX9_init_272 (by decide) (fun c9 => absurd c9 (by decide)) (fun _ => ?_)
  refine lv_aload_n hx hb dX9_init_275 rfl (lv_at hl 1 rfl) ?_
  refine kc_get C hG rfl inlX9 6 (by omega) (pr_in4 _ (List.mem_of_getElem? (i := 15) rfl)) rfl (v := .ref (b + 4)) rfl dX9_init_276 ?_
  refine lv_iload_n hx hb dX9_init_279 rfl (lv_at hl 0 rfl) ?_
  refine lv_iconst (v := (-1 : Int32)) hx hb dX9_init_280 (by decide) ?_
  refine kc_ast C hG hS 4 (by decide) (len := 7) (f := (upd (upd (fun _ => 0) ((0 : Int32)).toNatClampNeg (-1 : Int32)) ((1 : Int32)).toNatClampNeg (-1 : Int32))) rfl (by unfold vp_in; decide) dX9_init_281 (fun H locs hG hS => ?_)
  refine lv_aload_n hx hb dX9_init_282 rfl (lv_at hl 1 rfl) ?_
  refine kc_get C hG rfl inlX9 8 (by omega) (pr_in4 _ (List.mem_of_getElem? (i := 17) rfl)) rfl (v := .ref (b + 6)) rfl dX9_init_283 ?_
  refine lv_iload_n hx hb dX9_init_286 rfl (lv_at hl 0 rfl) ?_
  refine lv_iconst (v := (-1 : Int32)) hx hb dX9_init_287 (by decide) ?_
  refine kc_ast C hG hS 6 (by decide) (len := 7) (f := (upd (upd (fun _ => 0) ((0 : Int32)).toNatClampNeg (-1 : Int32)) ((1 : Int32)).toNatClampNeg (-1 : Int32))) rfl (by unfold vp_in; decide) dX9_init_288 (fun H locs hG hS => ?_)
  refine lv_iinc (v := (3 : Int32)) (lv' := [(1, .int (3 : Int32)), (0, .ref h0)]) hx hb dX9_init_289 hl (k := 0) rfl (by decide) (by decide) rfl (fun ls hl => ?_)
  refine lv_goto (tgt := 269) hx hb dX9_init_292 (by decide) ?_
  refine lv_iload_n hx hb dX9_init_269 rfl (lv_at hl 0 rfl) ?_
  refine lv_bipush (v := (7 : Int32)) hx hb dX9_init_270 (by decide) ?_
  refine lv_icmp_ge (tgt := 295) hx hb dX9_init_272 (by decide) (fun c9 => absurd c9 (by decide)) (fun _ => ?_)
  refine lv_aload_n hx hb dX9_init_275 rfl (lv_at hl 1 rfl) ?_
  refine kc_get C hG rfl inlX9 6 (by omega) (pr_in4 _ (List.mem_of_getElem? (i := 15) rfl)) rfl (v := .ref (b + 4)) rfl dX9_init_276 ?_
  refine lv_iload_n hx hb dX9_init_279 rfl (lv_at hl 0 rfl) ?_
  refine lv_iconst (v := (-1 : Int32)) hx hb dX9_init_280 (by decide) ?_
  refine kc_ast C hG hS 4 (by decide) (len := 7) (f := (upd (upd (upd (fun _ => 0) ((0 : Int32)).toNatClampNeg (-1 : Int32)) ((1 : Int32)).toNatClampNeg (-1 : Int32)) ((2 : Int32)).toNatClampNeg (-1 : Int32))) rfl (by unfold vp_in; decide) dX9_init_281 (fun H locs hG hS => ?_)
  refine lv_aload_n hx hb dX9_init_282 rfl (lv_at hl 1 rfl) ?_
  refine kc_get C hG rfl inlX9 8 (by omega) (pr_in4 _ (List.mem_of_getElem? (i := 17) rfl)) rfl (v := .ref (b + 6)) rfl dX9_init_283 ?_
  refine lv_iload_n hx hb dX9_init_286 rfl (lv_at hl 0 rfl) ?_
  refine lv_iconst (v := (-1 : Int32)) hx hb dX9_init_287 (by decide) ?_
  refine kc_ast C hG hS 6 (by decide) (len := 7) (f := (upd (upd (upd (fun _ => 0) ((0 : Int32)).toNatClampNeg (-1 : Int32)) ((1 : Int32)).toNatClampNeg (-1 : Int32)) ((2 : Int32)).toNatClampNeg (-1 : Int32))) rfl (by unfold vp_in; decide) dX9_init_288 (fun H locs hG hS => ?_)
  refine lv_iinc (v := (4 : Int32)) (lv' := [(1, .int (4 : Int32)), (0, .ref h0)]) hx hb dX9_init_289 hl (k := 0) rfl (by decide) (by decide) rfl (fun ls hl => ?_)
  refine lv_goto (tgt := 269) hx hb dX9_init_292 (by decide) ?_
  refine lv_iload_n hx hb dX9_init_269 rfl (lv_at hl 0 rfl) ?_
  refine lv_bipush (v := (7 : Int32)) hx hb dX9_init_270 (by decide) ?_
  refine lv_icmp_ge (tgt := 295) hx hb dX9_init_272 (by decide) (fun c9 => absurd c9 (by decide)) (fun _ => ?_)
  refine lv_aload_n hx hb dX9_init_275 rfl (lv_at hl 1 rfl) ?_
  refine kc_get C hG rfl inlX9 6 (by omega) (pr_in4 _ (List.mem_of_getElem? (i := 15) rfl)) rfl (v := .ref (b + 4)) rfl dX9_init_276 ?_
  refine lv_iload_n hx hb dX9_init_279 rfl (lv_at hl 0 rfl) ?_
  refine lv_iconst (v := (-1 : Int32)) hx hb dX9_init_280 (by decide) ?_
  refine kc_ast C hG hS 4 (by decide) (len := 7) (f := (upd (upd (upd (upd (fun _ => 0) ((0 : Int32)).toNatClampNeg (-1 : Int32)) ((1 : Int32)).toNatClampNeg (-1 : Int32)) ((2 : Int32)).toNatClampNeg (-1 : Int32)) ((3 : Int32)).toNatClampNeg (-1 : Int32))) rfl (by unfold vp_in; decide) dX9_init_281 (fun H locs hG hS => ?_)
  refine lv_aload_n hx hb dX9_init_282 rfl (lv_at hl 1 rfl) ?_
  refine kc_get C hG rfl inlX9 8 (by omega) (pr_in4 _ (List.mem_of_getElem? (i := 17) rfl)) rfl (v := .ref (b + 6)) rfl dX9_init_283 ?_
  refine lv_iload_n hx hb dX9_init_286 rfl (lv_at hl 0 rfl) ?_
  refine lv_iconst (v := (-1 : Int32)) hx hb dX9_init_287 (by decide) ?_
  refine kc_ast C hG hS 6 (by decide) (len := 7) (f := (upd (upd (upd (upd (fun _ => 0) ((0 : Int32)).toNatClampNeg (-1 : Int32)) ((1 : Int32)).toNatClampNeg (-1 : Int32)) ((2 : Int32)).toNatClampNeg (-1 : Int32)) ((3 : Int32)).toNatClampNeg (-1 : Int32))) rfl (by unfold vp_in; decide) dX9_init_288 (fun H locs hG hS => ?_)
  refine lv_iinc (v := (5 : Int32)) (lv' := [(1, .int (5 : Int32)), (0, .ref h0)]) hx hb dX9_init_289 hl (k := 0) rfl (by decide) (by decide) rfl (fun ls hl => ?_)
  refine lv_goto (tgt := 269) hx hb dX9_init_292 (by decide) ?_
  refine lv_iload_n hx hb dX9_init_269 rfl (lv_at hl 0 rfl) ?_
  refine lv_bipush (v := (7 : Int32)) hx hb dX9_init_270 (by decide) ?_
  refine lv_icmp_ge (tgt := 295) hx hb dX9_init_272 (by decide) (fun c9 => absurd c9 (by decide)) (fun _ => ?_)
  refine lv_aload_n hx hb dX9_init_275 rfl (lv_at hl 1 rfl) ?_
  refine kc_get C hG rfl inlX9 6 (by omega) (pr_in4 _ (List.mem_of_getElem? (i := 15) rfl)) rfl (v := .ref (b + 4)) rfl dX9_init_276 ?_
  refine lv_iload_n hx hb dX9_init_279 rfl (lv_at hl 0 rfl) ?_
  refine lv_iconst (v := (-1 : Int32)) hx hb dX9_init_280 (by decide) ?_
  refine kc_ast C hG hS 4 (by decide) (len := 7) (f := (upd (upd (upd (upd (upd (fun _ => 0) ((0 : Int32)).toNatClampNeg (-1 : Int32)) ((1 : Int32)).toNatClampNeg (-1 : Int32)) ((2 : Int32)).toNatClampNeg (-1 : Int32)) ((3 : Int32)).toNatClampNeg (-1 : Int32)) ((4 : Int32)).toNatClampNeg (-1 : Int32))) rfl (by unfold vp_in; decide) dX9_init_281 (fun H locs hG hS => ?_)
  refine lv_aload_n hx hb dX9_init_282 rfl (lv_at hl 1 rfl) ?_
  refine kc_get C hG rfl inlX9 8 (by omega) (pr_in4 _ (List.mem_of_getElem? (i := 17) rfl)) rfl (v := .ref (b + 6)) rfl dX9_init_283 ?_
  refine lv_iload_n hx hb dX9_init_286 rfl (lv_at hl 0 rfl) ?_
  refine lv_iconst (v := (-1 : Int32)) hx hb dX9_init_287 (by decide) ?_
  refine kc_ast C hG hS 6 (by decide) (len := 7) (f := (upd (upd (upd (upd (upd (fun _ => 0) ((0 : Int32)).toNatClampNeg (-1 : Int32)) ((1 : Int32)).toNatClampNeg (-1 : Int32)) ((2 : Int32)).toNatClampNeg (-1 : Int32)) ((3 : Int32)).toNatClampNeg (-1 : Int32)) ((4 : Int32)).toNatClampNeg (-1 : Int32))) rfl (by unfold vp_in; decide) dX9_init_288 (fun H locs hG hS => ?_)
  refine lv_iinc (v := (6 : Int32)) (lv' := [(1, .int (6 : Int32)), (0, .ref h0)]) hx hb dX9_init_289 hl (k := 0) rfl (by decide) (by decide) rfl (fun ls hl => ?_)
  refine lv_goto (tgt := 269) hx hb dX9_init_292 (by decide) ?_
  refine lv_iload_n hx hb dX9_init_269 rfl (lv_at hl 0 rfl) ?_
  refine lv_bipush (v := (7 : Int32)) hx hb dX9_init_270 (by decide) ?_
  refine lv_icmp_ge (tgt := 295) hx hb dX9_init_272 (by decide) (fun c9 => absurd c9 (by decide)) (fun _ => ?_)
  refine lv_aload_n hx hb dX9_init_275 rfl (lv_at hl 1 rfl) ?_
  refine kc_get C hG rfl inlX9 6 (by omega) (pr_in4 _ (List.mem_of_getElem? (i := 15) rfl)) rfl (v := .ref (b + 4)) rfl dX9_init_276 ?_
  refine lv_iload_n hx hb dX9_init_279 rfl (lv_at hl 0 rfl) ?_
  refine lv_iconst (v := (-1 : Int32)) hx hb dX9_init_280 (by decide) ?_
  refine kc_ast C hG hS 4 (by decide) (len := 7) (f := (upd (upd (upd (upd (upd (upd (fun _ => 0) ((0 : Int32)).toNatClampNeg (-1 : Int32)) ((1 : Int32)).toNatClampNeg (-1 : Int32)) ((2 : Int32)).toNatClampNeg (-1 : Int32)) ((3 : Int32)).toNatClampNeg (-1 : Int32)) ((4 : Int32)).toNatClampNeg (-1 : Int32)) ((5 : Int32)).toNatClampNeg (-1 : Int32))) rfl (by unfold vp_in; decide) dX9_init_281 (fun H locs hG hS => ?_)
  refine lv_aload_n hx hb dX9_init_282 rfl (lv_at hl 1 rfl) ?_
  refine kc_get C hG rfl inlX9 8 (by omega) (pr_in4 _ (List.mem_of_getElem? (i := 17) rfl)) rfl (v := .ref (b + 6)) rfl dX9_init_283 ?_
  refine lv_iload_n hx hb dX9_init_286 rfl (lv_at hl 0 rfl) ?_
  refine lv_iconst (v := (-1 : Int32)) hx hb dX9_init_287 (by decide) ?_
  refine kc_ast C hG hS 6 (by decide) (len := 7) (f := (upd (upd (upd (upd (upd (upd (fun _ => 0) ((0 : Int32)).toNatClampNeg (-1 : Int32)) ((1 : Int32)).toNatClampNeg (-1 : Int32)) ((2 : Int32)).toNatClampNeg (-1 : Int32)) ((3 : Int32)).toNatClampNeg (-1 : Int32)) ((4 : Int32)).toNatClampNeg (-1 : Int32)) ((5 : Int32)).toNatClampNeg (-1 : Int32))) rfl (by unfold vp_in; decide) dX9_init_288 (fun H locs hG hS => ?_)
  refine lv_iinc (v := (7 : Int32)) (lv' := [(1, .int (7 : Int32)), (0, .ref h0)]) hx hb dX9_init_289 hl (k := 0) rfl (by decide) (by decide) rfl (fun ls hl => ?_)
  refine lv_goto (tgt := 269) hx hb dX9_init_292 (by decide) ?_
  refine lv_iload_n hx hb dX9_init_269 rfl (lv_at hl 0 rfl) ?_
  refine lv_bipush (v := (7 : Int32)) hx hb dX9_init_270 (by decide) ?_
  refine lv_icmp_ge (tgt := 295) hx hb dX9_init_272 (by decide) (fun _ => ?_) (fun c9 => absurd c9 (by decide))
  refine lv_iconst (v := (0 : Int32)) hx hb dX9_init_295 (by decide) ?_
  refine lv_istore_n (lv' := [(1, .int (0 : Int32)), (0, .ref h0)]) hx hb dX9_init_296 rfl hl (by decide) rfl (fun ls hl => ?_)
  refine lv_iload_n hx hb dX9_init_297 rfl (lv_at hl 0 rfl) ?_
  refine lv_iconst (v := (5 : Int32)) hx hb dX9_init_298 (by decide) ?_
  refine lv_icmp_ge (tgt := 315) hx hb dX9_init_299 (by decide) (fun c9 => absurd c9 (by decide)) (fun _ => ?_)
  refine lv_aload_n hx hb dX9_init_302 rfl (lv_at hl 1 rfl) ?_
  refine kc_get C hG rfl inlX9 26 (by omega) (pr_in5 _ (List.mem_of_getElem? (i := 10) rfl)) rfl (v := .ref (b + 221)) rfl dX9_init_303 ?_
  refine lv_iload_n hx hb dX9_init_306 rfl (lv_at hl 0 rfl) ?_
  refine lv_iconst (v := (-1 : Int32)) hx hb dX9_init_307 (by decide) ?_
  refine kc_ast C hG hS 221 (by decide) (len := 5) (f := (fun _ => 0)) rfl (by unfold vp_in; decide) dX9_init_308 (fun H locs hG hS => ?_)
  refine lv_iinc (v := (1 : Int32)) (lv' := [(1, .int (1 : Int32)), (0, .ref h0)]) hx hb dX9_init_309 hl (k := 0) rfl (by decide) (by decide) rfl (fun ls hl => ?_)
  refine lv_goto (tgt := 297) hx hb dX9_init_312 (by decide) ?_
  refine lv_iload_n hx hb dX9_init_297 rfl (lv_at hl 0 rfl) ?_
  refine lv_iconst (v := (5 : Int32)) hx hb dX9_init_298 (by decide) ?_
  refine lv_icmp_ge (tgt := 315) hx hb dX9_init_299 (by decide) (fun c9 => absurd c9 (by decide)) (fun _ => ?_)
  refine lv_aload_n hx hb dX9_init_302 rfl (lv_at hl 1 rfl) ?_
  refine kc_get C hG rfl inlX9 26 (by omega) (pr_in5 _ (List.mem_of_getElem? (i := 10) rfl)) rfl (v := .ref (b + 221)) rfl dX9_init_303 ?_
  refine lv_iload_n hx hb dX9_init_306 rfl (lv_at hl 0 rfl) ?_
  refine lv_iconst (v := (-1 : Int32)) hx hb dX9_init_307 (by decide) ?_
  refine kc_ast C hG hS 221 (by decide) (len := 5) (f := (upd (fun _ => 0) ((0 : Int32)).toNatClampNeg (-1 : Int32))) rfl (by unfold vp_in; decide) dX9_init_308 (fun H locs hG hS => ?_)
  refine lv_iinc (v := (2 : Int32)) (lv' := [(1, .int (2 : Int32)), (0, .ref h0)]) hx hb dX9_init_309 hl (k := 0) rfl (by decide) (by decide) rfl (fun ls hl => ?_)
  refine lv_goto (tgt := 297) hx hb dX9_init_312 (by decide) ?_
  refine lv_iload_n hx hb dX9_init_297 rfl (lv_at hl 0 rfl) ?_
  refine lv_iconst (v := (5 : Int32)) hx hb dX9_init_298 (by decide) ?_
  refine lv_icmp_ge (tgt := 315) hx hb dX9_init_299 (by decide) (fun c9 => absurd c9 (by decide)) (fun _ => ?_)
  refine lv_aload_n hx hb dX9_init_302 rfl (lv_at hl 1 rfl) ?_
  refine kc_get C hG rfl inlX9 26 (by omega) (pr_in5 _ (List.mem_of_getElem? (i := 10) rfl)) rfl (v := .ref (b + 221)) rfl dX9_init_303 ?_
  refine lv_iload_n hx hb dX9_init_306 rfl (lv_at hl 0 rfl) ?_
  refine lv_iconst (v := (-1 : Int32)) hx hb dX9_init_307 (by decide) ?_
  refine kc_ast C hG hS 221 (by decide) (len := 5) (f := (upd (upd (fun _ => 0) ((0 : Int32)).toNatClampNeg (-1 : Int32)) ((1 : Int32)).toNatClampNeg (-1 : Int32))) rfl (by unfold vp_in; decide) dX9_init_308 (fun H locs hG hS => ?_)
  refine lv_iinc (v := (3 : Int32)) (lv' := [(1, .int (3 : Int32)), (0, .ref h0)]) hx hb dX9_init_309 hl (k := 0) rfl (by decide) (by decide) rfl (fun ls hl => ?_)
  refine lv_goto (tgt := 297) hx hb dX9_init_312 (by decide) ?_
  refine lv_iload_n hx hb dX9_init_297 rfl (lv_at hl 0 rfl) ?_
  refine lv_iconst (v := (5 : Int32)) hx hb dX9_init_298 (by decide) ?_
  refine lv_icmp_ge (tgt := 315) hx hb dX9_init_299 (by decide) (fun c9 => absurd c9 (by decide)) (fun _ => ?_)
  refine lv_aload_n hx hb dX9_init_302 rfl (lv_at hl 1 rfl) ?_
  refine kc_get C hG rfl inlX9 26 (by omega) (pr_in5 _ (List.mem_of_getElem? (i := 10) rfl)) rfl (v := .ref (b + 221)) rfl dX9_init_303 ?_
  refine lv_iload_n hx hb dX9_init_306 rfl (lv_at hl 0 rfl) ?_
  refine lv_iconst (v := (-1 : Int32)) hx hb dX9_init_307 (by decide) ?_
  refine kc_ast C hG hS 221 (by decide) (len := 5) (f := (upd (upd (upd (fun _ => 0) ((0 : Int32)).toNatClampNeg (-1 : Int32)) ((1 : Int32)).toNatClampNeg (-1 : Int32)) ((2 : Int32)).toNatClampNeg (-1 : Int32))) rfl (by unfold vp_in; decide) dX9_init_308 (fun H locs hG hS => ?_)
  refine lv_iinc (v := (4 : Int32)) (lv' := [(1, .int (4 : Int32)), (0, .ref h0)]) hx hb dX9_init_309 hl (k := 0) rfl (by decide) (by decide) rfl (fun ls hl => ?_)
  refine lv_goto (tgt := 297) hx hb dX9_init_312 (by decide) ?_
  refine lv_iload_n hx hb dX9_init_297 rfl (lv_at hl 0 rfl) ?_
  refine lv_iconst (v := (5 : Int32)) hx hb dX9_init_298 (by decide) ?_
  refine lv_icmp_ge (tgt := 315) hx hb dX9_init_299 (by decide) (fun c9 => absurd c9 (by decide)) (fun _ => ?_)
  refine lv_aload_n hx hb dX9_init_302 rfl (lv_at hl 1 rfl) ?_
  refine kc_get C hG rfl inlX9 26 (by omega) (pr_in5 _ (List.mem_of_getElem? (i := 10) rfl)) rfl (v := .ref (b + 221)) rfl dX9_init_303 ?_
  refine lv_iload_n hx hb dX9_init_306 rfl (lv_at hl 0 rfl) ?_
  refine lv_iconst (v := (-1 : Int32)) hx hb dX9_init_307 (by decide) ?_
  refine kc_ast C hG hS 221 (by decide) (len := 5) (f := (upd (upd (upd (upd (fun _ => 0) ((0 : Int32)).toNatClampNeg (-1 : Int32)) ((1 : Int32)).toNatClampNeg (-1 : Int32)) ((2 : Int32)).toNatClampNeg (-1 : Int32)) ((3 : Int32)).toNatClampNeg (-1 : Int32))) rfl (by unfold vp_in; decide) dX9_init_308 (fun H locs hG hS => ?_)
  refine lv_iinc (v := (5 : Int32)) (lv' := [(1, .int (5 : Int32)), (0, .ref h0)]) hx hb dX9_init_309 hl (k := 0) rfl (by decide) (by decide) rfl (fun ls hl => ?_)
  refine lv_goto (tgt := 297) hx hb dX9_init_312 (by decide) ?_
  refine lv_iload_n hx hb dX9_init_297 rfl (lv_at hl 0 rfl) ?_
  refine lv_iconst (v := (5 : Int32)) hx hb dX9_init_298 (by decide) ?_
  refine lv_icmp_ge (tgt := 315) hx hb dX9_init_299 (by decide) (fun _ => ?_) (fun c9 => absurd c9 (by decide))
  exact kc_ret C hG hS rfl (fun _ _ => rfl) rfl rfl rfl dX9_init_315
