def rm_J6_bitCount_0f7a4 : Room := { frames := 0, cells := 0, slots := 0, locals := 0 }
theorem hs_J6_bitCount_0f7a4 : yJ6_bitCount_0f7a4.cls ≠ "java/lang/invoke/MethodHandle" ∧ yJ6_bitCount_0f7a4.cls ≠ "java/lang/invoke/VarHandle" ∧ (parseMethodDescriptor yJ6_bitCount_0f7a4.desc).map (fun d => d.parameters.length) = some 1 := ⟨by decide, by decide, by decide +kernel⟩
def wpb_J6_bitCount_0f7a4 (g : Nat → Nat) (σ : pr_Sg) (a1 : Int32) (Q : Int32 → pr_Sg → Prop) : Prop :=
  Q ((((((((a1 - (((a1).toUInt32 >>> (((1 : Int32)).toUInt32 &&& Int32.toUInt32 31)).toInt32 &&& (1431655765 : Int32))) &&& (858993459 : Int32)) + ((((a1 - (((a1).toUInt32 >>> (((1 : Int32)).toUInt32 &&& Int32.toUInt32 31)).toInt32 &&& (1431655765 : Int32)))).toUInt32 >>> (((2 : Int32)).toUInt32 &&& Int32.toUInt32 31)).toInt32 &&& (858993459 : Int32))) + (((((a1 - (((a1).toUInt32 >>> (((1 : Int32)).toUInt32 &&& Int32.toUInt32 31)).toInt32 &&& (1431655765 : Int32))) &&& (858993459 : Int32)) + ((((a1 - (((a1).toUInt32 >>> (((1 : Int32)).toUInt32 &&& Int32.toUInt32 31)).toInt32 &&& (1431655765 : Int32)))).toUInt32 >>> (((2 : Int32)).toUInt32 &&& Int32.toUInt32 31)).toInt32 &&& (858993459 : Int32)))).toUInt32 >>> (((4 : Int32)).toUInt32 &&& Int32.toUInt32 31)).toInt32) &&& (252645135 : Int32)) + (((((((a1 - (((a1).toUInt32 >>> (((1 : Int32)).toUInt32 &&& Int32.toUInt32 31)).toInt32 &&& (1431655765 : Int32))) &&& (858993459 : Int32)) + ((((a1 - (((a1).toUInt32 >>> (((1 : Int32)).toUInt32 &&& Int32.toUInt32 31)).toInt32 &&& (1431655765 : Int32)))).toUInt32 >>> (((2 : Int32)).toUInt32 &&& Int32.toUInt32 31)).toInt32 &&& (858993459 : Int32))) + (((((a1 - (((a1).toUInt32 >>> (((1 : Int32)).toUInt32 &&& Int32.toUInt32 31)).toInt32 &&& (1431655765 : Int32))) &&& (858993459 : Int32)) + ((((a1 - (((a1).toUInt32 >>> (((1 : Int32)).toUInt32 &&& Int32.toUInt32 31)).toInt32 &&& (1431655765 : Int32)))).toUInt32 >>> (((2 : Int32)).toUInt32 &&& Int32.toUInt32 31)).toInt32 &&& (858993459 : Int32)))).toUInt32 >>> (((4 : Int32)).toUInt32 &&& Int32.toUInt32 31)).toInt32) &&& (252645135 : Int32))).toUInt32 >>> (((8 : Int32)).toUInt32 &&& Int32.toUInt32 31)).toInt32) + ((((((((a1 - (((a1).toUInt32 >>> (((1 : Int32)).toUInt32 &&& Int32.toUInt32 31)).toInt32 &&& (1431655765 : Int32))) &&& (858993459 : Int32)) + ((((a1 - (((a1).toUInt32 >>> (((1 : Int32)).toUInt32 &&& Int32.toUInt32 31)).toInt32 &&& (1431655765 : Int32)))).toUInt32 >>> (((2 : Int32)).toUInt32 &&& Int32.toUInt32 31)).toInt32 &&& (858993459 : Int32))) + (((((a1 - (((a1).toUInt32 >>> (((1 : Int32)).toUInt32 &&& Int32.toUInt32 31)).toInt32 &&& (1431655765 : Int32))) &&& (858993459 : Int32)) + ((((a1 - (((a1).toUInt32 >>> (((1 : Int32)).toUInt32 &&& Int32.toUInt32 31)).toInt32 &&& (1431655765 : Int32)))).toUInt32 >>> (((2 : Int32)).toUInt32 &&& Int32.toUInt32 31)).toInt32 &&& (858993459 : Int32)))).toUInt32 >>> (((4 : Int32)).toUInt32 &&& Int32.toUInt32 31)).toInt32) &&& (252645135 : Int32)) + (((((((a1 - (((a1).toUInt32 >>> (((1 : Int32)).toUInt32 &&& Int32.toUInt32 31)).toInt32 &&& (1431655765 : Int32))) &&& (858993459 : Int32)) + ((((a1 - (((a1).toUInt32 >>> (((1 : Int32)).toUInt32 &&& Int32.toUInt32 31)).toInt32 &&& (1431655765 : Int32)))).toUInt32 >>> (((2 : Int32)).toUInt32 &&& Int32.toUInt32 31)).toInt32 &&& (858993459 : Int32))) + (((((a1 - (((a1).toUInt32 >>> (((1 : Int32)).toUInt32 &&& Int32.toUInt32 31)).toInt32 &&& (1431655765 : Int32))) &&& (858993459 : Int32)) + ((((a1 - (((a1).toUInt32 >>> (((1 : Int32)).toUInt32 &&& Int32.toUInt32 31)).toInt32 &&& (1431655765 : Int32)))).toUInt32 >>> (((2 : Int32)).toUInt32 &&& Int32.toUInt32 31)).toInt32 &&& (858993459 : Int32)))).toUInt32 >>> (((4 : Int32)).toUInt32 &&& Int32.toUInt32 31)).toInt32) &&& (252645135 : Int32))).toUInt32 >>> (((8 : Int32)).toUInt32 &&& Int32.toUInt32 31)).toInt32)).toUInt32 >>> (((16 : Int32)).toUInt32 &&& Int32.toUInt32 31)).toInt32) &&& (63 : Int32)) σ
set_option maxHeartbeats 4000000 in
set_option maxRecDepth 100000 in
theorem t_J6_bitCount_0f7a4 {p : Program} {l : Launch} {e : Env} {s : State} {m : MethodId} {args : Array Value} {below : List Frame} {meth : Method} {c : Code} {D : va_G} {cs : Nat → ClassId} {A : Nat → Prop} {ad : pr_Ad} {g : Nat → Nat} {Q : Int32 → pr_Sg → Prop} (C : pr_C RJ6 cJ6_bitCount_0f7a4 1 (some .int) D cs p s m args meth c) {H : Heap} {locs : List Loc} {ls : Array Slot} {σ : pr_Sg} {a1 : Int32} (h : wpb_J6_bitCount_0f7a4 g σ a1 Q) (hR : pr_R D cs A ad g σ H) (hS : va_S A s.heap H locs) (hl : lv_has ls 1 [(0, .int a1)]) : W p l e rm_J6_bitCount_0f7a4 s m args below meth c H locs 0 0 (MQ below (va_Qi Q (pr_E D cs A ad g) A) args s 0 0 A) (F0 m 0 ls []) := by
  unfold wpb_J6_bitCount_0f7a4 at h
  obtain ⟨hx, hb, hml, hown, hts, hK, hr, hlocks⟩ := id C
  refine lv_iload_n hx hb dJ6_bitCount_0f7a4_0 rfl (lv_at hl 0 rfl) ?_
  refine lv_iload_n hx hb dJ6_bitCount_0f7a4_1 rfl (lv_at hl 0 rfl) ?_
  refine lv_iconst (v := (1 : Int32)) hx hb dJ6_bitCount_0f7a4_2 (by decide) ?_
  refine lv_iushr hx hb dJ6_bitCount_0f7a4_3 rfl ?_
  refine lv_ldcw (v := (1431655765 : Int32)) hx hb hown (hts _ (pr_in23 _ (List.mem_of_getElem? (i := 5) rfl))) dJ6_bitCount_0f7a4_4 ?_
  refine lv_iand hx hb dJ6_bitCount_0f7a4_7 ?_
  refine lv_isub hx hb dJ6_bitCount_0f7a4_8 ?_
  refine lv_istore_n (lv' := [(0, .int (a1 - (((a1).toUInt32 >>> (((1 : Int32)).toUInt32 &&& Int32.toUInt32 31)).toInt32 &&& (1431655765 : Int32))))]) hx hb dJ6_bitCount_0f7a4_9 rfl hl (by decide) rfl (fun ls hl => ?_)
  refine lv_iload_n hx hb dJ6_bitCount_0f7a4_10 rfl (lv_at hl 0 rfl) ?_
  refine lv_ldcw (v := (858993459 : Int32)) hx hb hown (hts _ (pr_in23 _ (List.mem_of_getElem? (i := 6) rfl))) dJ6_bitCount_0f7a4_11 ?_
  refine lv_iand hx hb dJ6_bitCount_0f7a4_14 ?_
  refine lv_iload_n hx hb dJ6_bitCount_0f7a4_15 rfl (lv_at hl 0 rfl) ?_
  refine lv_iconst (v := (2 : Int32)) hx hb dJ6_bitCount_0f7a4_16 (by decide) ?_
  refine lv_iushr hx hb dJ6_bitCount_0f7a4_17 rfl ?_
  refine lv_ldcw (v := (858993459 : Int32)) hx hb hown (hts _ (pr_in23 _ (List.mem_of_getElem? (i := 6) rfl))) dJ6_bitCount_0f7a4_18 ?_
  refine lv_iand hx hb dJ6_bitCount_0f7a4_21 ?_
  refine lv_iadd hx hb dJ6_bitCount_0f7a4_22 ?_
  refine lv_istore_n (lv' := [(0, .int (((a1 - (((a1).toUInt32 >>> (((1 : Int32)).toUInt32 &&& Int32.toUInt32 31)).toInt32 &&& (1431655765 : Int32))) &&& (858993459 : Int32)) + ((((a1 - (((a1).toUInt32 >>> (((1 : Int32)).toUInt32 &&& Int32.toUInt32 31)).toInt32 &&& (1431655765 : Int32)))).toUInt32 >>> (((2 : Int32)).toUInt32 &&& Int32.toUInt32 31)).toInt32 &&& (858993459 : Int32))))]) hx hb dJ6_bitCount_0f7a4_23 rfl hl (by decide) rfl (fun ls hl => ?_)
  refine lv_iload_n hx hb dJ6_bitCount_0f7a4_24 rfl (lv_at hl 0 rfl) ?_
  refine lv_iload_n hx hb dJ6_bitCount_0f7a4_25 rfl (lv_at hl 0 rfl) ?_
  refine lv_iconst (v := (4 : Int32)) hx hb dJ6_bitCount_0f7a4_26 (by decide) ?_
  refine lv_iushr hx hb dJ6_bitCount_0f7a4_27 rfl ?_
  refine lv_iadd hx hb dJ6_bitCount_0f7a4_28 ?_
  refine lv_ldcw (v := (252645135 : Int32)) hx hb hown (hts _ (pr_in23 _ (List.mem_of_getElem? (i := 7) rfl))) dJ6_bitCount_0f7a4_29 ?_
  refine lv_iand hx hb dJ6_bitCount_0f7a4_32 ?_
  refine lv_istore_n (lv' := [(0, .int (((((a1 - (((a1).toUInt32 >>> (((1 : Int32)).toUInt32 &&& Int32.toUInt32 31)).toInt32 &&& (1431655765 : Int32))) &&& (858993459 : Int32)) + ((((a1 - (((a1).toUInt32 >>> (((1 : Int32)).toUInt32 &&& Int32.toUInt32 31)).toInt32 &&& (1431655765 : Int32)))).toUInt32 >>> (((2 : Int32)).toUInt32 &&& Int32.toUInt32 31)).toInt32 &&& (858993459 : Int32))) + (((((a1 - (((a1).toUInt32 >>> (((1 : Int32)).toUInt32 &&& Int32.toUInt32 31)).toInt32 &&& (1431655765 : Int32))) &&& (858993459 : Int32)) + ((((a1 - (((a1).toUInt32 >>> (((1 : Int32)).toUInt32 &&& Int32.toUInt32 31)).toInt32 &&& (1431655765 : Int32)))).toUInt32 >>> (((2 : Int32)).toUInt32 &&& Int32.toUInt32 31)).toInt32 &&& (858993459 : Int32)))).toUInt32 >>> (((4 : Int32)).toUInt32 &&& Int32.toUInt32 31)).toInt32) &&& (252645135 : Int32)))]) hx hb dJ6_bitCount_0f7a4_33 rfl hl (by decide) rfl (fun ls hl => ?_)
  refine lv_iload_n hx hb dJ6_bitCount_0f7a4_34 rfl (lv_at hl 0 rfl) ?_
  refine lv_iload_n hx hb dJ6_bitCount_0f7a4_35 rfl (lv_at hl 0 rfl) ?_
  refine lv_bipush (v := (8 : Int32)) hx hb dJ6_bitCount_0f7a4_36 (by decide) ?_
  refine lv_iushr hx hb dJ6_bitCount_0f7a4_38 rfl ?_
  refine lv_iadd hx hb dJ6_bitCount_0f7a4_39 ?_
  refine lv_istore_n (lv' := [(0, .int ((((((a1 - (((a1).toUInt32 >>> (((1 : Int32)).toUInt32 &&& Int32.toUInt32 31)).toInt32 &&& (1431655765 : Int32))) &&& (858993459 : Int32)) + ((((a1 - (((a1).toUInt32 >>> (((1 : Int32)).toUInt32 &&& Int32.toUInt32 31)).toInt32 &&& (1431655765 : Int32)))).toUInt32 >>> (((2 : Int32)).toUInt32 &&& Int32.toUInt32 31)).toInt32 &&& (858993459 : Int32))) + (((((a1 - (((a1).toUInt32 >>> (((1 : Int32)).toUInt32 &&& Int32.toUInt32 31)).toInt32 &&& (1431655765 : Int32))) &&& (858993459 : Int32)) + ((((a1 - (((a1).toUInt32 >>> (((1 : Int32)).toUInt32 &&& Int32.toUInt32 31)).toInt32 &&& (1431655765 : Int32)))).toUInt32 >>> (((2 : Int32)).toUInt32 &&& Int32.toUInt32 31)).toInt32 &&& (858993459 : Int32)))).toUInt32 >>> (((4 : Int32)).toUInt32 &&& Int32.toUInt32 31)).toInt32) &&& (252645135 : Int32)) + (((((((a1 - (((a1).toUInt32 >>> (((1 : Int32)).toUInt32 &&& Int32.toUInt32 31)).toInt32 &&& (1431655765 : Int32))) &&& (858993459 : Int32)) + ((((a1 - (((a1).toUInt32 >>> (((1 : Int32)).toUInt32 &&& Int32.toUInt32 31)).toInt32 &&& (1431655765 : Int32)))).toUInt32 >>> (((2 : Int32)).toUInt32 &&& Int32.toUInt32 31)).toInt32 &&& (858993459 : Int32))) + (((((a1 - (((a1).toUInt32 >>> (((1 : Int32)).toUInt32 &&& Int32.toUInt32 31)).toInt32 &&& (1431655765 : Int32))) &&& (858993459 : Int32)) + ((((a1 - (((a1).toUInt32 >>> (((1 : Int32)).toUInt32 &&& Int32.toUInt32 31)).toInt32 &&& (1431655765 : Int32)))).toUInt32 >>> (((2 : Int32)).toUInt32 &&& Int32.toUInt32 31)).toInt32 &&& (858993459 : Int32)))).toUInt32 >>> (((4 : Int32)).toUInt32 &&& Int32.toUInt32 31)).toInt32) &&& (252645135 : Int32))).toUInt32 >>> (((8 : Int32)).toUInt32 &&& Int32.toUInt32 31)).toInt32))]) hx hb dJ6_bitCount_0f7a4_40 rfl hl (by decide) rfl (fun ls hl => ?_)
  refine lv_iload_n hx hb dJ6_bitCount_0f7a4_41 rfl (lv_at hl 0 rfl) ?_
  refine lv_iload_n hx hb dJ6_bitCount_0f7a4_42 rfl (lv_at hl 0 rfl) ?_
  refine lv_bipush (v := (16 : Int32)) hx hb dJ6_bitCount_0f7a4_43 (by decide) ?_
  refine lv_iushr hx hb dJ6_bitCount_0f7a4_45 rfl ?_
  refine lv_iadd hx hb dJ6_bitCount_0f7a4_46 ?_
  refine lv_istore_n (lv' := [(0, .int (((((((a1 - (((a1).toUInt32 >>> (((1 : Int32)).toUInt32 &&& Int32.toUInt32 31)).toInt32 &&& (1431655765 : Int32))) &&& (858993459 : Int32)) + ((((a1 - (((a1).toUInt32 >>> (((1 : Int32)).toUInt32 &&& Int32.toUInt32 31)).toInt32 &&& (1431655765 : Int32)))).toUInt32 >>> (((2 : Int32)).toUInt32 &&& Int32.toUInt32 31)).toInt32 &&& (858993459 : Int32))) + (((((a1 - (((a1).toUInt32 >>> (((1 : Int32)).toUInt32 &&& Int32.toUInt32 31)).toInt32 &&& (1431655765 : Int32))) &&& (858993459 : Int32)) + ((((a1 - (((a1).toUInt32 >>> (((1 : Int32)).toUInt32 &&& Int32.toUInt32 31)).toInt32 &&& (1431655765 : Int32)))).toUInt32 >>> (((2 : Int32)).toUInt32 &&& Int32.toUInt32 31)).toInt32 &&& (858993459 : Int32)))).toUInt32 >>> (((4 : Int32)).toUInt32 &&& Int32.toUInt32 31)).toInt32) &&& (252645135 : Int32)) + (((((((a1 - (((a1).toUInt32 >>> (((1 : Int32)).toUInt32 &&& Int32.toUInt32 31)).toInt32 &&& (1431655765 : Int32))) &&& (858993459 : Int32)) + ((((a1 - (((a1).toUInt32 >>> (((1 : Int32)).toUInt32 &&& Int32.toUInt32 31)).toInt32 &&& (1431655765 : Int32)))).toUInt32 >>> (((2 : Int32)).toUInt32 &&& Int32.toUInt32 31)).toInt32 &&& (858993459 : Int32))) + (((((a1 - (((a1).toUInt32 >>> (((1 : Int32)).toUInt32 &&& Int32.toUInt32 31)).toInt32 &&& (1431655765 : Int32))) &&& (858993459 : Int32)) + ((((a1 - (((a1).toUInt32 >>> (((1 : Int32)).toUInt32 &&& Int32.toUInt32 31)).toInt32 &&& (1431655765 : Int32)))).toUInt32 >>> (((2 : Int32)).toUInt32 &&& Int32.toUInt32 31)).toInt32 &&& (858993459 : Int32)))).toUInt32 >>> (((4 : Int32)).toUInt32 &&& Int32.toUInt32 31)).toInt32) &&& (252645135 : Int32))).toUInt32 >>> (((8 : Int32)).toUInt32 &&& Int32.toUInt32 31)).toInt32) + ((((((((a1 - (((a1).toUInt32 >>> (((1 : Int32)).toUInt32 &&& Int32.toUInt32 31)).toInt32 &&& (1431655765 : Int32))) &&& (858993459 : Int32)) + ((((a1 - (((a1).toUInt32 >>> (((1 : Int32)).toUInt32 &&& Int32.toUInt32 31)).toInt32 &&& (1431655765 : Int32)))).toUInt32 >>> (((2 : Int32)).toUInt32 &&& Int32.toUInt32 31)).toInt32 &&& (858993459 : Int32))) + (((((a1 - (((a1).toUInt32 >>> (((1 : Int32)).toUInt32 &&& Int32.toUInt32 31)).toInt32 &&& (1431655765 : Int32))) &&& (858993459 : Int32)) + ((((a1 - (((a1).toUInt32 >>> (((1 : Int32)).toUInt32 &&& Int32.toUInt32 31)).toInt32 &&& (1431655765 : Int32)))).toUInt32 >>> (((2 : Int32)).toUInt32 &&& Int32.toUInt32 31)).toInt32 &&& (858993459 : Int32)))).toUInt32 >>> (((4 : Int32)).toUInt32 &&& Int32.toUInt32 31)).toInt32) &&& (252645135 : Int32)) + (((((((a1 - (((a1).toUInt32 >>> (((1 : Int32)).toUInt32 &&& Int32.toUInt32 31)).toInt32 &&& (1431655765 : Int32))) &&& (858993459 : Int32)) + ((((a1 - (((a1).toUInt32 >>> (((1 : Int32)).toUInt32 &&& Int32.toUInt32 31)).toInt32 &&& (1431655765 : Int32)))).toUInt32 >>> (((2 : Int32)).toUInt32 &&& Int32.toUInt32 31)).toInt32 &&& (858993459 : Int32))) + (((((a1 - (((a1).toUInt32 >>> (((1 : Int32)).toUInt32 &&& Int32.toUInt32 31)).toInt32 &&& (1431655765 : Int32))) &&& (858993459 : Int32)) + ((((a1 - (((a1).toUInt32 >>> (((1 : Int32)).toUInt32 &&& Int32.toUInt32 31)).toInt32 &&& (1431655765 : Int32)))).toUInt32 >>> (((2 : Int32)).toUInt32 &&& Int32.toUInt32 31)).toInt32 &&& (858993459 : Int32)))).toUInt32 >>> (((4 : Int32)).toUInt32 &&& Int32.toUInt32 31)).toInt32) &&& (252645135 : Int32))).toUInt32 >>> (((8 : Int32)).toUInt32 &&& Int32.toUInt32 31)).toInt32)).toUInt32 >>> (((16 : Int32)).toUInt32 &&& Int32.toUInt32 31)).toInt32))]) hx hb dJ6_bitCount_0f7a4_47 rfl hl (by decide) rfl (fun ls hl => ?_)
  refine lv_iload_n hx hb dJ6_bitCount_0f7a4_48 rfl (lv_at hl 0 rfl) ?_
  refine lv_bipush (v := (63 : Int32)) hx hb dJ6_bitCount_0f7a4_49 (by decide) ?_
  refine lv_iand hx hb dJ6_bitCount_0f7a4_51 ?_
  exact pr_reti C h hR hS dJ6_bitCount_0f7a4_52
abbrev wp_J6_bitCount_0f7a4 (g : Nat → Nat) (σ : pr_Sg) (a1 : Int32) (Q : Int32 → pr_Sg → Prop) : Prop := wpb_J6_bitCount_0f7a4 g σ a1 Q
set_option maxHeartbeats 4000000 in
set_option maxRecDepth 100000 in
theorem c_J6_bitCount_0f7a4 {l : Launch} {D : va_G} {cs : Nat → ClassId} {A : Nat → Prop} {ad : pr_Ad} {g : Nat → Nat} {σ : pr_Sg} {a1 : Int32} {Q : Int32 → pr_Sg → Prop} (h : wp_J6_bitCount_0f7a4 g σ a1 Q) : pr_Mi l D cs A ad g yJ6_bitCount_0f7a4 cJ6_bitCount_0f7a4 1 (some .int) rm_J6_bitCount_0f7a4 [.int a1] σ Q := by
  refine Met.ofW (cc := cJ6_bitCount_0f7a4) (maxL := 1) (ret := (some .int)) (by decide) rfl ?_
  intro p e s m args below meth c s₁ B hml hv
  obtain ⟨rfl, hR, hK⟩ := hv
  have C : pr_C RJ6 cJ6_bitCount_0f7a4 1 (some .int) D cs p s m [.int a1].toArray meth c := pr_C.of B hml hK
  have hS : va_S A s.heap s.heap [] := va_S.rf
  have hl := lv_entry ([.int a1]) (n := 1) (Nat.le_of_ble_eq_true rfl)
  rw [lg_entry_eq]
  generalize (lg_sl ([.int a1]) ++ List.replicate (1 - (lg_sl ([.int a1])).length) Slot.unset).toArray = ls at hl ⊢
  have hl : lv_has ls 1 [(0, .int a1)] := hl
  exact t_J6_bitCount_0f7a4 C h hR hS hl
def rm_X0_layersOn : Room := { frames := 0, cells := 0, slots := 0, locals := 0 }
theorem hd_X0_layersOn : yX0_layersOn.cls = RX0 ∧ yX0_layersOn.cls ≠ "java/lang/invoke/MethodHandle" ∧ yX0_layersOn.cls ≠ "java/lang/invoke/VarHandle" ∧ (parseMethodDescriptor yX0_layersOn.desc).map (fun d => d.parameters.length) = some 1 := ⟨rfl, by decide, by decide, by decide +kernel⟩
def wpb_X0_layersOn (g : Nat → Nat) (σ : pr_Sg) (i0 : Nat) (a1 : Int32) (Q : Int32 → pr_Sg → Prop) : Prop :=
  ((¬ (σ 1 i0 0) = a1 → Q (0 : Int32) σ) ∧
  ((σ 1 i0 0) = a1 → Q (σ 2 i0 0) σ))
set_option maxHeartbeats 4000000 in
set_option maxRecDepth 100000 in
theorem t_X0_layersOn {p : Program} {l : Launch} {e : Env} {s : State} {m : MethodId} {args : Array Value} {below : List Frame} {meth : Method} {c : Code} {D : va_G} {cs : Nat → ClassId} {A : Nat → Prop} {ad : pr_Ad} {g : Nat → Nat} {Q : Int32 → pr_Sg → Prop} (C : pr_C RX0 cX0_layersOn 2 (some .int) D cs p s m args meth c) {H : Heap} {locs : List Loc} {ls : Array Slot} {σ : pr_Sg} {i0 : Nat} {a1 : Int32} (h : wpb_X0_layersOn g σ i0 a1 Q) (hR : pr_R D cs A ad g σ H) (hS : va_S A s.heap H locs) (hi0 : pr_lv g 0 i0 0) (hl : lv_has ls 2 [(0, .ref (ad 0 i0 0)), (1, .int a1)]) : W p l e rm_X0_layersOn s m args below meth c H locs 0 0 (MQ below (va_Qi Q (pr_E D cs A ad g) A) args s 0 0 A) (F0 m 0 ls []) := by
  unfold wpb_X0_layersOn at h
  obtain ⟨hx, hb, hml, hown, hts, hK, hr, hlocks⟩ := id C
  refine lv_aload_n hx hb dX0_layersOn_0 rfl (lv_at hl 0 rfl) ?_
  refine gf_RX0_15 C hR hi0 dX0_layersOn_1 ?_
  refine lv_iload_n hx hb dX0_layersOn_4 rfl (lv_at hl 1 rfl) ?_
  refine lv_icmp_ne (tgt := 15) hx hb dX0_layersOn_5 (by decide) (fun c1 => ?_) (fun c1 => ?_)
  · have h := h.1 c1
    refine lv_iconst (v := (0 : Int32)) hx hb dX0_layersOn_15 (by decide) ?_
    exact pr_reti C h hR hS dX0_layersOn_16
  · have h := h.2 c1
    refine lv_aload_n hx hb dX0_layersOn_8 rfl (lv_at hl 0 rfl) ?_
    refine gf_RX0_18 C hR hi0 dX0_layersOn_9 ?_
    refine lv_goto (tgt := 16) hx hb dX0_layersOn_12 (by decide) ?_
    exact pr_reti C h hR hS dX0_layersOn_16
abbrev wp_X0_layersOn (g : Nat → Nat) (σ : pr_Sg) (i0 : Nat) (a1 : Int32) (Q : Int32 → pr_Sg → Prop) : Prop := wpb_X0_layersOn g σ i0 a1 Q
set_option maxHeartbeats 4000000 in
set_option maxRecDepth 100000 in
theorem c_X0_layersOn {l : Launch} {D : va_G} {cs : Nat → ClassId} {A : Nat → Prop} {ad : pr_Ad} {g : Nat → Nat} {σ : pr_Sg} {i0 : Nat} {a1 : Int32} {Q : Int32 → pr_Sg → Prop} (hi0 : pr_lv g 0 i0 0) (h : wp_X0_layersOn g σ i0 a1 Q) : pr_Mi l D cs A ad g yX0_layersOn cX0_layersOn 2 (some .int) rm_X0_layersOn [.ref (ad 0 i0 0), .int a1] σ Q := by
  refine Met.ofW (cc := cX0_layersOn) (maxL := 2) (ret := (some .int)) (by decide) rfl ?_
  intro p e s m args below meth c s₁ B hml hv
  obtain ⟨rfl, hR, hK⟩ := hv
  have C : pr_C RX0 cX0_layersOn 2 (some .int) D cs p s m [.ref (ad 0 i0 0), .int a1].toArray meth c := pr_C.of B hml hK
  have hS : va_S A s.heap s.heap [] := va_S.rf
  have hl := lv_entry ([.ref (ad 0 i0 0), .int a1]) (n := 2) (Nat.le_of_ble_eq_true rfl)
  rw [lg_entry_eq]
  generalize (lg_sl ([.ref (ad 0 i0 0), .int a1]) ++ List.replicate (2 - (lg_sl ([.ref (ad 0 i0 0), .int a1])).length) Slot.unset).toArray = ls at hl ⊢
  have hl : lv_has ls 2 [(0, .ref (ad 0 i0 0)), (1, .int a1)] := hl
  exact t_X0_layersOn C h hR hS hi0 hl
def rm_X0_addLayerOn : Room := { frames := 1, cells := 0, slots := 0, locals := 21 }
theorem hd_X0_addLayerOn : yX0_addLayerOn.cls = RX0 ∧ yX0_addLayerOn.cls ≠ "java/lang/invoke/MethodHandle" ∧ yX0_addLayerOn.cls ≠ "java/lang/invoke/VarHandle" ∧ (parseMethodDescriptor yX0_addLayerOn.desc).map (fun d => d.parameters.length) = some 1 := ⟨rfl, by decide, by decide, by decide +kernel⟩
def wpb_X0_addLayerOn (g : Nat → Nat) (σ : pr_Sg) (i0 : Nat) (a1 : Int32) (Q : pr_Sg → Prop) : Prop :=
  (wp_X0_layersOn g σ i0 a1 (fun r1 σ1 =>
  (∀ σ2 : pr_Sg, σ2 = pr_up σ1 2 i0 0 (r1 + (1 : Int32)) →
  (∀ σ3 : pr_Sg, σ3 = pr_up σ2 1 i0 0 a1 →
  Q σ3))))
set_option maxHeartbeats 4000000 in
set_option maxRecDepth 100000 in
theorem t_X0_addLayerOn {p : Program} {l : Launch} {e : Env} {s : State} {m : MethodId} {args : Array Value} {below : List Frame} {meth : Method} {c : Code} {D : va_G} {cs : Nat → ClassId} {A : Nat → Prop} {ad : pr_Ad} {g : Nat → Nat} {Q : pr_Sg → Prop} (C : pr_C RX0 cX0_addLayerOn 2 none D cs p s m args meth c) {H : Heap} {locs : List Loc} {ls : Array Slot} {σ : pr_Sg} {i0 : Nat} {a1 : Int32} (h : wpb_X0_addLayerOn g σ i0 a1 Q) (hR : pr_R D cs A ad g σ H) (hS : va_S A s.heap H locs) (hi0 : pr_lv g 0 i0 0) (hl : lv_has ls 2 [(0, .ref (ad 0 i0 0)), (1, .int a1)]) : W p l e rm_X0_addLayerOn s m args below meth c H locs 0 0 (MQ below (va_Qv Q (pr_E D cs A ad g) A) args s 0 0 A) (F0 m 0 ls []) := by
  unfold wpb_X0_addLayerOn at h
  obtain ⟨hx, hb, hml, hown, hts, hK, hr, hlocks⟩ := id C
  refine lv_aload_n hx hb dX0_addLayerOn_0 rfl (lv_at hl 0 rfl) ?_
  refine lv_aload_n hx hb dX0_addLayerOn_1 rfl (lv_at hl 0 rfl) ?_
  refine lv_iload_n hx hb dX0_addLayerOn_2 rfl (lv_at hl 1 rfl) ?_
  refine pr_calli hS (pr_runV (As := [.int a1]) (rest := [.ref (ad 0 i0 0)]) C hR hi0 (by omega) rfl (c_X0_layersOn hi0 h) gw_RX0_21 rfl rfl hd_X0_layersOn ⟨Nat.le_of_ble_eq_true rfl, Nat.le_of_ble_eq_true rfl⟩ rfl hl.1 rfl (Nat.le_of_ble_eq_true rfl) dX0_addLayerOn_3 ⟨Nat.zero_le _, Nat.zero_le _⟩) (fun r1 σ1 H locs h hR hS => ?_)
  refine lv_iconst (v := (1 : Int32)) hx hb dX0_addLayerOn_6 (by decide) ?_
  refine lv_iadd hx hb dX0_addLayerOn_7 ?_
  refine pf_RX0_18 C hR hS hi0 dX0_addLayerOn_8 (fun H locs σ2 e2 hR hS => ?_)
  have h := h σ2 e2
  refine lv_aload_n hx hb dX0_addLayerOn_11 rfl (lv_at hl 0 rfl) ?_
  refine lv_iload_n hx hb dX0_addLayerOn_12 rfl (lv_at hl 1 rfl) ?_
  refine pf_RX0_15 C hR hS hi0 dX0_addLayerOn_13 (fun H locs σ3 e3 hR hS => ?_)
  have h := h σ3 e3
  exact pr_retv C h hR hS dX0_addLayerOn_16
abbrev wp_X0_addLayerOn (g : Nat → Nat) (σ : pr_Sg) (i0 : Nat) (a1 : Int32) (Q : pr_Sg → Prop) : Prop := wpb_X0_addLayerOn g σ i0 a1 Q
set_option maxHeartbeats 4000000 in
set_option maxRecDepth 100000 in
theorem c_X0_addLayerOn {l : Launch} {D : va_G} {cs : Nat → ClassId} {A : Nat → Prop} {ad : pr_Ad} {g : Nat → Nat} {σ : pr_Sg} {i0 : Nat} {a1 : Int32} {Q : pr_Sg → Prop} (hi0 : pr_lv g 0 i0 0) (h : wp_X0_addLayerOn g σ i0 a1 Q) : pr_Mv l D cs A ad g yX0_addLayerOn cX0_addLayerOn 2 rm_X0_addLayerOn [.ref (ad 0 i0 0), .int a1] σ Q := by
  refine Met.ofW (cc := cX0_addLayerOn) (maxL := 2) (ret := none) (by decide) rfl ?_
  intro p e s m args below meth c s₁ B hml hv
  obtain ⟨rfl, hR, hK⟩ := hv
  have C : pr_C RX0 cX0_addLayerOn 2 none D cs p s m [.ref (ad 0 i0 0), .int a1].toArray meth c := pr_C.of B hml hK
  have hS : va_S A s.heap s.heap [] := va_S.rf
  have hl := lv_entry ([.ref (ad 0 i0 0), .int a1]) (n := 2) (Nat.le_of_ble_eq_true rfl)
  rw [lg_entry_eq]
  generalize (lg_sl ([.ref (ad 0 i0 0), .int a1]) ++ List.replicate (2 - (lg_sl ([.ref (ad 0 i0 0), .int a1])).length) Slot.unset).toArray = ls at hl ⊢
  have hl : lv_has ls 2 [(0, .ref (ad 0 i0 0)), (1, .int a1)] := hl
  exact t_X0_addLayerOn C h hR hS hi0 hl
def rm_X1_add : Room := { frames := 0, cells := 0, slots := 0, locals := 0 }
theorem hd_X1_add : yX1_add.cls = RX1 ∧ yX1_add.cls ≠ "java/lang/invoke/MethodHandle" ∧ yX1_add.cls ≠ "java/lang/invoke/VarHandle" ∧ (parseMethodDescriptor yX1_add.desc).map (fun d => d.parameters.length) = some 3 := ⟨rfl, by decide, by decide, by decide +kernel⟩
def wpb_X1_add (g : Nat → Nat) (σ : pr_Sg) (a1 : Int32) (a2 : Int32) (a3 : Int32) (Q : Int32 → pr_Sg → Prop) : Prop :=
  (((σ 67 0 0) < (60 : Int32) → (vp_in (σ 67 0 0) 60 ∧ ∀ σ2 : pr_Sg, σ2 = pr_up σ 1020 0 ((σ 67 0 0)).toNatClampNeg a1 →
  (vp_in (σ2 67 0 0) 60 ∧ ∀ σ3 : pr_Sg, σ3 = pr_up σ2 1021 0 ((σ2 67 0 0)).toNatClampNeg a2 →
  (vp_in (σ3 67 0 0) 60 ∧ ∀ σ4 : pr_Sg, σ4 = pr_up σ3 1022 0 ((σ3 67 0 0)).toNatClampNeg a3 →
  (∀ σ5 : pr_Sg, σ5 = pr_up σ4 67 0 0 ((σ4 67 0 0) + (1 : Int32)) →
  Q (1 : Int32) σ5))))) ∧
  (¬ (σ 67 0 0) < (60 : Int32) → Q (0 : Int32) σ))
set_option maxHeartbeats 4000000 in
set_option maxRecDepth 100000 in
theorem t_X1_add {p : Program} {l : Launch} {e : Env} {s : State} {m : MethodId} {args : Array Value} {below : List Frame} {meth : Method} {c : Code} {D : va_G} {cs : Nat → ClassId} {A : Nat → Prop} {ad : pr_Ad} {g : Nat → Nat} {Q : Int32 → pr_Sg → Prop} (C : pr_C RX1 cX1_add 4 (some .boolean) D cs p s m args meth c) {H : Heap} {locs : List Loc} {ls : Array Slot} {σ : pr_Sg} {a1 : Int32} {a2 : Int32} {a3 : Int32} (h : wpb_X1_add g σ a1 a2 a3 Q) (hR : pr_R D cs A ad g σ H) (hS : va_S A s.heap H locs) (hl : lv_has ls 4 [(0, .ref (ad 1 0 0)), (1, .int a1), (2, .int a2), (3, .int a3)]) : W p l e rm_X1_add s m args below meth c H locs 0 0 (MQ below (va_Qi (pr_Qz Q) (pr_E D cs A ad g) A) args s 0 0 A) (F0 m 0 ls []) := by
  unfold wpb_X1_add at h
  obtain ⟨hx, hb, hml, hown, hts, hK, hr, hlocks⟩ := id C
  refine lv_aload_n hx hb dX1_add_0 rfl (lv_at hl 0 rfl) ?_
  refine gf_RX1_21 C hR pr_l1 dX1_add_1 ?_
  refine lv_bipush (v := (60 : Int32)) hx hb dX1_add_4 (by decide) ?_
  refine lv_icmp_lt (tgt := 11) hx hb dX1_add_6 (by decide) (fun c1 => ?_) (fun c1 => ?_)
  · have h := h.1 c1
    refine lv_aload_n hx hb dX1_add_11 rfl (lv_at hl 0 rfl) ?_
    refine gf_RX1_9 C hR pr_l1 dX1_add_12 ?_
    refine lv_aload_n hx hb dX1_add_15 rfl (lv_at hl 0 rfl) ?_
    refine gf_RX1_21 C hR pr_l1 dX1_add_16 ?_
    refine lv_iload_n hx hb dX1_add_19 rfl (lv_at hl 1 rfl) ?_
    refine pr_ast hx hb hK hR hS pr_l20 (by omega) (by omega) (n := 60) (by decide) h.1 dX1_add_20 (t := 1020) rfl (fun H locs σ2 e2 hR hS => ?_)
    have h := h.2 σ2 e2
    refine lv_aload_n hx hb dX1_add_21 rfl (lv_at hl 0 rfl) ?_
    refine gf_RX1_15 C hR pr_l1 dX1_add_22 ?_
    refine lv_aload_n hx hb dX1_add_25 rfl (lv_at hl 0 rfl) ?_
    refine gf_RX1_21 C hR pr_l1 dX1_add_26 ?_
    refine lv_iload_n hx hb dX1_add_29 rfl (lv_at hl 2 rfl) ?_
    refine pr_ast hx hb hK hR hS pr_l21 (by omega) (by omega) (n := 60) (by decide) h.1 dX1_add_30 (t := 1021) rfl (fun H locs σ3 e3 hR hS => ?_)
    have h := h.2 σ3 e3
    refine lv_aload_n hx hb dX1_add_31 rfl (lv_at hl 0 rfl) ?_
    refine gf_RX1_18 C hR pr_l1 dX1_add_32 ?_
    refine lv_aload_n hx hb dX1_add_35 rfl (lv_at hl 0 rfl) ?_
    refine gf_RX1_21 C hR pr_l1 dX1_add_36 ?_
    refine lv_iload_n hx hb dX1_add_39 rfl (lv_at hl 3 rfl) ?_
    refine pr_ast hx hb hK hR hS pr_l22 (by omega) (by omega) (n := 60) (by decide) h.1 dX1_add_40 (t := 1022) rfl (fun H locs σ4 e4 hR hS => ?_)
    have h := h.2 σ4 e4
    refine lv_aload_n hx hb dX1_add_41 rfl (lv_at hl 0 rfl) ?_
    refine lv_dup hx hb dX1_add_42 rfl ?_
    refine gf_RX1_21 C hR pr_l1 dX1_add_43 ?_
    refine lv_iconst (v := (1 : Int32)) hx hb dX1_add_46 (by decide) ?_
    refine lv_iadd hx hb dX1_add_47 ?_
    refine pf_RX1_21 C hR hS pr_l1 dX1_add_48 (fun H locs σ5 e5 hR hS => ?_)
    have h := h σ5 e5
    refine lv_iconst (v := (1 : Int32)) hx hb dX1_add_51 (by decide) ?_
    exact pr_retz C (Or.inr rfl) h hR hS dX1_add_52
  · have h := h.2 c1
    refine lv_iconst (v := (0 : Int32)) hx hb dX1_add_9 (by decide) ?_
    exact pr_retz C (Or.inl rfl) h hR hS dX1_add_10
abbrev wp_X1_add (g : Nat → Nat) (σ : pr_Sg) (a1 : Int32) (a2 : Int32) (a3 : Int32) (Q : Int32 → pr_Sg → Prop) : Prop := wpb_X1_add g σ a1 a2 a3 Q
set_option maxHeartbeats 4000000 in
set_option maxRecDepth 100000 in
theorem c_X1_add {l : Launch} {D : va_G} {cs : Nat → ClassId} {A : Nat → Prop} {ad : pr_Ad} {g : Nat → Nat} {σ : pr_Sg} {a1 : Int32} {a2 : Int32} {a3 : Int32} {Q : Int32 → pr_Sg → Prop} (h : wp_X1_add g σ a1 a2 a3 Q) : pr_Mi l D cs A ad g yX1_add cX1_add 4 (some .boolean) rm_X1_add [.ref (ad 1 0 0), .int a1, .int a2, .int a3] σ (pr_Qz Q) := by
  refine Met.ofW (cc := cX1_add) (maxL := 4) (ret := (some .boolean)) (by decide) rfl ?_
  intro p e s m args below meth c s₁ B hml hv
  obtain ⟨rfl, hR, hK⟩ := hv
  have C : pr_C RX1 cX1_add 4 (some .boolean) D cs p s m [.ref (ad 1 0 0), .int a1, .int a2, .int a3].toArray meth c := pr_C.of B hml hK
  have hS : va_S A s.heap s.heap [] := va_S.rf
  have hl := lv_entry ([.ref (ad 1 0 0), .int a1, .int a2, .int a3]) (n := 4) (Nat.le_of_ble_eq_true rfl)
  rw [lg_entry_eq]
  generalize (lg_sl ([.ref (ad 1 0 0), .int a1, .int a2, .int a3]) ++ List.replicate (4 - (lg_sl ([.ref (ad 1 0 0), .int a1, .int a2, .int a3])).length) Slot.unset).toArray = ls at hl ⊢
  have hl : lv_has ls 4 [(0, .ref (ad 1 0 0)), (1, .int a1), (2, .int a2), (3, .int a3)] := hl
  exact t_X1_add C h hR hS hl
def rm_X1_priceIn : Room := { frames := 0, cells := 0, slots := 0, locals := 0 }
theorem hd_X1_priceIn : yX1_priceIn.cls = RX1 ∧ yX1_priceIn.cls ≠ "java/lang/invoke/MethodHandle" ∧ yX1_priceIn.cls ≠ "java/lang/invoke/VarHandle" ∧ (parseMethodDescriptor yX1_priceIn.desc).map (fun d => d.parameters.length) = some 2 := ⟨rfl, by decide, by decide, by decide +kernel⟩
def wp_X1_priceIn_L8 (g : Nat → Nat) (Q : Int32 → pr_Sg → Prop) : Nat → pr_Sg → Int32 → Int32 → Int32 → Int32 → Int32 → Prop
  | 0, _, _, _, _, _, _ => False
  | n + 1, σ, x1, x2, x3, x4, x5 => (((σ 67 0 0) ≤ x5 → Q x3 σ) ∧
  (¬ (σ 67 0 0) ≤ x5 → (vp_in x5 60 ∧ ((¬ (σ 1021 0 (x5).toNatClampNeg) = x2 → wp_X1_priceIn_L8 g Q n σ x1 x2 x3 x4 (x5 + (1 : Int32))) ∧
  ((σ 1021 0 (x5).toNatClampNeg) = x2 → (vp_in x5 60 ∧ ((x1 < (σ 1020 0 (x5).toNatClampNeg) → wp_X1_priceIn_L8 g Q n σ x1 x2 x3 x4 (x5 + (1 : Int32))) ∧
  (¬ x1 < (σ 1020 0 (x5).toNatClampNeg) → (vp_in x5 60 ∧ (((σ 1020 0 (x5).toNatClampNeg) < x4 → wp_X1_priceIn_L8 g Q n σ x1 x2 x3 x4 (x5 + (1 : Int32))) ∧
  (¬ (σ 1020 0 (x5).toNatClampNeg) < x4 → (vp_in x5 60 ∧ (vp_in x5 60 ∧ wp_X1_priceIn_L8 g Q n σ x1 x2 (σ 1022 0 (x5).toNatClampNeg) (σ 1020 0 (x5).toNatClampNeg) (x5 + (1 : Int32)))))))))))))))
set_option maxHeartbeats 4000000 in
set_option maxRecDepth 100000 in
theorem t_X1_priceIn_L8 {p : Program} {l : Launch} {e : Env} {s : State} {m : MethodId} {args : Array Value} {below : List Frame} {meth : Method} {c : Code} {D : va_G} {cs : Nat → ClassId} {A : Nat → Prop} {ad : pr_Ad} {g : Nat → Nat} {Q : Int32 → pr_Sg → Prop} (C : pr_C RX1 cX1_priceIn 6 (some .int) D cs p s m args meth c) (n : Nat) : ∀ {H : Heap} {locs : List Loc} {ls : Array Slot} {σ : pr_Sg} {x1 : Int32} {x2 : Int32} {x3 : Int32} {x4 : Int32} {x5 : Int32} (_ : wp_X1_priceIn_L8 g Q n σ x1 x2 x3 x4 x5) (_ : pr_R D cs A ad g σ H) (_ : va_S A s.heap H locs) (_ : lv_has ls 6 [(0, .ref (ad 1 0 0)), (1, .int x1), (2, .int x2), (3, .int x3), (4, .int x4), (5, .int x5)]), W p l e rm_X1_priceIn s m args below meth c H locs 0 0 (MQ below (va_Qi Q (pr_E D cs A ad g) A) args s 0 0 A) (F0 m 8 ls []) := by
  induction n with
  | zero =>
    intro H locs ls σ x1 x2 x3 x4 x5 h
    exact False.elim h
  | succ n ih =>
    intro H locs ls σ x1 x2 x3 x4 x5 h hR hS hl
    unfold wp_X1_priceIn_L8 at h
    obtain ⟨hx, hb, hml, hown, hts, hK, hr, hlocks⟩ := id C
    refine lv_iload hx hb dX1_priceIn_8 (lv_at hl 5 rfl) ?_
    refine lv_aload_n hx hb dX1_priceIn_10 rfl (lv_at hl 0 rfl) ?_
    refine gf_RX1_21 C hR pr_l1 dX1_priceIn_11 ?_
    refine lv_icmp_ge (tgt := 74) hx hb dX1_priceIn_14 (by decide) (fun c1 => ?_) (fun c1 => ?_)
    · have h := h.1 c1
      refine lv_iload_n hx hb dX1_priceIn_74 rfl (lv_at hl 3 rfl) ?_
      exact pr_reti C h hR hS dX1_priceIn_75
    · have h := h.2 c1
      refine lv_aload_n hx hb dX1_priceIn_17 rfl (lv_at hl 0 rfl) ?_
      refine gf_RX1_15 C hR pr_l1 dX1_priceIn_18 ?_
      refine lv_iload hx hb dX1_priceIn_21 (lv_at hl 5 rfl) ?_
      refine pr_ald hx hb hK hR pr_l21 (by omega) (by omega) (n := 60) (by decide) h.1 dX1_priceIn_23 (t := 1021) rfl ?_
      have h := h.2
      refine lv_iload_n hx hb dX1_priceIn_24 rfl (lv_at hl 2 rfl) ?_
      refine lv_icmp_ne (tgt := 68) hx hb dX1_priceIn_25 (by decide) (fun c2 => ?_) (fun c2 => ?_)
      · have h := h.1 c2
        refine lv_iinc (v := (x5 + (1 : Int32))) (lv' := [(5, .int (x5 + (1 : Int32))), (0, .ref (ad 1 0 0)), (1, .int x1), (2, .int x2), (3, .int x3), (4, .int x4)]) hx hb dX1_priceIn_68 hl (k := 5) rfl rfl (by decide) rfl (fun ls hl => ?_)
        refine lv_goto (tgt := 8) hx hb dX1_priceIn_71 (by decide) ?_
        exact ih h hR hS (lv_sub hl [1, 2, 3, 4, 5, 0] rfl)
      · have h := h.2 c2
        refine lv_aload_n hx hb dX1_priceIn_28 rfl (lv_at hl 0 rfl) ?_
        refine gf_RX1_9 C hR pr_l1 dX1_priceIn_29 ?_
        refine lv_iload hx hb dX1_priceIn_32 (lv_at hl 5 rfl) ?_
        refine pr_ald hx hb hK hR pr_l20 (by omega) (by omega) (n := 60) (by decide) h.1 dX1_priceIn_34 (t := 1020) rfl ?_
        have h := h.2
        refine lv_iload_n hx hb dX1_priceIn_35 rfl (lv_at hl 1 rfl) ?_
        refine lv_icmp_gt (tgt := 68) hx hb dX1_priceIn_36 (by decide) (fun c3 => ?_) (fun c3 => ?_)
        · have h := h.1 c3
          refine lv_iinc (v := (x5 + (1 : Int32))) (lv' := [(5, .int (x5 + (1 : Int32))), (0, .ref (ad 1 0 0)), (1, .int x1), (2, .int x2), (3, .int x3), (4, .int x4)]) hx hb dX1_priceIn_68 hl (k := 5) rfl rfl (by decide) rfl (fun ls hl => ?_)
          refine lv_goto (tgt := 8) hx hb dX1_priceIn_71 (by decide) ?_
          exact ih h hR hS (lv_sub hl [1, 2, 3, 4, 5, 0] rfl)
        · have h := h.2 c3
          refine lv_aload_n hx hb dX1_priceIn_39 rfl (lv_at hl 0 rfl) ?_
          refine gf_RX1_9 C hR pr_l1 dX1_priceIn_40 ?_
          refine lv_iload hx hb dX1_priceIn_43 (lv_at hl 5 rfl) ?_
          refine pr_ald hx hb hK hR pr_l20 (by omega) (by omega) (n := 60) (by decide) h.1 dX1_priceIn_45 (t := 1020) rfl ?_
          have h := h.2
          refine lv_iload hx hb dX1_priceIn_46 (lv_at hl 4 rfl) ?_
          refine lv_icmp_lt (tgt := 68) hx hb dX1_priceIn_48 (by decide) (fun c4 => ?_) (fun c4 => ?_)
          · have h := h.1 c4
            refine lv_iinc (v := (x5 + (1 : Int32))) (lv' := [(5, .int (x5 + (1 : Int32))), (0, .ref (ad 1 0 0)), (1, .int x1), (2, .int x2), (3, .int x3), (4, .int x4)]) hx hb dX1_priceIn_68 hl (k := 5) rfl rfl (by decide) rfl (fun ls hl => ?_)
            refine lv_goto (tgt := 8) hx hb dX1_priceIn_71 (by decide) ?_
            exact ih h hR hS (lv_sub hl [1, 2, 3, 4, 5, 0] rfl)
          · have h := h.2 c4
            refine lv_aload_n hx hb dX1_priceIn_51 rfl (lv_at hl 0 rfl) ?_
            refine gf_RX1_9 C hR pr_l1 dX1_priceIn_52 ?_
            refine lv_iload hx hb dX1_priceIn_55 (lv_at hl 5 rfl) ?_
            refine pr_ald hx hb hK hR pr_l20 (by omega) (by omega) (n := 60) (by decide) h.1 dX1_priceIn_57 (t := 1020) rfl ?_
            have h := h.2
            refine lv_istore (lv' := [(4, .int (σ 1020 0 (x5).toNatClampNeg)), (0, .ref (ad 1 0 0)), (1, .int x1), (2, .int x2), (3, .int x3), (5, .int x5)]) hx hb dX1_priceIn_58 hl (by decide) rfl (fun ls hl => ?_)
            refine lv_aload_n hx hb dX1_priceIn_60 rfl (lv_at hl 1 rfl) ?_
            refine gf_RX1_18 C hR pr_l1 dX1_priceIn_61 ?_
            refine lv_iload hx hb dX1_priceIn_64 (lv_at hl 5 rfl) ?_
            refine pr_ald hx hb hK hR pr_l22 (by omega) (by omega) (n := 60) (by decide) h.1 dX1_priceIn_66 (t := 1022) rfl ?_
            have h := h.2
            refine lv_istore_n (lv' := [(3, .int (σ 1022 0 (x5).toNatClampNeg)), (4, .int (σ 1020 0 (x5).toNatClampNeg)), (0, .ref (ad 1 0 0)), (1, .int x1), (2, .int x2), (5, .int x5)]) hx hb dX1_priceIn_67 rfl hl (by decide) rfl (fun ls hl => ?_)
            refine lv_iinc (v := (x5 + (1 : Int32))) (lv' := [(5, .int (x5 + (1 : Int32))), (3, .int (σ 1022 0 (x5).toNatClampNeg)), (4, .int (σ 1020 0 (x5).toNatClampNeg)), (0, .ref (ad 1 0 0)), (1, .int x1), (2, .int x2)]) hx hb dX1_priceIn_68 hl (k := 5) rfl rfl (by decide) rfl (fun ls hl => ?_)
            refine lv_goto (tgt := 8) hx hb dX1_priceIn_71 (by decide) ?_
            exact ih h hR hS (lv_sub hl [3, 4, 5, 1, 2, 0] rfl)
def wpb_X1_priceIn (g : Nat → Nat) (σ : pr_Sg) (a1 : Int32) (a2 : Int32) (Q : Int32 → pr_Sg → Prop) : Prop :=
  (∃ n : Nat, wp_X1_priceIn_L8 g Q n σ a1 a2 (0 : Int32) (0 : Int32) (0 : Int32))
set_option maxHeartbeats 4000000 in
set_option maxRecDepth 100000 in
theorem t_X1_priceIn {p : Program} {l : Launch} {e : Env} {s : State} {m : MethodId} {args : Array Value} {below : List Frame} {meth : Method} {c : Code} {D : va_G} {cs : Nat → ClassId} {A : Nat → Prop} {ad : pr_Ad} {g : Nat → Nat} {Q : Int32 → pr_Sg → Prop} (C : pr_C RX1 cX1_priceIn 6 (some .int) D cs p s m args meth c) {H : Heap} {locs : List Loc} {ls : Array Slot} {σ : pr_Sg} {a1 : Int32} {a2 : Int32} (h : wpb_X1_priceIn g σ a1 a2 Q) (hR : pr_R D cs A ad g σ H) (hS : va_S A s.heap H locs) (hl : lv_has ls 6 [(0, .ref (ad 1 0 0)), (1, .int a1), (2, .int a2)]) : W p l e rm_X1_priceIn s m args below meth c H locs 0 0 (MQ below (va_Qi Q (pr_E D cs A ad g) A) args s 0 0 A) (F0 m 0 ls []) := by
  unfold wpb_X1_priceIn at h
  obtain ⟨hx, hb, hml, hown, hts, hK, hr, hlocks⟩ := id C
  refine lv_iconst (v := (0 : Int32)) hx hb dX1_priceIn_0 (by decide) ?_
  refine lv_istore_n (lv' := [(3, .int (0 : Int32)), (0, .ref (ad 1 0 0)), (1, .int a1), (2, .int a2)]) hx hb dX1_priceIn_1 rfl hl (by decide) rfl (fun ls hl => ?_)
  refine lv_iconst (v := (0 : Int32)) hx hb dX1_priceIn_2 (by decide) ?_
  refine lv_istore (lv' := [(4, .int (0 : Int32)), (3, .int (0 : Int32)), (0, .ref (ad 1 0 0)), (1, .int a1), (2, .int a2)]) hx hb dX1_priceIn_3 hl (by decide) rfl (fun ls hl => ?_)
  refine lv_iconst (v := (0 : Int32)) hx hb dX1_priceIn_5 (by decide) ?_
  refine lv_istore (lv' := [(5, .int (0 : Int32)), (4, .int (0 : Int32)), (3, .int (0 : Int32)), (0, .ref (ad 1 0 0)), (1, .int a1), (2, .int a2)]) hx hb dX1_priceIn_6 hl (by decide) rfl (fun ls hl => ?_)
  obtain ⟨n1, h⟩ := h
  exact t_X1_priceIn_L8 C n1 h hR hS (lv_sub hl [3, 4, 5, 2, 1, 0] rfl)
abbrev wp_X1_priceIn (g : Nat → Nat) (σ : pr_Sg) (a1 : Int32) (a2 : Int32) (Q : Int32 → pr_Sg → Prop) : Prop := wpb_X1_priceIn g σ a1 a2 Q
set_option maxHeartbeats 4000000 in
set_option maxRecDepth 100000 in
theorem c_X1_priceIn {l : Launch} {D : va_G} {cs : Nat → ClassId} {A : Nat → Prop} {ad : pr_Ad} {g : Nat → Nat} {σ : pr_Sg} {a1 : Int32} {a2 : Int32} {Q : Int32 → pr_Sg → Prop} (h : wp_X1_priceIn g σ a1 a2 Q) : pr_Mi l D cs A ad g yX1_priceIn cX1_priceIn 6 (some .int) rm_X1_priceIn [.ref (ad 1 0 0), .int a1, .int a2] σ Q := by
  refine Met.ofW (cc := cX1_priceIn) (maxL := 6) (ret := (some .int)) (by decide) rfl ?_
  intro p e s m args below meth c s₁ B hml hv
  obtain ⟨rfl, hR, hK⟩ := hv
  have C : pr_C RX1 cX1_priceIn 6 (some .int) D cs p s m [.ref (ad 1 0 0), .int a1, .int a2].toArray meth c := pr_C.of B hml hK
  have hS : va_S A s.heap s.heap [] := va_S.rf
  have hl := lv_entry ([.ref (ad 1 0 0), .int a1, .int a2]) (n := 6) (Nat.le_of_ble_eq_true rfl)
  rw [lg_entry_eq]
  generalize (lg_sl ([.ref (ad 1 0 0), .int a1, .int a2]) ++ List.replicate (6 - (lg_sl ([.ref (ad 1 0 0), .int a1, .int a2])).length) Slot.unset).toArray = ls at hl ⊢
  have hl : lv_has ls 6 [(0, .ref (ad 1 0 0)), (1, .int a1), (2, .int a2)] := hl
  exact t_X1_priceIn C h hR hS hl
def rm_X2_wantsMore : Room := { frames := 0, cells := 0, slots := 0, locals := 0 }
theorem hd_X2_wantsMore : yX2_wantsMore.cls = RX2 ∧ yX2_wantsMore.cls ≠ "java/lang/invoke/MethodHandle" ∧ yX2_wantsMore.cls ≠ "java/lang/invoke/VarHandle" ∧ (parseMethodDescriptor yX2_wantsMore.desc).map (fun d => d.parameters.length) = some 0 := ⟨rfl, by decide, by decide, by decide +kernel⟩
def wpb_X2_wantsMore (g : Nat → Nat) (σ : pr_Sg) (i0 : Nat) (j0 : Nat) (Q : Int32 → pr_Sg → Prop) : Prop :=
  (((σ 128 i0 j0) ≤ (σ 129 i0 j0) → Q (0 : Int32) σ) ∧
  (¬ (σ 128 i0 j0) ≤ (σ 129 i0 j0) → Q (1 : Int32) σ))
set_option maxHeartbeats 4000000 in
set_option maxRecDepth 100000 in
theorem t_X2_wantsMore {p : Program} {l : Launch} {e : Env} {s : State} {m : MethodId} {args : Array Value} {below : List Frame} {meth : Method} {c : Code} {D : va_G} {cs : Nat → ClassId} {A : Nat → Prop} {ad : pr_Ad} {g : Nat → Nat} {Q : Int32 → pr_Sg → Prop} (C : pr_C RX2 cX2_wantsMore 1 (some .boolean) D cs p s m args meth c) {H : Heap} {locs : List Loc} {ls : Array Slot} {σ : pr_Sg} {i0 : Nat} {j0 : Nat} (h : wpb_X2_wantsMore g σ i0 j0 Q) (hR : pr_R D cs A ad g σ H) (hS : va_S A s.heap H locs) (hi0 : pr_lv g 2 i0 j0) (hl : lv_has ls 1 [(0, .ref (ad 2 i0 j0))]) : W p l e rm_X2_wantsMore s m args below meth c H locs 0 0 (MQ below (va_Qi (pr_Qz Q) (pr_E D cs A ad g) A) args s 0 0 A) (F0 m 0 ls []) := by
  unfold wpb_X2_wantsMore at h
  obtain ⟨hx, hb, hml, hown, hts, hK, hr, hlocks⟩ := id C
  refine lv_aload_n hx hb dX2_wantsMore_0 rfl (lv_at hl 0 rfl) ?_
  refine gf_RX2_24 C hR hi0 dX2_wantsMore_1 ?_
  refine lv_aload_n hx hb dX2_wantsMore_4 rfl (lv_at hl 0 rfl) ?_
  refine gf_RX2_9 C hR hi0 dX2_wantsMore_5 ?_
  refine lv_icmp_ge (tgt := 15) hx hb dX2_wantsMore_8 (by decide) (fun c1 => ?_) (fun c1 => ?_)
  · have h := h.1 c1
    refine lv_iconst (v := (0 : Int32)) hx hb dX2_wantsMore_15 (by decide) ?_
    exact pr_retz C (Or.inl rfl) h hR hS dX2_wantsMore_16
  · have h := h.2 c1
    refine lv_iconst (v := (1 : Int32)) hx hb dX2_wantsMore_11 (by decide) ?_
    refine lv_goto (tgt := 16) hx hb dX2_wantsMore_12 (by decide) ?_
    exact pr_retz C (Or.inr rfl) h hR hS dX2_wantsMore_16
abbrev wp_X2_wantsMore (g : Nat → Nat) (σ : pr_Sg) (i0 : Nat) (j0 : Nat) (Q : Int32 → pr_Sg → Prop) : Prop := wpb_X2_wantsMore g σ i0 j0 Q
set_option maxHeartbeats 4000000 in
set_option maxRecDepth 100000 in
theorem c_X2_wantsMore {l : Launch} {D : va_G} {cs : Nat → ClassId} {A : Nat → Prop} {ad : pr_Ad} {g : Nat → Nat} {σ : pr_Sg} {i0 : Nat} {j0 : Nat} {Q : Int32 → pr_Sg → Prop} (hi0 : pr_lv g 2 i0 j0) (h : wp_X2_wantsMore g σ i0 j0 Q) : pr_Mi l D cs A ad g yX2_wantsMore cX2_wantsMore 1 (some .boolean) rm_X2_wantsMore [.ref (ad 2 i0 j0)] σ (pr_Qz Q) := by
  refine Met.ofW (cc := cX2_wantsMore) (maxL := 1) (ret := (some .boolean)) (by decide) rfl ?_
  intro p e s m args below meth c s₁ B hml hv
  obtain ⟨rfl, hR, hK⟩ := hv
  have C : pr_C RX2 cX2_wantsMore 1 (some .boolean) D cs p s m [.ref (ad 2 i0 j0)].toArray meth c := pr_C.of B hml hK
  have hS : va_S A s.heap s.heap [] := va_S.rf
  have hl := lv_entry ([.ref (ad 2 i0 j0)]) (n := 1) (Nat.le_of_ble_eq_true rfl)
  rw [lg_entry_eq]
  generalize (lg_sl ([.ref (ad 2 i0 j0)]) ++ List.replicate (1 - (lg_sl ([.ref (ad 2 i0 j0)])).length) Slot.unset).toArray = ls at hl ⊢
  have hl : lv_has ls 1 [(0, .ref (ad 2 i0 j0))] := hl
  exact t_X2_wantsMore C h hR hS hi0 hl
def rm_X2_isWet : Room := { frames := 0, cells := 0, slots := 0, locals := 0 }
theorem hd_X2_isWet : yX2_isWet.cls = RX2 ∧ yX2_isWet.cls ≠ "java/lang/invoke/MethodHandle" ∧ yX2_isWet.cls ≠ "java/lang/invoke/VarHandle" ∧ (parseMethodDescriptor yX2_isWet.desc).map (fun d => d.parameters.length) = some 2 := ⟨rfl, by decide, by decide, by decide +kernel⟩
def wpb_X2_isWet (g : Nat → Nat) (σ : pr_Sg) (i0 : Nat) (j0 : Nat) (a1 : Int32) (a2 : Int32) (Q : Int32 → pr_Sg → Prop) : Prop :=
  (((σ 130 i0 j0) = (-1 : Int32) → Q (0 : Int32) σ) ∧
  (¬ (σ 130 i0 j0) = (-1 : Int32) → ((a2 ≤ (a1 - (σ 130 i0 j0)) → Q (0 : Int32) σ) ∧
  (¬ a2 ≤ (a1 - (σ 130 i0 j0)) → Q (1 : Int32) σ))))
set_option maxHeartbeats 4000000 in
set_option maxRecDepth 100000 in
theorem t_X2_isWet {p : Program} {l : Launch} {e : Env} {s : State} {m : MethodId} {args : Array Value} {below : List Frame} {meth : Method} {c : Code} {D : va_G} {cs : Nat → ClassId} {A : Nat → Prop} {ad : pr_Ad} {g : Nat → Nat} {Q : Int32 → pr_Sg → Prop} (C : pr_C RX2 cX2_isWet 3 (some .boolean) D cs p s m args meth c) {H : Heap} {locs : List Loc} {ls : Array Slot} {σ : pr_Sg} {i0 : Nat} {j0 : Nat} {a1 : Int32} {a2 : Int32} (h : wpb_X2_isWet g σ i0 j0 a1 a2 Q) (hR : pr_R D cs A ad g σ H) (hS : va_S A s.heap H locs) (hi0 : pr_lv g 2 i0 j0) (hl : lv_has ls 3 [(0, .ref (ad 2 i0 j0)), (1, .int a1), (2, .int a2)]) : W p l e rm_X2_isWet s m args below meth c H locs 0 0 (MQ below (va_Qi (pr_Qz Q) (pr_E D cs A ad g) A) args s 0 0 A) (F0 m 0 ls []) := by
  unfold wpb_X2_isWet at h
  obtain ⟨hx, hb, hml, hown, hts, hK, hr, hlocks⟩ := id C
  refine lv_aload_n hx hb dX2_isWet_0 rfl (lv_at hl 0 rfl) ?_
  refine gf_RX2_15 C hR hi0 dX2_isWet_1 ?_
  refine lv_iconst (v := (-1 : Int32)) hx hb dX2_isWet_4 (by decide) ?_
  refine lv_icmp_eq (tgt := 22) hx hb dX2_isWet_5 (by decide) (fun c1 => ?_) (fun c1 => ?_)
  · have h := h.1 c1
    refine lv_iconst (v := (0 : Int32)) hx hb dX2_isWet_22 (by decide) ?_
    exact pr_retz C (Or.inl rfl) h hR hS dX2_isWet_23
  · have h := h.2 c1
    refine lv_iload_n hx hb dX2_isWet_8 rfl (lv_at hl 1 rfl) ?_
    refine lv_aload_n hx hb dX2_isWet_9 rfl (lv_at hl 0 rfl) ?_
    refine gf_RX2_15 C hR hi0 dX2_isWet_10 ?_
    refine lv_isub hx hb dX2_isWet_13 ?_
    refine lv_iload_n hx hb dX2_isWet_14 rfl (lv_at hl 2 rfl) ?_
    refine lv_icmp_ge (tgt := 22) hx hb dX2_isWet_15 (by decide) (fun c2 => ?_) (fun c2 => ?_)
    · have h := h.1 c2
      refine lv_iconst (v := (0 : Int32)) hx hb dX2_isWet_22 (by decide) ?_
      exact pr_retz C (Or.inl rfl) h hR hS dX2_isWet_23
    · have h := h.2 c2
      refine lv_iconst (v := (1 : Int32)) hx hb dX2_isWet_18 (by decide) ?_
      refine lv_goto (tgt := 23) hx hb dX2_isWet_19 (by decide) ?_
      exact pr_retz C (Or.inr rfl) h hR hS dX2_isWet_23
abbrev wp_X2_isWet (g : Nat → Nat) (σ : pr_Sg) (i0 : Nat) (j0 : Nat) (a1 : Int32) (a2 : Int32) (Q : Int32 → pr_Sg → Prop) : Prop := wpb_X2_isWet g σ i0 j0 a1 a2 Q
set_option maxHeartbeats 4000000 in
set_option maxRecDepth 100000 in
theorem c_X2_isWet {l : Launch} {D : va_G} {cs : Nat → ClassId} {A : Nat → Prop} {ad : pr_Ad} {g : Nat → Nat} {σ : pr_Sg} {i0 : Nat} {j0 : Nat} {a1 : Int32} {a2 : Int32} {Q : Int32 → pr_Sg → Prop} (hi0 : pr_lv g 2 i0 j0) (h : wp_X2_isWet g σ i0 j0 a1 a2 Q) : pr_Mi l D cs A ad g yX2_isWet cX2_isWet 3 (some .boolean) rm_X2_isWet [.ref (ad 2 i0 j0), .int a1, .int a2] σ (pr_Qz Q) := by
  refine Met.ofW (cc := cX2_isWet) (maxL := 3) (ret := (some .boolean)) (by decide) rfl ?_
  intro p e s m args below meth c s₁ B hml hv
  obtain ⟨rfl, hR, hK⟩ := hv
  have C : pr_C RX2 cX2_isWet 3 (some .boolean) D cs p s m [.ref (ad 2 i0 j0), .int a1, .int a2].toArray meth c := pr_C.of B hml hK
  have hS : va_S A s.heap s.heap [] := va_S.rf
  have hl := lv_entry ([.ref (ad 2 i0 j0), .int a1, .int a2]) (n := 3) (Nat.le_of_ble_eq_true rfl)
  rw [lg_entry_eq]
  generalize (lg_sl ([.ref (ad 2 i0 j0), .int a1, .int a2]) ++ List.replicate (3 - (lg_sl ([.ref (ad 2 i0 j0), .int a1, .int a2])).length) Slot.unset).toArray = ls at hl ⊢
  have hl : lv_has ls 3 [(0, .ref (ad 2 i0 j0)), (1, .int a1), (2, .int a2)] := hl
  exact t_X2_isWet C h hR hS hi0 hl
def rm_X3_isDone : Room := { frames := 0, cells := 0, slots := 0, locals := 0 }
theorem hd_X3_isDone : yX3_isDone.cls = RX3 ∧ yX3_isDone.cls ≠ "java/lang/invoke/MethodHandle" ∧ yX3_isDone.cls ≠ "java/lang/invoke/VarHandle" ∧ (parseMethodDescriptor yX3_isDone.desc).map (fun d => d.parameters.length) = some 0 := ⟨rfl, by decide, by decide, by decide +kernel⟩
def wpb_X3_isDone (g : Nat → Nat) (σ : pr_Sg) (i0 : Nat) (Q : Int32 → pr_Sg → Prop) : Prop :=
  (((σ 197 i0 0) = (-1 : Int32) → Q (0 : Int32) σ) ∧
  (¬ (σ 197 i0 0) = (-1 : Int32) → Q (1 : Int32) σ))
set_option maxHeartbeats 4000000 in
set_option maxRecDepth 100000 in
theorem t_X3_isDone {p : Program} {l : Launch} {e : Env} {s : State} {m : MethodId} {args : Array Value} {below : List Frame} {meth : Method} {c : Code} {D : va_G} {cs : Nat → ClassId} {A : Nat → Prop} {ad : pr_Ad} {g : Nat → Nat} {Q : Int32 → pr_Sg → Prop} (C : pr_C RX3 cX3_isDone 1 (some .boolean) D cs p s m args meth c) {H : Heap} {locs : List Loc} {ls : Array Slot} {σ : pr_Sg} {i0 : Nat} (h : wpb_X3_isDone g σ i0 Q) (hR : pr_R D cs A ad g σ H) (hS : va_S A s.heap H locs) (hi0 : pr_lv g 3 i0 0) (hl : lv_has ls 1 [(0, .ref (ad 3 i0 0))]) : W p l e rm_X3_isDone s m args below meth c H locs 0 0 (MQ below (va_Qi (pr_Qz Q) (pr_E D cs A ad g) A) args s 0 0 A) (F0 m 0 ls []) := by
  unfold wpb_X3_isDone at h
  obtain ⟨hx, hb, hml, hown, hts, hK, hr, hlocks⟩ := id C
  refine lv_aload_n hx hb dX3_isDone_0 rfl (lv_at hl 0 rfl) ?_
  refine gf_RX3_36 C hR hi0 dX3_isDone_1 ?_
  refine lv_iconst (v := (-1 : Int32)) hx hb dX3_isDone_4 (by decide) ?_
  refine lv_icmp_eq (tgt := 12) hx hb dX3_isDone_5 (by decide) (fun c1 => ?_) (fun c1 => ?_)
  · have h := h.1 c1
    refine lv_iconst (v := (0 : Int32)) hx hb dX3_isDone_12 (by decide) ?_
    exact pr_retz C (Or.inl rfl) h hR hS dX3_isDone_13
  · have h := h.2 c1
    refine lv_iconst (v := (1 : Int32)) hx hb dX3_isDone_8 (by decide) ?_
    refine lv_goto (tgt := 13) hx hb dX3_isDone_9 (by decide) ?_
    exact pr_retz C (Or.inr rfl) h hR hS dX3_isDone_13
abbrev wp_X3_isDone (g : Nat → Nat) (σ : pr_Sg) (i0 : Nat) (Q : Int32 → pr_Sg → Prop) : Prop := wpb_X3_isDone g σ i0 Q
set_option maxHeartbeats 4000000 in
set_option maxRecDepth 100000 in
theorem c_X3_isDone {l : Launch} {D : va_G} {cs : Nat → ClassId} {A : Nat → Prop} {ad : pr_Ad} {g : Nat → Nat} {σ : pr_Sg} {i0 : Nat} {Q : Int32 → pr_Sg → Prop} (hi0 : pr_lv g 3 i0 0) (h : wp_X3_isDone g σ i0 Q) : pr_Mi l D cs A ad g yX3_isDone cX3_isDone 1 (some .boolean) rm_X3_isDone [.ref (ad 3 i0 0)] σ (pr_Qz Q) := by
  refine Met.ofW (cc := cX3_isDone) (maxL := 1) (ret := (some .boolean)) (by decide) rfl ?_
  intro p e s m args below meth c s₁ B hml hv
  obtain ⟨rfl, hR, hK⟩ := hv
  have C : pr_C RX3 cX3_isDone 1 (some .boolean) D cs p s m [.ref (ad 3 i0 0)].toArray meth c := pr_C.of B hml hK
  have hS : va_S A s.heap s.heap [] := va_S.rf
  have hl := lv_entry ([.ref (ad 3 i0 0)]) (n := 1) (Nat.le_of_ble_eq_true rfl)
  rw [lg_entry_eq]
  generalize (lg_sl ([.ref (ad 3 i0 0)]) ++ List.replicate (1 - (lg_sl ([.ref (ad 3 i0 0)])).length) Slot.unset).toArray = ls at hl ⊢
  have hl : lv_has ls 1 [(0, .ref (ad 3 i0 0))] := hl
  exact t_X3_isDone C h hR hS hi0 hl
def rm_X3_wantsHead : Room := { frames := 1, cells := 0, slots := 0, locals := 20 }
theorem hd_X3_wantsHead : yX3_wantsHead.cls = RX3 ∧ yX3_wantsHead.cls ≠ "java/lang/invoke/MethodHandle" ∧ yX3_wantsHead.cls ≠ "java/lang/invoke/VarHandle" ∧ (parseMethodDescriptor yX3_wantsHead.desc).map (fun d => d.parameters.length) = some 0 := ⟨rfl, by decide, by decide, by decide +kernel⟩
def wpb_X3_wantsHead (g : Nat → Nat) (σ : pr_Sg) (i0 : Nat) (Q : Int32 → pr_Sg → Prop) : Prop :=
  (vp_in (0 : Int32) 5 ∧ (wp_X2_wantsMore g σ i0 ((0 : Int32)).toNatClampNeg (fun r2 σ2 =>
  ((r2 = 0 → Q (0 : Int32) σ2) ∧
  (¬ r2 = 0 → Q (1 : Int32) σ2)))))
set_option maxHeartbeats 4000000 in
set_option maxRecDepth 100000 in
theorem t_X3_wantsHead {p : Program} {l : Launch} {e : Env} {s : State} {m : MethodId} {args : Array Value} {below : List Frame} {meth : Method} {c : Code} {D : va_G} {cs : Nat → ClassId} {A : Nat → Prop} {ad : pr_Ad} {g : Nat → Nat} {Q : Int32 → pr_Sg → Prop} (C : pr_C RX3 cX3_wantsHead 2 (some .boolean) D cs p s m args meth c) {H : Heap} {locs : List Loc} {ls : Array Slot} {σ : pr_Sg} {i0 : Nat} (h : wpb_X3_wantsHead g σ i0 Q) (hR : pr_R D cs A ad g σ H) (hS : va_S A s.heap H locs) (hi0 : pr_lv g 3 i0 0) (hl : lv_has ls 2 [(0, .ref (ad 3 i0 0))]) : W p l e rm_X3_wantsHead s m args below meth c H locs 0 0 (MQ below (va_Qi (pr_Qz Q) (pr_E D cs A ad g) A) args s 0 0 A) (F0 m 0 ls []) := by
  unfold wpb_X3_wantsHead at h
  obtain ⟨hx, hb, hml, hown, hts, hK, hr, hlocks⟩ := id C
  refine lv_aload_n hx hb dX3_wantsHead_0 rfl (lv_at hl 0 rfl) ?_
  refine gf_RX3_26 C hR hi0 dX3_wantsHead_1 ?_
  refine lv_iconst (v := (0 : Int32)) hx hb dX3_wantsHead_4 (by decide) ?_
  refine pr_ldp hx hb hK hR (pr_l83 hi0) h.1 dX3_wantsHead_5 (fun hv1 => ?_)
  have h := h.2
  refine lv_astore_n (lv' := [(1, .ref (ad 2 i0 ((0 : Int32)).toNatClampNeg)), (0, .ref (ad 3 i0 0))]) hx hb dX3_wantsHead_6 rfl hl (by decide) rfl (fun ls hl => ?_)
  refine lv_aload_n hx hb dX3_wantsHead_7 rfl (lv_at hl 0 rfl) ?_
  refine lv_ifnull hx hb dX3_wantsHead_8 ?_
  refine lv_aload_n hx hb dX3_wantsHead_11 rfl (lv_at hl 0 rfl) ?_
  refine pr_calli hS (pr_runV (As := []) (rest := []) C hR hv1 (by omega) rfl (c_X2_wantsMore hv1 h) gw_RX3_42 rfl rfl hd_X2_wantsMore ⟨Nat.le_of_ble_eq_true rfl, Nat.le_of_ble_eq_true rfl⟩ rfl hl.1 rfl (Nat.le_of_ble_eq_true rfl) dX3_wantsHead_12 ⟨Nat.zero_le _, Nat.zero_le _⟩) (fun r2 σ2 H locs h hR hS => ?_)
  obtain ⟨hz2, h⟩ := h
  refine lv_if_eq (tgt := 22) hx hb dX3_wantsHead_15 (by decide) (fun c3 => ?_) (fun c3 => ?_)
  · have h := h.1 c3
    refine lv_iconst (v := (0 : Int32)) hx hb dX3_wantsHead_22 (by decide) ?_
    exact pr_retz C (Or.inl rfl) h hR hS dX3_wantsHead_23
  · have h := h.2 c3
    refine lv_iconst (v := (1 : Int32)) hx hb dX3_wantsHead_18 (by decide) ?_
    refine lv_goto (tgt := 23) hx hb dX3_wantsHead_19 (by decide) ?_
    exact pr_retz C (Or.inr rfl) h hR hS dX3_wantsHead_23
abbrev wp_X3_wantsHead (g : Nat → Nat) (σ : pr_Sg) (i0 : Nat) (Q : Int32 → pr_Sg → Prop) : Prop := wpb_X3_wantsHead g σ i0 Q
set_option maxHeartbeats 4000000 in
set_option maxRecDepth 100000 in
theorem c_X3_wantsHead {l : Launch} {D : va_G} {cs : Nat → ClassId} {A : Nat → Prop} {ad : pr_Ad} {g : Nat → Nat} {σ : pr_Sg} {i0 : Nat} {Q : Int32 → pr_Sg → Prop} (hi0 : pr_lv g 3 i0 0) (h : wp_X3_wantsHead g σ i0 Q) : pr_Mi l D cs A ad g yX3_wantsHead cX3_wantsHead 2 (some .boolean) rm_X3_wantsHead [.ref (ad 3 i0 0)] σ (pr_Qz Q) := by
  refine Met.ofW (cc := cX3_wantsHead) (maxL := 2) (ret := (some .boolean)) (by decide) rfl ?_
  intro p e s m args below meth c s₁ B hml hv
  obtain ⟨rfl, hR, hK⟩ := hv
  have C : pr_C RX3 cX3_wantsHead 2 (some .boolean) D cs p s m [.ref (ad 3 i0 0)].toArray meth c := pr_C.of B hml hK
  have hS : va_S A s.heap s.heap [] := va_S.rf
  have hl := lv_entry ([.ref (ad 3 i0 0)]) (n := 2) (Nat.le_of_ble_eq_true rfl)
  rw [lg_entry_eq]
  generalize (lg_sl ([.ref (ad 3 i0 0)]) ++ List.replicate (2 - (lg_sl ([.ref (ad 3 i0 0)])).length) Slot.unset).toArray = ls at hl ⊢
  have hl : lv_has ls 2 [(0, .ref (ad 3 i0 0))] := hl
  exact t_X3_wantsHead C h hR hS hi0 hl
def rm_X4_clear : Room := { frames := 0, cells := 0, slots := 0, locals := 0 }
theorem hd_X4_clear : yX4_clear.cls = RX4 ∧ yX4_clear.cls ≠ "java/lang/invoke/MethodHandle" ∧ yX4_clear.cls ≠ "java/lang/invoke/VarHandle" ∧ (parseMethodDescriptor yX4_clear.desc).map (fun d => d.parameters.length) = some 0 := ⟨rfl, by decide, by decide, by decide +kernel⟩
def wpb_X4_clear (g : Nat → Nat) (σ : pr_Sg) (Q : pr_Sg → Prop) : Prop :=
  (∀ σ1 : pr_Sg, σ1 = pr_up σ 262 0 0 (0 : Int32) →
  (∀ σ2 : pr_Sg, σ2 = pr_up σ1 263 0 0 (0 : Int32) →
  (∀ σ3 : pr_Sg, σ3 = pr_up σ2 264 0 0 (-1 : Int32) →
  Q σ3)))
set_option maxHeartbeats 4000000 in
set_option maxRecDepth 100000 in
theorem t_X4_clear {p : Program} {l : Launch} {e : Env} {s : State} {m : MethodId} {args : Array Value} {below : List Frame} {meth : Method} {c : Code} {D : va_G} {cs : Nat → ClassId} {A : Nat → Prop} {ad : pr_Ad} {g : Nat → Nat} {Q : pr_Sg → Prop} (C : pr_C RX4 cX4_clear 1 none D cs p s m args meth c) {H : Heap} {locs : List Loc} {ls : Array Slot} {σ : pr_Sg} (h : wpb_X4_clear g σ Q) (hR : pr_R D cs A ad g σ H) (hS : va_S A s.heap H locs) (hl : lv_has ls 1 [(0, .ref (ad 4 0 0))]) : W p l e rm_X4_clear s m args below meth c H locs 0 0 (MQ below (va_Qv Q (pr_E D cs A ad g) A) args s 0 0 A) (F0 m 0 ls []) := by
  unfold wpb_X4_clear at h
  obtain ⟨hx, hb, hml, hown, hts, hK, hr, hlocks⟩ := id C
  refine lv_aload_n hx hb dX4_clear_0 rfl (lv_at hl 0 rfl) ?_
  refine lv_iconst (v := (0 : Int32)) hx hb dX4_clear_1 (by decide) ?_
  refine pf_RX4_30 C hR hS pr_l4 dX4_clear_2 (fun H locs σ1 e1 hR hS => ?_)
  have h := h σ1 e1
  refine lv_aload_n hx hb dX4_clear_5 rfl (lv_at hl 0 rfl) ?_
  refine lv_iconst (v := (0 : Int32)) hx hb dX4_clear_6 (by decide) ?_
  refine pf_RX4_34 C hR hS pr_l4 dX4_clear_7 (fun H locs σ2 e2 hR hS => ?_)
  have h := h σ2 e2
  refine lv_aload_n hx hb dX4_clear_10 rfl (lv_at hl 0 rfl) ?_
  refine lv_iconst (v := (-1 : Int32)) hx hb dX4_clear_11 (by decide) ?_
  refine pf_RX4_37 C hR hS pr_l4 dX4_clear_12 (fun H locs σ3 e3 hR hS => ?_)
  have h := h σ3 e3
  exact pr_retv C h hR hS dX4_clear_15
abbrev wp_X4_clear (g : Nat → Nat) (σ : pr_Sg) (Q : pr_Sg → Prop) : Prop := wpb_X4_clear g σ Q
set_option maxHeartbeats 4000000 in
set_option maxRecDepth 100000 in
theorem c_X4_clear {l : Launch} {D : va_G} {cs : Nat → ClassId} {A : Nat → Prop} {ad : pr_Ad} {g : Nat → Nat} {σ : pr_Sg} {Q : pr_Sg → Prop} (h : wp_X4_clear g σ Q) : pr_Mv l D cs A ad g yX4_clear cX4_clear 1 rm_X4_clear [.ref (ad 4 0 0)] σ Q := by
  refine Met.ofW (cc := cX4_clear) (maxL := 1) (ret := none) (by decide) rfl ?_
  intro p e s m args below meth c s₁ B hml hv
  obtain ⟨rfl, hR, hK⟩ := hv
  have C : pr_C RX4 cX4_clear 1 none D cs p s m [.ref (ad 4 0 0)].toArray meth c := pr_C.of B hml hK
  have hS : va_S A s.heap s.heap [] := va_S.rf
  have hl := lv_entry ([.ref (ad 4 0 0)]) (n := 1) (Nat.le_of_ble_eq_true rfl)
  rw [lg_entry_eq]
  generalize (lg_sl ([.ref (ad 4 0 0)]) ++ List.replicate (1 - (lg_sl ([.ref (ad 4 0 0)])).length) Slot.unset).toArray = ls at hl ⊢
  have hl : lv_has ls 1 [(0, .ref (ad 4 0 0))] := hl
  exact t_X4_clear C h hR hS hl
def rm_X4_add : Room := { frames := 0, cells := 0, slots := 0, locals := 0 }
theorem hd_X4_add : yX4_add.cls = RX4 ∧ yX4_add.cls ≠ "java/lang/invoke/MethodHandle" ∧ yX4_add.cls ≠ "java/lang/invoke/VarHandle" ∧ (parseMethodDescriptor yX4_add.desc).map (fun d => d.parameters.length) = some 4 := ⟨rfl, by decide, by decide, by decide +kernel⟩
def wpb_X4_add (g : Nat → Nat) (σ : pr_Sg) (a1 : Int32) (a2 : Int32) (a3 : Int32) (a4 : Int32) (Q : Int32 → pr_Sg → Prop) : Prop :=
  (((σ 262 0 0) < (5 : Int32) → (vp_in (σ 262 0 0) 5 ∧ ∀ σ2 : pr_Sg, σ2 = pr_up σ 1030 0 ((σ 262 0 0)).toNatClampNeg a1 →
  (vp_in (σ2 262 0 0) 5 ∧ ∀ σ3 : pr_Sg, σ3 = pr_up σ2 1031 0 ((σ2 262 0 0)).toNatClampNeg a2 →
  (vp_in (σ3 262 0 0) 5 ∧ ∀ σ4 : pr_Sg, σ4 = pr_up σ3 1032 0 ((σ3 262 0 0)).toNatClampNeg a3 →
  (vp_in (σ4 262 0 0) 5 ∧ ∀ σ5 : pr_Sg, σ5 = pr_up σ4 1033 0 ((σ4 262 0 0)).toNatClampNeg a4 →
  (∀ σ6 : pr_Sg, σ6 = pr_up σ5 263 0 0 ((σ5 263 0 0) + a4) →
  (∀ σ7 : pr_Sg, σ7 = pr_up σ6 262 0 0 ((σ6 262 0 0) + (1 : Int32)) →
  Q (1 : Int32) σ7))))))) ∧
  (¬ (σ 262 0 0) < (5 : Int32) → Q (0 : Int32) σ))
set_option maxHeartbeats 4000000 in
set_option maxRecDepth 100000 in
theorem t_X4_add {p : Program} {l : Launch} {e : Env} {s : State} {m : MethodId} {args : Array Value} {below : List Frame} {meth : Method} {c : Code} {D : va_G} {cs : Nat → ClassId} {A : Nat → Prop} {ad : pr_Ad} {g : Nat → Nat} {Q : Int32 → pr_Sg → Prop} (C : pr_C RX4 cX4_add 5 (some .boolean) D cs p s m args meth c) {H : Heap} {locs : List Loc} {ls : Array Slot} {σ : pr_Sg} {a1 : Int32} {a2 : Int32} {a3 : Int32} {a4 : Int32} (h : wpb_X4_add g σ a1 a2 a3 a4 Q) (hR : pr_R D cs A ad g σ H) (hS : va_S A s.heap H locs) (hl : lv_has ls 5 [(0, .ref (ad 4 0 0)), (1, .int a1), (2, .int a2), (3, .int a3), (4, .int a4)]) : W p l e rm_X4_add s m args below meth c H locs 0 0 (MQ below (va_Qi (pr_Qz Q) (pr_E D cs A ad g) A) args s 0 0 A) (F0 m 0 ls []) := by
  unfold wpb_X4_add at h
  obtain ⟨hx, hb, hml, hown, hts, hK, hr, hlocks⟩ := id C
  refine lv_aload_n hx hb dX4_add_0 rfl (lv_at hl 0 rfl) ?_
  refine gf_RX4_30 C hR pr_l4 dX4_add_1 ?_
  refine lv_iconst (v := (5 : Int32)) hx hb dX4_add_4 (by decide) ?_
  refine lv_icmp_lt (tgt := 10) hx hb dX4_add_5 (by decide) (fun c1 => ?_) (fun c1 => ?_)
  · have h := h.1 c1
    refine lv_aload_n hx hb dX4_add_10 rfl (lv_at hl 0 rfl) ?_
    refine gf_RX4_9 C hR pr_l4 dX4_add_11 ?_
    refine lv_aload_n hx hb dX4_add_14 rfl (lv_at hl 0 rfl) ?_
    refine gf_RX4_30 C hR pr_l4 dX4_add_15 ?_
    refine lv_iload_n hx hb dX4_add_18 rfl (lv_at hl 1 rfl) ?_
    refine pr_ast hx hb hK hR hS pr_l30 (by omega) (by omega) (n := 5) (by decide) h.1 dX4_add_19 (t := 1030) rfl (fun H locs σ2 e2 hR hS => ?_)
    have h := h.2 σ2 e2
    refine lv_aload_n hx hb dX4_add_20 rfl (lv_at hl 0 rfl) ?_
    refine gf_RX4_15 C hR pr_l4 dX4_add_21 ?_
    refine lv_aload_n hx hb dX4_add_24 rfl (lv_at hl 0 rfl) ?_
    refine gf_RX4_30 C hR pr_l4 dX4_add_25 ?_
    refine lv_iload_n hx hb dX4_add_28 rfl (lv_at hl 2 rfl) ?_
    refine pr_ast hx hb hK hR hS pr_l31 (by omega) (by omega) (n := 5) (by decide) h.1 dX4_add_29 (t := 1031) rfl (fun H locs σ3 e3 hR hS => ?_)
    have h := h.2 σ3 e3
    refine lv_aload_n hx hb dX4_add_30 rfl (lv_at hl 0 rfl) ?_
    refine gf_RX4_18 C hR pr_l4 dX4_add_31 ?_
    refine lv_aload_n hx hb dX4_add_34 rfl (lv_at hl 0 rfl) ?_
    refine gf_RX4_30 C hR pr_l4 dX4_add_35 ?_
    refine lv_iload_n hx hb dX4_add_38 rfl (lv_at hl 3 rfl) ?_
    refine pr_ast hx hb hK hR hS pr_l32 (by omega) (by omega) (n := 5) (by decide) h.1 dX4_add_39 (t := 1032) rfl (fun H locs σ4 e4 hR hS => ?_)
    have h := h.2 σ4 e4
    refine lv_aload_n hx hb dX4_add_40 rfl (lv_at hl 0 rfl) ?_
    refine gf_RX4_21 C hR pr_l4 dX4_add_41 ?_
    refine lv_aload_n hx hb dX4_add_44 rfl (lv_at hl 0 rfl) ?_
    refine gf_RX4_30 C hR pr_l4 dX4_add_45 ?_
    refine lv_iload hx hb dX4_add_48 (lv_at hl 4 rfl) ?_
    refine pr_ast hx hb hK hR hS pr_l33 (by omega) (by omega) (n := 5) (by decide) h.1 dX4_add_50 (t := 1033) rfl (fun H locs σ5 e5 hR hS => ?_)
    have h := h.2 σ5 e5
    refine lv_aload_n hx hb dX4_add_51 rfl (lv_at hl 0 rfl) ?_
    refine lv_dup hx hb dX4_add_52 rfl ?_
    refine gf_RX4_34 C hR pr_l4 dX4_add_53 ?_
    refine lv_iload hx hb dX4_add_56 (lv_at hl 4 rfl) ?_
    refine lv_iadd hx hb dX4_add_58 ?_
    refine pf_RX4_34 C hR hS pr_l4 dX4_add_59 (fun H locs σ6 e6 hR hS => ?_)
    have h := h σ6 e6
    refine lv_aload_n hx hb dX4_add_62 rfl (lv_at hl 0 rfl) ?_
    refine lv_dup hx hb dX4_add_63 rfl ?_
    refine gf_RX4_30 C hR pr_l4 dX4_add_64 ?_
    refine lv_iconst (v := (1 : Int32)) hx hb dX4_add_67 (by decide) ?_
    refine lv_iadd hx hb dX4_add_68 ?_
    refine pf_RX4_30 C hR hS pr_l4 dX4_add_69 (fun H locs σ7 e7 hR hS => ?_)
    have h := h σ7 e7
    refine lv_iconst (v := (1 : Int32)) hx hb dX4_add_72 (by decide) ?_
    exact pr_retz C (Or.inr rfl) h hR hS dX4_add_73
  · have h := h.2 c1
    refine lv_iconst (v := (0 : Int32)) hx hb dX4_add_8 (by decide) ?_
    exact pr_retz C (Or.inl rfl) h hR hS dX4_add_9
abbrev wp_X4_add (g : Nat → Nat) (σ : pr_Sg) (a1 : Int32) (a2 : Int32) (a3 : Int32) (a4 : Int32) (Q : Int32 → pr_Sg → Prop) : Prop := wpb_X4_add g σ a1 a2 a3 a4 Q
set_option maxHeartbeats 4000000 in
set_option maxRecDepth 100000 in
theorem c_X4_add {l : Launch} {D : va_G} {cs : Nat → ClassId} {A : Nat → Prop} {ad : pr_Ad} {g : Nat → Nat} {σ : pr_Sg} {a1 : Int32} {a2 : Int32} {a3 : Int32} {a4 : Int32} {Q : Int32 → pr_Sg → Prop} (h : wp_X4_add g σ a1 a2 a3 a4 Q) : pr_Mi l D cs A ad g yX4_add cX4_add 5 (some .boolean) rm_X4_add [.ref (ad 4 0 0), .int a1, .int a2, .int a3, .int a4] σ (pr_Qz Q) := by
  refine Met.ofW (cc := cX4_add) (maxL := 5) (ret := (some .boolean)) (by decide) rfl ?_
  intro p e s m args below meth c s₁ B hml hv
  obtain ⟨rfl, hR, hK⟩ := hv
  have C : pr_C RX4 cX4_add 5 (some .boolean) D cs p s m [.ref (ad 4 0 0), .int a1, .int a2, .int a3, .int a4].toArray meth c := pr_C.of B hml hK
  have hS : va_S A s.heap s.heap [] := va_S.rf
  have hl := lv_entry ([.ref (ad 4 0 0), .int a1, .int a2, .int a3, .int a4]) (n := 5) (Nat.le_of_ble_eq_true rfl)
  rw [lg_entry_eq]
  generalize (lg_sl ([.ref (ad 4 0 0), .int a1, .int a2, .int a3, .int a4]) ++ List.replicate (5 - (lg_sl ([.ref (ad 4 0 0), .int a1, .int a2, .int a3, .int a4])).length) Slot.unset).toArray = ls at hl ⊢
  have hl : lv_has ls 5 [(0, .ref (ad 4 0 0)), (1, .int a1), (2, .int a2), (3, .int a3), (4, .int a4)] := hl
  exact t_X4_add C h hR hS hl
def rm_X4_sitterIsPlaced : Room := { frames := 0, cells := 0, slots := 0, locals := 0 }
theorem hd_X4_sitterIsPlaced : yX4_sitterIsPlaced.cls = RX4 ∧ yX4_sitterIsPlaced.cls ≠ "java/lang/invoke/MethodHandle" ∧ yX4_sitterIsPlaced.cls ≠ "java/lang/invoke/VarHandle" ∧ (parseMethodDescriptor yX4_sitterIsPlaced.desc).map (fun d => d.parameters.length) = some 1 := ⟨rfl, by decide, by decide, by decide +kernel⟩
def wp_X4_sitterIsPlaced_L2 (g : Nat → Nat) (Q : Int32 → pr_Sg → Prop) : Nat → pr_Sg → Int32 → Int32 → Prop
  | 0, _, _, _ => False
  | n + 1, σ, x1, x2 => ((x1 ≤ x2 → Q (0 : Int32) σ) ∧
  (¬ x1 ≤ x2 → (((5 : Int32) ≤ x2 → Q (0 : Int32) σ) ∧
  (¬ (5 : Int32) ≤ x2 → (vp_in x2 5 ∧ (vp_in x1 5 ∧ ((¬ (σ 1031 0 (x2).toNatClampNeg) = (σ 1031 0 (x1).toNatClampNeg) → wp_X4_sitterIsPlaced_L2 g Q n σ x1 (x2 + (1 : Int32))) ∧
  ((σ 1031 0 (x2).toNatClampNeg) = (σ 1031 0 (x1).toNatClampNeg) → (vp_in x2 5 ∧ (((σ 1034 0 (x2).toNatClampNeg) = (-1 : Int32) → wp_X4_sitterIsPlaced_L2 g Q n σ x1 (x2 + (1 : Int32))) ∧
  (¬ (σ 1034 0 (x2).toNatClampNeg) = (-1 : Int32) → Q (1 : Int32) σ)))))))))))
set_option maxHeartbeats 4000000 in
set_option maxRecDepth 100000 in
theorem t_X4_sitterIsPlaced_L2 {p : Program} {l : Launch} {e : Env} {s : State} {m : MethodId} {args : Array Value} {below : List Frame} {meth : Method} {c : Code} {D : va_G} {cs : Nat → ClassId} {A : Nat → Prop} {ad : pr_Ad} {g : Nat → Nat} {Q : Int32 → pr_Sg → Prop} (C : pr_C RX4 cX4_sitterIsPlaced 3 (some .boolean) D cs p s m args meth c) (n : Nat) : ∀ {H : Heap} {locs : List Loc} {ls : Array Slot} {σ : pr_Sg} {x1 : Int32} {x2 : Int32} (_ : wp_X4_sitterIsPlaced_L2 g Q n σ x1 x2) (_ : pr_R D cs A ad g σ H) (_ : va_S A s.heap H locs) (_ : lv_has ls 3 [(0, .ref (ad 4 0 0)), (1, .int x1), (2, .int x2)]), W p l e rm_X4_sitterIsPlaced s m args below meth c H locs 0 0 (MQ below (va_Qi (pr_Qz Q) (pr_E D cs A ad g) A) args s 0 0 A) (F0 m 2 ls []) := by
  induction n with
  | zero =>
    intro H locs ls σ x1 x2 h
    exact False.elim h
  | succ n ih =>
    intro H locs ls σ x1 x2 h hR hS hl
    unfold wp_X4_sitterIsPlaced_L2 at h
    obtain ⟨hx, hb, hml, hown, hts, hK, hr, hlocks⟩ := id C
    refine lv_iload_n hx hb dX4_sitterIsPlaced_2 rfl (lv_at hl 2 rfl) ?_
    refine lv_iload_n hx hb dX4_sitterIsPlaced_3 rfl (lv_at hl 1 rfl) ?_
    refine lv_icmp_ge (tgt := 45) hx hb dX4_sitterIsPlaced_4 (by decide) (fun c1 => ?_) (fun c1 => ?_)
    · have h := h.1 c1
      refine lv_iconst (v := (0 : Int32)) hx hb dX4_sitterIsPlaced_45 (by decide) ?_
      exact pr_retz C (Or.inl rfl) h hR hS dX4_sitterIsPlaced_46
    · have h := h.2 c1
      refine lv_iload_n hx hb dX4_sitterIsPlaced_7 rfl (lv_at hl 2 rfl) ?_
      refine lv_iconst (v := (5 : Int32)) hx hb dX4_sitterIsPlaced_8 (by decide) ?_
      refine lv_icmp_ge (tgt := 45) hx hb dX4_sitterIsPlaced_9 (by decide) (fun c2 => ?_) (fun c2 => ?_)
      · have h := h.1 c2
        refine lv_iconst (v := (0 : Int32)) hx hb dX4_sitterIsPlaced_45 (by decide) ?_
        exact pr_retz C (Or.inl rfl) h hR hS dX4_sitterIsPlaced_46
      · have h := h.2 c2
        refine lv_aload_n hx hb dX4_sitterIsPlaced_12 rfl (lv_at hl 0 rfl) ?_
        refine gf_RX4_15 C hR pr_l4 dX4_sitterIsPlaced_13 ?_
        refine lv_iload_n hx hb dX4_sitterIsPlaced_16 rfl (lv_at hl 2 rfl) ?_
        refine pr_ald hx hb hK hR pr_l31 (by omega) (by omega) (n := 5) (by decide) h.1 dX4_sitterIsPlaced_17 (t := 1031) rfl ?_
        have h := h.2
        refine lv_aload_n hx hb dX4_sitterIsPlaced_18 rfl (lv_at hl 0 rfl) ?_
        refine gf_RX4_15 C hR pr_l4 dX4_sitterIsPlaced_19 ?_
        refine lv_iload_n hx hb dX4_sitterIsPlaced_22 rfl (lv_at hl 1 rfl) ?_
        refine pr_ald hx hb hK hR pr_l31 (by omega) (by omega) (n := 5) (by decide) h.1 dX4_sitterIsPlaced_23 (t := 1031) rfl ?_
        have h := h.2
        refine lv_icmp_ne (tgt := 39) hx hb dX4_sitterIsPlaced_24 (by decide) (fun c3 => ?_) (fun c3 => ?_)
        · have h := h.1 c3
          refine lv_iinc (v := (x2 + (1 : Int32))) (lv' := [(2, .int (x2 + (1 : Int32))), (0, .ref (ad 4 0 0)), (1, .int x1)]) hx hb dX4_sitterIsPlaced_39 hl (k := 2) rfl rfl (by decide) rfl (fun ls hl => ?_)
          refine lv_goto (tgt := 2) hx hb dX4_sitterIsPlaced_42 (by decide) ?_
          exact ih h hR hS (lv_sub hl [1, 2, 0] rfl)
        · have h := h.2 c3
          refine lv_aload_n hx hb dX4_sitterIsPlaced_27 rfl (lv_at hl 0 rfl) ?_
          refine gf_RX4_24 C hR pr_l4 dX4_sitterIsPlaced_28 ?_
          refine lv_iload_n hx hb dX4_sitterIsPlaced_31 rfl (lv_at hl 2 rfl) ?_
          refine pr_ald hx hb hK hR pr_l34 (by omega) (by omega) (n := 5) (by decide) h.1 dX4_sitterIsPlaced_32 (t := 1034) rfl ?_
          have h := h.2
          refine lv_iconst (v := (-1 : Int32)) hx hb dX4_sitterIsPlaced_33 (by decide) ?_
          refine lv_icmp_eq (tgt := 39) hx hb dX4_sitterIsPlaced_34 (by decide) (fun c4 => ?_) (fun c4 => ?_)
          · have h := h.1 c4
            refine lv_iinc (v := (x2 + (1 : Int32))) (lv' := [(2, .int (x2 + (1 : Int32))), (0, .ref (ad 4 0 0)), (1, .int x1)]) hx hb dX4_sitterIsPlaced_39 hl (k := 2) rfl rfl (by decide) rfl (fun ls hl => ?_)
            refine lv_goto (tgt := 2) hx hb dX4_sitterIsPlaced_42 (by decide) ?_
            exact ih h hR hS (lv_sub hl [1, 2, 0] rfl)
          · have h := h.2 c4
            refine lv_iconst (v := (1 : Int32)) hx hb dX4_sitterIsPlaced_37 (by decide) ?_
            exact pr_retz C (Or.inr rfl) h hR hS dX4_sitterIsPlaced_38
def wpb_X4_sitterIsPlaced (g : Nat → Nat) (σ : pr_Sg) (a1 : Int32) (Q : Int32 → pr_Sg → Prop) : Prop :=
  (∃ n : Nat, wp_X4_sitterIsPlaced_L2 g Q n σ a1 (0 : Int32))
set_option maxHeartbeats 4000000 in
set_option maxRecDepth 100000 in
theorem t_X4_sitterIsPlaced {p : Program} {l : Launch} {e : Env} {s : State} {m : MethodId} {args : Array Value} {below : List Frame} {meth : Method} {c : Code} {D : va_G} {cs : Nat → ClassId} {A : Nat → Prop} {ad : pr_Ad} {g : Nat → Nat} {Q : Int32 → pr_Sg → Prop} (C : pr_C RX4 cX4_sitterIsPlaced 3 (some .boolean) D cs p s m args meth c) {H : Heap} {locs : List Loc} {ls : Array Slot} {σ : pr_Sg} {a1 : Int32} (h : wpb_X4_sitterIsPlaced g σ a1 Q) (hR : pr_R D cs A ad g σ H) (hS : va_S A s.heap H locs) (hl : lv_has ls 3 [(0, .ref (ad 4 0 0)), (1, .int a1)]) : W p l e rm_X4_sitterIsPlaced s m args below meth c H locs 0 0 (MQ below (va_Qi (pr_Qz Q) (pr_E D cs A ad g) A) args s 0 0 A) (F0 m 0 ls []) := by
  unfold wpb_X4_sitterIsPlaced at h
  obtain ⟨hx, hb, hml, hown, hts, hK, hr, hlocks⟩ := id C
  refine lv_iconst (v := (0 : Int32)) hx hb dX4_sitterIsPlaced_0 (by decide) ?_
  refine lv_istore_n (lv' := [(2, .int (0 : Int32)), (0, .ref (ad 4 0 0)), (1, .int a1)]) hx hb dX4_sitterIsPlaced_1 rfl hl (by decide) rfl (fun ls hl => ?_)
  obtain ⟨n1, h⟩ := h
  exact t_X4_sitterIsPlaced_L2 C n1 h hR hS (lv_sub hl [1, 2, 0] rfl)
abbrev wp_X4_sitterIsPlaced (g : Nat → Nat) (σ : pr_Sg) (a1 : Int32) (Q : Int32 → pr_Sg → Prop) : Prop := wpb_X4_sitterIsPlaced g σ a1 Q
set_option maxHeartbeats 4000000 in
set_option maxRecDepth 100000 in
theorem c_X4_sitterIsPlaced {l : Launch} {D : va_G} {cs : Nat → ClassId} {A : Nat → Prop} {ad : pr_Ad} {g : Nat → Nat} {σ : pr_Sg} {a1 : Int32} {Q : Int32 → pr_Sg → Prop} (h : wp_X4_sitterIsPlaced g σ a1 Q) : pr_Mi l D cs A ad g yX4_sitterIsPlaced cX4_sitterIsPlaced 3 (some .boolean) rm_X4_sitterIsPlaced [.ref (ad 4 0 0), .int a1] σ (pr_Qz Q) := by
  refine Met.ofW (cc := cX4_sitterIsPlaced) (maxL := 3) (ret := (some .boolean)) (by decide) rfl ?_
  intro p e s m args below meth c s₁ B hml hv
  obtain ⟨rfl, hR, hK⟩ := hv
  have C : pr_C RX4 cX4_sitterIsPlaced 3 (some .boolean) D cs p s m [.ref (ad 4 0 0), .int a1].toArray meth c := pr_C.of B hml hK
  have hS : va_S A s.heap s.heap [] := va_S.rf
  have hl := lv_entry ([.ref (ad 4 0 0), .int a1]) (n := 3) (Nat.le_of_ble_eq_true rfl)
  rw [lg_entry_eq]
  generalize (lg_sl ([.ref (ad 4 0 0), .int a1]) ++ List.replicate (3 - (lg_sl ([.ref (ad 4 0 0), .int a1])).length) Slot.unset).toArray = ls at hl ⊢
  have hl : lv_has ls 3 [(0, .ref (ad 4 0 0)), (1, .int a1)] := hl
  exact t_X4_sitterIsPlaced C h hR hS hl
def rm_X4_keep : Room := { frames := 0, cells := 0, slots := 0, locals := 0 }
theorem hd_X4_keep : yX4_keep.cls = RX4 ∧ yX4_keep.cls ≠ "java/lang/invoke/MethodHandle" ∧ yX4_keep.cls ≠ "java/lang/invoke/VarHandle" ∧ (parseMethodDescriptor yX4_keep.desc).map (fun d => d.parameters.length) = some 1 := ⟨rfl, by decide, by decide, by decide +kernel⟩
def wp_X4_keep_L7 (g : Nat → Nat) (Q : pr_Sg → Prop) : Nat → pr_Sg → Int32 → Prop
  | 0, _, _ => False
  | n + 1, σ, x2 => (((σ 262 0 0) ≤ x2 → Q σ) ∧
  (¬ (σ 262 0 0) ≤ x2 → (vp_in x2 5 ∧ (vp_in x2 5 ∧ ∀ σ3 : pr_Sg, σ3 = pr_up σ 1035 0 (x2).toNatClampNeg (σ 1034 0 (x2).toNatClampNeg) →
  wp_X4_keep_L7 g Q n σ3 (x2 + (1 : Int32))))))
set_option maxHeartbeats 4000000 in
set_option maxRecDepth 100000 in
theorem t_X4_keep_L7 {p : Program} {l : Launch} {e : Env} {s : State} {m : MethodId} {args : Array Value} {below : List Frame} {meth : Method} {c : Code} {D : va_G} {cs : Nat → ClassId} {A : Nat → Prop} {ad : pr_Ad} {g : Nat → Nat} {Q : pr_Sg → Prop} (C : pr_C RX4 cX4_keep 3 none D cs p s m args meth c) (n : Nat) : ∀ {H : Heap} {locs : List Loc} {ls : Array Slot} {σ : pr_Sg} {x2 : Int32} (_ : wp_X4_keep_L7 g Q n σ x2) (_ : pr_R D cs A ad g σ H) (_ : va_S A s.heap H locs) (_ : lv_has ls 3 [(0, .ref (ad 4 0 0)), (2, .int x2)]), W p l e rm_X4_keep s m args below meth c H locs 0 0 (MQ below (va_Qv Q (pr_E D cs A ad g) A) args s 0 0 A) (F0 m 7 ls []) := by
  induction n with
  | zero =>
    intro H locs ls σ x2 h
    exact False.elim h
  | succ n ih =>
    intro H locs ls σ x2 h hR hS hl
    unfold wp_X4_keep_L7 at h
    obtain ⟨hx, hb, hml, hown, hts, hK, hr, hlocks⟩ := id C
    refine lv_iload_n hx hb dX4_keep_7 rfl (lv_at hl 1 rfl) ?_
    refine lv_aload_n hx hb dX4_keep_8 rfl (lv_at hl 0 rfl) ?_
    refine gf_RX4_30 C hR pr_l4 dX4_keep_9 ?_
    refine lv_icmp_ge (tgt := 33) hx hb dX4_keep_12 (by decide) (fun c2 => ?_) (fun c2 => ?_)
    · have h := h.1 c2
      exact pr_retv C h hR hS dX4_keep_33
    · have h := h.2 c2
      refine lv_aload_n hx hb dX4_keep_15 rfl (lv_at hl 0 rfl) ?_
      refine gf_RX4_27 C hR pr_l4 dX4_keep_16 ?_
      refine lv_iload_n hx hb dX4_keep_19 rfl (lv_at hl 1 rfl) ?_
      refine lv_aload_n hx hb dX4_keep_20 rfl (lv_at hl 0 rfl) ?_
      refine gf_RX4_24 C hR pr_l4 dX4_keep_21 ?_
      refine lv_iload_n hx hb dX4_keep_24 rfl (lv_at hl 1 rfl) ?_
      refine pr_ald hx hb hK hR pr_l34 (by omega) (by omega) (n := 5) (by decide) h.1 dX4_keep_25 (t := 1034) rfl ?_
      have h := h.2
      refine pr_ast hx hb hK hR hS pr_l35 (by omega) (by omega) (n := 5) (by decide) h.1 dX4_keep_26 (t := 1035) rfl (fun H locs σ3 e3 hR hS => ?_)
      have h := h.2 σ3 e3
      refine lv_iinc (v := (x2 + (1 : Int32))) (lv' := [(2, .int (x2 + (1 : Int32))), (0, .ref (ad 4 0 0))]) hx hb dX4_keep_27 hl (k := 1) rfl rfl (by decide) rfl (fun ls hl => ?_)
      refine lv_goto (tgt := 7) hx hb dX4_keep_30 (by decide) ?_
      exact ih h hR hS (lv_sub hl [1, 0] rfl)
def wpb_X4_keep (g : Nat → Nat) (σ : pr_Sg) (a1 : Int32) (Q : pr_Sg → Prop) : Prop :=
  (∀ σ1 : pr_Sg, σ1 = pr_up σ 264 0 0 a1 →
  (∃ n : Nat, wp_X4_keep_L7 g Q n σ1 (0 : Int32)))
set_option maxHeartbeats 4000000 in
set_option maxRecDepth 100000 in
theorem t_X4_keep {p : Program} {l : Launch} {e : Env} {s : State} {m : MethodId} {args : Array Value} {below : List Frame} {meth : Method} {c : Code} {D : va_G} {cs : Nat → ClassId} {A : Nat → Prop} {ad : pr_Ad} {g : Nat → Nat} {Q : pr_Sg → Prop} (C : pr_C RX4 cX4_keep 3 none D cs p s m args meth c) {H : Heap} {locs : List Loc} {ls : Array Slot} {σ : pr_Sg} {a1 : Int32} (h : wpb_X4_keep g σ a1 Q) (hR : pr_R D cs A ad g σ H) (hS : va_S A s.heap H locs) (hl : lv_has ls 3 [(0, .ref (ad 4 0 0)), (1, .int a1)]) : W p l e rm_X4_keep s m args below meth c H locs 0 0 (MQ below (va_Qv Q (pr_E D cs A ad g) A) args s 0 0 A) (F0 m 0 ls []) := by
  unfold wpb_X4_keep at h
  obtain ⟨hx, hb, hml, hown, hts, hK, hr, hlocks⟩ := id C
  refine lv_aload_n hx hb dX4_keep_0 rfl (lv_at hl 0 rfl) ?_
  refine lv_iload_n hx hb dX4_keep_1 rfl (lv_at hl 1 rfl) ?_
  refine pf_RX4_37 C hR hS pr_l4 dX4_keep_2 (fun H locs σ1 e1 hR hS => ?_)
  have h := h σ1 e1
  refine lv_iconst (v := (0 : Int32)) hx hb dX4_keep_5 (by decide) ?_
  refine lv_istore_n (lv' := [(2, .int (0 : Int32)), (0, .ref (ad 4 0 0)), (1, .int a1)]) hx hb dX4_keep_6 rfl hl (by decide) rfl (fun ls hl => ?_)
  obtain ⟨n1, h⟩ := h
  exact t_X4_keep_L7 C n1 h hR hS (lv_sub hl [1, 0] rfl)
abbrev wp_X4_keep (g : Nat → Nat) (σ : pr_Sg) (a1 : Int32) (Q : pr_Sg → Prop) : Prop := wpb_X4_keep g σ a1 Q
set_option maxHeartbeats 4000000 in
set_option maxRecDepth 100000 in
theorem c_X4_keep {l : Launch} {D : va_G} {cs : Nat → ClassId} {A : Nat → Prop} {ad : pr_Ad} {g : Nat → Nat} {σ : pr_Sg} {a1 : Int32} {Q : pr_Sg → Prop} (h : wp_X4_keep g σ a1 Q) : pr_Mv l D cs A ad g yX4_keep cX4_keep 3 rm_X4_keep [.ref (ad 4 0 0), .int a1] σ Q := by
  refine Met.ofW (cc := cX4_keep) (maxL := 3) (ret := none) (by decide) rfl ?_
  intro p e s m args below meth c s₁ B hml hv
  obtain ⟨rfl, hR, hK⟩ := hv
  have C : pr_C RX4 cX4_keep 3 none D cs p s m [.ref (ad 4 0 0), .int a1].toArray meth c := pr_C.of B hml hK
  have hS : va_S A s.heap s.heap [] := va_S.rf
  have hl := lv_entry ([.ref (ad 4 0 0), .int a1]) (n := 3) (Nat.le_of_ble_eq_true rfl)
  rw [lg_entry_eq]
  generalize (lg_sl ([.ref (ad 4 0 0), .int a1]) ++ List.replicate (3 - (lg_sl ([.ref (ad 4 0 0), .int a1])).length) Slot.unset).toArray = ls at hl ⊢
  have hl : lv_has ls 3 [(0, .ref (ad 4 0 0)), (1, .int a1)] := hl
  exact t_X4_keep C h hR hS hl
def rm_X4_hourOf : Room := { frames := 0, cells := 0, slots := 0, locals := 0 }
theorem hd_X4_hourOf : yX4_hourOf.cls = RX4 ∧ yX4_hourOf.cls ≠ "java/lang/invoke/MethodHandle" ∧ yX4_hourOf.cls ≠ "java/lang/invoke/VarHandle" ∧ (parseMethodDescriptor yX4_hourOf.desc).map (fun d => d.parameters.length) = some 1 := ⟨rfl, by decide, by decide, by decide +kernel⟩
def wp_X4_hourOf_L2 (g : Nat → Nat) (Q : Int32 → pr_Sg → Prop) : Nat → pr_Sg → Int32 → Int32 → Prop
  | 0, _, _, _ => False
  | n + 1, σ, x1, x2 => (((σ 262 0 0) ≤ x2 → Q (-1 : Int32) σ) ∧
  (¬ (σ 262 0 0) ≤ x2 → (vp_in x2 5 ∧ ((¬ (σ 1030 0 (x2).toNatClampNeg) = x1 → wp_X4_hourOf_L2 g Q n σ x1 (x2 + (1 : Int32))) ∧
  ((σ 1030 0 (x2).toNatClampNeg) = x1 → (vp_in x2 5 ∧ Q (σ 1035 0 (x2).toNatClampNeg) σ))))))
set_option maxHeartbeats 4000000 in
set_option maxRecDepth 100000 in
theorem t_X4_hourOf_L2 {p : Program} {l : Launch} {e : Env} {s : State} {m : MethodId} {args : Array Value} {below : List Frame} {meth : Method} {c : Code} {D : va_G} {cs : Nat → ClassId} {A : Nat → Prop} {ad : pr_Ad} {g : Nat → Nat} {Q : Int32 → pr_Sg → Prop} (C : pr_C RX4 cX4_hourOf 3 (some .int) D cs p s m args meth c) (n : Nat) : ∀ {H : Heap} {locs : List Loc} {ls : Array Slot} {σ : pr_Sg} {x1 : Int32} {x2 : Int32} (_ : wp_X4_hourOf_L2 g Q n σ x1 x2) (_ : pr_R D cs A ad g σ H) (_ : va_S A s.heap H locs) (_ : lv_has ls 3 [(0, .ref (ad 4 0 0)), (1, .int x1), (2, .int x2)]), W p l e rm_X4_hourOf s m args below meth c H locs 0 0 (MQ below (va_Qi Q (pr_E D cs A ad g) A) args s 0 0 A) (F0 m 2 ls []) := by
  induction n with
  | zero =>
    intro H locs ls σ x1 x2 h
    exact False.elim h
  | succ n ih =>
    intro H locs ls σ x1 x2 h hR hS hl
    unfold wp_X4_hourOf_L2 at h
    obtain ⟨hx, hb, hml, hown, hts, hK, hr, hlocks⟩ := id C
    refine lv_iload_n hx hb dX4_hourOf_2 rfl (lv_at hl 2 rfl) ?_
    refine lv_aload_n hx hb dX4_hourOf_3 rfl (lv_at hl 0 rfl) ?_
    refine gf_RX4_30 C hR pr_l4 dX4_hourOf_4 ?_
    refine lv_icmp_ge (tgt := 33) hx hb dX4_hourOf_7 (by decide) (fun c1 => ?_) (fun c1 => ?_)
    · have h := h.1 c1
      refine lv_iconst (v := (-1 : Int32)) hx hb dX4_hourOf_33 (by decide) ?_
      exact pr_reti C h hR hS dX4_hourOf_34
    · have h := h.2 c1
      refine lv_aload_n hx hb dX4_hourOf_10 rfl (lv_at hl 0 rfl) ?_
      refine gf_RX4_9 C hR pr_l4 dX4_hourOf_11 ?_
      refine lv_iload_n hx hb dX4_hourOf_14 rfl (lv_at hl 2 rfl) ?_
      refine pr_ald hx hb hK hR pr_l30 (by omega) (by omega) (n := 5) (by decide) h.1 dX4_hourOf_15 (t := 1030) rfl ?_
      have h := h.2
      refine lv_iload_n hx hb dX4_hourOf_16 rfl (lv_at hl 1 rfl) ?_
      refine lv_icmp_ne (tgt := 27) hx hb dX4_hourOf_17 (by decide) (fun c2 => ?_) (fun c2 => ?_)
      · have h := h.1 c2
        refine lv_iinc (v := (x2 + (1 : Int32))) (lv' := [(2, .int (x2 + (1 : Int32))), (0, .ref (ad 4 0 0)), (1, .int x1)]) hx hb dX4_hourOf_27 hl (k := 2) rfl rfl (by decide) rfl (fun ls hl => ?_)
        refine lv_goto (tgt := 2) hx hb dX4_hourOf_30 (by decide) ?_
        exact ih h hR hS (lv_sub hl [1, 2, 0] rfl)
      · have h := h.2 c2
        refine lv_aload_n hx hb dX4_hourOf_20 rfl (lv_at hl 0 rfl) ?_
        refine gf_RX4_27 C hR pr_l4 dX4_hourOf_21 ?_
        refine lv_iload_n hx hb dX4_hourOf_24 rfl (lv_at hl 2 rfl) ?_
        refine pr_ald hx hb hK hR pr_l35 (by omega) (by omega) (n := 5) (by decide) h.1 dX4_hourOf_25 (t := 1035) rfl ?_
        have h := h.2
        exact pr_reti C h hR hS dX4_hourOf_26
def wpb_X4_hourOf (g : Nat → Nat) (σ : pr_Sg) (a1 : Int32) (Q : Int32 → pr_Sg → Prop) : Prop :=
  (∃ n : Nat, wp_X4_hourOf_L2 g Q n σ a1 (0 : Int32))
set_option maxHeartbeats 4000000 in
set_option maxRecDepth 100000 in
theorem t_X4_hourOf {p : Program} {l : Launch} {e : Env} {s : State} {m : MethodId} {args : Array Value} {below : List Frame} {meth : Method} {c : Code} {D : va_G} {cs : Nat → ClassId} {A : Nat → Prop} {ad : pr_Ad} {g : Nat → Nat} {Q : Int32 → pr_Sg → Prop} (C : pr_C RX4 cX4_hourOf 3 (some .int) D cs p s m args meth c) {H : Heap} {locs : List Loc} {ls : Array Slot} {σ : pr_Sg} {a1 : Int32} (h : wpb_X4_hourOf g σ a1 Q) (hR : pr_R D cs A ad g σ H) (hS : va_S A s.heap H locs) (hl : lv_has ls 3 [(0, .ref (ad 4 0 0)), (1, .int a1)]) : W p l e rm_X4_hourOf s m args below meth c H locs 0 0 (MQ below (va_Qi Q (pr_E D cs A ad g) A) args s 0 0 A) (F0 m 0 ls []) := by
  unfold wpb_X4_hourOf at h
  obtain ⟨hx, hb, hml, hown, hts, hK, hr, hlocks⟩ := id C
  refine lv_iconst (v := (0 : Int32)) hx hb dX4_hourOf_0 (by decide) ?_
  refine lv_istore_n (lv' := [(2, .int (0 : Int32)), (0, .ref (ad 4 0 0)), (1, .int a1)]) hx hb dX4_hourOf_1 rfl hl (by decide) rfl (fun ls hl => ?_)
  obtain ⟨n1, h⟩ := h
  exact t_X4_hourOf_L2 C n1 h hR hS (lv_sub hl [1, 2, 0] rfl)
abbrev wp_X4_hourOf (g : Nat → Nat) (σ : pr_Sg) (a1 : Int32) (Q : Int32 → pr_Sg → Prop) : Prop := wpb_X4_hourOf g σ a1 Q
set_option maxHeartbeats 4000000 in
set_option maxRecDepth 100000 in
theorem c_X4_hourOf {l : Launch} {D : va_G} {cs : Nat → ClassId} {A : Nat → Prop} {ad : pr_Ad} {g : Nat → Nat} {σ : pr_Sg} {a1 : Int32} {Q : Int32 → pr_Sg → Prop} (h : wp_X4_hourOf g σ a1 Q) : pr_Mi l D cs A ad g yX4_hourOf cX4_hourOf 3 (some .int) rm_X4_hourOf [.ref (ad 4 0 0), .int a1] σ Q := by
  refine Met.ofW (cc := cX4_hourOf) (maxL := 3) (ret := (some .int)) (by decide) rfl ?_
  intro p e s m args below meth c s₁ B hml hv
  obtain ⟨rfl, hR, hK⟩ := hv
  have C : pr_C RX4 cX4_hourOf 3 (some .int) D cs p s m [.ref (ad 4 0 0), .int a1].toArray meth c := pr_C.of B hml hK
  have hS : va_S A s.heap s.heap [] := va_S.rf
  have hl := lv_entry ([.ref (ad 4 0 0), .int a1]) (n := 3) (Nat.le_of_ble_eq_true rfl)
  rw [lg_entry_eq]
  generalize (lg_sl ([.ref (ad 4 0 0), .int a1]) ++ List.replicate (3 - (lg_sl ([.ref (ad 4 0 0), .int a1])).length) Slot.unset).toArray = ls at hl ⊢
  have hl : lv_has ls 3 [(0, .ref (ad 4 0 0)), (1, .int a1)] := hl
  exact t_X4_hourOf C h hR hS hl
def rm_X8_within : Room := { frames := 0, cells := 0, slots := 0, locals := 0 }
theorem hs_X8_within : yX8_within.cls ≠ "java/lang/invoke/MethodHandle" ∧ yX8_within.cls ≠ "java/lang/invoke/VarHandle" ∧ (parseMethodDescriptor yX8_within.desc).map (fun d => d.parameters.length) = some 2 := ⟨by decide, by decide, by decide +kernel⟩
def wpb_X8_within (g : Nat → Nat) (σ : pr_Sg) (a1 : Int32) (a2 : Int32) (Q : Int32 → pr_Sg → Prop) : Prop :=
  ((a1 < 0 → Q (0 : Int32) σ) ∧
  (¬ a1 < 0 → ((a2 < a1 → Q (0 : Int32) σ) ∧
  (¬ a2 < a1 → Q (1 : Int32) σ))))
set_option maxHeartbeats 4000000 in
set_option maxRecDepth 100000 in
theorem t_X8_within {p : Program} {l : Launch} {e : Env} {s : State} {m : MethodId} {args : Array Value} {below : List Frame} {meth : Method} {c : Code} {D : va_G} {cs : Nat → ClassId} {A : Nat → Prop} {ad : pr_Ad} {g : Nat → Nat} {Q : Int32 → pr_Sg → Prop} (C : pr_C RX8 cX8_within 2 (some .boolean) D cs p s m args meth c) {H : Heap} {locs : List Loc} {ls : Array Slot} {σ : pr_Sg} {a1 : Int32} {a2 : Int32} (h : wpb_X8_within g σ a1 a2 Q) (hR : pr_R D cs A ad g σ H) (hS : va_S A s.heap H locs) (hl : lv_has ls 2 [(0, .int a1), (1, .int a2)]) : W p l e rm_X8_within s m args below meth c H locs 0 0 (MQ below (va_Qi (pr_Qz Q) (pr_E D cs A ad g) A) args s 0 0 A) (F0 m 0 ls []) := by
  unfold wpb_X8_within at h
  obtain ⟨hx, hb, hml, hown, hts, hK, hr, hlocks⟩ := id C
  refine lv_iload_n hx hb dX8_within_0 rfl (lv_at hl 0 rfl) ?_
  refine lv_if_lt (tgt := 13) hx hb dX8_within_1 (by decide) (fun c1 => ?_) (fun c1 => ?_)
  · have h := h.1 c1
    refine lv_iconst (v := (0 : Int32)) hx hb dX8_within_13 (by decide) ?_
    exact pr_retz C (Or.inl rfl) h hR hS dX8_within_14
  · have h := h.2 c1
    refine lv_iload_n hx hb dX8_within_4 rfl (lv_at hl 0 rfl) ?_
    refine lv_iload_n hx hb dX8_within_5 rfl (lv_at hl 1 rfl) ?_
    refine lv_icmp_gt (tgt := 13) hx hb dX8_within_6 (by decide) (fun c2 => ?_) (fun c2 => ?_)
    · have h := h.1 c2
      refine lv_iconst (v := (0 : Int32)) hx hb dX8_within_13 (by decide) ?_
      exact pr_retz C (Or.inl rfl) h hR hS dX8_within_14
    · have h := h.2 c2
      refine lv_iconst (v := (1 : Int32)) hx hb dX8_within_9 (by decide) ?_
      refine lv_goto (tgt := 14) hx hb dX8_within_10 (by decide) ?_
      exact pr_retz C (Or.inr rfl) h hR hS dX8_within_14
abbrev wp_X8_within (g : Nat → Nat) (σ : pr_Sg) (a1 : Int32) (a2 : Int32) (Q : Int32 → pr_Sg → Prop) : Prop := wpb_X8_within g σ a1 a2 Q
set_option maxHeartbeats 4000000 in
set_option maxRecDepth 100000 in
theorem c_X8_within {l : Launch} {D : va_G} {cs : Nat → ClassId} {A : Nat → Prop} {ad : pr_Ad} {g : Nat → Nat} {σ : pr_Sg} {a1 : Int32} {a2 : Int32} {Q : Int32 → pr_Sg → Prop} (h : wp_X8_within g σ a1 a2 Q) : pr_Mi l D cs A ad g yX8_within cX8_within 2 (some .boolean) rm_X8_within [.int a1, .int a2] σ (pr_Qz Q) := by
  refine Met.ofW (cc := cX8_within) (maxL := 2) (ret := (some .boolean)) (by decide) rfl ?_
  intro p e s m args below meth c s₁ B hml hv
  obtain ⟨rfl, hR, hK⟩ := hv
  have C : pr_C RX8 cX8_within 2 (some .boolean) D cs p s m [.int a1, .int a2].toArray meth c := pr_C.of B hml hK
  have hS : va_S A s.heap s.heap [] := va_S.rf
  have hl := lv_entry ([.int a1, .int a2]) (n := 2) (Nat.le_of_ble_eq_true rfl)
  rw [lg_entry_eq]
  generalize (lg_sl ([.int a1, .int a2]) ++ List.replicate (2 - (lg_sl ([.int a1, .int a2])).length) Slot.unset).toArray = ls at hl ⊢
  have hl : lv_has ls 2 [(0, .int a1), (1, .int a2)] := hl
  exact t_X8_within C h hR hS hl
def rm_X5_isAway : Room := { frames := 1, cells := 0, slots := 0, locals := 21 }
theorem hd_X5_isAway : yX5_isAway.cls = RX5 ∧ yX5_isAway.cls ≠ "java/lang/invoke/MethodHandle" ∧ yX5_isAway.cls ≠ "java/lang/invoke/VarHandle" ∧ (parseMethodDescriptor yX5_isAway.desc).map (fun d => d.parameters.length) = some 3 := ⟨rfl, by decide, by decide, by decide +kernel⟩
def wpb_X5_isAway (g : Nat → Nat) (σ : pr_Sg) (a1 : Int32) (a2 : Int32) (a3 : Int32) (Q : Int32 → pr_Sg → Prop) : Prop :=
  (wp_X8_within g σ a1 (4 : Int32) (fun r1 σ1 =>
  ((r1 = 0 → Q (0 : Int32) σ1) ∧
  (¬ r1 = 0 → (vp_in a1 5 ∧ ((¬ (σ1 1029 0 (a1).toNatClampNeg) = a3 → Q (0 : Int32) σ1) ∧
  ((σ1 1029 0 (a1).toNatClampNeg) = a3 → (vp_in a1 5 ∧ (((σ1 1028 0 (a1).toNatClampNeg) = a2 → Q (0 : Int32) σ1) ∧
  (¬ (σ1 1028 0 (a1).toNatClampNeg) = a2 → Q (1 : Int32) σ1))))))))))
set_option maxHeartbeats 4000000 in
set_option maxRecDepth 100000 in
theorem t_X5_isAway {p : Program} {l : Launch} {e : Env} {s : State} {m : MethodId} {args : Array Value} {below : List Frame} {meth : Method} {c : Code} {D : va_G} {cs : Nat → ClassId} {A : Nat → Prop} {ad : pr_Ad} {g : Nat → Nat} {Q : Int32 → pr_Sg → Prop} (C : pr_C RX5 cX5_isAway 4 (some .boolean) D cs p s m args meth c) {H : Heap} {locs : List Loc} {ls : Array Slot} {σ : pr_Sg} {a1 : Int32} {a2 : Int32} {a3 : Int32} (h : wpb_X5_isAway g σ a1 a2 a3 Q) (hR : pr_R D cs A ad g σ H) (hS : va_S A s.heap H locs) (hl : lv_has ls 4 [(0, .ref (ad 5 0 0)), (1, .int a1), (2, .int a2), (3, .int a3)]) : W p l e rm_X5_isAway s m args below meth c H locs 0 0 (MQ below (va_Qi (pr_Qz Q) (pr_E D cs A ad g) A) args s 0 0 A) (F0 m 0 ls []) := by
  unfold wpb_X5_isAway at h
  obtain ⟨hx, hb, hml, hown, hts, hK, hr, hlocks⟩ := id C
  refine lv_iload_n hx hb dX5_isAway_0 rfl (lv_at hl 1 rfl) ?_
  refine lv_iconst (v := (4 : Int32)) hx hb dX5_isAway_1 (by decide) ?_
  refine pr_calli hS (pr_runN (As := [.int a1, .int (4 : Int32)]) (rest := []) C hR (c_X8_within h) (pr_in6 _ (List.mem_of_getElem? (i := 1) rfl)) (pr_in1 _ (List.mem_of_getElem? (i := 2) rfl)) (pr_in6 _ (List.mem_of_getElem? (i := 2) rfl)) rfl rfl ⟨Nat.le_of_ble_eq_true rfl, Nat.le_of_ble_eq_true rfl⟩ rfl hl.1 rfl (Nat.le_of_ble_eq_true rfl) dX5_isAway_2 ⟨Nat.zero_le _, Nat.zero_le _⟩) (fun r1 σ1 H locs h hR hS => ?_)
  obtain ⟨hz1, h⟩ := h
  refine lv_if_eq (tgt := 32) hx hb dX5_isAway_5 (by decide) (fun c2 => ?_) (fun c2 => ?_)
  · have h := h.1 c2
    refine lv_iconst (v := (0 : Int32)) hx hb dX5_isAway_32 (by decide) ?_
    exact pr_retz C (Or.inl rfl) h hR hS dX5_isAway_33
  · have h := h.2 c2
    refine lv_aload_n hx hb dX5_isAway_8 rfl (lv_at hl 0 rfl) ?_
    refine gf_RX5_15 C hR pr_l5 dX5_isAway_9 ?_
    refine lv_iload_n hx hb dX5_isAway_12 rfl (lv_at hl 1 rfl) ?_
    refine pr_ald hx hb hK hR pr_l29 (by omega) (by omega) (n := 5) (by decide) h.1 dX5_isAway_13 (t := 1029) rfl ?_
    have h := h.2
    refine lv_iload_n hx hb dX5_isAway_14 rfl (lv_at hl 3 rfl) ?_
    refine lv_icmp_ne (tgt := 32) hx hb dX5_isAway_15 (by decide) (fun c3 => ?_) (fun c3 => ?_)
    · have h := h.1 c3
      refine lv_iconst (v := (0 : Int32)) hx hb dX5_isAway_32 (by decide) ?_
      exact pr_retz C (Or.inl rfl) h hR hS dX5_isAway_33
    · have h := h.2 c3
      refine lv_aload_n hx hb dX5_isAway_18 rfl (lv_at hl 0 rfl) ?_
      refine gf_RX5_9 C hR pr_l5 dX5_isAway_19 ?_
      refine lv_iload_n hx hb dX5_isAway_22 rfl (lv_at hl 1 rfl) ?_
      refine pr_ald hx hb hK hR pr_l28 (by omega) (by omega) (n := 5) (by decide) h.1 dX5_isAway_23 (t := 1028) rfl ?_
      have h := h.2
      refine lv_iload_n hx hb dX5_isAway_24 rfl (lv_at hl 2 rfl) ?_
      refine lv_icmp_eq (tgt := 32) hx hb dX5_isAway_25 (by decide) (fun c4 => ?_) (fun c4 => ?_)
      · have h := h.1 c4
        refine lv_iconst (v := (0 : Int32)) hx hb dX5_isAway_32 (by decide) ?_
        exact pr_retz C (Or.inl rfl) h hR hS dX5_isAway_33
      · have h := h.2 c4
        refine lv_iconst (v := (1 : Int32)) hx hb dX5_isAway_28 (by decide) ?_
        refine lv_goto (tgt := 33) hx hb dX5_isAway_29 (by decide) ?_
        exact pr_retz C (Or.inr rfl) h hR hS dX5_isAway_33
abbrev wp_X5_isAway (g : Nat → Nat) (σ : pr_Sg) (a1 : Int32) (a2 : Int32) (a3 : Int32) (Q : Int32 → pr_Sg → Prop) : Prop := wpb_X5_isAway g σ a1 a2 a3 Q
set_option maxHeartbeats 4000000 in
set_option maxRecDepth 100000 in
theorem c_X5_isAway {l : Launch} {D : va_G} {cs : Nat → ClassId} {A : Nat → Prop} {ad : pr_Ad} {g : Nat → Nat} {σ : pr_Sg} {a1 : Int32} {a2 : Int32} {a3 : Int32} {Q : Int32 → pr_Sg → Prop} (h : wp_X5_isAway g σ a1 a2 a3 Q) : pr_Mi l D cs A ad g yX5_isAway cX5_isAway 4 (some .boolean) rm_X5_isAway [.ref (ad 5 0 0), .int a1, .int a2, .int a3] σ (pr_Qz Q) := by
  refine Met.ofW (cc := cX5_isAway) (maxL := 4) (ret := (some .boolean)) (by decide) rfl ?_
  intro p e s m args below meth c s₁ B hml hv
  obtain ⟨rfl, hR, hK⟩ := hv
  have C : pr_C RX5 cX5_isAway 4 (some .boolean) D cs p s m [.ref (ad 5 0 0), .int a1, .int a2, .int a3].toArray meth c := pr_C.of B hml hK
  have hS : va_S A s.heap s.heap [] := va_S.rf
  have hl := lv_entry ([.ref (ad 5 0 0), .int a1, .int a2, .int a3]) (n := 4) (Nat.le_of_ble_eq_true rfl)
  rw [lg_entry_eq]
  generalize (lg_sl ([.ref (ad 5 0 0), .int a1, .int a2, .int a3]) ++ List.replicate (4 - (lg_sl ([.ref (ad 5 0 0), .int a1, .int a2, .int a3])).length) Slot.unset).toArray = ls at hl ⊢
  have hl : lv_has ls 4 [(0, .ref (ad 5 0 0)), (1, .int a1), (2, .int a2), (3, .int a3)] := hl
  exact t_X5_isAway C h hR hS hl
def rm_X5_take : Room := { frames := 1, cells := 0, slots := 0, locals := 21 }
theorem hd_X5_take : yX5_take.cls = RX5 ∧ yX5_take.cls ≠ "java/lang/invoke/MethodHandle" ∧ yX5_take.cls ≠ "java/lang/invoke/VarHandle" ∧ (parseMethodDescriptor yX5_take.desc).map (fun d => d.parameters.length) = some 3 := ⟨rfl, by decide, by decide, by decide +kernel⟩
def wpb_X5_take (g : Nat → Nat) (σ : pr_Sg) (a1 : Int32) (a2 : Int32) (a3 : Int32) (Q : pr_Sg → Prop) : Prop :=
  (wp_X8_within g σ a1 (4 : Int32) (fun r1 σ1 =>
  ((r1 = 0 → Q σ1) ∧
  (¬ r1 = 0 → (vp_in a1 5 ∧ ∀ σ3 : pr_Sg, σ3 = pr_up σ1 1028 0 (a1).toNatClampNeg a2 →
  (vp_in a1 5 ∧ ∀ σ4 : pr_Sg, σ4 = pr_up σ3 1029 0 (a1).toNatClampNeg a3 →
  Q σ4))))))
set_option maxHeartbeats 4000000 in
set_option maxRecDepth 100000 in
theorem t_X5_take {p : Program} {l : Launch} {e : Env} {s : State} {m : MethodId} {args : Array Value} {below : List Frame} {meth : Method} {c : Code} {D : va_G} {cs : Nat → ClassId} {A : Nat → Prop} {ad : pr_Ad} {g : Nat → Nat} {Q : pr_Sg → Prop} (C : pr_C RX5 cX5_take 4 none D cs p s m args meth c) {H : Heap} {locs : List Loc} {ls : Array Slot} {σ : pr_Sg} {a1 : Int32} {a2 : Int32} {a3 : Int32} (h : wpb_X5_take g σ a1 a2 a3 Q) (hR : pr_R D cs A ad g σ H) (hS : va_S A s.heap H locs) (hl : lv_has ls 4 [(0, .ref (ad 5 0 0)), (1, .int a1), (2, .int a2), (3, .int a3)]) : W p l e rm_X5_take s m args below meth c H locs 0 0 (MQ below (va_Qv Q (pr_E D cs A ad g) A) args s 0 0 A) (F0 m 0 ls []) := by
  unfold wpb_X5_take at h
  obtain ⟨hx, hb, hml, hown, hts, hK, hr, hlocks⟩ := id C
  refine lv_iload_n hx hb dX5_take_0 rfl (lv_at hl 1 rfl) ?_
  refine lv_iconst (v := (4 : Int32)) hx hb dX5_take_1 (by decide) ?_
  refine pr_calli hS (pr_runN (As := [.int a1, .int (4 : Int32)]) (rest := []) C hR (c_X8_within h) (pr_in6 _ (List.mem_of_getElem? (i := 1) rfl)) (pr_in1 _ (List.mem_of_getElem? (i := 2) rfl)) (pr_in6 _ (List.mem_of_getElem? (i := 2) rfl)) rfl rfl ⟨Nat.le_of_ble_eq_true rfl, Nat.le_of_ble_eq_true rfl⟩ rfl hl.1 rfl (Nat.le_of_ble_eq_true rfl) dX5_take_2 ⟨Nat.zero_le _, Nat.zero_le _⟩) (fun r1 σ1 H locs h hR hS => ?_)
  obtain ⟨hz1, h⟩ := h
  refine lv_if_eq (tgt := 22) hx hb dX5_take_5 (by decide) (fun c2 => ?_) (fun c2 => ?_)
  · have h := h.1 c2
    exact pr_retv C h hR hS dX5_take_22
  · have h := h.2 c2
    refine lv_aload_n hx hb dX5_take_8 rfl (lv_at hl 0 rfl) ?_
    refine gf_RX5_9 C hR pr_l5 dX5_take_9 ?_
    refine lv_iload_n hx hb dX5_take_12 rfl (lv_at hl 1 rfl) ?_
    refine lv_iload_n hx hb dX5_take_13 rfl (lv_at hl 2 rfl) ?_
    refine pr_ast hx hb hK hR hS pr_l28 (by omega) (by omega) (n := 5) (by decide) h.1 dX5_take_14 (t := 1028) rfl (fun H locs σ3 e3 hR hS => ?_)
    have h := h.2 σ3 e3
    refine lv_aload_n hx hb dX5_take_15 rfl (lv_at hl 0 rfl) ?_
    refine gf_RX5_15 C hR pr_l5 dX5_take_16 ?_
    refine lv_iload_n hx hb dX5_take_19 rfl (lv_at hl 1 rfl) ?_
    refine lv_iload_n hx hb dX5_take_20 rfl (lv_at hl 3 rfl) ?_
    refine pr_ast hx hb hK hR hS pr_l29 (by omega) (by omega) (n := 5) (by decide) h.1 dX5_take_21 (t := 1029) rfl (fun H locs σ4 e4 hR hS => ?_)
    have h := h.2 σ4 e4
    exact pr_retv C h hR hS dX5_take_22
abbrev wp_X5_take (g : Nat → Nat) (σ : pr_Sg) (a1 : Int32) (a2 : Int32) (a3 : Int32) (Q : pr_Sg → Prop) : Prop := wpb_X5_take g σ a1 a2 a3 Q
set_option maxHeartbeats 4000000 in
set_option maxRecDepth 100000 in
theorem c_X5_take {l : Launch} {D : va_G} {cs : Nat → ClassId} {A : Nat → Prop} {ad : pr_Ad} {g : Nat → Nat} {σ : pr_Sg} {a1 : Int32} {a2 : Int32} {a3 : Int32} {Q : pr_Sg → Prop} (h : wp_X5_take g σ a1 a2 a3 Q) : pr_Mv l D cs A ad g yX5_take cX5_take 4 rm_X5_take [.ref (ad 5 0 0), .int a1, .int a2, .int a3] σ Q := by
  refine Met.ofW (cc := cX5_take) (maxL := 4) (ret := none) (by decide) rfl ?_
  intro p e s m args below meth c s₁ B hml hv
  obtain ⟨rfl, hR, hK⟩ := hv
  have C : pr_C RX5 cX5_take 4 none D cs p s m [.ref (ad 5 0 0), .int a1, .int a2, .int a3].toArray meth c := pr_C.of B hml hK
  have hS : va_S A s.heap s.heap [] := va_S.rf
  have hl := lv_entry ([.ref (ad 5 0 0), .int a1, .int a2, .int a3]) (n := 4) (Nat.le_of_ble_eq_true rfl)
  rw [lg_entry_eq]
  generalize (lg_sl ([.ref (ad 5 0 0), .int a1, .int a2, .int a3]) ++ List.replicate (4 - (lg_sl ([.ref (ad 5 0 0), .int a1, .int a2, .int a3])).length) Slot.unset).toArray = ls at hl ⊢
  have hl : lv_has ls 4 [(0, .ref (ad 5 0 0)), (1, .int a1), (2, .int a2), (3, .int a3)] := hl
  exact t_X5_take C h hR hS hl
def rm_X6_canCome : Room := { frames := 0, cells := 0, slots := 0, locals := 0 }
theorem hd_X6_canCome : yX6_canCome.cls = RX6 ∧ yX6_canCome.cls ≠ "java/lang/invoke/MethodHandle" ∧ yX6_canCome.cls ≠ "java/lang/invoke/VarHandle" ∧ (parseMethodDescriptor yX6_canCome.desc).map (fun d => d.parameters.length) = some 1 := ⟨rfl, by decide, by decide, by decide +kernel⟩
def wpb_X6_canCome (g : Nat → Nat) (σ : pr_Sg) (i0 : Nat) (a1 : Int32) (Q : Int32 → pr_Sg → Prop) : Prop :=
  ((a1 < (σ 384 i0 0) → Q (0 : Int32) σ) ∧
  (¬ a1 < (σ 384 i0 0) → (((σ 385 i0 0) < a1 → Q (0 : Int32) σ) ∧
  (¬ (σ 385 i0 0) < a1 → Q (1 : Int32) σ))))
set_option maxHeartbeats 4000000 in
set_option maxRecDepth 100000 in
theorem t_X6_canCome {p : Program} {l : Launch} {e : Env} {s : State} {m : MethodId} {args : Array Value} {below : List Frame} {meth : Method} {c : Code} {D : va_G} {cs : Nat → ClassId} {A : Nat → Prop} {ad : pr_Ad} {g : Nat → Nat} {Q : Int32 → pr_Sg → Prop} (C : pr_C RX6 cX6_canCome 2 (some .boolean) D cs p s m args meth c) {H : Heap} {locs : List Loc} {ls : Array Slot} {σ : pr_Sg} {i0 : Nat} {a1 : Int32} (h : wpb_X6_canCome g σ i0 a1 Q) (hR : pr_R D cs A ad g σ H) (hS : va_S A s.heap H locs) (hi0 : pr_lv g 6 i0 0) (hl : lv_has ls 2 [(0, .ref (ad 6 i0 0)), (1, .int a1)]) : W p l e rm_X6_canCome s m args below meth c H locs 0 0 (MQ below (va_Qi (pr_Qz Q) (pr_E D cs A ad g) A) args s 0 0 A) (F0 m 0 ls []) := by
  unfold wpb_X6_canCome at h
  obtain ⟨hx, hb, hml, hown, hts, hK, hr, hlocks⟩ := id C
  refine lv_iload_n hx hb dX6_canCome_0 rfl (lv_at hl 1 rfl) ?_
  refine lv_aload_n hx hb dX6_canCome_1 rfl (lv_at hl 0 rfl) ?_
  refine gf_RX6_7 C hR hi0 dX6_canCome_2 ?_
  refine lv_icmp_lt (tgt := 20) hx hb dX6_canCome_5 (by decide) (fun c1 => ?_) (fun c1 => ?_)
  · have h := h.1 c1
    refine lv_iconst (v := (0 : Int32)) hx hb dX6_canCome_20 (by decide) ?_
    exact pr_retz C (Or.inl rfl) h hR hS dX6_canCome_21
  · have h := h.2 c1
    refine lv_iload_n hx hb dX6_canCome_8 rfl (lv_at hl 1 rfl) ?_
    refine lv_aload_n hx hb dX6_canCome_9 rfl (lv_at hl 0 rfl) ?_
    refine gf_RX6_13 C hR hi0 dX6_canCome_10 ?_
    refine lv_icmp_gt (tgt := 20) hx hb dX6_canCome_13 (by decide) (fun c2 => ?_) (fun c2 => ?_)
    · have h := h.1 c2
      refine lv_iconst (v := (0 : Int32)) hx hb dX6_canCome_20 (by decide) ?_
      exact pr_retz C (Or.inl rfl) h hR hS dX6_canCome_21
    · have h := h.2 c2
      refine lv_iconst (v := (1 : Int32)) hx hb dX6_canCome_16 (by decide) ?_
      refine lv_goto (tgt := 21) hx hb dX6_canCome_17 (by decide) ?_
      exact pr_retz C (Or.inr rfl) h hR hS dX6_canCome_21
abbrev wp_X6_canCome (g : Nat → Nat) (σ : pr_Sg) (i0 : Nat) (a1 : Int32) (Q : Int32 → pr_Sg → Prop) : Prop := wpb_X6_canCome g σ i0 a1 Q
set_option maxHeartbeats 4000000 in
set_option maxRecDepth 100000 in
theorem c_X6_canCome {l : Launch} {D : va_G} {cs : Nat → ClassId} {A : Nat → Prop} {ad : pr_Ad} {g : Nat → Nat} {σ : pr_Sg} {i0 : Nat} {a1 : Int32} {Q : Int32 → pr_Sg → Prop} (hi0 : pr_lv g 6 i0 0) (h : wp_X6_canCome g σ i0 a1 Q) : pr_Mi l D cs A ad g yX6_canCome cX6_canCome 2 (some .boolean) rm_X6_canCome [.ref (ad 6 i0 0), .int a1] σ (pr_Qz Q) := by
  refine Met.ofW (cc := cX6_canCome) (maxL := 2) (ret := (some .boolean)) (by decide) rfl ?_
  intro p e s m args below meth c s₁ B hml hv
  obtain ⟨rfl, hR, hK⟩ := hv
  have C : pr_C RX6 cX6_canCome 2 (some .boolean) D cs p s m [.ref (ad 6 i0 0), .int a1].toArray meth c := pr_C.of B hml hK
  have hS : va_S A s.heap s.heap [] := va_S.rf
  have hl := lv_entry ([.ref (ad 6 i0 0), .int a1]) (n := 2) (Nat.le_of_ble_eq_true rfl)
  rw [lg_entry_eq]
  generalize (lg_sl ([.ref (ad 6 i0 0), .int a1]) ++ List.replicate (2 - (lg_sl ([.ref (ad 6 i0 0), .int a1])).length) Slot.unset).toArray = ls at hl ⊢
  have hl : lv_has ls 2 [(0, .ref (ad 6 i0 0)), (1, .int a1)] := hl
  exact t_X6_canCome C h hR hS hi0 hl
def rm_X7_add : Room := { frames := 0, cells := 0, slots := 0, locals := 0 }
theorem hd_X7_add : yX7_add.cls = RX7 ∧ yX7_add.cls ≠ "java/lang/invoke/MethodHandle" ∧ yX7_add.cls ≠ "java/lang/invoke/VarHandle" ∧ (parseMethodDescriptor yX7_add.desc).map (fun d => d.parameters.length) = some 4 := ⟨rfl, by decide, by decide, by decide +kernel⟩
def wpb_X7_add (g : Nat → Nat) (σ : pr_Sg) (a1 : Int32) (a2 : Int32) (a3 : Int32) (a4 : Int32) (Q : Int32 → pr_Sg → Prop) : Prop :=
  (((σ 453 0 0) < (200 : Int32) → (vp_in (σ 453 0 0) 200 ∧ ∀ σ2 : pr_Sg, σ2 = pr_up σ 1024 0 ((σ 453 0 0)).toNatClampNeg a1 →
  (vp_in (σ2 453 0 0) 200 ∧ ∀ σ3 : pr_Sg, σ3 = pr_up σ2 1025 0 ((σ2 453 0 0)).toNatClampNeg a2 →
  (vp_in (σ3 453 0 0) 200 ∧ ∀ σ4 : pr_Sg, σ4 = pr_up σ3 1026 0 ((σ3 453 0 0)).toNatClampNeg a3 →
  (vp_in (σ4 453 0 0) 200 ∧ ∀ σ5 : pr_Sg, σ5 = pr_up σ4 1027 0 ((σ4 453 0 0)).toNatClampNeg a4 →
  (vp_in (σ5 453 0 0) 200 ∧ ∀ σ6 : pr_Sg, σ6 = pr_up σ5 1070 0 ((σ5 453 0 0)).toNatClampNeg (vp_nar .boolean (0 : Int32)) →
  (∀ σ7 : pr_Sg, σ7 = pr_up σ6 453 0 0 ((σ6 453 0 0) + (1 : Int32)) →
  Q (1 : Int32) σ7))))))) ∧
  (¬ (σ 453 0 0) < (200 : Int32) → Q (0 : Int32) σ))
set_option maxHeartbeats 4000000 in
set_option maxRecDepth 100000 in
theorem t_X7_add {p : Program} {l : Launch} {e : Env} {s : State} {m : MethodId} {args : Array Value} {below : List Frame} {meth : Method} {c : Code} {D : va_G} {cs : Nat → ClassId} {A : Nat → Prop} {ad : pr_Ad} {g : Nat → Nat} {Q : Int32 → pr_Sg → Prop} (C : pr_C RX7 cX7_add 5 (some .boolean) D cs p s m args meth c) {H : Heap} {locs : List Loc} {ls : Array Slot} {σ : pr_Sg} {a1 : Int32} {a2 : Int32} {a3 : Int32} {a4 : Int32} (h : wpb_X7_add g σ a1 a2 a3 a4 Q) (hR : pr_R D cs A ad g σ H) (hS : va_S A s.heap H locs) (hl : lv_has ls 5 [(0, .ref (ad 7 0 0)), (1, .int a1), (2, .int a2), (3, .int a3), (4, .int a4)]) : W p l e rm_X7_add s m args below meth c H locs 0 0 (MQ below (va_Qi (pr_Qz Q) (pr_E D cs A ad g) A) args s 0 0 A) (F0 m 0 ls []) := by
  unfold wpb_X7_add at h
  obtain ⟨hx, hb, hml, hown, hts, hK, hr, hlocks⟩ := id C
  refine lv_aload_n hx hb dX7_add_0 rfl (lv_at hl 0 rfl) ?_
  refine gf_RX7_28 C hR pr_l7 dX7_add_1 ?_
  refine lv_sipush (v := (200 : Int32)) hx hb dX7_add_4 (by decide) ?_
  refine lv_icmp_lt (tgt := 12) hx hb dX7_add_7 (by decide) (fun c1 => ?_) (fun c1 => ?_)
  · have h := h.1 c1
    refine lv_aload_n hx hb dX7_add_12 rfl (lv_at hl 0 rfl) ?_
    refine gf_RX7_9 C hR pr_l7 dX7_add_13 ?_
    refine lv_aload_n hx hb dX7_add_16 rfl (lv_at hl 0 rfl) ?_
    refine gf_RX7_28 C hR pr_l7 dX7_add_17 ?_
    refine lv_iload_n hx hb dX7_add_20 rfl (lv_at hl 1 rfl) ?_
    refine pr_ast hx hb hK hR hS pr_l24 (by omega) (by omega) (n := 200) (by decide) h.1 dX7_add_21 (t := 1024) rfl (fun H locs σ2 e2 hR hS => ?_)
    have h := h.2 σ2 e2
    refine lv_aload_n hx hb dX7_add_22 rfl (lv_at hl 0 rfl) ?_
    refine gf_RX7_15 C hR pr_l7 dX7_add_23 ?_
    refine lv_aload_n hx hb dX7_add_26 rfl (lv_at hl 0 rfl) ?_
    refine gf_RX7_28 C hR pr_l7 dX7_add_27 ?_
    refine lv_iload_n hx hb dX7_add_30 rfl (lv_at hl 2 rfl) ?_
    refine pr_ast hx hb hK hR hS pr_l25 (by omega) (by omega) (n := 200) (by decide) h.1 dX7_add_31 (t := 1025) rfl (fun H locs σ3 e3 hR hS => ?_)
    have h := h.2 σ3 e3
    refine lv_aload_n hx hb dX7_add_32 rfl (lv_at hl 0 rfl) ?_
    refine gf_RX7_18 C hR pr_l7 dX7_add_33 ?_
    refine lv_aload_n hx hb dX7_add_36 rfl (lv_at hl 0 rfl) ?_
    refine gf_RX7_28 C hR pr_l7 dX7_add_37 ?_
    refine lv_iload_n hx hb dX7_add_40 rfl (lv_at hl 3 rfl) ?_
    refine pr_ast hx hb hK hR hS pr_l26 (by omega) (by omega) (n := 200) (by decide) h.1 dX7_add_41 (t := 1026) rfl (fun H locs σ4 e4 hR hS => ?_)
    have h := h.2 σ4 e4
    refine lv_aload_n hx hb dX7_add_42 rfl (lv_at hl 0 rfl) ?_
    refine gf_RX7_21 C hR pr_l7 dX7_add_43 ?_
    refine lv_aload_n hx hb dX7_add_46 rfl (lv_at hl 0 rfl) ?_
    refine gf_RX7_28 C hR pr_l7 dX7_add_47 ?_
    refine lv_iload hx hb dX7_add_50 (lv_at hl 4 rfl) ?_
    refine pr_ast hx hb hK hR hS pr_l27 (by omega) (by omega) (n := 200) (by decide) h.1 dX7_add_52 (t := 1027) rfl (fun H locs σ5 e5 hR hS => ?_)
    have h := h.2 σ5 e5
    refine lv_aload_n hx hb dX7_add_53 rfl (lv_at hl 0 rfl) ?_
    refine gf_RX7_24 C hR pr_l7 dX7_add_54 ?_
    refine lv_aload_n hx hb dX7_add_57 rfl (lv_at hl 0 rfl) ?_
    refine gf_RX7_28 C hR pr_l7 dX7_add_58 ?_
    refine lv_iconst (v := (0 : Int32)) hx hb dX7_add_61 (by decide) ?_
    refine pr_zst hx hb hK hR hS pr_l70 (by omega) (by omega) (n := 200) (by decide) h.1 dX7_add_62 (t := 1070) rfl (fun H locs σ6 e6 hR hS => ?_)
    have h := h.2 σ6 e6
    refine lv_aload_n hx hb dX7_add_63 rfl (lv_at hl 0 rfl) ?_
    refine lv_dup hx hb dX7_add_64 rfl ?_
    refine gf_RX7_28 C hR pr_l7 dX7_add_65 ?_
    refine lv_iconst (v := (1 : Int32)) hx hb dX7_add_68 (by decide) ?_
    refine lv_iadd hx hb dX7_add_69 ?_
    refine pf_RX7_28 C hR hS pr_l7 dX7_add_70 (fun H locs σ7 e7 hR hS => ?_)
    have h := h σ7 e7
    refine lv_iconst (v := (1 : Int32)) hx hb dX7_add_73 (by decide) ?_
    exact pr_retz C (Or.inr rfl) h hR hS dX7_add_74
  · have h := h.2 c1
    refine lv_iconst (v := (0 : Int32)) hx hb dX7_add_10 (by decide) ?_
    exact pr_retz C (Or.inl rfl) h hR hS dX7_add_11
abbrev wp_X7_add (g : Nat → Nat) (σ : pr_Sg) (a1 : Int32) (a2 : Int32) (a3 : Int32) (a4 : Int32) (Q : Int32 → pr_Sg → Prop) : Prop := wpb_X7_add g σ a1 a2 a3 a4 Q
set_option maxHeartbeats 4000000 in
set_option maxRecDepth 100000 in
theorem c_X7_add {l : Launch} {D : va_G} {cs : Nat → ClassId} {A : Nat → Prop} {ad : pr_Ad} {g : Nat → Nat} {σ : pr_Sg} {a1 : Int32} {a2 : Int32} {a3 : Int32} {a4 : Int32} {Q : Int32 → pr_Sg → Prop} (h : wp_X7_add g σ a1 a2 a3 a4 Q) : pr_Mi l D cs A ad g yX7_add cX7_add 5 (some .boolean) rm_X7_add [.ref (ad 7 0 0), .int a1, .int a2, .int a3, .int a4] σ (pr_Qz Q) := by
  refine Met.ofW (cc := cX7_add) (maxL := 5) (ret := (some .boolean)) (by decide) rfl ?_
  intro p e s m args below meth c s₁ B hml hv
  obtain ⟨rfl, hR, hK⟩ := hv
  have C : pr_C RX7 cX7_add 5 (some .boolean) D cs p s m [.ref (ad 7 0 0), .int a1, .int a2, .int a3, .int a4].toArray meth c := pr_C.of B hml hK
  have hS : va_S A s.heap s.heap [] := va_S.rf
  have hl := lv_entry ([.ref (ad 7 0 0), .int a1, .int a2, .int a3, .int a4]) (n := 5) (Nat.le_of_ble_eq_true rfl)
  rw [lg_entry_eq]
  generalize (lg_sl ([.ref (ad 7 0 0), .int a1, .int a2, .int a3, .int a4]) ++ List.replicate (5 - (lg_sl ([.ref (ad 7 0 0), .int a1, .int a2, .int a3, .int a4])).length) Slot.unset).toArray = ls at hl ⊢
  have hl : lv_has ls 5 [(0, .ref (ad 7 0 0)), (1, .int a1), (2, .int a2), (3, .int a3), (4, .int a4)] := hl
  exact t_X7_add C h hR hS hl
def rm_X7_remove : Room := { frames := 0, cells := 0, slots := 0, locals := 0 }
theorem hd_X7_remove : yX7_remove.cls = RX7 ∧ yX7_remove.cls ≠ "java/lang/invoke/MethodHandle" ∧ yX7_remove.cls ≠ "java/lang/invoke/VarHandle" ∧ (parseMethodDescriptor yX7_remove.desc).map (fun d => d.parameters.length) = some 1 := ⟨rfl, by decide, by decide, by decide +kernel⟩
def wpb_X7_remove (g : Nat → Nat) (σ : pr_Sg) (a1 : Int32) (Q : pr_Sg → Prop) : Prop :=
  ((a1 < 0 → Q σ) ∧
  (¬ a1 < 0 → ((a1 < (σ 453 0 0) → (∀ σ3 : pr_Sg, σ3 = pr_up σ 453 0 0 ((σ 453 0 0) - (1 : Int32)) →
  (vp_in (σ3 453 0 0) 200 ∧ (vp_in a1 200 ∧ ∀ σ4 : pr_Sg, σ4 = pr_up σ3 1024 0 (a1).toNatClampNeg (σ3 1024 0 ((σ3 453 0 0)).toNatClampNeg) →
  (vp_in (σ4 453 0 0) 200 ∧ (vp_in a1 200 ∧ ∀ σ5 : pr_Sg, σ5 = pr_up σ4 1025 0 (a1).toNatClampNeg (σ4 1025 0 ((σ4 453 0 0)).toNatClampNeg) →
  (vp_in (σ5 453 0 0) 200 ∧ (vp_in a1 200 ∧ ∀ σ6 : pr_Sg, σ6 = pr_up σ5 1026 0 (a1).toNatClampNeg (σ5 1026 0 ((σ5 453 0 0)).toNatClampNeg) →
  (vp_in (σ6 453 0 0) 200 ∧ (vp_in a1 200 ∧ ∀ σ7 : pr_Sg, σ7 = pr_up σ6 1027 0 (a1).toNatClampNeg (σ6 1027 0 ((σ6 453 0 0)).toNatClampNeg) →
  (vp_in (σ7 453 0 0) 200 ∧ (vp_in a1 200 ∧ ∀ σ8 : pr_Sg, σ8 = pr_up σ7 1070 0 (a1).toNatClampNeg (vp_nar .boolean (σ7 1070 0 ((σ7 453 0 0)).toNatClampNeg)) →
  Q σ8)))))))))))) ∧
  (¬ a1 < (σ 453 0 0) → Q σ))))
set_option maxHeartbeats 4000000 in
set_option maxRecDepth 100000 in
theorem t_X7_remove {p : Program} {l : Launch} {e : Env} {s : State} {m : MethodId} {args : Array Value} {below : List Frame} {meth : Method} {c : Code} {D : va_G} {cs : Nat → ClassId} {A : Nat → Prop} {ad : pr_Ad} {g : Nat → Nat} {Q : pr_Sg → Prop} (C : pr_C RX7 cX7_remove 2 none D cs p s m args meth c) {H : Heap} {locs : List Loc} {ls : Array Slot} {σ : pr_Sg} {a1 : Int32} (h : wpb_X7_remove g σ a1 Q) (hR : pr_R D cs A ad g σ H) (hS : va_S A s.heap H locs) (hl : lv_has ls 2 [(0, .ref (ad 7 0 0)), (1, .int a1)]) : W p l e rm_X7_remove s m args below meth c H locs 0 0 (MQ below (va_Qv Q (pr_E D cs A ad g) A) args s 0 0 A) (F0 m 0 ls []) := by
  unfold wpb_X7_remove at h
  obtain ⟨hx, hb, hml, hown, hts, hK, hr, hlocks⟩ := id C
  refine lv_iload_n hx hb dX7_remove_0 rfl (lv_at hl 1 rfl) ?_
  refine lv_if_lt (tgt := 12) hx hb dX7_remove_1 (by decide) (fun c1 => ?_) (fun c1 => ?_)
  · have h := h.1 c1
    exact pr_retv C h hR hS dX7_remove_12
  · have h := h.2 c1
    refine lv_iload_n hx hb dX7_remove_4 rfl (lv_at hl 1 rfl) ?_
    refine lv_aload_n hx hb dX7_remove_5 rfl (lv_at hl 0 rfl) ?_
    refine gf_RX7_28 C hR pr_l7 dX7_remove_6 ?_
    refine lv_icmp_lt (tgt := 13) hx hb dX7_remove_9 (by decide) (fun c2 => ?_) (fun c2 => ?_)
    · have h := h.1 c2
      refine lv_aload_n hx hb dX7_remove_13 rfl (lv_at hl 0 rfl) ?_
      refine lv_dup hx hb dX7_remove_14 rfl ?_
      refine gf_RX7_28 C hR pr_l7 dX7_remove_15 ?_
      refine lv_iconst (v := (1 : Int32)) hx hb dX7_remove_18 (by decide) ?_
      refine lv_isub hx hb dX7_remove_19 ?_
      refine pf_RX7_28 C hR hS pr_l7 dX7_remove_20 (fun H locs σ3 e3 hR hS => ?_)
      have h := h σ3 e3
      refine lv_aload_n hx hb dX7_remove_23 rfl (lv_at hl 0 rfl) ?_
      refine gf_RX7_9 C hR pr_l7 dX7_remove_24 ?_
      refine lv_iload_n hx hb dX7_remove_27 rfl (lv_at hl 1 rfl) ?_
      refine lv_aload_n hx hb dX7_remove_28 rfl (lv_at hl 0 rfl) ?_
      refine gf_RX7_9 C hR pr_l7 dX7_remove_29 ?_
      refine lv_aload_n hx hb dX7_remove_32 rfl (lv_at hl 0 rfl) ?_
      refine gf_RX7_28 C hR pr_l7 dX7_remove_33 ?_
      refine pr_ald hx hb hK hR pr_l24 (by omega) (by omega) (n := 200) (by decide) h.1 dX7_remove_36 (t := 1024) rfl ?_
      have h := h.2
      refine pr_ast hx hb hK hR hS pr_l24 (by omega) (by omega) (n := 200) (by decide) h.1 dX7_remove_37 (t := 1024) rfl (fun H locs σ4 e4 hR hS => ?_)
      have h := h.2 σ4 e4
      refine lv_aload_n hx hb dX7_remove_38 rfl (lv_at hl 0 rfl) ?_
      refine gf_RX7_15 C hR pr_l7 dX7_remove_39 ?_
      refine lv_iload_n hx hb dX7_remove_42 rfl (lv_at hl 1 rfl) ?_
      refine lv_aload_n hx hb dX7_remove_43 rfl (lv_at hl 0 rfl) ?_
      refine gf_RX7_15 C hR pr_l7 dX7_remove_44 ?_
      refine lv_aload_n hx hb dX7_remove_47 rfl (lv_at hl 0 rfl) ?_
      refine gf_RX7_28 C hR pr_l7 dX7_remove_48 ?_
      refine pr_ald hx hb hK hR pr_l25 (by omega) (by omega) (n := 200) (by decide) h.1 dX7_remove_51 (t := 1025) rfl ?_
      have h := h.2
      refine pr_ast hx hb hK hR hS pr_l25 (by omega) (by omega) (n := 200) (by decide) h.1 dX7_remove_52 (t := 1025) rfl (fun H locs σ5 e5 hR hS => ?_)
      have h := h.2 σ5 e5
      refine lv_aload_n hx hb dX7_remove_53 rfl (lv_at hl 0 rfl) ?_
      refine gf_RX7_18 C hR pr_l7 dX7_remove_54 ?_
      refine lv_iload_n hx hb dX7_remove_57 rfl (lv_at hl 1 rfl) ?_
      refine lv_aload_n hx hb dX7_remove_58 rfl (lv_at hl 0 rfl) ?_
      refine gf_RX7_18 C hR pr_l7 dX7_remove_59 ?_
      refine lv_aload_n hx hb dX7_remove_62 rfl (lv_at hl 0 rfl) ?_
      refine gf_RX7_28 C hR pr_l7 dX7_remove_63 ?_
      refine pr_ald hx hb hK hR pr_l26 (by omega) (by omega) (n := 200) (by decide) h.1 dX7_remove_66 (t := 1026) rfl ?_
      have h := h.2
      refine pr_ast hx hb hK hR hS pr_l26 (by omega) (by omega) (n := 200) (by decide) h.1 dX7_remove_67 (t := 1026) rfl (fun H locs σ6 e6 hR hS => ?_)
      have h := h.2 σ6 e6
      refine lv_aload_n hx hb dX7_remove_68 rfl (lv_at hl 0 rfl) ?_
      refine gf_RX7_21 C hR pr_l7 dX7_remove_69 ?_
      refine lv_iload_n hx hb dX7_remove_72 rfl (lv_at hl 1 rfl) ?_
      refine lv_aload_n hx hb dX7_remove_73 rfl (lv_at hl 0 rfl) ?_
      refine gf_RX7_21 C hR pr_l7 dX7_remove_74 ?_
      refine lv_aload_n hx hb dX7_remove_77 rfl (lv_at hl 0 rfl) ?_
      refine gf_RX7_28 C hR pr_l7 dX7_remove_78 ?_
      refine pr_ald hx hb hK hR pr_l27 (by omega) (by omega) (n := 200) (by decide) h.1 dX7_remove_81 (t := 1027) rfl ?_
      have h := h.2
      refine pr_ast hx hb hK hR hS pr_l27 (by omega) (by omega) (n := 200) (by decide) h.1 dX7_remove_82 (t := 1027) rfl (fun H locs σ7 e7 hR hS => ?_)
      have h := h.2 σ7 e7
      refine lv_aload_n hx hb dX7_remove_83 rfl (lv_at hl 0 rfl) ?_
      refine gf_RX7_24 C hR pr_l7 dX7_remove_84 ?_
      refine lv_iload_n hx hb dX7_remove_87 rfl (lv_at hl 1 rfl) ?_
      refine lv_aload_n hx hb dX7_remove_88 rfl (lv_at hl 0 rfl) ?_
      refine gf_RX7_24 C hR pr_l7 dX7_remove_89 ?_
      refine lv_aload_n hx hb dX7_remove_92 rfl (lv_at hl 0 rfl) ?_
      refine gf_RX7_28 C hR pr_l7 dX7_remove_93 ?_
      refine pr_zld hx hb hK hR pr_l70 (by omega) (by omega) (n := 200) (by decide) h.1 dX7_remove_96 (t := 1070) rfl ?_
      have h := h.2
      refine pr_zst hx hb hK hR hS pr_l70 (by omega) (by omega) (n := 200) (by decide) h.1 dX7_remove_97 (t := 1070) rfl (fun H locs σ8 e8 hR hS => ?_)
      have h := h.2 σ8 e8
      exact pr_retv C h hR hS dX7_remove_98
    · have h := h.2 c2
      exact pr_retv C h hR hS dX7_remove_12
abbrev wp_X7_remove (g : Nat → Nat) (σ : pr_Sg) (a1 : Int32) (Q : pr_Sg → Prop) : Prop := wpb_X7_remove g σ a1 Q
set_option maxHeartbeats 4000000 in
set_option maxRecDepth 100000 in
theorem c_X7_remove {l : Launch} {D : va_G} {cs : Nat → ClassId} {A : Nat → Prop} {ad : pr_Ad} {g : Nat → Nat} {σ : pr_Sg} {a1 : Int32} {Q : pr_Sg → Prop} (h : wp_X7_remove g σ a1 Q) : pr_Mv l D cs A ad g yX7_remove cX7_remove 2 rm_X7_remove [.ref (ad 7 0 0), .int a1] σ Q := by
  refine Met.ofW (cc := cX7_remove) (maxL := 2) (ret := none) (by decide) rfl ?_
  intro p e s m args below meth c s₁ B hml hv
  obtain ⟨rfl, hR, hK⟩ := hv
  have C : pr_C RX7 cX7_remove 2 none D cs p s m [.ref (ad 7 0 0), .int a1].toArray meth c := pr_C.of B hml hK
  have hS : va_S A s.heap s.heap [] := va_S.rf
  have hl := lv_entry ([.ref (ad 7 0 0), .int a1]) (n := 2) (Nat.le_of_ble_eq_true rfl)
  rw [lg_entry_eq]
  generalize (lg_sl ([.ref (ad 7 0 0), .int a1]) ++ List.replicate (2 - (lg_sl ([.ref (ad 7 0 0), .int a1])).length) Slot.unset).toArray = ls at hl ⊢
  have hl : lv_has ls 2 [(0, .ref (ad 7 0 0)), (1, .int a1)] := hl
  exact t_X7_remove C h hR hS hl
def rm_X7_use : Room := { frames := 0, cells := 0, slots := 0, locals := 0 }
theorem hd_X7_use : yX7_use.cls = RX7 ∧ yX7_use.cls ≠ "java/lang/invoke/MethodHandle" ∧ yX7_use.cls ≠ "java/lang/invoke/VarHandle" ∧ (parseMethodDescriptor yX7_use.desc).map (fun d => d.parameters.length) = some 1 := ⟨rfl, by decide, by decide, by decide +kernel⟩
def wpb_X7_use (g : Nat → Nat) (σ : pr_Sg) (a1 : Int32) (Q : pr_Sg → Prop) : Prop :=
  ((a1 < 0 → Q σ) ∧
  (¬ a1 < 0 → (((σ 453 0 0) ≤ a1 → Q σ) ∧
  (¬ (σ 453 0 0) ≤ a1 → (vp_in a1 200 ∧ ∀ σ3 : pr_Sg, σ3 = pr_up σ 1070 0 (a1).toNatClampNeg (vp_nar .boolean (1 : Int32)) →
  Q σ3)))))
set_option maxHeartbeats 4000000 in
set_option maxRecDepth 100000 in
theorem t_X7_use {p : Program} {l : Launch} {e : Env} {s : State} {m : MethodId} {args : Array Value} {below : List Frame} {meth : Method} {c : Code} {D : va_G} {cs : Nat → ClassId} {A : Nat → Prop} {ad : pr_Ad} {g : Nat → Nat} {Q : pr_Sg → Prop} (C : pr_C RX7 cX7_use 2 none D cs p s m args meth c) {H : Heap} {locs : List Loc} {ls : Array Slot} {σ : pr_Sg} {a1 : Int32} (h : wpb_X7_use g σ a1 Q) (hR : pr_R D cs A ad g σ H) (hS : va_S A s.heap H locs) (hl : lv_has ls 2 [(0, .ref (ad 7 0 0)), (1, .int a1)]) : W p l e rm_X7_use s m args below meth c H locs 0 0 (MQ below (va_Qv Q (pr_E D cs A ad g) A) args s 0 0 A) (F0 m 0 ls []) := by
  unfold wpb_X7_use at h
  obtain ⟨hx, hb, hml, hown, hts, hK, hr, hlocks⟩ := id C
  refine lv_iload_n hx hb dX7_use_0 rfl (lv_at hl 1 rfl) ?_
  refine lv_if_lt (tgt := 19) hx hb dX7_use_1 (by decide) (fun c1 => ?_) (fun c1 => ?_)
  · have h := h.1 c1
    exact pr_retv C h hR hS dX7_use_19
  · have h := h.2 c1
    refine lv_iload_n hx hb dX7_use_4 rfl (lv_at hl 1 rfl) ?_
    refine lv_aload_n hx hb dX7_use_5 rfl (lv_at hl 0 rfl) ?_
    refine gf_RX7_28 C hR pr_l7 dX7_use_6 ?_
    refine lv_icmp_ge (tgt := 19) hx hb dX7_use_9 (by decide) (fun c2 => ?_) (fun c2 => ?_)
    · have h := h.1 c2
      exact pr_retv C h hR hS dX7_use_19
    · have h := h.2 c2
      refine lv_aload_n hx hb dX7_use_12 rfl (lv_at hl 0 rfl) ?_
      refine gf_RX7_24 C hR pr_l7 dX7_use_13 ?_
      refine lv_iload_n hx hb dX7_use_16 rfl (lv_at hl 1 rfl) ?_
      refine lv_iconst (v := (1 : Int32)) hx hb dX7_use_17 (by decide) ?_
      refine pr_zst hx hb hK hR hS pr_l70 (by omega) (by omega) (n := 200) (by decide) h.1 dX7_use_18 (t := 1070) rfl (fun H locs σ3 e3 hR hS => ?_)
      have h := h.2 σ3 e3
      exact pr_retv C h hR hS dX7_use_19
abbrev wp_X7_use (g : Nat → Nat) (σ : pr_Sg) (a1 : Int32) (Q : pr_Sg → Prop) : Prop := wpb_X7_use g σ a1 Q
set_option maxHeartbeats 4000000 in
set_option maxRecDepth 100000 in
theorem c_X7_use {l : Launch} {D : va_G} {cs : Nat → ClassId} {A : Nat → Prop} {ad : pr_Ad} {g : Nat → Nat} {σ : pr_Sg} {a1 : Int32} {Q : pr_Sg → Prop} (h : wp_X7_use g σ a1 Q) : pr_Mv l D cs A ad g yX7_use cX7_use 2 rm_X7_use [.ref (ad 7 0 0), .int a1] σ Q := by
  refine Met.ofW (cc := cX7_use) (maxL := 2) (ret := none) (by decide) rfl ?_
  intro p e s m args below meth c s₁ B hml hv
  obtain ⟨rfl, hR, hK⟩ := hv
  have C : pr_C RX7 cX7_use 2 none D cs p s m [.ref (ad 7 0 0), .int a1].toArray meth c := pr_C.of B hml hK
  have hS : va_S A s.heap s.heap [] := va_S.rf
  have hl := lv_entry ([.ref (ad 7 0 0), .int a1]) (n := 2) (Nat.le_of_ble_eq_true rfl)
  rw [lg_entry_eq]
  generalize (lg_sl ([.ref (ad 7 0 0), .int a1]) ++ List.replicate (2 - (lg_sl ([.ref (ad 7 0 0), .int a1])).length) Slot.unset).toArray = ls at hl ⊢
  have hl : lv_has ls 2 [(0, .ref (ad 7 0 0)), (1, .int a1)] := hl
  exact t_X7_use C h hR hS hl
def rm_X7_unusedOf : Room := { frames := 0, cells := 0, slots := 0, locals := 0 }
theorem hd_X7_unusedOf : yX7_unusedOf.cls = RX7 ∧ yX7_unusedOf.cls ≠ "java/lang/invoke/MethodHandle" ∧ yX7_unusedOf.cls ≠ "java/lang/invoke/VarHandle" ∧ (parseMethodDescriptor yX7_unusedOf.desc).map (fun d => d.parameters.length) = some 2 := ⟨rfl, by decide, by decide, by decide +kernel⟩
def wp_X7_unusedOf_L2 (g : Nat → Nat) (Q : Int32 → pr_Sg → Prop) : Nat → pr_Sg → Int32 → Int32 → Int32 → Prop
  | 0, _, _, _, _ => False
  | n + 1, σ, x1, x2, x3 => (((σ 453 0 0) ≤ x3 → Q (-1 : Int32) σ) ∧
  (¬ (σ 453 0 0) ≤ x3 → (vp_in x3 200 ∧ ((¬ (σ 1024 0 (x3).toNatClampNeg) = x1 → wp_X7_unusedOf_L2 g Q n σ x1 x2 (x3 + (1 : Int32))) ∧
  ((σ 1024 0 (x3).toNatClampNeg) = x1 → (vp_in x3 200 ∧ ((¬ (σ 1026 0 (x3).toNatClampNeg) = x2 → wp_X7_unusedOf_L2 g Q n σ x1 x2 (x3 + (1 : Int32))) ∧
  ((σ 1026 0 (x3).toNatClampNeg) = x2 → (vp_in x3 200 ∧ ((¬ (σ 1070 0 (x3).toNatClampNeg) = 0 → wp_X7_unusedOf_L2 g Q n σ x1 x2 (x3 + (1 : Int32))) ∧
  ((σ 1070 0 (x3).toNatClampNeg) = 0 → Q x3 σ)))))))))))
set_option maxHeartbeats 4000000 in
set_option maxRecDepth 100000 in
theorem t_X7_unusedOf_L2 {p : Program} {l : Launch} {e : Env} {s : State} {m : MethodId} {args : Array Value} {below : List Frame} {meth : Method} {c : Code} {D : va_G} {cs : Nat → ClassId} {A : Nat → Prop} {ad : pr_Ad} {g : Nat → Nat} {Q : Int32 → pr_Sg → Prop} (C : pr_C RX7 cX7_unusedOf 4 (some .int) D cs p s m args meth c) (n : Nat) : ∀ {H : Heap} {locs : List Loc} {ls : Array Slot} {σ : pr_Sg} {x1 : Int32} {x2 : Int32} {x3 : Int32} (_ : wp_X7_unusedOf_L2 g Q n σ x1 x2 x3) (_ : pr_R D cs A ad g σ H) (_ : va_S A s.heap H locs) (_ : lv_has ls 4 [(0, .ref (ad 7 0 0)), (1, .int x1), (2, .int x2), (3, .int x3)]), W p l e rm_X7_unusedOf s m args below meth c H locs 0 0 (MQ below (va_Qi Q (pr_E D cs A ad g) A) args s 0 0 A) (F0 m 2 ls []) := by
  induction n with
  | zero =>
    intro H locs ls σ x1 x2 x3 h
    exact False.elim h
  | succ n ih =>
    intro H locs ls σ x1 x2 x3 h hR hS hl
    unfold wp_X7_unusedOf_L2 at h
    obtain ⟨hx, hb, hml, hown, hts, hK, hr, hlocks⟩ := id C
    refine lv_iload_n hx hb dX7_unusedOf_2 rfl (lv_at hl 3 rfl) ?_
    refine lv_aload_n hx hb dX7_unusedOf_3 rfl (lv_at hl 0 rfl) ?_
    refine gf_RX7_28 C hR pr_l7 dX7_unusedOf_4 ?_
    refine lv_icmp_ge (tgt := 47) hx hb dX7_unusedOf_7 (by decide) (fun c1 => ?_) (fun c1 => ?_)
    · have h := h.1 c1
      refine lv_iconst (v := (-1 : Int32)) hx hb dX7_unusedOf_47 (by decide) ?_
      exact pr_reti C h hR hS dX7_unusedOf_48
    · have h := h.2 c1
      refine lv_aload_n hx hb dX7_unusedOf_10 rfl (lv_at hl 0 rfl) ?_
      refine gf_RX7_9 C hR pr_l7 dX7_unusedOf_11 ?_
      refine lv_iload_n hx hb dX7_unusedOf_14 rfl (lv_at hl 3 rfl) ?_
      refine pr_ald hx hb hK hR pr_l24 (by omega) (by omega) (n := 200) (by decide) h.1 dX7_unusedOf_15 (t := 1024) rfl ?_
      have h := h.2
      refine lv_iload_n hx hb dX7_unusedOf_16 rfl (lv_at hl 1 rfl) ?_
      refine lv_icmp_ne (tgt := 41) hx hb dX7_unusedOf_17 (by decide) (fun c2 => ?_) (fun c2 => ?_)
      · have h := h.1 c2
        refine lv_iinc (v := (x3 + (1 : Int32))) (lv' := [(3, .int (x3 + (1 : Int32))), (0, .ref (ad 7 0 0)), (1, .int x1), (2, .int x2)]) hx hb dX7_unusedOf_41 hl (k := 3) rfl rfl (by decide) rfl (fun ls hl => ?_)
        refine lv_goto (tgt := 2) hx hb dX7_unusedOf_44 (by decide) ?_
        exact ih h hR hS (lv_sub hl [1, 2, 3, 0] rfl)
      · have h := h.2 c2
        refine lv_aload_n hx hb dX7_unusedOf_20 rfl (lv_at hl 0 rfl) ?_
        refine gf_RX7_18 C hR pr_l7 dX7_unusedOf_21 ?_
        refine lv_iload_n hx hb dX7_unusedOf_24 rfl (lv_at hl 3 rfl) ?_
        refine pr_ald hx hb hK hR pr_l26 (by omega) (by omega) (n := 200) (by decide) h.1 dX7_unusedOf_25 (t := 1026) rfl ?_
        have h := h.2
        refine lv_iload_n hx hb dX7_unusedOf_26 rfl (lv_at hl 2 rfl) ?_
        refine lv_icmp_ne (tgt := 41) hx hb dX7_unusedOf_27 (by decide) (fun c3 => ?_) (fun c3 => ?_)
        · have h := h.1 c3
          refine lv_iinc (v := (x3 + (1 : Int32))) (lv' := [(3, .int (x3 + (1 : Int32))), (0, .ref (ad 7 0 0)), (1, .int x1), (2, .int x2)]) hx hb dX7_unusedOf_41 hl (k := 3) rfl rfl (by decide) rfl (fun ls hl => ?_)
          refine lv_goto (tgt := 2) hx hb dX7_unusedOf_44 (by decide) ?_
          exact ih h hR hS (lv_sub hl [1, 2, 3, 0] rfl)
        · have h := h.2 c3
          refine lv_aload_n hx hb dX7_unusedOf_30 rfl (lv_at hl 0 rfl) ?_
          refine gf_RX7_24 C hR pr_l7 dX7_unusedOf_31 ?_
          refine lv_iload_n hx hb dX7_unusedOf_34 rfl (lv_at hl 3 rfl) ?_
          refine pr_zld hx hb hK hR pr_l70 (by omega) (by omega) (n := 200) (by decide) h.1 dX7_unusedOf_35 (t := 1070) rfl ?_
          have h := h.2
          refine lv_if_ne (tgt := 41) hx hb dX7_unusedOf_36 (by decide) (fun c4 => ?_) (fun c4 => ?_)
          · have h := h.1 c4
            refine lv_iinc (v := (x3 + (1 : Int32))) (lv' := [(3, .int (x3 + (1 : Int32))), (0, .ref (ad 7 0 0)), (1, .int x1), (2, .int x2)]) hx hb dX7_unusedOf_41 hl (k := 3) rfl rfl (by decide) rfl (fun ls hl => ?_)
            refine lv_goto (tgt := 2) hx hb dX7_unusedOf_44 (by decide) ?_
            exact ih h hR hS (lv_sub hl [1, 2, 3, 0] rfl)
          · have h := h.2 c4
            refine lv_iload_n hx hb dX7_unusedOf_39 rfl (lv_at hl 3 rfl) ?_
            exact pr_reti C h hR hS dX7_unusedOf_40
def wpb_X7_unusedOf (g : Nat → Nat) (σ : pr_Sg) (a1 : Int32) (a2 : Int32) (Q : Int32 → pr_Sg → Prop) : Prop :=
  (∃ n : Nat, wp_X7_unusedOf_L2 g Q n σ a1 a2 (0 : Int32))
set_option maxHeartbeats 4000000 in
set_option maxRecDepth 100000 in
theorem t_X7_unusedOf {p : Program} {l : Launch} {e : Env} {s : State} {m : MethodId} {args : Array Value} {below : List Frame} {meth : Method} {c : Code} {D : va_G} {cs : Nat → ClassId} {A : Nat → Prop} {ad : pr_Ad} {g : Nat → Nat} {Q : Int32 → pr_Sg → Prop} (C : pr_C RX7 cX7_unusedOf 4 (some .int) D cs p s m args meth c) {H : Heap} {locs : List Loc} {ls : Array Slot} {σ : pr_Sg} {a1 : Int32} {a2 : Int32} (h : wpb_X7_unusedOf g σ a1 a2 Q) (hR : pr_R D cs A ad g σ H) (hS : va_S A s.heap H locs) (hl : lv_has ls 4 [(0, .ref (ad 7 0 0)), (1, .int a1), (2, .int a2)]) : W p l e rm_X7_unusedOf s m args below meth c H locs 0 0 (MQ below (va_Qi Q (pr_E D cs A ad g) A) args s 0 0 A) (F0 m 0 ls []) := by
  unfold wpb_X7_unusedOf at h
  obtain ⟨hx, hb, hml, hown, hts, hK, hr, hlocks⟩ := id C
  refine lv_iconst (v := (0 : Int32)) hx hb dX7_unusedOf_0 (by decide) ?_
  refine lv_istore_n (lv' := [(3, .int (0 : Int32)), (0, .ref (ad 7 0 0)), (1, .int a1), (2, .int a2)]) hx hb dX7_unusedOf_1 rfl hl (by decide) rfl (fun ls hl => ?_)
  obtain ⟨n1, h⟩ := h
  exact t_X7_unusedOf_L2 C n1 h hR hS (lv_sub hl [1, 2, 3, 0] rfl)
abbrev wp_X7_unusedOf (g : Nat → Nat) (σ : pr_Sg) (a1 : Int32) (a2 : Int32) (Q : Int32 → pr_Sg → Prop) : Prop := wpb_X7_unusedOf g σ a1 a2 Q
set_option maxHeartbeats 4000000 in
set_option maxRecDepth 100000 in
theorem c_X7_unusedOf {l : Launch} {D : va_G} {cs : Nat → ClassId} {A : Nat → Prop} {ad : pr_Ad} {g : Nat → Nat} {σ : pr_Sg} {a1 : Int32} {a2 : Int32} {Q : Int32 → pr_Sg → Prop} (h : wp_X7_unusedOf g σ a1 a2 Q) : pr_Mi l D cs A ad g yX7_unusedOf cX7_unusedOf 4 (some .int) rm_X7_unusedOf [.ref (ad 7 0 0), .int a1, .int a2] σ Q := by
  refine Met.ofW (cc := cX7_unusedOf) (maxL := 4) (ret := (some .int)) (by decide) rfl ?_
  intro p e s m args below meth c s₁ B hml hv
  obtain ⟨rfl, hR, hK⟩ := hv
  have C : pr_C RX7 cX7_unusedOf 4 (some .int) D cs p s m [.ref (ad 7 0 0), .int a1, .int a2].toArray meth c := pr_C.of B hml hK
  have hS : va_S A s.heap s.heap [] := va_S.rf
  have hl := lv_entry ([.ref (ad 7 0 0), .int a1, .int a2]) (n := 4) (Nat.le_of_ble_eq_true rfl)
  rw [lg_entry_eq]
  generalize (lg_sl ([.ref (ad 7 0 0), .int a1, .int a2]) ++ List.replicate (4 - (lg_sl ([.ref (ad 7 0 0), .int a1, .int a2])).length) Slot.unset).toArray = ls at hl ⊢
  have hl : lv_has ls 4 [(0, .ref (ad 7 0 0)), (1, .int a1), (2, .int a2)] := hl
  exact t_X7_unusedOf C h hR hS hl
def rm_X7_isTaken : Room := { frames := 0, cells := 0, slots := 0, locals := 0 }
theorem hd_X7_isTaken : yX7_isTaken.cls = RX7 ∧ yX7_isTaken.cls ≠ "java/lang/invoke/MethodHandle" ∧ yX7_isTaken.cls ≠ "java/lang/invoke/VarHandle" ∧ (parseMethodDescriptor yX7_isTaken.desc).map (fun d => d.parameters.length) = some 2 := ⟨rfl, by decide, by decide, by decide +kernel⟩
def wp_X7_isTaken_L2 (g : Nat → Nat) (Q : Int32 → pr_Sg → Prop) : Nat → pr_Sg → Int32 → Int32 → Int32 → Prop
  | 0, _, _, _, _ => False
  | n + 1, σ, x1, x2, x3 => (((σ 453 0 0) ≤ x3 → Q (0 : Int32) σ) ∧
  (¬ (σ 453 0 0) ≤ x3 → (vp_in x3 200 ∧ ((¬ (σ 1026 0 (x3).toNatClampNeg) = x1 → wp_X7_isTaken_L2 g Q n σ x1 x2 (x3 + (1 : Int32))) ∧
  ((σ 1026 0 (x3).toNatClampNeg) = x1 → (vp_in x3 200 ∧ ((¬ (σ 1027 0 (x3).toNatClampNeg) = x2 → wp_X7_isTaken_L2 g Q n σ x1 x2 (x3 + (1 : Int32))) ∧
  ((σ 1027 0 (x3).toNatClampNeg) = x2 → Q (1 : Int32) σ))))))))
set_option maxHeartbeats 4000000 in
set_option maxRecDepth 100000 in
theorem t_X7_isTaken_L2 {p : Program} {l : Launch} {e : Env} {s : State} {m : MethodId} {args : Array Value} {below : List Frame} {meth : Method} {c : Code} {D : va_G} {cs : Nat → ClassId} {A : Nat → Prop} {ad : pr_Ad} {g : Nat → Nat} {Q : Int32 → pr_Sg → Prop} (C : pr_C RX7 cX7_isTaken 4 (some .boolean) D cs p s m args meth c) (n : Nat) : ∀ {H : Heap} {locs : List Loc} {ls : Array Slot} {σ : pr_Sg} {x1 : Int32} {x2 : Int32} {x3 : Int32} (_ : wp_X7_isTaken_L2 g Q n σ x1 x2 x3) (_ : pr_R D cs A ad g σ H) (_ : va_S A s.heap H locs) (_ : lv_has ls 4 [(0, .ref (ad 7 0 0)), (1, .int x1), (2, .int x2), (3, .int x3)]), W p l e rm_X7_isTaken s m args below meth c H locs 0 0 (MQ below (va_Qi (pr_Qz Q) (pr_E D cs A ad g) A) args s 0 0 A) (F0 m 2 ls []) := by
  induction n with
  | zero =>
    intro H locs ls σ x1 x2 x3 h
    exact False.elim h
  | succ n ih =>
    intro H locs ls σ x1 x2 x3 h hR hS hl
    unfold wp_X7_isTaken_L2 at h
    obtain ⟨hx, hb, hml, hown, hts, hK, hr, hlocks⟩ := id C
    refine lv_iload_n hx hb dX7_isTaken_2 rfl (lv_at hl 3 rfl) ?_
    refine lv_aload_n hx hb dX7_isTaken_3 rfl (lv_at hl 0 rfl) ?_
    refine gf_RX7_28 C hR pr_l7 dX7_isTaken_4 ?_
    refine lv_icmp_ge (tgt := 38) hx hb dX7_isTaken_7 (by decide) (fun c1 => ?_) (fun c1 => ?_)
    · have h := h.1 c1
      refine lv_iconst (v := (0 : Int32)) hx hb dX7_isTaken_38 (by decide) ?_
      exact pr_retz C (Or.inl rfl) h hR hS dX7_isTaken_39
    · have h := h.2 c1
      refine lv_aload_n hx hb dX7_isTaken_10 rfl (lv_at hl 0 rfl) ?_
      refine gf_RX7_18 C hR pr_l7 dX7_isTaken_11 ?_
      refine lv_iload_n hx hb dX7_isTaken_14 rfl (lv_at hl 3 rfl) ?_
      refine pr_ald hx hb hK hR pr_l26 (by omega) (by omega) (n := 200) (by decide) h.1 dX7_isTaken_15 (t := 1026) rfl ?_
      have h := h.2
      refine lv_iload_n hx hb dX7_isTaken_16 rfl (lv_at hl 1 rfl) ?_
      refine lv_icmp_ne (tgt := 32) hx hb dX7_isTaken_17 (by decide) (fun c2 => ?_) (fun c2 => ?_)
      · have h := h.1 c2
        refine lv_iinc (v := (x3 + (1 : Int32))) (lv' := [(3, .int (x3 + (1 : Int32))), (0, .ref (ad 7 0 0)), (1, .int x1), (2, .int x2)]) hx hb dX7_isTaken_32 hl (k := 3) rfl rfl (by decide) rfl (fun ls hl => ?_)
        refine lv_goto (tgt := 2) hx hb dX7_isTaken_35 (by decide) ?_
        exact ih h hR hS (lv_sub hl [1, 2, 3, 0] rfl)
      · have h := h.2 c2
        refine lv_aload_n hx hb dX7_isTaken_20 rfl (lv_at hl 0 rfl) ?_
        refine gf_RX7_21 C hR pr_l7 dX7_isTaken_21 ?_
        refine lv_iload_n hx hb dX7_isTaken_24 rfl (lv_at hl 3 rfl) ?_
        refine pr_ald hx hb hK hR pr_l27 (by omega) (by omega) (n := 200) (by decide) h.1 dX7_isTaken_25 (t := 1027) rfl ?_
        have h := h.2
        refine lv_iload_n hx hb dX7_isTaken_26 rfl (lv_at hl 2 rfl) ?_
        refine lv_icmp_ne (tgt := 32) hx hb dX7_isTaken_27 (by decide) (fun c3 => ?_) (fun c3 => ?_)
        · have h := h.1 c3
          refine lv_iinc (v := (x3 + (1 : Int32))) (lv' := [(3, .int (x3 + (1 : Int32))), (0, .ref (ad 7 0 0)), (1, .int x1), (2, .int x2)]) hx hb dX7_isTaken_32 hl (k := 3) rfl rfl (by decide) rfl (fun ls hl => ?_)
          refine lv_goto (tgt := 2) hx hb dX7_isTaken_35 (by decide) ?_
          exact ih h hR hS (lv_sub hl [1, 2, 3, 0] rfl)
        · have h := h.2 c3
          refine lv_iconst (v := (1 : Int32)) hx hb dX7_isTaken_30 (by decide) ?_
          exact pr_retz C (Or.inr rfl) h hR hS dX7_isTaken_31
def wpb_X7_isTaken (g : Nat → Nat) (σ : pr_Sg) (a1 : Int32) (a2 : Int32) (Q : Int32 → pr_Sg → Prop) : Prop :=
  (∃ n : Nat, wp_X7_isTaken_L2 g Q n σ a1 a2 (0 : Int32))
set_option maxHeartbeats 4000000 in
set_option maxRecDepth 100000 in
theorem t_X7_isTaken {p : Program} {l : Launch} {e : Env} {s : State} {m : MethodId} {args : Array Value} {below : List Frame} {meth : Method} {c : Code} {D : va_G} {cs : Nat → ClassId} {A : Nat → Prop} {ad : pr_Ad} {g : Nat → Nat} {Q : Int32 → pr_Sg → Prop} (C : pr_C RX7 cX7_isTaken 4 (some .boolean) D cs p s m args meth c) {H : Heap} {locs : List Loc} {ls : Array Slot} {σ : pr_Sg} {a1 : Int32} {a2 : Int32} (h : wpb_X7_isTaken g σ a1 a2 Q) (hR : pr_R D cs A ad g σ H) (hS : va_S A s.heap H locs) (hl : lv_has ls 4 [(0, .ref (ad 7 0 0)), (1, .int a1), (2, .int a2)]) : W p l e rm_X7_isTaken s m args below meth c H locs 0 0 (MQ below (va_Qi (pr_Qz Q) (pr_E D cs A ad g) A) args s 0 0 A) (F0 m 0 ls []) := by
  unfold wpb_X7_isTaken at h
  obtain ⟨hx, hb, hml, hown, hts, hK, hr, hlocks⟩ := id C
  refine lv_iconst (v := (0 : Int32)) hx hb dX7_isTaken_0 (by decide) ?_
  refine lv_istore_n (lv' := [(3, .int (0 : Int32)), (0, .ref (ad 7 0 0)), (1, .int a1), (2, .int a2)]) hx hb dX7_isTaken_1 rfl hl (by decide) rfl (fun ls hl => ?_)
  obtain ⟨n1, h⟩ := h
  exact t_X7_isTaken_L2 C n1 h hR hS (lv_sub hl [1, 2, 3, 0] rfl)
abbrev wp_X7_isTaken (g : Nat → Nat) (σ : pr_Sg) (a1 : Int32) (a2 : Int32) (Q : Int32 → pr_Sg → Prop) : Prop := wpb_X7_isTaken g σ a1 a2 Q
set_option maxHeartbeats 4000000 in
set_option maxRecDepth 100000 in
theorem c_X7_isTaken {l : Launch} {D : va_G} {cs : Nat → ClassId} {A : Nat → Prop} {ad : pr_Ad} {g : Nat → Nat} {σ : pr_Sg} {a1 : Int32} {a2 : Int32} {Q : Int32 → pr_Sg → Prop} (h : wp_X7_isTaken g σ a1 a2 Q) : pr_Mi l D cs A ad g yX7_isTaken cX7_isTaken 4 (some .boolean) rm_X7_isTaken [.ref (ad 7 0 0), .int a1, .int a2] σ (pr_Qz Q) := by
  refine Met.ofW (cc := cX7_isTaken) (maxL := 4) (ret := (some .boolean)) (by decide) rfl ?_
  intro p e s m args below meth c s₁ B hml hv
  obtain ⟨rfl, hR, hK⟩ := hv
  have C : pr_C RX7 cX7_isTaken 4 (some .boolean) D cs p s m [.ref (ad 7 0 0), .int a1, .int a2].toArray meth c := pr_C.of B hml hK
  have hS : va_S A s.heap s.heap [] := va_S.rf
  have hl := lv_entry ([.ref (ad 7 0 0), .int a1, .int a2]) (n := 4) (Nat.le_of_ble_eq_true rfl)
  rw [lg_entry_eq]
  generalize (lg_sl ([.ref (ad 7 0 0), .int a1, .int a2]) ++ List.replicate (4 - (lg_sl ([.ref (ad 7 0 0), .int a1, .int a2])).length) Slot.unset).toArray = ls at hl ⊢
  have hl : lv_has ls 4 [(0, .ref (ad 7 0 0)), (1, .int a1), (2, .int a2)] := hl
  exact t_X7_isTaken C h hR hS hl
def rm_X7_hasSitter : Room := { frames := 0, cells := 0, slots := 0, locals := 0 }
theorem hd_X7_hasSitter : yX7_hasSitter.cls = RX7 ∧ yX7_hasSitter.cls ≠ "java/lang/invoke/MethodHandle" ∧ yX7_hasSitter.cls ≠ "java/lang/invoke/VarHandle" ∧ (parseMethodDescriptor yX7_hasSitter.desc).map (fun d => d.parameters.length) = some 2 := ⟨rfl, by decide, by decide, by decide +kernel⟩
def wp_X7_hasSitter_L2 (g : Nat → Nat) (Q : Int32 → pr_Sg → Prop) : Nat → pr_Sg → Int32 → Int32 → Int32 → Prop
  | 0, _, _, _, _ => False
  | n + 1, σ, x1, x2, x3 => (((σ 453 0 0) ≤ x3 → Q (0 : Int32) σ) ∧
  (¬ (σ 453 0 0) ≤ x3 → (vp_in x3 200 ∧ ((¬ (σ 1026 0 (x3).toNatClampNeg) = x1 → wp_X7_hasSitter_L2 g Q n σ x1 x2 (x3 + (1 : Int32))) ∧
  ((σ 1026 0 (x3).toNatClampNeg) = x1 → (vp_in x3 200 ∧ ((¬ (σ 1025 0 (x3).toNatClampNeg) = x2 → wp_X7_hasSitter_L2 g Q n σ x1 x2 (x3 + (1 : Int32))) ∧
  ((σ 1025 0 (x3).toNatClampNeg) = x2 → Q (1 : Int32) σ))))))))
set_option maxHeartbeats 4000000 in
set_option maxRecDepth 100000 in
theorem t_X7_hasSitter_L2 {p : Program} {l : Launch} {e : Env} {s : State} {m : MethodId} {args : Array Value} {below : List Frame} {meth : Method} {c : Code} {D : va_G} {cs : Nat → ClassId} {A : Nat → Prop} {ad : pr_Ad} {g : Nat → Nat} {Q : Int32 → pr_Sg → Prop} (C : pr_C RX7 cX7_hasSitter 4 (some .boolean) D cs p s m args meth c) (n : Nat) : ∀ {H : Heap} {locs : List Loc} {ls : Array Slot} {σ : pr_Sg} {x1 : Int32} {x2 : Int32} {x3 : Int32} (_ : wp_X7_hasSitter_L2 g Q n σ x1 x2 x3) (_ : pr_R D cs A ad g σ H) (_ : va_S A s.heap H locs) (_ : lv_has ls 4 [(0, .ref (ad 7 0 0)), (1, .int x1), (2, .int x2), (3, .int x3)]), W p l e rm_X7_hasSitter s m args below meth c H locs 0 0 (MQ below (va_Qi (pr_Qz Q) (pr_E D cs A ad g) A) args s 0 0 A) (F0 m 2 ls []) := by
  induction n with
  | zero =>
    intro H locs ls σ x1 x2 x3 h
    exact False.elim h
  | succ n ih =>
    intro H locs ls σ x1 x2 x3 h hR hS hl
    unfold wp_X7_hasSitter_L2 at h
    obtain ⟨hx, hb, hml, hown, hts, hK, hr, hlocks⟩ := id C
    refine lv_iload_n hx hb dX7_hasSitter_2 rfl (lv_at hl 3 rfl) ?_
    refine lv_aload_n hx hb dX7_hasSitter_3 rfl (lv_at hl 0 rfl) ?_
    refine gf_RX7_28 C hR pr_l7 dX7_hasSitter_4 ?_
    refine lv_icmp_ge (tgt := 38) hx hb dX7_hasSitter_7 (by decide) (fun c1 => ?_) (fun c1 => ?_)
    · have h := h.1 c1
      refine lv_iconst (v := (0 : Int32)) hx hb dX7_hasSitter_38 (by decide) ?_
      exact pr_retz C (Or.inl rfl) h hR hS dX7_hasSitter_39
    · have h := h.2 c1
      refine lv_aload_n hx hb dX7_hasSitter_10 rfl (lv_at hl 0 rfl) ?_
      refine gf_RX7_18 C hR pr_l7 dX7_hasSitter_11 ?_
      refine lv_iload_n hx hb dX7_hasSitter_14 rfl (lv_at hl 3 rfl) ?_
      refine pr_ald hx hb hK hR pr_l26 (by omega) (by omega) (n := 200) (by decide) h.1 dX7_hasSitter_15 (t := 1026) rfl ?_
      have h := h.2
      refine lv_iload_n hx hb dX7_hasSitter_16 rfl (lv_at hl 1 rfl) ?_
      refine lv_icmp_ne (tgt := 32) hx hb dX7_hasSitter_17 (by decide) (fun c2 => ?_) (fun c2 => ?_)
      · have h := h.1 c2
        refine lv_iinc (v := (x3 + (1 : Int32))) (lv' := [(3, .int (x3 + (1 : Int32))), (0, .ref (ad 7 0 0)), (1, .int x1), (2, .int x2)]) hx hb dX7_hasSitter_32 hl (k := 3) rfl rfl (by decide) rfl (fun ls hl => ?_)
        refine lv_goto (tgt := 2) hx hb dX7_hasSitter_35 (by decide) ?_
        exact ih h hR hS (lv_sub hl [1, 2, 3, 0] rfl)
      · have h := h.2 c2
        refine lv_aload_n hx hb dX7_hasSitter_20 rfl (lv_at hl 0 rfl) ?_
        refine gf_RX7_15 C hR pr_l7 dX7_hasSitter_21 ?_
        refine lv_iload_n hx hb dX7_hasSitter_24 rfl (lv_at hl 3 rfl) ?_
        refine pr_ald hx hb hK hR pr_l25 (by omega) (by omega) (n := 200) (by decide) h.1 dX7_hasSitter_25 (t := 1025) rfl ?_
        have h := h.2
        refine lv_iload_n hx hb dX7_hasSitter_26 rfl (lv_at hl 2 rfl) ?_
        refine lv_icmp_ne (tgt := 32) hx hb dX7_hasSitter_27 (by decide) (fun c3 => ?_) (fun c3 => ?_)
        · have h := h.1 c3
          refine lv_iinc (v := (x3 + (1 : Int32))) (lv' := [(3, .int (x3 + (1 : Int32))), (0, .ref (ad 7 0 0)), (1, .int x1), (2, .int x2)]) hx hb dX7_hasSitter_32 hl (k := 3) rfl rfl (by decide) rfl (fun ls hl => ?_)
          refine lv_goto (tgt := 2) hx hb dX7_hasSitter_35 (by decide) ?_
          exact ih h hR hS (lv_sub hl [1, 2, 3, 0] rfl)
        · have h := h.2 c3
          refine lv_iconst (v := (1 : Int32)) hx hb dX7_hasSitter_30 (by decide) ?_
          exact pr_retz C (Or.inr rfl) h hR hS dX7_hasSitter_31
def wpb_X7_hasSitter (g : Nat → Nat) (σ : pr_Sg) (a1 : Int32) (a2 : Int32) (Q : Int32 → pr_Sg → Prop) : Prop :=
  (∃ n : Nat, wp_X7_hasSitter_L2 g Q n σ a1 a2 (0 : Int32))
set_option maxHeartbeats 4000000 in
set_option maxRecDepth 100000 in
theorem t_X7_hasSitter {p : Program} {l : Launch} {e : Env} {s : State} {m : MethodId} {args : Array Value} {below : List Frame} {meth : Method} {c : Code} {D : va_G} {cs : Nat → ClassId} {A : Nat → Prop} {ad : pr_Ad} {g : Nat → Nat} {Q : Int32 → pr_Sg → Prop} (C : pr_C RX7 cX7_hasSitter 4 (some .boolean) D cs p s m args meth c) {H : Heap} {locs : List Loc} {ls : Array Slot} {σ : pr_Sg} {a1 : Int32} {a2 : Int32} (h : wpb_X7_hasSitter g σ a1 a2 Q) (hR : pr_R D cs A ad g σ H) (hS : va_S A s.heap H locs) (hl : lv_has ls 4 [(0, .ref (ad 7 0 0)), (1, .int a1), (2, .int a2)]) : W p l e rm_X7_hasSitter s m args below meth c H locs 0 0 (MQ below (va_Qi (pr_Qz Q) (pr_E D cs A ad g) A) args s 0 0 A) (F0 m 0 ls []) := by
  unfold wpb_X7_hasSitter at h
  obtain ⟨hx, hb, hml, hown, hts, hK, hr, hlocks⟩ := id C
  refine lv_iconst (v := (0 : Int32)) hx hb dX7_hasSitter_0 (by decide) ?_
  refine lv_istore_n (lv' := [(3, .int (0 : Int32)), (0, .ref (ad 7 0 0)), (1, .int a1), (2, .int a2)]) hx hb dX7_hasSitter_1 rfl hl (by decide) rfl (fun ls hl => ?_)
  obtain ⟨n1, h⟩ := h
  exact t_X7_hasSitter_L2 C n1 h hR hS (lv_sub hl [1, 2, 3, 0] rfl)
abbrev wp_X7_hasSitter (g : Nat → Nat) (σ : pr_Sg) (a1 : Int32) (a2 : Int32) (Q : Int32 → pr_Sg → Prop) : Prop := wpb_X7_hasSitter g σ a1 a2 Q
set_option maxHeartbeats 4000000 in
set_option maxRecDepth 100000 in
theorem c_X7_hasSitter {l : Launch} {D : va_G} {cs : Nat → ClassId} {A : Nat → Prop} {ad : pr_Ad} {g : Nat → Nat} {σ : pr_Sg} {a1 : Int32} {a2 : Int32} {Q : Int32 → pr_Sg → Prop} (h : wp_X7_hasSitter g σ a1 a2 Q) : pr_Mi l D cs A ad g yX7_hasSitter cX7_hasSitter 4 (some .boolean) rm_X7_hasSitter [.ref (ad 7 0 0), .int a1, .int a2] σ (pr_Qz Q) := by
  refine Met.ofW (cc := cX7_hasSitter) (maxL := 4) (ret := (some .boolean)) (by decide) rfl ?_
  intro p e s m args below meth c s₁ B hml hv
  obtain ⟨rfl, hR, hK⟩ := hv
  have C : pr_C RX7 cX7_hasSitter 4 (some .boolean) D cs p s m [.ref (ad 7 0 0), .int a1, .int a2].toArray meth c := pr_C.of B hml hK
  have hS : va_S A s.heap s.heap [] := va_S.rf
  have hl := lv_entry ([.ref (ad 7 0 0), .int a1, .int a2]) (n := 4) (Nat.le_of_ble_eq_true rfl)
  rw [lg_entry_eq]
  generalize (lg_sl ([.ref (ad 7 0 0), .int a1, .int a2]) ++ List.replicate (4 - (lg_sl ([.ref (ad 7 0 0), .int a1, .int a2])).length) Slot.unset).toArray = ls at hl ⊢
  have hl : lv_has ls 4 [(0, .ref (ad 7 0 0)), (1, .int a1), (2, .int a2)] := hl
  exact t_X7_hasSitter C h hR hS hl
