def pr_facts (Inv : (Nat → Nat) → pr_Sg → Prop) : Prop := pr_fact_list Inv ∧ pr_fact_dry Inv ∧ pr_fact_hand Inv ∧ pr_fact_sitter Inv ∧ pr_fact_picture Inv ∧ pr_fact_go Inv ∧ pr_fact_light Inv ∧ pr_fact_book Inv ∧ pr_fact_unbook Inv ∧ pr_fact_paint Inv ∧ pr_fact_pay Inv ∧ pr_fact_planned Inv ∧ pr_fact_worth Inv ∧ pr_fact_trace Inv ∧ pr_fact_from Inv ∧ pr_fact_doubt Inv ∧ pr_fact_habit Inv ∧ pr_fact_margin Inv ∧ pr_fact_strokes Inv ∧ pr_fact_whose Inv ∧ pr_fact_told Inv ∧ pr_fact_part Inv ∧ pr_fact_due Inv ∧ pr_fact_count Inv
set_option maxHeartbeats 4000000 in
set_option maxRecDepth 100000 in
theorem law_loop {p : Program} {e : Env} {s : State} {m : MethodId} {below : List Frame} {meth : Method} {c : Code} (l : Launch) {b L : Nat} {xs : Nat → Int32} {D : va_G} {cs : Nat → ClassId} {Inv : (Nat → Nat) → pr_Sg → Prop} (P : pr_facts Inv) (C : pr_C RL cL_law 4 (some .boolean) D cs p s m #[Value.ref b] meth c) (hX : va_X b L xs s s.heap) (hbl : b < s.heap.size) (hL : L ≤ 2560) : ∀ (n t i : Nat) {ad : pr_Ad} {g : Nat → Nat} {σ : pr_Sg} {H : Heap} {locs : List Loc} {ls : Array Slot}, i = 5 * t → i ≤ L + 5 → L + 5 < n + i → Inv g σ → pr_R D cs (fun q : Nat => s.heap.size ≤ q) ad g σ H → va_S (fun q : Nat => s.heap.size ≤ q) s.heap H locs → lv_has ls 4 [(0, .ref b), (1, .ref (ad 8 0 0)), (2, .ref (ad 9 0 0)), (3, .int (nI i))] → W p l e room_1 s m #[Value.ref b] below meth c H locs (257 + 7 * t) (3906 + 40 * t) (lw_Z below #[Value.ref b] s) (F0 m 18 ls []) := by
  obtain ⟨f_list, f_dry, f_hand, f_sitter, f_picture, f_go, f_light, f_book, f_unbook, f_paint, f_pay, f_planned, f_worth, f_trace, f_from, f_doubt, f_habit, f_margin, f_strokes, f_whose, f_told, f_part, f_due, f_count⟩ := P
  obtain ⟨hx, hb, hml, hown, hts, hK, hr, hlocks⟩ := id C
  have hbA : ¬ (fun q : Nat => s.heap.size ≤ q) b := Nat.not_le.mpr hbl
  intro n
  induction n with
  | zero =>
    intro t i ad g σ H locs ls h1 h2 h3
    exact absurd h3 (by omega)
  | succ n ih =>
    intro t i ad g σ H locs ls h1 h2 h3 hI hR hS hl
    refine lv_iload_n hx hb dL_law_18 rfl (lv_at hl 3 rfl) ?_
    refine lv_aload_n hx hb dL_law_19 rfl (lv_at hl 0 rfl) ?_
    refine va_slen hx hb hX hbl hbA hS dL_law_20 ?_
    refine lv_iconst (v := 5) hx hb dL_law_21 (by decide) ?_
    refine lv_isub hx hb dL_law_22 ?_
    have hle : (Int32.ofNat L - 5 < nI i) ↔ L < i + 5 := by
      have e1 : (Int32.ofNat L - 5).toInt = (L : Int) - 5 := pk_sub_toInt (a := L) (b := 5) (by omega) (by omega)
      rw [Int32.lt_iff_toInt_lt, e1, nI_toInt (by omega)]
      omega
    refine lv_icmp_gt (tgt := 912) hx hb dL_law_23 (by decide) (fun c1 => ?_) (fun c1 => ?_)
    · refine va_forget (fun q h => hS.2.2 q h) ?_
      refine lv_iconst (v := 1) hx hb dL_law_912 (by decide) ?_
      refine W.widen (k := 600000) (n := 7302250) (by omega) (by omega) ?_
      exact lw_ret hx hb hr hlocks dL_law_913
    · have hi : i + 5 ≤ L := Nat.not_lt.mp (fun q => c1 (hle.mpr q))
      have hc : 257 + 7 * t + 7 ≤ room_1.cells ∧ 3906 + 40 * t + 40 ≤ room_1.slots := ⟨by show _ ≤ 600000; omega, by show _ ≤ 7302250; omega⟩
      have kk : ∀ (ad' : pr_Ad) (g' : Nat → Nat) (u : pr_Sg) (H1 : Heap) (locs1 : List Loc), Inv g' u → pr_R D cs (fun q : Nat => s.heap.size ≤ q) ad' g' u H1 → va_S (fun q : Nat => s.heap.size ≤ q) s.heap H1 locs1 → lv_has ls 4 [(0, .ref b), (1, .ref (ad' 8 0 0)), (2, .ref (ad' 9 0 0)), (3, .int (nI i))] → W p l e room_1 s m #[Value.ref b] below meth c H1 locs1 (257 + 7 * t + 7) (3906 + 40 * t + 40) (lw_Z below #[Value.ref b] s) (F0 m 906 ls []) := by
        intro ad' g' u H1 locs1 hI' hR' hS' hl'
        refine lv_iinc (v := nI (i + 5)) (lv' := [(3, .int (nI (i + 5))), (0, .ref b), (1, .ref (ad' 8 0 0)), (2, .ref (ad' 9 0 0))]) hx hb dL_law_906 hl' (k := 3) rfl (nI_add i 5) (by decide) rfl (fun ls hl => ?_)
        refine lv_goto (tgt := 18) hx hb dL_law_909 (by decide) ?_
        refine W.widen (k := 257 + 7 * (t + 1)) (n := 3906 + 40 * (t + 1)) (by omega) (by omega) ?_
        exact ih (t + 1) (i + 5) (by omega) (by omega) (by omega) hI' hR' hS' (lv_sub hl [1, 2, 3, 0] rfl)
      refine lv_aload_n hx hb dL_law_26 rfl (lv_at hl 0 rfl) ?_
      refine lv_iload_n hx hb dL_law_27 rfl (lv_at hl 3 rfl) ?_
      refine va_sld hx hb hX hbl hbA hS (pr_ix0 hi hL) dL_law_28 ?_
      refine lv_bipush (v := 31) hx hb dL_law_29 (by decide) ?_
      refine lv_iand hx hb dL_law_31 ?_
      generalize xs (nI i).toNatClampNeg &&& 31 = v
      by_cases c_0 : v = (0 : Int32)
      · refine lv_tableIn (tgt := 144) hx hb dL_law_32 (by rw [c_0]; decide) (by rw [c_0]; decide) (off := 112) (by rw [c_0]; rfl) (by decide) ?_
        exact lc_list f_list C hX hbl hi hL hc hI hR hS hl kk
      by_cases c_1 : v = (1 : Int32)
      · refine lv_tableIn (tgt := 187) hx hb dL_law_32 (by rw [c_1]; decide) (by rw [c_1]; decide) (off := 155) (by rw [c_1]; rfl) (by decide) ?_
        exact lc_dry f_dry C hX hbl hi hL hc hI hR hS hl kk
      by_cases c_2 : v = (2 : Int32)
      · refine lv_tableIn (tgt := 220) hx hb dL_law_32 (by rw [c_2]; decide) (by rw [c_2]; decide) (off := 188) (by rw [c_2]; rfl) (by decide) ?_
        exact lc_hand f_hand C hX hbl hi hL hc hI hR hS hl kk
      by_cases c_3 : v = (3 : Int32)
      · refine lv_tableIn (tgt := 233) hx hb dL_law_32 (by rw [c_3]; decide) (by rw [c_3]; decide) (off := 201) (by rw [c_3]; rfl) (by decide) ?_
        exact lc_sitter f_sitter C hX hbl hi hL hc hI hR hS hl kk
      by_cases c_4 : v = (4 : Int32)
      · refine lv_tableIn (tgt := 266) hx hb dL_law_32 (by rw [c_4]; decide) (by rw [c_4]; decide) (off := 234) (by rw [c_4]; rfl) (by decide) ?_
        exact lc_picture f_picture C hX hbl hi hL hc hI hR hS hl kk
      by_cases c_5 : v = (5 : Int32)
      · refine lv_tableIn (tgt := 319) hx hb dL_law_32 (by rw [c_5]; decide) (by rw [c_5]; decide) (off := 287) (by rw [c_5]; rfl) (by decide) ?_
        exact lc_go f_go C hX hbl hi hL hc hI hR hS hl kk
      by_cases c_6 : v = (6 : Int32)
      · refine lv_tableIn (tgt := 342) hx hb dL_law_32 (by rw [c_6]; decide) (by rw [c_6]; decide) (off := 310) (by rw [c_6]; rfl) (by decide) ?_
        exact lc_light f_light C hX hbl hi hL hc hI hR hS hl kk
      by_cases c_7 : v = (7 : Int32)
      · refine lv_tableIn (tgt := 365) hx hb dL_law_32 (by rw [c_7]; decide) (by rw [c_7]; decide) (off := 333) (by rw [c_7]; rfl) (by decide) ?_
        exact lc_book f_book C hX hbl hi hL hc hI hR hS hl kk
      by_cases c_8 : v = (8 : Int32)
      · refine lv_tableIn (tgt := 408) hx hb dL_law_32 (by rw [c_8]; decide) (by rw [c_8]; decide) (off := 376) (by rw [c_8]; rfl) (by decide) ?_
        exact lc_unbook f_unbook C hX hbl hi hL hc hI hR hS hl kk
      by_cases c_9 : v = (9 : Int32)
      · refine lv_tableIn (tgt := 441) hx hb dL_law_32 (by rw [c_9]; decide) (by rw [c_9]; decide) (off := 409) (by rw [c_9]; rfl) (by decide) ?_
        exact lc_paint f_paint C hX hbl hi hL hc hI hR hS hl kk
      by_cases c_10 : v = (10 : Int32)
      · refine lv_tableIn (tgt := 484) hx hb dL_law_32 (by rw [c_10]; decide) (by rw [c_10]; decide) (off := 452) (by rw [c_10]; rfl) (by decide) ?_
        exact lc_pay f_pay C hX hbl hi hL hc hI hR hS hl kk
      by_cases c_11 : v = (11 : Int32)
      · refine lv_tableIn (tgt := 517) hx hb dL_law_32 (by rw [c_11]; decide) (by rw [c_11]; decide) (off := 485) (by rw [c_11]; rfl) (by decide) ?_
        exact lc_planned f_planned C hX hbl hi hL hc hI hR hS hl kk
      by_cases c_12 : v = (12 : Int32)
      · refine lv_tableIn (tgt := 550) hx hb dL_law_32 (by rw [c_12]; decide) (by rw [c_12]; decide) (off := 518) (by rw [c_12]; rfl) (by decide) ?_
        exact lc_worth f_worth C hX hbl hi hL hc hI hR hS hl kk
      by_cases c_13 : v = (13 : Int32)
      · refine lv_tableIn (tgt := 573) hx hb dL_law_32 (by rw [c_13]; decide) (by rw [c_13]; decide) (off := 541) (by rw [c_13]; rfl) (by decide) ?_
        exact lc_trace f_trace C hX hbl hi hL hc hI hR hS hl kk
      by_cases c_14 : v = (14 : Int32)
      · refine lv_tableIn (tgt := 606) hx hb dL_law_32 (by rw [c_14]; decide) (by rw [c_14]; decide) (off := 574) (by rw [c_14]; rfl) (by decide) ?_
        exact lc_from f_from C hX hbl hi hL hc hI hR hS hl kk
      by_cases c_15 : v = (15 : Int32)
      · refine lv_tableIn (tgt := 629) hx hb dL_law_32 (by rw [c_15]; decide) (by rw [c_15]; decide) (off := 597) (by rw [c_15]; rfl) (by decide) ?_
        exact lc_doubt f_doubt C hX hbl hi hL hc hI hR hS hl kk
      by_cases c_16 : v = (16 : Int32)
      · refine lv_tableIn (tgt := 652) hx hb dL_law_32 (by rw [c_16]; decide) (by rw [c_16]; decide) (off := 620) (by rw [c_16]; rfl) (by decide) ?_
        exact lc_habit f_habit C hX hbl hi hL hc hI hR hS hl kk
      by_cases c_17 : v = (17 : Int32)
      · refine lv_tableIn (tgt := 685) hx hb dL_law_32 (by rw [c_17]; decide) (by rw [c_17]; decide) (off := 653) (by rw [c_17]; rfl) (by decide) ?_
        exact lc_margin f_margin C hX hbl hi hL hc hI hR hS hl kk
      by_cases c_18 : v = (18 : Int32)
      · refine lv_tableIn (tgt := 708) hx hb dL_law_32 (by rw [c_18]; decide) (by rw [c_18]; decide) (off := 676) (by rw [c_18]; rfl) (by decide) ?_
        exact lc_strokes f_strokes C hX hbl hi hL hc hI hR hS hl kk
      by_cases c_19 : v = (19 : Int32)
      · refine lv_tableIn (tgt := 751) hx hb dL_law_32 (by rw [c_19]; decide) (by rw [c_19]; decide) (off := 719) (by rw [c_19]; rfl) (by decide) ?_
        exact lc_whose f_whose C hX hbl hi hL hc hI hR hS hl kk
      by_cases c_20 : v = (20 : Int32)
      · refine lv_tableIn (tgt := 784) hx hb dL_law_32 (by rw [c_20]; decide) (by rw [c_20]; decide) (off := 752) (by rw [c_20]; rfl) (by decide) ?_
        exact lc_told f_told C hX hbl hi hL hc hI hR hS hl kk
      by_cases c_21 : v = (21 : Int32)
      · refine lv_tableIn (tgt := 817) hx hb dL_law_32 (by rw [c_21]; decide) (by rw [c_21]; decide) (off := 785) (by rw [c_21]; rfl) (by decide) ?_
        exact lc_part f_part C hX hbl hi hL hc hI hR hS hl kk
      by_cases c_22 : v = (22 : Int32)
      · refine lv_tableIn (tgt := 860) hx hb dL_law_32 (by rw [c_22]; decide) (by rw [c_22]; decide) (off := 828) (by rw [c_22]; rfl) (by decide) ?_
        exact lc_due f_due C hX hbl hi hL hc hI hR hS hl kk
      by_cases c_23 : v = (23 : Int32)
      · refine lv_tableIn (tgt := 883) hx hb dL_law_32 (by rw [c_23]; decide) (by rw [c_23]; decide) (off := 851) (by rw [c_23]; rfl) (by decide) ?_
        exact lc_count f_count C hX hbl hi hL hc hI hR hS hl kk
      have o_0 := pr_ne (n := 0) (by decide) c_0
      have o_1 := pr_ne (n := 1) (by decide) c_1
      have o_2 := pr_ne (n := 2) (by decide) c_2
      have o_3 := pr_ne (n := 3) (by decide) c_3
      have o_4 := pr_ne (n := 4) (by decide) c_4
      have o_5 := pr_ne (n := 5) (by decide) c_5
      have o_6 := pr_ne (n := 6) (by decide) c_6
      have o_7 := pr_ne (n := 7) (by decide) c_7
      have o_8 := pr_ne (n := 8) (by decide) c_8
      have o_9 := pr_ne (n := 9) (by decide) c_9
      have o_10 := pr_ne (n := 10) (by decide) c_10
      have o_11 := pr_ne (n := 11) (by decide) c_11
      have o_12 := pr_ne (n := 12) (by decide) c_12
      have o_13 := pr_ne (n := 13) (by decide) c_13
      have o_14 := pr_ne (n := 14) (by decide) c_14
      have o_15 := pr_ne (n := 15) (by decide) c_15
      have o_16 := pr_ne (n := 16) (by decide) c_16
      have o_17 := pr_ne (n := 17) (by decide) c_17
      have o_18 := pr_ne (n := 18) (by decide) c_18
      have o_19 := pr_ne (n := 19) (by decide) c_19
      have o_20 := pr_ne (n := 20) (by decide) c_20
      have o_21 := pr_ne (n := 21) (by decide) c_21
      have o_22 := pr_ne (n := 22) (by decide) c_22
      have o_23 := pr_ne (n := 23) (by decide) c_23
      refine lv_tableOut (tgt := 906) hx hb dL_law_32 (by omega) (by decide) ?_
      refine W.widen (k := 257 + 7 * t + 7) (n := 3906 + 40 * t + 40) (by omega) (by omega) ?_
      exact kk _ _ _ _ _ hI hR hS hl
