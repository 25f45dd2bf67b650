theorem pr_G.congr {D : va_G} {b h0 k N : Nat} {F F' : Nat → va_E} {fs : List Value} {H : Heap} (h : pr_G D b h0 k N F fs H) (hF : ∀ n, n < N → F n = F' n) : pr_G D b h0 k N F' fs H := ⟨h.1, h.2.1, fun n hn => by rw [← hF n hn]; exact h.2.2.1 n hn, h.2.2.2⟩
set_option maxHeartbeats 4000000 in
set_option maxRecDepth 100000 in
/-- THE LAW, from its entry, over an invariant -/
theorem whole_open {Inv : (Nat → Nat) → pr_Sg → Prop} (PF : pr_facts Inv) (hI0 : Inv pr_cnt0 pr_s0) {p : Program} {e : Env} {s : State} {m : MethodId} {below : List Frame} {meth : Method} {c : Code} (l : Launch) {b L : Nat} {xs : Nat → Int32} (hL : L ≤ 2560) (C0 : lw_At p s m meth c b L xs) : W p l e room_1 s m #[Value.ref b] below meth c s.heap [] 0 0 (lw_Z below #[Value.ref b] s) (entryFrame m ([Value.ref b] : List Value).toArray 4) := by
  obtain ⟨hx, hb, hr, hml, hown, hts, hX, hbl, hlocks, hgv⟩ := id C0
  have htl : ∀ w ∈ wsL_law, w.before #[Value.ref b] s = true := fun w h => hts w (wsL_law_in w h)
  obtain ⟨c0, iS0, hKn0⟩ := u_known (C := RX0) (T := TX0) (N := 3) (n := 3) htl inlX0 (htl (.instantiable RX0 3) (pr_in2 _ (List.mem_of_getElem? (i := 12) rfl)))
  obtain ⟨c1, iS1, hKn1⟩ := u_known (C := RX1) (T := TX1) (N := 4) (n := 4) htl inlX1 (htl (.instantiable RX1 4) (pr_in1 _ (List.mem_of_getElem? (i := 13) rfl)))
  obtain ⟨c2, iS2, hKn2⟩ := u_known (C := RX2) (T := TX2) (N := 5) (n := 5) htl inlX2 (htl (.instantiable RX2 5) (pr_in9 _ (List.mem_of_getElem? (i := 9) rfl)))
  obtain ⟨c3, iS3, hKn3⟩ := u_known (C := RX3) (T := TX3) (N := 10) (n := 10) htl inlX3 (htl (.instantiable RX3 10) (pr_in8 _ (List.mem_of_getElem? (i := 8) rfl)))
  obtain ⟨c4, iS4, hKn4⟩ := u_known (C := RX4) (T := TX4) (N := 9) (n := 9) htl inlX4 (htl (.instantiable RX4 9) (pr_in2 _ (List.mem_of_getElem? (i := 9) rfl)))
  obtain ⟨c5, iS5, hKn5⟩ := u_known (C := RX5) (T := TX5) (N := 2) (n := 2) htl inlX5 (htl (.instantiable RX5 2) (pr_in2 _ (List.mem_of_getElem? (i := 5) rfl)))
  obtain ⟨c6, iS6, hKn6⟩ := u_known (C := RX6) (T := TX6) (N := 3) (n := 3) htl inlX6 (htl (.instantiable RX6 3) (pr_in7 _ (List.mem_of_getElem? (i := 13) rfl)))
  obtain ⟨c7, iS7, hKn7⟩ := u_known (C := RX7) (T := TX7) (N := 6) (n := 6) htl inlX7 (htl (.instantiable RX7 6) (pr_in2 _ (List.mem_of_getElem? (i := 1) rfl)))
  obtain ⟨c8, iS8, hKn8⟩ := u_known (C := RX8) (T := TX8) (N := 17) (n := 17) htl inlX8 (htl (.instantiable RX8 17) (pr_in1 _ (List.mem_of_getElem? (i := 1) rfl)))
  obtain ⟨c9, iS9, hKn9⟩ := u_known (C := RX9) (T := TX9) (N := 42) (n := 42) htl inlX9 (htl (.instantiable RX9 42) (pr_in1 _ (List.mem_of_getElem? (i := 4) rfl)))
  obtain ⟨dC, dI, hKc⟩ : ∃ (dC : Nat → ClassId) (dI : Nat → Nat → Nat), ∀ (k : Nat) (q : vw_C), vwCl[k]? = some q → u_Kn s q.1 q.2.1 q.2.2 (dC k) (dI k) := by
    refine ⟨fun k => if k = 0 then c0 else if k = 1 then c1 else if k = 2 then c2 else if k = 3 then c3 else if k = 4 then c4 else if k = 5 then c5 else if k = 6 then c6 else if k = 7 then c7 else if k = 8 then c8 else c9, fun k => if k = 0 then iS0 else if k = 1 then iS1 else if k = 2 then iS2 else if k = 3 then iS3 else if k = 4 then iS4 else if k = 5 then iS5 else if k = 6 then iS6 else if k = 7 then iS7 else if k = 8 then iS8 else iS9, ?_⟩
    intro k q hq
    match k, hq with
    | 0, hq => cases hq; exact hKn0
    | 1, hq => cases hq; exact hKn1
    | 2, hq => cases hq; exact hKn2
    | 3, hq => cases hq; exact hKn3
    | 4, hq => cases hq; exact hKn4
    | 5, hq => cases hq; exact hKn5
    | 6, hq => cases hq; exact hKn6
    | 7, hq => cases hq; exact hKn7
    | 8, hq => cases hq; exact hKn8
    | 9, hq => cases hq; exact hKn9
    | k + 10, hq => simp [vwCl] at hq
  obtain ⟨qI, kI, pI, i1, i2, i3⟩ := Cond.arrayClass_spec (htl (.arrayClass .int) (pr_in1 _ (List.mem_of_getElem? (i := 16) rfl)))
  obtain ⟨qZ, kZ, pZ, z1, z2, z3⟩ := Cond.arrayClass_spec (htl (.arrayClass .boolean) (pr_in3 _ (List.mem_of_getElem? (i := 7) rfl)))
  have w0 := hts (.arrayOver (.object RX0)) (List.mem_of_getElem? (i := 70) (by decide +kernel))
  have w6 := hts (.arrayOver (.object RX6)) (List.mem_of_getElem? (i := 72) (by decide +kernel))
  have w3 := hts (.arrayOver (.object RX3)) (List.mem_of_getElem? (i := 74) (by decide +kernel))
  have w2 := hts (.arrayOver (.object RX2)) (List.mem_of_getElem? (i := 282) (by decide +kernel))
  have wA := hts (.arrayOver (.array .int)) (List.mem_of_getElem? (i := 585) (by decide +kernel))
  have wN := hts (.methodLinkNest RX5 18 yX8_within RX8) (List.mem_of_getElem? (i := 441) (by decide +kernel))
  obtain ⟨m0, q0, k0, f01, f02, f03, f04, f05⟩ := Cond.arrayOver_spec w0
  obtain ⟨m6, q6, k6, f61, f62, f63, f64, f65⟩ := Cond.arrayOver_spec w6
  obtain ⟨m3, q3, k3, f31, f32, f33, f34, f35⟩ := Cond.arrayOver_spec w3
  obtain ⟨m2, q2, k2, f21, f22, f23, f24, f25⟩ := Cond.arrayOver_spec w2
  obtain ⟨mA, qA, kA, fA1, fA2, fA3, fA4⟩ := Jvm.Cond.arrayOver_specA wA
  obtain ⟨cs, e0, e1, e2, e3, e4, e5, e6⟩ : ∃ cs : Nat → ClassId, cs 0 = qI ∧ cs 1 = qZ ∧ cs 2 = q0 ∧ cs 3 = q6 ∧ cs 4 = q3 ∧ cs 5 = q2 ∧ cs 6 = qA := ⟨fun n => if n = 0 then qI else if n = 1 then qZ else if n = 2 then q0 else if n = 3 then q6 else if n = 4 then q3 else if n = 5 then q2 else qA, rfl, rfl, rfl, rfl, rfl, rfl, rfl⟩
  have hK : pr_K (dC, dI) cs s := by
    refine ⟨⟨hKc, fun k q hk => ?_⟩, va_Nw.of rfl wN, fun C hC => ?_, fun B => wA⟩
    · match k, hk with
      | 0, hk => cases hk; rw [e0]; exact ⟨fun n z => ⟨fun k h => (by cases h), kI, i2, pI, i3⟩, i1⟩
      | 1, hk => cases hk; rw [e1]; exact ⟨fun n z => ⟨fun k h => (by cases h), kZ, z2, pZ, z3⟩, z1⟩
      | 2, hk => cases hk; rw [e2]; exact ⟨fun n z => ⟨fun k h => (by cases h), k0, f03, m0, f04⟩, k0, m0, f03, f04, f01, f05⟩
      | 3, hk => cases hk; rw [e3]; exact ⟨fun n z => ⟨fun k h => (by cases h), k6, f63, m6, f64⟩, k6, m6, f63, f64, f61, f65⟩
      | 4, hk => cases hk; rw [e4]; exact ⟨fun n z => ⟨fun k h => (by cases h), k3, f33, m3, f34⟩, k3, m3, f33, f34, f31, f35⟩
      | 5, hk => cases hk; rw [e5]; exact ⟨fun n z => ⟨fun k h => (by cases h), k2, f23, m2, f24⟩, k2, m2, f23, f24, f21, f25⟩
      | 6, hk => cases hk; rw [e6]; exact ⟨fun n z => ⟨fun k h => (by cases h), kA, fA2, mA, fA3⟩, fA4⟩
      | k + 7, hk => simp [pr_tys] at hk
    · rcases hC with rfl | rfl | rfl | rfl
      · exact va_AO.of w0
      · exact va_AO.of w6
      · exact va_AO.of w3
      · exact va_AO.of w2
  have C : pr_C RL cL_law 4 (some .boolean) (dC, dI) cs p s m #[Value.ref b] meth c := ⟨hx, hb, hml, hown, htl, hK, hr, hlocks⟩
  have hl := lv_entry ([.ref b]) (n := 4) (Nat.le_of_ble_eq_true rfl)
  rw [lg_entry_eq]
  generalize (lg_sl ([.ref b]) ++ List.replicate (4 - (lg_sl ([.ref b])).length) Slot.unset).toArray = ls at hl ⊢
  have hl : lv_has ls 4 [(0, .ref b)] := hl
  refine W.newcK hx hb hown (htl (.classLink RL 7 RX8) (pr_in1 _ (List.mem_of_getElem? (i := 0) rfl))) (htl (.instantiable RX8 17) (pr_in1 _ (List.mem_of_getElem? (i := 1) rfl))) (htl (.initialized RX8) (pr_in1 _ (List.mem_of_getElem? (i := 2) rfl))) rfl dL_law_0 (Nat.le_of_ble_eq_true rfl) (Nat.le_of_ble_eq_true rfl) (hKc 8 _ rfl).2.1 rfl fun H1 kC hkC e1 z1 o1 => ?_
  have hG : pr_G (dC, dI) (s.heap.size + 1) s.heap.size 8 0 pr_F0 [.null, .null, .null, .null, .null, .null, .null, .null, .int 0, .int 0, .int 0, .int 0, .int 0, .int 0, .int 0, .int 0, .int 0] H1 := ⟨by omega, by omega, fun n hn => absurd hn (Nat.not_lt_zero n), ⟨_, rfl, (u_born tyX8 htl inlX8 (hKc 8 _ rfl) hkC e1 tyX8_ok).to (fun j hj => by rcases (show j = 0 ∨ j = 1 ∨ j = 2 ∨ j = 3 ∨ j = 4 ∨ j = 5 ∨ j = 6 ∨ j = 7 ∨ j = 8 ∨ j = 9 ∨ j = 10 ∨ j = 11 ∨ j = 12 ∨ j = 13 ∨ j = 14 ∨ j = 15 ∨ j = 16 by omega) with rfl | rfl | rfl | rfl | rfl | rfl | rfl | rfl | rfl | rfl | rfl | rfl | rfl | rfl | rfl | rfl | rfl <;> rfl)⟩⟩
  have hS : va_S (pr_A s.heap.size (s.heap.size + 1)) s.heap H1 [] := ⟨by omega, fun q h1 h2 => o1 q h1, fun q h => by cases h⟩
  refine W.eq (g2 := F0 m 3 ls [.ref s.heap.size]) rfl ?_
  refine lv_dup hx hb dL_law_3 rfl ?_
  refine va_callv (va_runI (As := []) (rest := [.ref s.heap.size]) ⟨hx, hb, hml, hown, htl⟩ (c_X8_init (l := l) (D := (dC, dI)) (cs := cs) (b := s.heap.size + 1) (h0 := s.heap.size)) (cwI 0 htl (pr_gI (pr_in1 _ (List.mem_of_getElem? (i := 8) rfl))) rfl rfl rfl (htl (.initialized RX8) (pr_in1 _ (List.mem_of_getElem? (i := 2) rfl))) (htl (.methodLink RL 9 yX8_init) (pr_in1 _ (List.mem_of_getElem? (i := 6) rfl))) (htl (.instanceMethod yX8_init) (pr_in1 _ (List.mem_of_getElem? (i := 7) rfl))) rfl ha_X8_init ⟨(Nat.le_of_ble_eq_true rfl), (Nat.le_of_ble_eq_true rfl)⟩) ⟨fun a U f mk q => ⟨q.1, q.2.1, q.2.2.call f mk a⟩, fun U hU hW => ⟨rfl, by rw [hU]; exact hG, hK.warm hW⟩⟩ rfl rfl hl.1 rfl (lv_room (Nat.le_of_ble_eq_true rfl)) dL_law_4 ⟨(Nat.le_of_ble_eq_true rfl), (Nat.le_of_ble_eq_true rfl)⟩) hS (fun q _ h => h) (fun q h => h) (fun u t H2 locs ht hvm _ hB hz1 hk1 hS => ?_)
  rw [ht] at hB
  refine lv_astore_n (lv' := [(1, .ref s.heap.size), (0, .ref b)]) hx hb dL_law_7 rfl hl (by decide) rfl (fun ls hl => ?_)
  refine kc_new (k' := 9) C hB hS rfl inlX9 tyX9 tyX9_ok (pr_in1 _ (List.mem_of_getElem? (i := 3) rfl)) (pr_in1 _ (List.mem_of_getElem? (i := 4) rfl)) (pr_in1 _ (List.mem_of_getElem? (i := 5) rfl)) (gs := [.int 0, .null, .null, .null, .int 0, .null, .null, .null, .null, .int 0, .null, .null, .null, .int 0, .null, .null, .null, .null, .null, .null, .null, .null, .null, .null, .null, .int 0, .null, .null, .null, .null, .null, .null, .int 0, .int 0, .int 0, .int 0, .int 0, .null, .null, .null, .int 0, .int 0]) (fun j hj => by rcases (show j = 0 ∨ j = 1 ∨ j = 2 ∨ j = 3 ∨ j = 4 ∨ j = 5 ∨ j = 6 ∨ j = 7 ∨ j = 8 ∨ j = 9 ∨ j = 10 ∨ j = 11 ∨ j = 12 ∨ j = 13 ∨ j = 14 ∨ j = 15 ∨ j = 16 ∨ j = 17 ∨ j = 18 ∨ j = 19 ∨ j = 20 ∨ j = 21 ∨ j = 22 ∨ j = 23 ∨ j = 24 ∨ j = 25 ∨ j = 26 ∨ j = 27 ∨ j = 28 ∨ j = 29 ∨ j = 30 ∨ j = 31 ∨ j = 32 ∨ j = 33 ∨ j = 34 ∨ j = 35 ∨ j = 36 ∨ j = 37 ∨ j = 38 ∨ j = 39 ∨ j = 40 ∨ j = 41 by omega) with rfl | rfl | rfl | rfl | rfl | rfl | rfl | rfl | rfl | rfl | rfl | rfl | rfl | rfl | rfl | rfl | rfl | rfl | rfl | rfl | rfl | rfl | rfl | rfl | rfl | rfl | rfl | rfl | rfl | rfl | rfl | rfl | rfl | rfl | rfl | rfl | rfl | rfl | rfl | rfl | rfl | rfl <;> rfl) (Nat.le_of_ble_eq_true rfl) (Nat.le_of_ble_eq_true rfl) dL_law_8 (N1 := 26) rfl (fun H3 hG hS => ?_)
  refine lv_dup hx hb dL_law_11 rfl ?_
  refine kc_ctor (As := []) (rest := [.ref (s.heap.size + 1 + 25)]) (n := 25) C hG hS rfl rfl c_X9_init (pr_in4 _ (List.mem_of_getElem? (i := 9) rfl)) (pr_in1 _ (List.mem_of_getElem? (i := 5) rfl)) (pr_in4 _ (List.mem_of_getElem? (i := 7) rfl)) (pr_in4 _ (List.mem_of_getElem? (i := 8) rfl)) rfl rfl rfl ha_X9_init ⟨(Nat.le_of_ble_eq_true rfl), (Nat.le_of_ble_eq_true rfl)⟩ rfl hl.1 rfl (Nat.le_of_ble_eq_true rfl) dL_law_12 ⟨(Nat.le_of_ble_eq_true rfl), (Nat.le_of_ble_eq_true rfl)⟩ (n1 := 256) rfl (fun H4 locs hG hS => ?_)
  have hG : pr_G (dC, dI) (s.heap.size + 1) s.heap.size 8 256 (pr_FF cs s.heap.size) _ H4 := hG.congr (fun q hq => by
    unfold pr_FF
    by_cases h : q < 25
    · rw [if_pos h, if_pos h, va_up_ne _ _ (by omega)]
    · rw [if_neg h, if_neg h])
  refine lv_astore_n (lv' := [(2, .ref (s.heap.size + 1 + 25)), (1, .ref s.heap.size), (0, .ref b)]) hx hb dL_law_15 rfl hl (by decide) rfl (fun ls hl => ?_)
  refine lv_iconst (v := 0) hx hb dL_law_16 (by decide) ?_
  refine lv_istore_n (lv' := [(3, .int 0), (2, .ref (s.heap.size + 1 + 25)), (1, .ref s.heap.size), (0, .ref b)]) hx hb dL_law_17 rfl hl (by decide) rfl (fun ls hl => ?_)
  have hS2 : va_S (fun q : Nat => s.heap.size ≤ q) s.heap H4 locs := ⟨hS.1, fun q h1 h2 => hS.2.1 q h1 (fun h => by rcases h with h | h <;> exact h2 (by have h : _ := h; omega)), fun q h => by
    rcases hS.2.2 q h with h9 | h9
    · exact Nat.le_of_eq h9.symm
    · exact Nat.le_of_succ_le h9⟩
  refine W.widen (k := 257 + 7 * 0) (n := 3906 + 40 * 0) (Nat.le_of_ble_eq_true rfl) (Nat.le_of_ble_eq_true rfl) ?_
  exact law_loop l PF C hX hbl hL (L + 10) 0 0 (ad := pr_ad0 s.heap.size) rfl (by omega) (by omega) hI0 (in_R hG) hS2 (lv_sub hl [3, 2, 1, 0] rfl)
