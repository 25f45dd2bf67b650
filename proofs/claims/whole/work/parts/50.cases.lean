theorem pr_gR {own C : String} {cc bytes : ByteArray} {nL pc maxL index n : Nat} {rt0 ret : Option FieldType} {ls : Array Slot} {As st0 rest : List Value} {D : va_G} {cs : Nat → ClassId} {A : Nat → Prop} {ad : pr_Ad} {g : Nat → Nat} {σ : pr_Sg} {y : MethodName} {rm : Room} {Qc : Array Value → State → Outcome → State → Prop} {p : Program} {l : Launch} {e : Env} {R : Room} {s : State} {m : MethodId} {args : Array Value} {below : List Frame} {meth : Method} {c : Code} {H : Heap} {locs : List Loc} {cells slots mc ms : Nat} {k i j : Nat} {T : u_T} {N : Nat} (S : pr_C own cc nL rt0 D cs p s m args meth c) (hR : pr_R D cs A ad g σ H) (hlv : pr_lv g k i j) (hk : k < 10) (hc : vwCl[k]? = some (C, T, N)) (hM : Met l y (pr_ws y bytes maxL ret) rm (va_Pc (.ref (ad k i j) :: As) (pr_B D cs A ad g σ)) Qc mc ms A)
    (hG : GoodIn wsL_law (wsV own index C y (pr_ws y bytes maxL ret))) (hrc : rm.cells = mc) (hrs : rm.slots = ms) (hd : y.cls = C ∧ y.cls ≠ "java/lang/invoke/MethodHandle" ∧ y.cls ≠ "java/lang/invoke/VarHandle" ∧ (parseMethodDescriptor y.desc).map (fun d => d.parameters.length) = some n)
    (hRm : rm.frames + 1 ≤ R.frames ∧ 8 + (maxL + 11) + rm.locals ≤ R.locals) (hn : As.length = n) (hsize : ls.size = nL) (hstack : st0 = As.reverse ++ .ref (ad k i j) :: rest) (hW : (rest.map fun v => v.category).sum ≤ 8) (hdg : decode cc pc = .ok (.invokevirtual index, 3)) (hf : cells + mc ≤ R.cells ∧ slots + ms ≤ R.slots) :
    va_Run p l e R s m args below meth c H locs cells slots mc ms (F0 m pc ls st0) rest (Qc (Value.ref (ad k i j) :: As).toArray) A := by
  obtain ⟨hx, hb, hml, hown, hts, hK, -, -⟩ := S
  refine va_runV (As := As) (rest := rest) ⟨hx, hb, hml, hown, hts⟩ hM (cwV n hts hG rfl hrc hrs hd hRm) ⟨pr_blind, ?_, fun U hU hW => ⟨rfl, by rw [hU]; exact hR, hK.warm hW⟩⟩ rfl hn hsize hstack (lv_room hW) hdg hf
  exact va_recv hK.1 (pr_one hR hlv (pr_ctO hk)) hc (q0 := 0) rfl
theorem pr_calla {D : va_G} {cs : Nat → ClassId} {A : Nat → Prop} {ad : pr_Ad} {p : Program} {l : Launch} {e : Env} {R : Room} {s : State} {m : MethodId} {args : Array Value} {below : List Frame} {meth : Method} {c : Code} {H H0 : Heap} {locs : List Loc} {cells slots mc ms pc : Nat} {ls : Array Slot} {st0 rest : List Value} {Qf : State → Prop} {Q : Int32 → (Nat → Nat) → pr_Sg → Prop} {a : Array Value} (hS : va_S A H0 H locs) (hr : va_Run p l e R s m args below meth c H locs cells slots mc ms (F0 m pc ls st0) rest (pr_Qa D cs A ad Q a) A)
    (kk : ∀ (r : Int32) (ad' : pr_Ad) (g' : Nat → Nat) (u : pr_Sg) (H1 : Heap) (locs1 : List Loc), Q r g' u → pr_R D cs A ad' g' u H1 → ad' 8 0 0 = ad 8 0 0 → ad' 9 0 0 = ad 9 0 0 → va_S A H0 H1 locs1 → W p l e R s m args below meth c H1 locs1 (cells + mc) (slots + ms) Qf (F0 m (pc + 3) ls (.int r :: rest))) : W p l e R s m args below meth c H locs cells slots Qf (F0 m pc ls st0) := by
  intro T hT X
  obtain ⟨v, st₀, t, T', L, h0, X', hL, e1, e2, ⟨⟨r, ad', g', u, hv, hp, hb, h8, h9⟩, hz, hk⟩, st⟩ := hr T hT X
  rw [h0] at hz hk
  have hS1 : va_S A H0 T'.heap (locs ++ L) := ⟨Nat.le_trans hS.1 (by rw [e1]; exact hz), fun q h1 h2 => by rw [e1, hk q (Nat.lt_of_lt_of_le h1 hS.1) h2]; exact hS.2.1 q h1 h2, fun q hq => by
      rcases List.mem_append.mp hq with h | h
      · exact hS.2.2 q h
      · exact hL q h⟩
  cases hv
  obtain ⟨t2, a1, b1⟩ := kk r ad' g' u T'.heap (locs ++ L) hp (by rw [e1]; exact hb) h8 h9 hS1 T' rfl X'
  exact ⟨t2, st t2 a1, b1⟩
theorem pr_ix {i L : Nat} (k : Nat) (h : i + 5 ≤ L) (hL : L ≤ 2560) (hk : k < 5) : vp_in (nI i + nI k) L := by
  rw [nI_add]
  exact vp_in_nI (by omega) (by omega)
theorem pr_ix0 {i L : Nat} (h : i + 5 ≤ L) (hL : L ≤ 2560) : vp_in (nI i) L := vp_in_nI (by omega) (by omega)
def pr_fact_list (Inv : (Nat → Nat) → pr_Sg → Prop) : Prop := ∀ (g : Nat → Nat) (σ : pr_Sg) (a1 a2 a3 : Int32), Inv g σ → wp_X8_list g σ a1 a2 a3 (fun r σ1 => wp_X9_list g σ1 a1 a2 a3 (fun r2 σ2 => r = r2 ∧ Inv g σ2))
set_option maxHeartbeats 4000000 in
set_option maxRecDepth 100000 in
theorem lc_list {p : Program} {l : Launch} {e : Env} {s : State} {m : MethodId} {b L : Nat} {xs : Nat → Int32} {below : List Frame} {meth : Method} {c : Code} {D : va_G} {cs : Nat → ClassId} {ad : pr_Ad} {g : Nat → Nat} {σ : pr_Sg} {H : Heap} {locs : List Loc} {ls : Array Slot} {cells slots i : Nat} {Qf : State → Prop} {Inv : (Nat → Nat) → pr_Sg → Prop} (P : pr_fact_list Inv) (C : pr_C RL cL_law 4 (some .boolean) D cs p s m #[Value.ref b] meth c) (hX : va_X b L xs s s.heap) (hbl : b < s.heap.size) (hi : i + 5 ≤ L) (hL : L ≤ 2560) (hc : cells + 7 ≤ room_1.cells ∧ slots + 40 ≤ room_1.slots) (hI : Inv g σ) (hR : pr_R D cs (fun q : Nat => s.heap.size ≤ q) ad g σ H) (hS : va_S (fun q : Nat => s.heap.size ≤ q) s.heap H locs) (hl : lv_has ls 4 [(0, .ref b), (1, .ref (ad 8 0 0)), (2, .ref (ad 9 0 0)), (3, .int (nI i))])
    (kk : ∀ (ad' : pr_Ad) (g' : Nat → Nat) (u : pr_Sg) (H1 : Heap) (locs1 : List Loc), Inv g' u → pr_R D cs (fun q : Nat => s.heap.size ≤ q) ad' g' u H1 → va_S (fun q : Nat => s.heap.size ≤ q) s.heap H1 locs1 → lv_has ls 4 [(0, .ref b), (1, .ref (ad' 8 0 0)), (2, .ref (ad' 9 0 0)), (3, .int (nI i))] → W p l e room_1 s m #[Value.ref b] below meth c H1 locs1 (cells + 7) (slots + 40) Qf (F0 m 906 ls [])) : W p l e room_1 s m #[Value.ref b] below meth c H locs cells slots Qf (F0 m 144 ls []) := by
  obtain ⟨hx, hb, hml, hown, hts, hK, hr, hlocks⟩ := id C
  have hbA : ¬ (fun q : Nat => s.heap.size ≤ q) b := Nat.not_le.mpr hbl
  have hup : ∀ x y : Nat, (fun q : Nat => s.heap.size ≤ q) x → x ≤ y → (fun q : Nat => s.heap.size ≤ q) y := fun x y h1 h2 => Nat.le_trans h1 h2
  have h := P g σ (xs ((nI i) + (1 : Int32)).toNatClampNeg) (xs ((nI i) + (2 : Int32)).toNatClampNeg) (xs ((nI i) + (3 : Int32)).toNatClampNeg) hI
  refine lv_aload_n hx hb dL_law_144 rfl (lv_at hl 1 rfl) ?_
  refine lv_aload_n hx hb dL_law_145 rfl (lv_at hl 0 rfl) ?_
  refine lv_iload_n hx hb dL_law_146 rfl (lv_at hl 3 rfl) ?_
  refine lv_iconst (v := 1) hx hb dL_law_147 (by decide) ?_
  refine lv_iadd hx hb dL_law_148 ?_
  refine va_sld hx hb hX hbl hbA hS (pr_ix 1 hi hL (by omega)) dL_law_149 ?_
  refine lv_aload_n hx hb dL_law_150 rfl (lv_at hl 0 rfl) ?_
  refine lv_iload_n hx hb dL_law_151 rfl (lv_at hl 3 rfl) ?_
  refine lv_iconst (v := 2) hx hb dL_law_152 (by decide) ?_
  refine lv_iadd hx hb dL_law_153 ?_
  refine va_sld hx hb hX hbl hbA hS (pr_ix 2 hi hL (by omega)) dL_law_154 ?_
  refine lv_aload_n hx hb dL_law_155 rfl (lv_at hl 0 rfl) ?_
  refine lv_iload_n hx hb dL_law_156 rfl (lv_at hl 3 rfl) ?_
  refine lv_iconst (v := 3) hx hb dL_law_157 (by decide) ?_
  refine lv_iadd hx hb dL_law_158 ?_
  refine va_sld hx hb hX hbl hbA hS (pr_ix 3 hi hL (by omega)) dL_law_159 ?_
  refine pr_calli hS (pr_runV (As := [.int (xs ((nI i) + (1 : Int32)).toNatClampNeg), .int (xs ((nI i) + (2 : Int32)).toNatClampNeg), .int (xs ((nI i) + (3 : Int32)).toNatClampNeg)]) (rest := []) C hR pr_l8 (by omega) rfl (c_X8_list h) gw_RL_13 rfl rfl hd_X8_list ⟨(Nat.le_of_ble_eq_true rfl), (Nat.le_of_ble_eq_true rfl)⟩ rfl hl.1 rfl (Nat.le_of_ble_eq_true rfl) dL_law_160 ⟨by have := hc.1; omega, by have := hc.2; omega⟩) (fun r1 σ1 H locs h hR hS => ?_)
  obtain ⟨-, h⟩ := h
  refine lv_aload_n hx hb dL_law_163 rfl (lv_at hl 2 rfl) ?_
  refine lv_aload_n hx hb dL_law_164 rfl (lv_at hl 0 rfl) ?_
  refine lv_iload_n hx hb dL_law_165 rfl (lv_at hl 3 rfl) ?_
  refine lv_iconst (v := 1) hx hb dL_law_166 (by decide) ?_
  refine lv_iadd hx hb dL_law_167 ?_
  refine va_sld hx hb hX hbl hbA hS (pr_ix 1 hi hL (by omega)) dL_law_168 ?_
  refine lv_aload_n hx hb dL_law_169 rfl (lv_at hl 0 rfl) ?_
  refine lv_iload_n hx hb dL_law_170 rfl (lv_at hl 3 rfl) ?_
  refine lv_iconst (v := 2) hx hb dL_law_171 (by decide) ?_
  refine lv_iadd hx hb dL_law_172 ?_
  refine va_sld hx hb hX hbl hbA hS (pr_ix 2 hi hL (by omega)) dL_law_173 ?_
  refine lv_aload_n hx hb dL_law_174 rfl (lv_at hl 0 rfl) ?_
  refine lv_iload_n hx hb dL_law_175 rfl (lv_at hl 3 rfl) ?_
  refine lv_iconst (v := 3) hx hb dL_law_176 (by decide) ?_
  refine lv_iadd hx hb dL_law_177 ?_
  refine va_sld hx hb hX hbl hbA hS (pr_ix 3 hi hL (by omega)) dL_law_178 ?_
  refine pr_calli hS (pr_runV (As := [.int (xs ((nI i) + (1 : Int32)).toNatClampNeg), .int (xs ((nI i) + (2 : Int32)).toNatClampNeg), .int (xs ((nI i) + (3 : Int32)).toNatClampNeg)]) (rest := [.int r1]) C hR pr_l9 (by omega) rfl (c_X9_list h) gw_RL_17 rfl rfl hd_X9_list ⟨(Nat.le_of_ble_eq_true rfl), (Nat.le_of_ble_eq_true rfl)⟩ rfl hl.1 rfl (Nat.le_of_ble_eq_true rfl) dL_law_179 ⟨by have := hc.1; omega, by have := hc.2; omega⟩) (fun r2 σ2 H locs h hR hS => ?_)
  obtain ⟨-, h⟩ := h
  refine lv_icmp_eq (tgt := 906) hx hb dL_law_182 (by decide) (fun _ => ?_) (fun c9 => absurd h.1 c9)
  refine W.widen (k := cells + 7) (n := slots + 40) (by omega) (by omega) ?_
  exact kk _ _ _ _ _ h.2 hR hS hl
def pr_fact_dry (Inv : (Nat → Nat) → pr_Sg → Prop) : Prop := ∀ (g : Nat → Nat) (σ : pr_Sg) (a1 a2 : Int32), Inv g σ → wp_X8_dry g σ a1 a2 (fun r σ1 => wp_X9_dry g σ1 a1 a2 (fun r2 σ2 => r = r2 ∧ Inv g σ2))
set_option maxHeartbeats 4000000 in
set_option maxRecDepth 100000 in
theorem lc_dry {p : Program} {l : Launch} {e : Env} {s : State} {m : MethodId} {b L : Nat} {xs : Nat → Int32} {below : List Frame} {meth : Method} {c : Code} {D : va_G} {cs : Nat → ClassId} {ad : pr_Ad} {g : Nat → Nat} {σ : pr_Sg} {H : Heap} {locs : List Loc} {ls : Array Slot} {cells slots i : Nat} {Qf : State → Prop} {Inv : (Nat → Nat) → pr_Sg → Prop} (P : pr_fact_dry Inv) (C : pr_C RL cL_law 4 (some .boolean) D cs p s m #[Value.ref b] meth c) (hX : va_X b L xs s s.heap) (hbl : b < s.heap.size) (hi : i + 5 ≤ L) (hL : L ≤ 2560) (hc : cells + 7 ≤ room_1.cells ∧ slots + 40 ≤ room_1.slots) (hI : Inv g σ) (hR : pr_R D cs (fun q : Nat => s.heap.size ≤ q) ad g σ H) (hS : va_S (fun q : Nat => s.heap.size ≤ q) s.heap H locs) (hl : lv_has ls 4 [(0, .ref b), (1, .ref (ad 8 0 0)), (2, .ref (ad 9 0 0)), (3, .int (nI i))])
    (kk : ∀ (ad' : pr_Ad) (g' : Nat → Nat) (u : pr_Sg) (H1 : Heap) (locs1 : List Loc), Inv g' u → pr_R D cs (fun q : Nat => s.heap.size ≤ q) ad' g' u H1 → va_S (fun q : Nat => s.heap.size ≤ q) s.heap H1 locs1 → lv_has ls 4 [(0, .ref b), (1, .ref (ad' 8 0 0)), (2, .ref (ad' 9 0 0)), (3, .int (nI i))] → W p l e room_1 s m #[Value.ref b] below meth c H1 locs1 (cells + 7) (slots + 40) Qf (F0 m 906 ls [])) : W p l e room_1 s m #[Value.ref b] below meth c H locs cells slots Qf (F0 m 187 ls []) := by
  obtain ⟨hx, hb, hml, hown, hts, hK, hr, hlocks⟩ := id C
  have hbA : ¬ (fun q : Nat => s.heap.size ≤ q) b := Nat.not_le.mpr hbl
  have hup : ∀ x y : Nat, (fun q : Nat => s.heap.size ≤ q) x → x ≤ y → (fun q : Nat => s.heap.size ≤ q) y := fun x y h1 h2 => Nat.le_trans h1 h2
  have h := P g σ (xs ((nI i) + (1 : Int32)).toNatClampNeg) (xs ((nI i) + (2 : Int32)).toNatClampNeg) hI
  refine lv_aload_n hx hb dL_law_187 rfl (lv_at hl 1 rfl) ?_
  refine lv_aload_n hx hb dL_law_188 rfl (lv_at hl 0 rfl) ?_
  refine lv_iload_n hx hb dL_law_189 rfl (lv_at hl 3 rfl) ?_
  refine lv_iconst (v := 1) hx hb dL_law_190 (by decide) ?_
  refine lv_iadd hx hb dL_law_191 ?_
  refine va_sld hx hb hX hbl hbA hS (pr_ix 1 hi hL (by omega)) dL_law_192 ?_
  refine lv_aload_n hx hb dL_law_193 rfl (lv_at hl 0 rfl) ?_
  refine lv_iload_n hx hb dL_law_194 rfl (lv_at hl 3 rfl) ?_
  refine lv_iconst (v := 2) hx hb dL_law_195 (by decide) ?_
  refine lv_iadd hx hb dL_law_196 ?_
  refine va_sld hx hb hX hbl hbA hS (pr_ix 2 hi hL (by omega)) dL_law_197 ?_
  refine pr_calli hS (pr_runV (As := [.int (xs ((nI i) + (1 : Int32)).toNatClampNeg), .int (xs ((nI i) + (2 : Int32)).toNatClampNeg)]) (rest := []) C hR pr_l8 (by omega) rfl (c_X8_dry h) gw_RL_18 rfl rfl hd_X8_dry ⟨(Nat.le_of_ble_eq_true rfl), (Nat.le_of_ble_eq_true rfl)⟩ rfl hl.1 rfl (Nat.le_of_ble_eq_true rfl) dL_law_198 ⟨by have := hc.1; omega, by have := hc.2; omega⟩) (fun r1 σ1 H locs h hR hS => ?_)
  obtain ⟨-, h⟩ := h
  refine lv_aload_n hx hb dL_law_201 rfl (lv_at hl 2 rfl) ?_
  refine lv_aload_n hx hb dL_law_202 rfl (lv_at hl 0 rfl) ?_
  refine lv_iload_n hx hb dL_law_203 rfl (lv_at hl 3 rfl) ?_
  refine lv_iconst (v := 1) hx hb dL_law_204 (by decide) ?_
  refine lv_iadd hx hb dL_law_205 ?_
  refine va_sld hx hb hX hbl hbA hS (pr_ix 1 hi hL (by omega)) dL_law_206 ?_
  refine lv_aload_n hx hb dL_law_207 rfl (lv_at hl 0 rfl) ?_
  refine lv_iload_n hx hb dL_law_208 rfl (lv_at hl 3 rfl) ?_
  refine lv_iconst (v := 2) hx hb dL_law_209 (by decide) ?_
  refine lv_iadd hx hb dL_law_210 ?_
  refine va_sld hx hb hX hbl hbA hS (pr_ix 2 hi hL (by omega)) dL_law_211 ?_
  refine pr_calli hS (pr_runV (As := [.int (xs ((nI i) + (1 : Int32)).toNatClampNeg), .int (xs ((nI i) + (2 : Int32)).toNatClampNeg)]) (rest := [.int r1]) C hR pr_l9 (by omega) rfl (c_X9_dry h) gw_RL_22 rfl rfl hd_X9_dry ⟨(Nat.le_of_ble_eq_true rfl), (Nat.le_of_ble_eq_true rfl)⟩ rfl hl.1 rfl (Nat.le_of_ble_eq_true rfl) dL_law_212 ⟨by have := hc.1; omega, by have := hc.2; omega⟩) (fun r2 σ2 H locs h hR hS => ?_)
  obtain ⟨-, h⟩ := h
  refine lv_icmp_eq (tgt := 906) hx hb dL_law_215 (by decide) (fun _ => ?_) (fun c9 => absurd h.1 c9)
  refine W.widen (k := cells + 7) (n := slots + 40) (by omega) (by omega) ?_
  exact kk _ _ _ _ _ h.2 hR hS hl
def pr_fact_hand (Inv : (Nat → Nat) → pr_Sg → Prop) : Prop := ∀ (g : Nat → Nat) (σ : pr_Sg), Inv g σ → wp_X8_hand g σ (fun r g1 σ1 => wp_X9_hand g1 σ1 (fun r2 σ2 => r = r2 ∧ Inv g1 σ2))
set_option maxHeartbeats 4000000 in
set_option maxRecDepth 100000 in
theorem lc_hand {p : Program} {l : Launch} {e : Env} {s : State} {m : MethodId} {b L : Nat} {xs : Nat → Int32} {below : List Frame} {meth : Method} {c : Code} {D : va_G} {cs : Nat → ClassId} {ad : pr_Ad} {g : Nat → Nat} {σ : pr_Sg} {H : Heap} {locs : List Loc} {ls : Array Slot} {cells slots i : Nat} {Qf : State → Prop} {Inv : (Nat → Nat) → pr_Sg → Prop} (P : pr_fact_hand Inv) (C : pr_C RL cL_law 4 (some .boolean) D cs p s m #[Value.ref b] meth c) (hX : va_X b L xs s s.heap) (hbl : b < s.heap.size) (hi : i + 5 ≤ L) (hL : L ≤ 2560) (hc : cells + 7 ≤ room_1.cells ∧ slots + 40 ≤ room_1.slots) (hI : Inv g σ) (hR : pr_R D cs (fun q : Nat => s.heap.size ≤ q) ad g σ H) (hS : va_S (fun q : Nat => s.heap.size ≤ q) s.heap H locs) (hl : lv_has ls 4 [(0, .ref b), (1, .ref (ad 8 0 0)), (2, .ref (ad 9 0 0)), (3, .int (nI i))])
    (kk : ∀ (ad' : pr_Ad) (g' : Nat → Nat) (u : pr_Sg) (H1 : Heap) (locs1 : List Loc), Inv g' u → pr_R D cs (fun q : Nat => s.heap.size ≤ q) ad' g' u H1 → va_S (fun q : Nat => s.heap.size ≤ q) s.heap H1 locs1 → lv_has ls 4 [(0, .ref b), (1, .ref (ad' 8 0 0)), (2, .ref (ad' 9 0 0)), (3, .int (nI i))] → W p l e room_1 s m #[Value.ref b] below meth c H1 locs1 (cells + 7) (slots + 40) Qf (F0 m 906 ls [])) : W p l e room_1 s m #[Value.ref b] below meth c H locs cells slots Qf (F0 m 220 ls []) := by
  obtain ⟨hx, hb, hml, hown, hts, hK, hr, hlocks⟩ := id C
  have hbA : ¬ (fun q : Nat => s.heap.size ≤ q) b := Nat.not_le.mpr hbl
  have hup : ∀ x y : Nat, (fun q : Nat => s.heap.size ≤ q) x → x ≤ y → (fun q : Nat => s.heap.size ≤ q) y := fun x y h1 h2 => Nat.le_trans h1 h2
  have h := P g σ hI
  refine lv_aload_n hx hb dL_law_220 rfl (lv_at hl 1 rfl) ?_
  refine pr_calla hS (pr_gR (As := []) (rest := []) C hR pr_l8 (by omega) rfl (c_X8_hand hup h) gw_RL_23 rfl rfl hd_X8_hand ⟨(Nat.le_of_ble_eq_true rfl), (Nat.le_of_ble_eq_true rfl)⟩ rfl hl.1 rfl (Nat.le_of_ble_eq_true rfl) dL_law_221 ⟨by have := hc.1; omega, by have := hc.2; omega⟩) (fun r1 ad2 g2 σ1 H locs h hR h8 h9 hS => ?_)
  have hl : lv_has ls 4 [(0, .ref b), (1, .ref (ad2 8 0 0)), (2, .ref (ad2 9 0 0)), (3, .int (nI i))] := by rw [h8, h9]; exact hl
  refine lv_aload_n hx hb dL_law_224 rfl (lv_at hl 2 rfl) ?_
  refine pr_calli hS (pr_runV (As := []) (rest := [.int r1]) C hR pr_l9 (by omega) rfl (c_X9_hand h) gw_RL_27 rfl rfl hd_X9_hand ⟨(Nat.le_of_ble_eq_true rfl), (Nat.le_of_ble_eq_true rfl)⟩ rfl hl.1 rfl (Nat.le_of_ble_eq_true rfl) dL_law_225 ⟨by have := hc.1; omega, by have := hc.2; omega⟩) (fun r2 σ2 H locs h hR hS => ?_)
  refine lv_icmp_eq (tgt := 906) hx hb dL_law_228 (by decide) (fun _ => ?_) (fun c9 => absurd h.1 c9)
  refine W.widen (k := cells + 7) (n := slots + 40) (by omega) (by omega) ?_
  exact kk _ _ _ _ _ h.2 hR hS hl
def pr_fact_sitter (Inv : (Nat → Nat) → pr_Sg → Prop) : Prop := ∀ (g : Nat → Nat) (σ : pr_Sg) (a1 a2 : Int32), Inv g σ → wp_X8_sitter g σ a1 a2 (fun r g1 σ1 => wp_X9_sitter g1 σ1 a1 a2 (fun r2 σ2 => r = r2 ∧ Inv g1 σ2))
set_option maxHeartbeats 4000000 in
set_option maxRecDepth 100000 in
theorem lc_sitter {p : Program} {l : Launch} {e : Env} {s : State} {m : MethodId} {b L : Nat} {xs : Nat → Int32} {below : List Frame} {meth : Method} {c : Code} {D : va_G} {cs : Nat → ClassId} {ad : pr_Ad} {g : Nat → Nat} {σ : pr_Sg} {H : Heap} {locs : List Loc} {ls : Array Slot} {cells slots i : Nat} {Qf : State → Prop} {Inv : (Nat → Nat) → pr_Sg → Prop} (P : pr_fact_sitter Inv) (C : pr_C RL cL_law 4 (some .boolean) D cs p s m #[Value.ref b] meth c) (hX : va_X b L xs s s.heap) (hbl : b < s.heap.size) (hi : i + 5 ≤ L) (hL : L ≤ 2560) (hc : cells + 7 ≤ room_1.cells ∧ slots + 40 ≤ room_1.slots) (hI : Inv g σ) (hR : pr_R D cs (fun q : Nat => s.heap.size ≤ q) ad g σ H) (hS : va_S (fun q : Nat => s.heap.size ≤ q) s.heap H locs) (hl : lv_has ls 4 [(0, .ref b), (1, .ref (ad 8 0 0)), (2, .ref (ad 9 0 0)), (3, .int (nI i))])
    (kk : ∀ (ad' : pr_Ad) (g' : Nat → Nat) (u : pr_Sg) (H1 : Heap) (locs1 : List Loc), Inv g' u → pr_R D cs (fun q : Nat => s.heap.size ≤ q) ad' g' u H1 → va_S (fun q : Nat => s.heap.size ≤ q) s.heap H1 locs1 → lv_has ls 4 [(0, .ref b), (1, .ref (ad' 8 0 0)), (2, .ref (ad' 9 0 0)), (3, .int (nI i))] → W p l e room_1 s m #[Value.ref b] below meth c H1 locs1 (cells + 7) (slots + 40) Qf (F0 m 906 ls [])) : W p l e room_1 s m #[Value.ref b] below meth c H locs cells slots Qf (F0 m 233 ls []) := by
  obtain ⟨hx, hb, hml, hown, hts, hK, hr, hlocks⟩ := id C
  have hbA : ¬ (fun q : Nat => s.heap.size ≤ q) b := Nat.not_le.mpr hbl
  have hup : ∀ x y : Nat, (fun q : Nat => s.heap.size ≤ q) x → x ≤ y → (fun q : Nat => s.heap.size ≤ q) y := fun x y h1 h2 => Nat.le_trans h1 h2
  have h := P g σ (xs ((nI i) + (1 : Int32)).toNatClampNeg) (xs ((nI i) + (2 : Int32)).toNatClampNeg) hI
  refine lv_aload_n hx hb dL_law_233 rfl (lv_at hl 1 rfl) ?_
  refine lv_aload_n hx hb dL_law_234 rfl (lv_at hl 0 rfl) ?_
  refine lv_iload_n hx hb dL_law_235 rfl (lv_at hl 3 rfl) ?_
  refine lv_iconst (v := 1) hx hb dL_law_236 (by decide) ?_
  refine lv_iadd hx hb dL_law_237 ?_
  refine va_sld hx hb hX hbl hbA hS (pr_ix 1 hi hL (by omega)) dL_law_238 ?_
  refine lv_aload_n hx hb dL_law_239 rfl (lv_at hl 0 rfl) ?_
  refine lv_iload_n hx hb dL_law_240 rfl (lv_at hl 3 rfl) ?_
  refine lv_iconst (v := 2) hx hb dL_law_241 (by decide) ?_
  refine lv_iadd hx hb dL_law_242 ?_
  refine va_sld hx hb hX hbl hbA hS (pr_ix 2 hi hL (by omega)) dL_law_243 ?_
  refine pr_calla hS (pr_gR (As := [.int (xs ((nI i) + (1 : Int32)).toNatClampNeg), .int (xs ((nI i) + (2 : Int32)).toNatClampNeg)]) (rest := []) C hR pr_l8 (by omega) rfl (c_X8_sitter hup h) gw_RL_28 rfl rfl hd_X8_sitter ⟨(Nat.le_of_ble_eq_true rfl), (Nat.le_of_ble_eq_true rfl)⟩ rfl hl.1 rfl (Nat.le_of_ble_eq_true rfl) dL_law_244 ⟨by have := hc.1; omega, by have := hc.2; omega⟩) (fun r1 ad2 g2 σ1 H locs h hR h8 h9 hS => ?_)
  have hl : lv_has ls 4 [(0, .ref b), (1, .ref (ad2 8 0 0)), (2, .ref (ad2 9 0 0)), (3, .int (nI i))] := by rw [h8, h9]; exact hl
  refine lv_aload_n hx hb dL_law_247 rfl (lv_at hl 2 rfl) ?_
  refine lv_aload_n hx hb dL_law_248 rfl (lv_at hl 0 rfl) ?_
  refine lv_iload_n hx hb dL_law_249 rfl (lv_at hl 3 rfl) ?_
  refine lv_iconst (v := 1) hx hb dL_law_250 (by decide) ?_
  refine lv_iadd hx hb dL_law_251 ?_
  refine va_sld hx hb hX hbl hbA hS (pr_ix 1 hi hL (by omega)) dL_law_252 ?_
  refine lv_aload_n hx hb dL_law_253 rfl (lv_at hl 0 rfl) ?_
  refine lv_iload_n hx hb dL_law_254 rfl (lv_at hl 3 rfl) ?_
  refine lv_iconst (v := 2) hx hb dL_law_255 (by decide) ?_
  refine lv_iadd hx hb dL_law_256 ?_
  refine va_sld hx hb hX hbl hbA hS (pr_ix 2 hi hL (by omega)) dL_law_257 ?_
  refine pr_calli hS (pr_runV (As := [.int (xs ((nI i) + (1 : Int32)).toNatClampNeg), .int (xs ((nI i) + (2 : Int32)).toNatClampNeg)]) (rest := [.int r1]) C hR pr_l9 (by omega) rfl (c_X9_sitter h) gw_RL_32 rfl rfl hd_X9_sitter ⟨(Nat.le_of_ble_eq_true rfl), (Nat.le_of_ble_eq_true rfl)⟩ rfl hl.1 rfl (Nat.le_of_ble_eq_true rfl) dL_law_258 ⟨by have := hc.1; omega, by have := hc.2; omega⟩) (fun r2 σ2 H locs h hR hS => ?_)
  refine lv_icmp_eq (tgt := 906) hx hb dL_law_261 (by decide) (fun _ => ?_) (fun c9 => absurd h.1 c9)
  refine W.widen (k := cells + 7) (n := slots + 40) (by omega) (by omega) ?_
  exact kk _ _ _ _ _ h.2 hR hS hl
def pr_fact_picture (Inv : (Nat → Nat) → pr_Sg → Prop) : Prop := ∀ (g : Nat → Nat) (σ : pr_Sg) (a1 a2 a3 a4 : Int32), Inv g σ → wp_X8_picture g σ a1 a2 a3 a4 (fun r g1 σ1 => wp_X9_picture g1 σ1 a1 a2 a3 a4 (fun r2 σ2 => r = r2 ∧ Inv g1 σ2))
set_option maxHeartbeats 4000000 in
set_option maxRecDepth 100000 in
theorem lc_picture {p : Program} {l : Launch} {e : Env} {s : State} {m : MethodId} {b L : Nat} {xs : Nat → Int32} {below : List Frame} {meth : Method} {c : Code} {D : va_G} {cs : Nat → ClassId} {ad : pr_Ad} {g : Nat → Nat} {σ : pr_Sg} {H : Heap} {locs : List Loc} {ls : Array Slot} {cells slots i : Nat} {Qf : State → Prop} {Inv : (Nat → Nat) → pr_Sg → Prop} (P : pr_fact_picture Inv) (C : pr_C RL cL_law 4 (some .boolean) D cs p s m #[Value.ref b] meth c) (hX : va_X b L xs s s.heap) (hbl : b < s.heap.size) (hi : i + 5 ≤ L) (hL : L ≤ 2560) (hc : cells + 7 ≤ room_1.cells ∧ slots + 40 ≤ room_1.slots) (hI : Inv g σ) (hR : pr_R D cs (fun q : Nat => s.heap.size ≤ q) ad g σ H) (hS : va_S (fun q : Nat => s.heap.size ≤ q) s.heap H locs) (hl : lv_has ls 4 [(0, .ref b), (1, .ref (ad 8 0 0)), (2, .ref (ad 9 0 0)), (3, .int (nI i))])
    (kk : ∀ (ad' : pr_Ad) (g' : Nat → Nat) (u : pr_Sg) (H1 : Heap) (locs1 : List Loc), Inv g' u → pr_R D cs (fun q : Nat => s.heap.size ≤ q) ad' g' u H1 → va_S (fun q : Nat => s.heap.size ≤ q) s.heap H1 locs1 → lv_has ls 4 [(0, .ref b), (1, .ref (ad' 8 0 0)), (2, .ref (ad' 9 0 0)), (3, .int (nI i))] → W p l e room_1 s m #[Value.ref b] below meth c H1 locs1 (cells + 7) (slots + 40) Qf (F0 m 906 ls [])) : W p l e room_1 s m #[Value.ref b] below meth c H locs cells slots Qf (F0 m 266 ls []) := by
  obtain ⟨hx, hb, hml, hown, hts, hK, hr, hlocks⟩ := id C
  have hbA : ¬ (fun q : Nat => s.heap.size ≤ q) b := Nat.not_le.mpr hbl
  have hup : ∀ x y : Nat, (fun q : Nat => s.heap.size ≤ q) x → x ≤ y → (fun q : Nat => s.heap.size ≤ q) y := fun x y h1 h2 => Nat.le_trans h1 h2
  have h := P g σ (xs ((nI i) + (1 : Int32)).toNatClampNeg) (xs ((nI i) + (2 : Int32)).toNatClampNeg) (xs ((nI i) + (3 : Int32)).toNatClampNeg) (xs ((nI i) + (4 : Int32)).toNatClampNeg) hI
  refine lv_aload_n hx hb dL_law_266 rfl (lv_at hl 1 rfl) ?_
  refine lv_aload_n hx hb dL_law_267 rfl (lv_at hl 0 rfl) ?_
  refine lv_iload_n hx hb dL_law_268 rfl (lv_at hl 3 rfl) ?_
  refine lv_iconst (v := 1) hx hb dL_law_269 (by decide) ?_
  refine lv_iadd hx hb dL_law_270 ?_
  refine va_sld hx hb hX hbl hbA hS (pr_ix 1 hi hL (by omega)) dL_law_271 ?_
  refine lv_aload_n hx hb dL_law_272 rfl (lv_at hl 0 rfl) ?_
  refine lv_iload_n hx hb dL_law_273 rfl (lv_at hl 3 rfl) ?_
  refine lv_iconst (v := 2) hx hb dL_law_274 (by decide) ?_
  refine lv_iadd hx hb dL_law_275 ?_
  refine va_sld hx hb hX hbl hbA hS (pr_ix 2 hi hL (by omega)) dL_law_276 ?_
  refine lv_aload_n hx hb dL_law_277 rfl (lv_at hl 0 rfl) ?_
  refine lv_iload_n hx hb dL_law_278 rfl (lv_at hl 3 rfl) ?_
  refine lv_iconst (v := 3) hx hb dL_law_279 (by decide) ?_
  refine lv_iadd hx hb dL_law_280 ?_
  refine va_sld hx hb hX hbl hbA hS (pr_ix 3 hi hL (by omega)) dL_law_281 ?_
  refine lv_aload_n hx hb dL_law_282 rfl (lv_at hl 0 rfl) ?_
  refine lv_iload_n hx hb dL_law_283 rfl (lv_at hl 3 rfl) ?_
  refine lv_iconst (v := 4) hx hb dL_law_284 (by decide) ?_
  refine lv_iadd hx hb dL_law_285 ?_
  refine va_sld hx hb hX hbl hbA hS (pr_ix 4 hi hL (by omega)) dL_law_286 ?_
  refine pr_calla hS (pr_gR (As := [.int (xs ((nI i) + (1 : Int32)).toNatClampNeg), .int (xs ((nI i) + (2 : Int32)).toNatClampNeg), .int (xs ((nI i) + (3 : Int32)).toNatClampNeg), .int (xs ((nI i) + (4 : Int32)).toNatClampNeg)]) (rest := []) C hR pr_l8 (by omega) rfl (c_X8_picture hup h) gw_RL_33 rfl rfl hd_X8_picture ⟨(Nat.le_of_ble_eq_true rfl), (Nat.le_of_ble_eq_true rfl)⟩ rfl hl.1 rfl (Nat.le_of_ble_eq_true rfl) dL_law_287 ⟨by have := hc.1; omega, by have := hc.2; omega⟩) (fun r1 ad2 g2 σ1 H locs h hR h8 h9 hS => ?_)
  have hl : lv_has ls 4 [(0, .ref b), (1, .ref (ad2 8 0 0)), (2, .ref (ad2 9 0 0)), (3, .int (nI i))] := by rw [h8, h9]; exact hl
  refine lv_aload_n hx hb dL_law_290 rfl (lv_at hl 2 rfl) ?_
  refine lv_aload_n hx hb dL_law_291 rfl (lv_at hl 0 rfl) ?_
  refine lv_iload_n hx hb dL_law_292 rfl (lv_at hl 3 rfl) ?_
  refine lv_iconst (v := 1) hx hb dL_law_293 (by decide) ?_
  refine lv_iadd hx hb dL_law_294 ?_
  refine va_sld hx hb hX hbl hbA hS (pr_ix 1 hi hL (by omega)) dL_law_295 ?_
  refine lv_aload_n hx hb dL_law_296 rfl (lv_at hl 0 rfl) ?_
  refine lv_iload_n hx hb dL_law_297 rfl (lv_at hl 3 rfl) ?_
  refine lv_iconst (v := 2) hx hb dL_law_298 (by decide) ?_
  refine lv_iadd hx hb dL_law_299 ?_
  refine va_sld hx hb hX hbl hbA hS (pr_ix 2 hi hL (by omega)) dL_law_300 ?_
  refine lv_aload_n hx hb dL_law_301 rfl (lv_at hl 0 rfl) ?_
  refine lv_iload_n hx hb dL_law_302 rfl (lv_at hl 3 rfl) ?_
  refine lv_iconst (v := 3) hx hb dL_law_303 (by decide) ?_
  refine lv_iadd hx hb dL_law_304 ?_
  refine va_sld hx hb hX hbl hbA hS (pr_ix 3 hi hL (by omega)) dL_law_305 ?_
  refine lv_aload_n hx hb dL_law_306 rfl (lv_at hl 0 rfl) ?_
  refine lv_iload_n hx hb dL_law_307 rfl (lv_at hl 3 rfl) ?_
  refine lv_iconst (v := 4) hx hb dL_law_308 (by decide) ?_
  refine lv_iadd hx hb dL_law_309 ?_
  refine va_sld hx hb hX hbl hbA hS (pr_ix 4 hi hL (by omega)) dL_law_310 ?_
  refine pr_calli hS (pr_runV (As := [.int (xs ((nI i) + (1 : Int32)).toNatClampNeg), .int (xs ((nI i) + (2 : Int32)).toNatClampNeg), .int (xs ((nI i) + (3 : Int32)).toNatClampNeg), .int (xs ((nI i) + (4 : Int32)).toNatClampNeg)]) (rest := [.int r1]) C hR pr_l9 (by omega) rfl (c_X9_picture h) gw_RL_37 rfl rfl hd_X9_picture ⟨(Nat.le_of_ble_eq_true rfl), (Nat.le_of_ble_eq_true rfl)⟩ rfl hl.1 rfl (Nat.le_of_ble_eq_true rfl) dL_law_311 ⟨by have := hc.1; omega, by have := hc.2; omega⟩) (fun r2 σ2 H locs h hR hS => ?_)
  refine lv_icmp_eq (tgt := 906) hx hb dL_law_314 (by decide) (fun _ => ?_) (fun c9 => absurd h.1 c9)
  refine W.widen (k := cells + 7) (n := slots + 40) (by omega) (by omega) ?_
  exact kk _ _ _ _ _ h.2 hR hS hl
def pr_fact_go (Inv : (Nat → Nat) → pr_Sg → Prop) : Prop := ∀ (g : Nat → Nat) (σ : pr_Sg) (a1 : Int32), Inv g σ → wp_X8_go g σ a1 (fun r σ1 => wp_X9_go g σ1 a1 (fun r2 σ2 => r = r2 ∧ Inv g σ2))
set_option maxHeartbeats 4000000 in
set_option maxRecDepth 100000 in
theorem lc_go {p : Program} {l : Launch} {e : Env} {s : State} {m : MethodId} {b L : Nat} {xs : Nat → Int32} {below : List Frame} {meth : Method} {c : Code} {D : va_G} {cs : Nat → ClassId} {ad : pr_Ad} {g : Nat → Nat} {σ : pr_Sg} {H : Heap} {locs : List Loc} {ls : Array Slot} {cells slots i : Nat} {Qf : State → Prop} {Inv : (Nat → Nat) → pr_Sg → Prop} (P : pr_fact_go Inv) (C : pr_C RL cL_law 4 (some .boolean) D cs p s m #[Value.ref b] meth c) (hX : va_X b L xs s s.heap) (hbl : b < s.heap.size) (hi : i + 5 ≤ L) (hL : L ≤ 2560) (hc : cells + 7 ≤ room_1.cells ∧ slots + 40 ≤ room_1.slots) (hI : Inv g σ) (hR : pr_R D cs (fun q : Nat => s.heap.size ≤ q) ad g σ H) (hS : va_S (fun q : Nat => s.heap.size ≤ q) s.heap H locs) (hl : lv_has ls 4 [(0, .ref b), (1, .ref (ad 8 0 0)), (2, .ref (ad 9 0 0)), (3, .int (nI i))])
    (kk : ∀ (ad' : pr_Ad) (g' : Nat → Nat) (u : pr_Sg) (H1 : Heap) (locs1 : List Loc), Inv g' u → pr_R D cs (fun q : Nat => s.heap.size ≤ q) ad' g' u H1 → va_S (fun q : Nat => s.heap.size ≤ q) s.heap H1 locs1 → lv_has ls 4 [(0, .ref b), (1, .ref (ad' 8 0 0)), (2, .ref (ad' 9 0 0)), (3, .int (nI i))] → W p l e room_1 s m #[Value.ref b] below meth c H1 locs1 (cells + 7) (slots + 40) Qf (F0 m 906 ls [])) : W p l e room_1 s m #[Value.ref b] below meth c H locs cells slots Qf (F0 m 319 ls []) := by
  obtain ⟨hx, hb, hml, hown, hts, hK, hr, hlocks⟩ := id C
  have hbA : ¬ (fun q : Nat => s.heap.size ≤ q) b := Nat.not_le.mpr hbl
  have hup : ∀ x y : Nat, (fun q : Nat => s.heap.size ≤ q) x → x ≤ y → (fun q : Nat => s.heap.size ≤ q) y := fun x y h1 h2 => Nat.le_trans h1 h2
  have h := P g σ (xs ((nI i) + (1 : Int32)).toNatClampNeg) hI
  refine lv_aload_n hx hb dL_law_319 rfl (lv_at hl 1 rfl) ?_
  refine lv_aload_n hx hb dL_law_320 rfl (lv_at hl 0 rfl) ?_
  refine lv_iload_n hx hb dL_law_321 rfl (lv_at hl 3 rfl) ?_
  refine lv_iconst (v := 1) hx hb dL_law_322 (by decide) ?_
  refine lv_iadd hx hb dL_law_323 ?_
  refine va_sld hx hb hX hbl hbA hS (pr_ix 1 hi hL (by omega)) dL_law_324 ?_
  refine pr_calli hS (pr_runV (As := [.int (xs ((nI i) + (1 : Int32)).toNatClampNeg)]) (rest := []) C hR pr_l8 (by omega) rfl (c_X8_go h) gw_RL_38 rfl rfl hd_X8_go ⟨(Nat.le_of_ble_eq_true rfl), (Nat.le_of_ble_eq_true rfl)⟩ rfl hl.1 rfl (Nat.le_of_ble_eq_true rfl) dL_law_325 ⟨by have := hc.1; omega, by have := hc.2; omega⟩) (fun r1 σ1 H locs h hR hS => ?_)
  refine lv_aload_n hx hb dL_law_328 rfl (lv_at hl 2 rfl) ?_
  refine lv_aload_n hx hb dL_law_329 rfl (lv_at hl 0 rfl) ?_
  refine lv_iload_n hx hb dL_law_330 rfl (lv_at hl 3 rfl) ?_
  refine lv_iconst (v := 1) hx hb dL_law_331 (by decide) ?_
  refine lv_iadd hx hb dL_law_332 ?_
  refine va_sld hx hb hX hbl hbA hS (pr_ix 1 hi hL (by omega)) dL_law_333 ?_
  refine pr_calli hS (pr_runV (As := [.int (xs ((nI i) + (1 : Int32)).toNatClampNeg)]) (rest := [.int r1]) C hR pr_l9 (by omega) rfl (c_X9_go h) gw_RL_42 rfl rfl hd_X9_go ⟨(Nat.le_of_ble_eq_true rfl), (Nat.le_of_ble_eq_true rfl)⟩ rfl hl.1 rfl (Nat.le_of_ble_eq_true rfl) dL_law_334 ⟨by have := hc.1; omega, by have := hc.2; omega⟩) (fun r2 σ2 H locs h hR hS => ?_)
  refine lv_icmp_eq (tgt := 906) hx hb dL_law_337 (by decide) (fun _ => ?_) (fun c9 => absurd h.1 c9)
  refine W.widen (k := cells + 7) (n := slots + 40) (by omega) (by omega) ?_
  exact kk _ _ _ _ _ h.2 hR hS hl
def pr_fact_light (Inv : (Nat → Nat) → pr_Sg → Prop) : Prop := ∀ (g : Nat → Nat) (σ : pr_Sg) (a1 : Int32), Inv g σ → wp_X8_light g σ a1 (fun r σ1 => wp_X9_light g σ1 a1 (fun r2 σ2 => r = r2 ∧ Inv g σ2))
set_option maxHeartbeats 4000000 in
set_option maxRecDepth 100000 in
theorem lc_light {p : Program} {l : Launch} {e : Env} {s : State} {m : MethodId} {b L : Nat} {xs : Nat → Int32} {below : List Frame} {meth : Method} {c : Code} {D : va_G} {cs : Nat → ClassId} {ad : pr_Ad} {g : Nat → Nat} {σ : pr_Sg} {H : Heap} {locs : List Loc} {ls : Array Slot} {cells slots i : Nat} {Qf : State → Prop} {Inv : (Nat → Nat) → pr_Sg → Prop} (P : pr_fact_light Inv) (C : pr_C RL cL_law 4 (some .boolean) D cs p s m #[Value.ref b] meth c) (hX : va_X b L xs s s.heap) (hbl : b < s.heap.size) (hi : i + 5 ≤ L) (hL : L ≤ 2560) (hc : cells + 7 ≤ room_1.cells ∧ slots + 40 ≤ room_1.slots) (hI : Inv g σ) (hR : pr_R D cs (fun q : Nat => s.heap.size ≤ q) ad g σ H) (hS : va_S (fun q : Nat => s.heap.size ≤ q) s.heap H locs) (hl : lv_has ls 4 [(0, .ref b), (1, .ref (ad 8 0 0)), (2, .ref (ad 9 0 0)), (3, .int (nI i))])
    (kk : ∀ (ad' : pr_Ad) (g' : Nat → Nat) (u : pr_Sg) (H1 : Heap) (locs1 : List Loc), Inv g' u → pr_R D cs (fun q : Nat => s.heap.size ≤ q) ad' g' u H1 → va_S (fun q : Nat => s.heap.size ≤ q) s.heap H1 locs1 → lv_has ls 4 [(0, .ref b), (1, .ref (ad' 8 0 0)), (2, .ref (ad' 9 0 0)), (3, .int (nI i))] → W p l e room_1 s m #[Value.ref b] below meth c H1 locs1 (cells + 7) (slots + 40) Qf (F0 m 906 ls [])) : W p l e room_1 s m #[Value.ref b] below meth c H locs cells slots Qf (F0 m 342 ls []) := by
  obtain ⟨hx, hb, hml, hown, hts, hK, hr, hlocks⟩ := id C
  have hbA : ¬ (fun q : Nat => s.heap.size ≤ q) b := Nat.not_le.mpr hbl
  have hup : ∀ x y : Nat, (fun q : Nat => s.heap.size ≤ q) x → x ≤ y → (fun q : Nat => s.heap.size ≤ q) y := fun x y h1 h2 => Nat.le_trans h1 h2
  have h := P g σ (xs ((nI i) + (1 : Int32)).toNatClampNeg) hI
  refine lv_aload_n hx hb dL_law_342 rfl (lv_at hl 1 rfl) ?_
  refine lv_aload_n hx hb dL_law_343 rfl (lv_at hl 0 rfl) ?_
  refine lv_iload_n hx hb dL_law_344 rfl (lv_at hl 3 rfl) ?_
  refine lv_iconst (v := 1) hx hb dL_law_345 (by decide) ?_
  refine lv_iadd hx hb dL_law_346 ?_
  refine va_sld hx hb hX hbl hbA hS (pr_ix 1 hi hL (by omega)) dL_law_347 ?_
  refine pr_calli hS (pr_runV (As := [.int (xs ((nI i) + (1 : Int32)).toNatClampNeg)]) (rest := []) C hR pr_l8 (by omega) rfl (c_X8_light h) gw_RL_43 rfl rfl hd_X8_light ⟨(Nat.le_of_ble_eq_true rfl), (Nat.le_of_ble_eq_true rfl)⟩ rfl hl.1 rfl (Nat.le_of_ble_eq_true rfl) dL_law_348 ⟨by have := hc.1; omega, by have := hc.2; omega⟩) (fun r1 σ1 H locs h hR hS => ?_)
  refine lv_aload_n hx hb dL_law_351 rfl (lv_at hl 2 rfl) ?_
  refine lv_aload_n hx hb dL_law_352 rfl (lv_at hl 0 rfl) ?_
  refine lv_iload_n hx hb dL_law_353 rfl (lv_at hl 3 rfl) ?_
  refine lv_iconst (v := 1) hx hb dL_law_354 (by decide) ?_
  refine lv_iadd hx hb dL_law_355 ?_
  refine va_sld hx hb hX hbl hbA hS (pr_ix 1 hi hL (by omega)) dL_law_356 ?_
  refine pr_calli hS (pr_runV (As := [.int (xs ((nI i) + (1 : Int32)).toNatClampNeg)]) (rest := [.int r1]) C hR pr_l9 (by omega) rfl (c_X9_light h) gw_RL_46 rfl rfl hd_X9_light ⟨(Nat.le_of_ble_eq_true rfl), (Nat.le_of_ble_eq_true rfl)⟩ rfl hl.1 rfl (Nat.le_of_ble_eq_true rfl) dL_law_357 ⟨by have := hc.1; omega, by have := hc.2; omega⟩) (fun r2 σ2 H locs h hR hS => ?_)
  refine lv_icmp_eq (tgt := 906) hx hb dL_law_360 (by decide) (fun _ => ?_) (fun c9 => absurd h.1 c9)
  refine W.widen (k := cells + 7) (n := slots + 40) (by omega) (by omega) ?_
  exact kk _ _ _ _ _ h.2 hR hS hl
def pr_fact_book (Inv : (Nat → Nat) → pr_Sg → Prop) : Prop := ∀ (g : Nat → Nat) (σ : pr_Sg) (a1 a2 a3 : Int32), Inv g σ → wp_X8_book g σ a1 a2 a3 (fun r σ1 => wp_X9_book g σ1 a1 a2 a3 (fun r2 σ2 => r = r2 ∧ Inv g σ2))
set_option maxHeartbeats 4000000 in
set_option maxRecDepth 100000 in
theorem lc_book {p : Program} {l : Launch} {e : Env} {s : State} {m : MethodId} {b L : Nat} {xs : Nat → Int32} {below : List Frame} {meth : Method} {c : Code} {D : va_G} {cs : Nat → ClassId} {ad : pr_Ad} {g : Nat → Nat} {σ : pr_Sg} {H : Heap} {locs : List Loc} {ls : Array Slot} {cells slots i : Nat} {Qf : State → Prop} {Inv : (Nat → Nat) → pr_Sg → Prop} (P : pr_fact_book Inv) (C : pr_C RL cL_law 4 (some .boolean) D cs p s m #[Value.ref b] meth c) (hX : va_X b L xs s s.heap) (hbl : b < s.heap.size) (hi : i + 5 ≤ L) (hL : L ≤ 2560) (hc : cells + 7 ≤ room_1.cells ∧ slots + 40 ≤ room_1.slots) (hI : Inv g σ) (hR : pr_R D cs (fun q : Nat => s.heap.size ≤ q) ad g σ H) (hS : va_S (fun q : Nat => s.heap.size ≤ q) s.heap H locs) (hl : lv_has ls 4 [(0, .ref b), (1, .ref (ad 8 0 0)), (2, .ref (ad 9 0 0)), (3, .int (nI i))])
    (kk : ∀ (ad' : pr_Ad) (g' : Nat → Nat) (u : pr_Sg) (H1 : Heap) (locs1 : List Loc), Inv g' u → pr_R D cs (fun q : Nat => s.heap.size ≤ q) ad' g' u H1 → va_S (fun q : Nat => s.heap.size ≤ q) s.heap H1 locs1 → lv_has ls 4 [(0, .ref b), (1, .ref (ad' 8 0 0)), (2, .ref (ad' 9 0 0)), (3, .int (nI i))] → W p l e room_1 s m #[Value.ref b] below meth c H1 locs1 (cells + 7) (slots + 40) Qf (F0 m 906 ls [])) : W p l e room_1 s m #[Value.ref b] below meth c H locs cells slots Qf (F0 m 365 ls []) := by
  obtain ⟨hx, hb, hml, hown, hts, hK, hr, hlocks⟩ := id C
  have hbA : ¬ (fun q : Nat => s.heap.size ≤ q) b := Nat.not_le.mpr hbl
  have hup : ∀ x y : Nat, (fun q : Nat => s.heap.size ≤ q) x → x ≤ y → (fun q : Nat => s.heap.size ≤ q) y := fun x y h1 h2 => Nat.le_trans h1 h2
  have h := P g σ (xs ((nI i) + (1 : Int32)).toNatClampNeg) (xs ((nI i) + (2 : Int32)).toNatClampNeg) (xs ((nI i) + (3 : Int32)).toNatClampNeg) hI
  refine lv_aload_n hx hb dL_law_365 rfl (lv_at hl 1 rfl) ?_
  refine lv_aload_n hx hb dL_law_366 rfl (lv_at hl 0 rfl) ?_
  refine lv_iload_n hx hb dL_law_367 rfl (lv_at hl 3 rfl) ?_
  refine lv_iconst (v := 1) hx hb dL_law_368 (by decide) ?_
  refine lv_iadd hx hb dL_law_369 ?_
  refine va_sld hx hb hX hbl hbA hS (pr_ix 1 hi hL (by omega)) dL_law_370 ?_
  refine lv_aload_n hx hb dL_law_371 rfl (lv_at hl 0 rfl) ?_
  refine lv_iload_n hx hb dL_law_372 rfl (lv_at hl 3 rfl) ?_
  refine lv_iconst (v := 2) hx hb dL_law_373 (by decide) ?_
  refine lv_iadd hx hb dL_law_374 ?_
  refine va_sld hx hb hX hbl hbA hS (pr_ix 2 hi hL (by omega)) dL_law_375 ?_
  refine lv_aload_n hx hb dL_law_376 rfl (lv_at hl 0 rfl) ?_
  refine lv_iload_n hx hb dL_law_377 rfl (lv_at hl 3 rfl) ?_
  refine lv_iconst (v := 3) hx hb dL_law_378 (by decide) ?_
  refine lv_iadd hx hb dL_law_379 ?_
  refine va_sld hx hb hX hbl hbA hS (pr_ix 3 hi hL (by omega)) dL_law_380 ?_
  refine pr_calli hS (pr_runV (As := [.int (xs ((nI i) + (1 : Int32)).toNatClampNeg), .int (xs ((nI i) + (2 : Int32)).toNatClampNeg), .int (xs ((nI i) + (3 : Int32)).toNatClampNeg)]) (rest := []) C hR pr_l8 (by omega) rfl (c_X8_book h) gw_RL_47 rfl rfl hd_X8_book ⟨(Nat.le_of_ble_eq_true rfl), (Nat.le_of_ble_eq_true rfl)⟩ rfl hl.1 rfl (Nat.le_of_ble_eq_true rfl) dL_law_381 ⟨by have := hc.1; omega, by have := hc.2; omega⟩) (fun r1 σ1 H locs h hR hS => ?_)
  obtain ⟨-, h⟩ := h
  refine lv_aload_n hx hb dL_law_384 rfl (lv_at hl 2 rfl) ?_
  refine lv_aload_n hx hb dL_law_385 rfl (lv_at hl 0 rfl) ?_
  refine lv_iload_n hx hb dL_law_386 rfl (lv_at hl 3 rfl) ?_
  refine lv_iconst (v := 1) hx hb dL_law_387 (by decide) ?_
  refine lv_iadd hx hb dL_law_388 ?_
  refine va_sld hx hb hX hbl hbA hS (pr_ix 1 hi hL (by omega)) dL_law_389 ?_
  refine lv_aload_n hx hb dL_law_390 rfl (lv_at hl 0 rfl) ?_
  refine lv_iload_n hx hb dL_law_391 rfl (lv_at hl 3 rfl) ?_
  refine lv_iconst (v := 2) hx hb dL_law_392 (by decide) ?_
  refine lv_iadd hx hb dL_law_393 ?_
  refine va_sld hx hb hX hbl hbA hS (pr_ix 2 hi hL (by omega)) dL_law_394 ?_
  refine lv_aload_n hx hb dL_law_395 rfl (lv_at hl 0 rfl) ?_
  refine lv_iload_n hx hb dL_law_396 rfl (lv_at hl 3 rfl) ?_
  refine lv_iconst (v := 3) hx hb dL_law_397 (by decide) ?_
  refine lv_iadd hx hb dL_law_398 ?_
  refine va_sld hx hb hX hbl hbA hS (pr_ix 3 hi hL (by omega)) dL_law_399 ?_
  refine pr_calli hS (pr_runV (As := [.int (xs ((nI i) + (1 : Int32)).toNatClampNeg), .int (xs ((nI i) + (2 : Int32)).toNatClampNeg), .int (xs ((nI i) + (3 : Int32)).toNatClampNeg)]) (rest := [.int r1]) C hR pr_l9 (by omega) rfl (c_X9_book h) gw_RL_50 rfl rfl hd_X9_book ⟨(Nat.le_of_ble_eq_true rfl), (Nat.le_of_ble_eq_true rfl)⟩ rfl hl.1 rfl (Nat.le_of_ble_eq_true rfl) dL_law_400 ⟨by have := hc.1; omega, by have := hc.2; omega⟩) (fun r2 σ2 H locs h hR hS => ?_)
  obtain ⟨-, h⟩ := h
  refine lv_icmp_eq (tgt := 906) hx hb dL_law_403 (by decide) (fun _ => ?_) (fun c9 => absurd h.1 c9)
  refine W.widen (k := cells + 7) (n := slots + 40) (by omega) (by omega) ?_
  exact kk _ _ _ _ _ h.2 hR hS hl
def pr_fact_unbook (Inv : (Nat → Nat) → pr_Sg → Prop) : Prop := ∀ (g : Nat → Nat) (σ : pr_Sg) (a1 a2 : Int32), Inv g σ → wp_X8_unbook g σ a1 a2 (fun r σ1 => wp_X9_unbook g σ1 a1 a2 (fun r2 σ2 => r = r2 ∧ Inv g σ2))
set_option maxHeartbeats 4000000 in
set_option maxRecDepth 100000 in
theorem lc_unbook {p : Program} {l : Launch} {e : Env} {s : State} {m : MethodId} {b L : Nat} {xs : Nat → Int32} {below : List Frame} {meth : Method} {c : Code} {D : va_G} {cs : Nat → ClassId} {ad : pr_Ad} {g : Nat → Nat} {σ : pr_Sg} {H : Heap} {locs : List Loc} {ls : Array Slot} {cells slots i : Nat} {Qf : State → Prop} {Inv : (Nat → Nat) → pr_Sg → Prop} (P : pr_fact_unbook Inv) (C : pr_C RL cL_law 4 (some .boolean) D cs p s m #[Value.ref b] meth c) (hX : va_X b L xs s s.heap) (hbl : b < s.heap.size) (hi : i + 5 ≤ L) (hL : L ≤ 2560) (hc : cells + 7 ≤ room_1.cells ∧ slots + 40 ≤ room_1.slots) (hI : Inv g σ) (hR : pr_R D cs (fun q : Nat => s.heap.size ≤ q) ad g σ H) (hS : va_S (fun q : Nat => s.heap.size ≤ q) s.heap H locs) (hl : lv_has ls 4 [(0, .ref b), (1, .ref (ad 8 0 0)), (2, .ref (ad 9 0 0)), (3, .int (nI i))])
    (kk : ∀ (ad' : pr_Ad) (g' : Nat → Nat) (u : pr_Sg) (H1 : Heap) (locs1 : List Loc), Inv g' u → pr_R D cs (fun q : Nat => s.heap.size ≤ q) ad' g' u H1 → va_S (fun q : Nat => s.heap.size ≤ q) s.heap H1 locs1 → lv_has ls 4 [(0, .ref b), (1, .ref (ad' 8 0 0)), (2, .ref (ad' 9 0 0)), (3, .int (nI i))] → W p l e room_1 s m #[Value.ref b] below meth c H1 locs1 (cells + 7) (slots + 40) Qf (F0 m 906 ls [])) : W p l e room_1 s m #[Value.ref b] below meth c H locs cells slots Qf (F0 m 408 ls []) := by
  obtain ⟨hx, hb, hml, hown, hts, hK, hr, hlocks⟩ := id C
  have hbA : ¬ (fun q : Nat => s.heap.size ≤ q) b := Nat.not_le.mpr hbl
  have hup : ∀ x y : Nat, (fun q : Nat => s.heap.size ≤ q) x → x ≤ y → (fun q : Nat => s.heap.size ≤ q) y := fun x y h1 h2 => Nat.le_trans h1 h2
  have h := P g σ (xs ((nI i) + (1 : Int32)).toNatClampNeg) (xs ((nI i) + (2 : Int32)).toNatClampNeg) hI
  refine lv_aload_n hx hb dL_law_408 rfl (lv_at hl 1 rfl) ?_
  refine lv_aload_n hx hb dL_law_409 rfl (lv_at hl 0 rfl) ?_
  refine lv_iload_n hx hb dL_law_410 rfl (lv_at hl 3 rfl) ?_
  refine lv_iconst (v := 1) hx hb dL_law_411 (by decide) ?_
  refine lv_iadd hx hb dL_law_412 ?_
  refine va_sld hx hb hX hbl hbA hS (pr_ix 1 hi hL (by omega)) dL_law_413 ?_
  refine lv_aload_n hx hb dL_law_414 rfl (lv_at hl 0 rfl) ?_
  refine lv_iload_n hx hb dL_law_415 rfl (lv_at hl 3 rfl) ?_
  refine lv_iconst (v := 2) hx hb dL_law_416 (by decide) ?_
  refine lv_iadd hx hb dL_law_417 ?_
  refine va_sld hx hb hX hbl hbA hS (pr_ix 2 hi hL (by omega)) dL_law_418 ?_
  refine pr_calli hS (pr_runV (As := [.int (xs ((nI i) + (1 : Int32)).toNatClampNeg), .int (xs ((nI i) + (2 : Int32)).toNatClampNeg)]) (rest := []) C hR pr_l8 (by omega) rfl (c_X8_unbook h) gw_RL_51 rfl rfl hd_X8_unbook ⟨(Nat.le_of_ble_eq_true rfl), (Nat.le_of_ble_eq_true rfl)⟩ rfl hl.1 rfl (Nat.le_of_ble_eq_true rfl) dL_law_419 ⟨by have := hc.1; omega, by have := hc.2; omega⟩) (fun r1 σ1 H locs h hR hS => ?_)
  obtain ⟨-, h⟩ := h
  refine lv_aload_n hx hb dL_law_422 rfl (lv_at hl 2 rfl) ?_
  refine lv_aload_n hx hb dL_law_423 rfl (lv_at hl 0 rfl) ?_
  refine lv_iload_n hx hb dL_law_424 rfl (lv_at hl 3 rfl) ?_
  refine lv_iconst (v := 1) hx hb dL_law_425 (by decide) ?_
  refine lv_iadd hx hb dL_law_426 ?_
  refine va_sld hx hb hX hbl hbA hS (pr_ix 1 hi hL (by omega)) dL_law_427 ?_
  refine lv_aload_n hx hb dL_law_428 rfl (lv_at hl 0 rfl) ?_
  refine lv_iload_n hx hb dL_law_429 rfl (lv_at hl 3 rfl) ?_
  refine lv_iconst (v := 2) hx hb dL_law_430 (by decide) ?_
  refine lv_iadd hx hb dL_law_431 ?_
  refine va_sld hx hb hX hbl hbA hS (pr_ix 2 hi hL (by omega)) dL_law_432 ?_
  refine pr_calli hS (pr_runV (As := [.int (xs ((nI i) + (1 : Int32)).toNatClampNeg), .int (xs ((nI i) + (2 : Int32)).toNatClampNeg)]) (rest := [.int r1]) C hR pr_l9 (by omega) rfl (c_X9_unbook h) gw_RL_54 rfl rfl hd_X9_unbook ⟨(Nat.le_of_ble_eq_true rfl), (Nat.le_of_ble_eq_true rfl)⟩ rfl hl.1 rfl (Nat.le_of_ble_eq_true rfl) dL_law_433 ⟨by have := hc.1; omega, by have := hc.2; omega⟩) (fun r2 σ2 H locs h hR hS => ?_)
  obtain ⟨-, h⟩ := h
  refine lv_icmp_eq (tgt := 906) hx hb dL_law_436 (by decide) (fun _ => ?_) (fun c9 => absurd h.1 c9)
  refine W.widen (k := cells + 7) (n := slots + 40) (by omega) (by omega) ?_
  exact kk _ _ _ _ _ h.2 hR hS hl
def pr_fact_paint (Inv : (Nat → Nat) → pr_Sg → Prop) : Prop := ∀ (g : Nat → Nat) (σ : pr_Sg) (a1 a2 a3 : Int32), Inv g σ → wp_X8_paint g σ a1 a2 a3 (fun r σ1 => wp_X9_paint g σ1 a1 a2 a3 (fun r2 σ2 => r = r2 ∧ Inv g σ2))
set_option maxHeartbeats 4000000 in
set_option maxRecDepth 100000 in
theorem lc_paint {p : Program} {l : Launch} {e : Env} {s : State} {m : MethodId} {b L : Nat} {xs : Nat → Int32} {below : List Frame} {meth : Method} {c : Code} {D : va_G} {cs : Nat → ClassId} {ad : pr_Ad} {g : Nat → Nat} {σ : pr_Sg} {H : Heap} {locs : List Loc} {ls : Array Slot} {cells slots i : Nat} {Qf : State → Prop} {Inv : (Nat → Nat) → pr_Sg → Prop} (P : pr_fact_paint Inv) (C : pr_C RL cL_law 4 (some .boolean) D cs p s m #[Value.ref b] meth c) (hX : va_X b L xs s s.heap) (hbl : b < s.heap.size) (hi : i + 5 ≤ L) (hL : L ≤ 2560) (hc : cells + 7 ≤ room_1.cells ∧ slots + 40 ≤ room_1.slots) (hI : Inv g σ) (hR : pr_R D cs (fun q : Nat => s.heap.size ≤ q) ad g σ H) (hS : va_S (fun q : Nat => s.heap.size ≤ q) s.heap H locs) (hl : lv_has ls 4 [(0, .ref b), (1, .ref (ad 8 0 0)), (2, .ref (ad 9 0 0)), (3, .int (nI i))])
    (kk : ∀ (ad' : pr_Ad) (g' : Nat → Nat) (u : pr_Sg) (H1 : Heap) (locs1 : List Loc), Inv g' u → pr_R D cs (fun q : Nat => s.heap.size ≤ q) ad' g' u H1 → va_S (fun q : Nat => s.heap.size ≤ q) s.heap H1 locs1 → lv_has ls 4 [(0, .ref b), (1, .ref (ad' 8 0 0)), (2, .ref (ad' 9 0 0)), (3, .int (nI i))] → W p l e room_1 s m #[Value.ref b] below meth c H1 locs1 (cells + 7) (slots + 40) Qf (F0 m 906 ls [])) : W p l e room_1 s m #[Value.ref b] below meth c H locs cells slots Qf (F0 m 441 ls []) := by
  obtain ⟨hx, hb, hml, hown, hts, hK, hr, hlocks⟩ := id C
  have hbA : ¬ (fun q : Nat => s.heap.size ≤ q) b := Nat.not_le.mpr hbl
  have hup : ∀ x y : Nat, (fun q : Nat => s.heap.size ≤ q) x → x ≤ y → (fun q : Nat => s.heap.size ≤ q) y := fun x y h1 h2 => Nat.le_trans h1 h2
  have h := P g σ (xs ((nI i) + (1 : Int32)).toNatClampNeg) (xs ((nI i) + (2 : Int32)).toNatClampNeg) (xs ((nI i) + (3 : Int32)).toNatClampNeg) hI
  refine lv_aload_n hx hb dL_law_441 rfl (lv_at hl 1 rfl) ?_
  refine lv_aload_n hx hb dL_law_442 rfl (lv_at hl 0 rfl) ?_
  refine lv_iload_n hx hb dL_law_443 rfl (lv_at hl 3 rfl) ?_
  refine lv_iconst (v := 1) hx hb dL_law_444 (by decide) ?_
  refine lv_iadd hx hb dL_law_445 ?_
  refine va_sld hx hb hX hbl hbA hS (pr_ix 1 hi hL (by omega)) dL_law_446 ?_
  refine lv_aload_n hx hb dL_law_447 rfl (lv_at hl 0 rfl) ?_
  refine lv_iload_n hx hb dL_law_448 rfl (lv_at hl 3 rfl) ?_
  refine lv_iconst (v := 2) hx hb dL_law_449 (by decide) ?_
  refine lv_iadd hx hb dL_law_450 ?_
  refine va_sld hx hb hX hbl hbA hS (pr_ix 2 hi hL (by omega)) dL_law_451 ?_
  refine lv_aload_n hx hb dL_law_452 rfl (lv_at hl 0 rfl) ?_
  refine lv_iload_n hx hb dL_law_453 rfl (lv_at hl 3 rfl) ?_
  refine lv_iconst (v := 3) hx hb dL_law_454 (by decide) ?_
  refine lv_iadd hx hb dL_law_455 ?_
  refine va_sld hx hb hX hbl hbA hS (pr_ix 3 hi hL (by omega)) dL_law_456 ?_
  refine pr_calli hS (pr_runV (As := [.int (xs ((nI i) + (1 : Int32)).toNatClampNeg), .int (xs ((nI i) + (2 : Int32)).toNatClampNeg), .int (xs ((nI i) + (3 : Int32)).toNatClampNeg)]) (rest := []) C hR pr_l8 (by omega) rfl (c_X8_paint h) gw_RL_55 rfl rfl hd_X8_paint ⟨(Nat.le_of_ble_eq_true rfl), (Nat.le_of_ble_eq_true rfl)⟩ rfl hl.1 rfl (Nat.le_of_ble_eq_true rfl) dL_law_457 ⟨by have := hc.1; omega, by have := hc.2; omega⟩) (fun r1 σ1 H locs h hR hS => ?_)
  refine lv_aload_n hx hb dL_law_460 rfl (lv_at hl 2 rfl) ?_
  refine lv_aload_n hx hb dL_law_461 rfl (lv_at hl 0 rfl) ?_
  refine lv_iload_n hx hb dL_law_462 rfl (lv_at hl 3 rfl) ?_
  refine lv_iconst (v := 1) hx hb dL_law_463 (by decide) ?_
  refine lv_iadd hx hb dL_law_464 ?_
  refine va_sld hx hb hX hbl hbA hS (pr_ix 1 hi hL (by omega)) dL_law_465 ?_
  refine lv_aload_n hx hb dL_law_466 rfl (lv_at hl 0 rfl) ?_
  refine lv_iload_n hx hb dL_law_467 rfl (lv_at hl 3 rfl) ?_
  refine lv_iconst (v := 2) hx hb dL_law_468 (by decide) ?_
  refine lv_iadd hx hb dL_law_469 ?_
  refine va_sld hx hb hX hbl hbA hS (pr_ix 2 hi hL (by omega)) dL_law_470 ?_
  refine lv_aload_n hx hb dL_law_471 rfl (lv_at hl 0 rfl) ?_
  refine lv_iload_n hx hb dL_law_472 rfl (lv_at hl 3 rfl) ?_
  refine lv_iconst (v := 3) hx hb dL_law_473 (by decide) ?_
  refine lv_iadd hx hb dL_law_474 ?_
  refine va_sld hx hb hX hbl hbA hS (pr_ix 3 hi hL (by omega)) dL_law_475 ?_
  refine pr_calli hS (pr_runV (As := [.int (xs ((nI i) + (1 : Int32)).toNatClampNeg), .int (xs ((nI i) + (2 : Int32)).toNatClampNeg), .int (xs ((nI i) + (3 : Int32)).toNatClampNeg)]) (rest := [.int r1]) C hR pr_l9 (by omega) rfl (c_X9_paint h) gw_RL_59 rfl rfl hd_X9_paint ⟨(Nat.le_of_ble_eq_true rfl), (Nat.le_of_ble_eq_true rfl)⟩ rfl hl.1 rfl (Nat.le_of_ble_eq_true rfl) dL_law_476 ⟨by have := hc.1; omega, by have := hc.2; omega⟩) (fun r2 σ2 H locs h hR hS => ?_)
  refine lv_icmp_eq (tgt := 906) hx hb dL_law_479 (by decide) (fun _ => ?_) (fun c9 => absurd h.1 c9)
  refine W.widen (k := cells + 7) (n := slots + 40) (by omega) (by omega) ?_
  exact kk _ _ _ _ _ h.2 hR hS hl
def pr_fact_pay (Inv : (Nat → Nat) → pr_Sg → Prop) : Prop := ∀ (g : Nat → Nat) (σ : pr_Sg) (a1 a2 : Int32), Inv g σ → wp_X8_pay g σ a1 a2 (fun r σ1 => wp_X9_pay g σ1 a1 a2 (fun r2 σ2 => r = r2 ∧ Inv g σ2))
set_option maxHeartbeats 4000000 in
set_option maxRecDepth 100000 in
theorem lc_pay {p : Program} {l : Launch} {e : Env} {s : State} {m : MethodId} {b L : Nat} {xs : Nat → Int32} {below : List Frame} {meth : Method} {c : Code} {D : va_G} {cs : Nat → ClassId} {ad : pr_Ad} {g : Nat → Nat} {σ : pr_Sg} {H : Heap} {locs : List Loc} {ls : Array Slot} {cells slots i : Nat} {Qf : State → Prop} {Inv : (Nat → Nat) → pr_Sg → Prop} (P : pr_fact_pay Inv) (C : pr_C RL cL_law 4 (some .boolean) D cs p s m #[Value.ref b] meth c) (hX : va_X b L xs s s.heap) (hbl : b < s.heap.size) (hi : i + 5 ≤ L) (hL : L ≤ 2560) (hc : cells + 7 ≤ room_1.cells ∧ slots + 40 ≤ room_1.slots) (hI : Inv g σ) (hR : pr_R D cs (fun q : Nat => s.heap.size ≤ q) ad g σ H) (hS : va_S (fun q : Nat => s.heap.size ≤ q) s.heap H locs) (hl : lv_has ls 4 [(0, .ref b), (1, .ref (ad 8 0 0)), (2, .ref (ad 9 0 0)), (3, .int (nI i))])
    (kk : ∀ (ad' : pr_Ad) (g' : Nat → Nat) (u : pr_Sg) (H1 : Heap) (locs1 : List Loc), Inv g' u → pr_R D cs (fun q : Nat => s.heap.size ≤ q) ad' g' u H1 → va_S (fun q : Nat => s.heap.size ≤ q) s.heap H1 locs1 → lv_has ls 4 [(0, .ref b), (1, .ref (ad' 8 0 0)), (2, .ref (ad' 9 0 0)), (3, .int (nI i))] → W p l e room_1 s m #[Value.ref b] below meth c H1 locs1 (cells + 7) (slots + 40) Qf (F0 m 906 ls [])) : W p l e room_1 s m #[Value.ref b] below meth c H locs cells slots Qf (F0 m 484 ls []) := by
  obtain ⟨hx, hb, hml, hown, hts, hK, hr, hlocks⟩ := id C
  have hbA : ¬ (fun q : Nat => s.heap.size ≤ q) b := Nat.not_le.mpr hbl
  have hup : ∀ x y : Nat, (fun q : Nat => s.heap.size ≤ q) x → x ≤ y → (fun q : Nat => s.heap.size ≤ q) y := fun x y h1 h2 => Nat.le_trans h1 h2
  have h := P g σ (xs ((nI i) + (1 : Int32)).toNatClampNeg) (xs ((nI i) + (2 : Int32)).toNatClampNeg) hI
  refine lv_aload_n hx hb dL_law_484 rfl (lv_at hl 1 rfl) ?_
  refine lv_aload_n hx hb dL_law_485 rfl (lv_at hl 0 rfl) ?_
  refine lv_iload_n hx hb dL_law_486 rfl (lv_at hl 3 rfl) ?_
  refine lv_iconst (v := 1) hx hb dL_law_487 (by decide) ?_
  refine lv_iadd hx hb dL_law_488 ?_
  refine va_sld hx hb hX hbl hbA hS (pr_ix 1 hi hL (by omega)) dL_law_489 ?_
  refine lv_aload_n hx hb dL_law_490 rfl (lv_at hl 0 rfl) ?_
  refine lv_iload_n hx hb dL_law_491 rfl (lv_at hl 3 rfl) ?_
  refine lv_iconst (v := 2) hx hb dL_law_492 (by decide) ?_
  refine lv_iadd hx hb dL_law_493 ?_
  refine va_sld hx hb hX hbl hbA hS (pr_ix 2 hi hL (by omega)) dL_law_494 ?_
  refine pr_calli hS (pr_runV (As := [.int (xs ((nI i) + (1 : Int32)).toNatClampNeg), .int (xs ((nI i) + (2 : Int32)).toNatClampNeg)]) (rest := []) C hR pr_l8 (by omega) rfl (c_X8_pay h) gw_RL_60 rfl rfl hd_X8_pay ⟨(Nat.le_of_ble_eq_true rfl), (Nat.le_of_ble_eq_true rfl)⟩ rfl hl.1 rfl (Nat.le_of_ble_eq_true rfl) dL_law_495 ⟨by have := hc.1; omega, by have := hc.2; omega⟩) (fun r1 σ1 H locs h hR hS => ?_)
  refine lv_aload_n hx hb dL_law_498 rfl (lv_at hl 2 rfl) ?_
  refine lv_aload_n hx hb dL_law_499 rfl (lv_at hl 0 rfl) ?_
  refine lv_iload_n hx hb dL_law_500 rfl (lv_at hl 3 rfl) ?_
  refine lv_iconst (v := 1) hx hb dL_law_501 (by decide) ?_
  refine lv_iadd hx hb dL_law_502 ?_
  refine va_sld hx hb hX hbl hbA hS (pr_ix 1 hi hL (by omega)) dL_law_503 ?_
  refine lv_aload_n hx hb dL_law_504 rfl (lv_at hl 0 rfl) ?_
  refine lv_iload_n hx hb dL_law_505 rfl (lv_at hl 3 rfl) ?_
  refine lv_iconst (v := 2) hx hb dL_law_506 (by decide) ?_
  refine lv_iadd hx hb dL_law_507 ?_
  refine va_sld hx hb hX hbl hbA hS (pr_ix 2 hi hL (by omega)) dL_law_508 ?_
  refine pr_calli hS (pr_runV (As := [.int (xs ((nI i) + (1 : Int32)).toNatClampNeg), .int (xs ((nI i) + (2 : Int32)).toNatClampNeg)]) (rest := [.int r1]) C hR pr_l9 (by omega) rfl (c_X9_pay h) gw_RL_63 rfl rfl hd_X9_pay ⟨(Nat.le_of_ble_eq_true rfl), (Nat.le_of_ble_eq_true rfl)⟩ rfl hl.1 rfl (Nat.le_of_ble_eq_true rfl) dL_law_509 ⟨by have := hc.1; omega, by have := hc.2; omega⟩) (fun r2 σ2 H locs h hR hS => ?_)
  refine lv_icmp_eq (tgt := 906) hx hb dL_law_512 (by decide) (fun _ => ?_) (fun c9 => absurd h.1 c9)
  refine W.widen (k := cells + 7) (n := slots + 40) (by omega) (by omega) ?_
  exact kk _ _ _ _ _ h.2 hR hS hl
def pr_fact_planned (Inv : (Nat → Nat) → pr_Sg → Prop) : Prop := ∀ (g : Nat → Nat) (σ : pr_Sg) (a1 a2 : Int32), Inv g σ → wp_X8_planned g σ a1 a2 (fun r σ1 => wp_X9_planned g σ1 a1 a2 (fun r2 σ2 => r = r2 ∧ Inv g σ2))
set_option maxHeartbeats 4000000 in
set_option maxRecDepth 100000 in
theorem lc_planned {p : Program} {l : Launch} {e : Env} {s : State} {m : MethodId} {b L : Nat} {xs : Nat → Int32} {below : List Frame} {meth : Method} {c : Code} {D : va_G} {cs : Nat → ClassId} {ad : pr_Ad} {g : Nat → Nat} {σ : pr_Sg} {H : Heap} {locs : List Loc} {ls : Array Slot} {cells slots i : Nat} {Qf : State → Prop} {Inv : (Nat → Nat) → pr_Sg → Prop} (P : pr_fact_planned Inv) (C : pr_C RL cL_law 4 (some .boolean) D cs p s m #[Value.ref b] meth c) (hX : va_X b L xs s s.heap) (hbl : b < s.heap.size) (hi : i + 5 ≤ L) (hL : L ≤ 2560) (hc : cells + 7 ≤ room_1.cells ∧ slots + 40 ≤ room_1.slots) (hI : Inv g σ) (hR : pr_R D cs (fun q : Nat => s.heap.size ≤ q) ad g σ H) (hS : va_S (fun q : Nat => s.heap.size ≤ q) s.heap H locs) (hl : lv_has ls 4 [(0, .ref b), (1, .ref (ad 8 0 0)), (2, .ref (ad 9 0 0)), (3, .int (nI i))])
    (kk : ∀ (ad' : pr_Ad) (g' : Nat → Nat) (u : pr_Sg) (H1 : Heap) (locs1 : List Loc), Inv g' u → pr_R D cs (fun q : Nat => s.heap.size ≤ q) ad' g' u H1 → va_S (fun q : Nat => s.heap.size ≤ q) s.heap H1 locs1 → lv_has ls 4 [(0, .ref b), (1, .ref (ad' 8 0 0)), (2, .ref (ad' 9 0 0)), (3, .int (nI i))] → W p l e room_1 s m #[Value.ref b] below meth c H1 locs1 (cells + 7) (slots + 40) Qf (F0 m 906 ls [])) : W p l e room_1 s m #[Value.ref b] below meth c H locs cells slots Qf (F0 m 517 ls []) := by
  obtain ⟨hx, hb, hml, hown, hts, hK, hr, hlocks⟩ := id C
  have hbA : ¬ (fun q : Nat => s.heap.size ≤ q) b := Nat.not_le.mpr hbl
  have hup : ∀ x y : Nat, (fun q : Nat => s.heap.size ≤ q) x → x ≤ y → (fun q : Nat => s.heap.size ≤ q) y := fun x y h1 h2 => Nat.le_trans h1 h2
  have h := P g σ (xs ((nI i) + (1 : Int32)).toNatClampNeg) (xs ((nI i) + (2 : Int32)).toNatClampNeg) hI
  refine lv_aload_n hx hb dL_law_517 rfl (lv_at hl 1 rfl) ?_
  refine lv_aload_n hx hb dL_law_518 rfl (lv_at hl 0 rfl) ?_
  refine lv_iload_n hx hb dL_law_519 rfl (lv_at hl 3 rfl) ?_
  refine lv_iconst (v := 1) hx hb dL_law_520 (by decide) ?_
  refine lv_iadd hx hb dL_law_521 ?_
  refine va_sld hx hb hX hbl hbA hS (pr_ix 1 hi hL (by omega)) dL_law_522 ?_
  refine lv_aload_n hx hb dL_law_523 rfl (lv_at hl 0 rfl) ?_
  refine lv_iload_n hx hb dL_law_524 rfl (lv_at hl 3 rfl) ?_
  refine lv_iconst (v := 2) hx hb dL_law_525 (by decide) ?_
  refine lv_iadd hx hb dL_law_526 ?_
  refine va_sld hx hb hX hbl hbA hS (pr_ix 2 hi hL (by omega)) dL_law_527 ?_
  refine pr_calli hS (pr_runV (As := [.int (xs ((nI i) + (1 : Int32)).toNatClampNeg), .int (xs ((nI i) + (2 : Int32)).toNatClampNeg)]) (rest := []) C hR pr_l8 (by omega) rfl (c_X8_planned h) gw_RL_64 rfl rfl hd_X8_planned ⟨(Nat.le_of_ble_eq_true rfl), (Nat.le_of_ble_eq_true rfl)⟩ rfl hl.1 rfl (Nat.le_of_ble_eq_true rfl) dL_law_528 ⟨by have := hc.1; omega, by have := hc.2; omega⟩) (fun r1 σ1 H locs h hR hS => ?_)
  refine lv_aload_n hx hb dL_law_531 rfl (lv_at hl 2 rfl) ?_
  refine lv_aload_n hx hb dL_law_532 rfl (lv_at hl 0 rfl) ?_
  refine lv_iload_n hx hb dL_law_533 rfl (lv_at hl 3 rfl) ?_
  refine lv_iconst (v := 1) hx hb dL_law_534 (by decide) ?_
  refine lv_iadd hx hb dL_law_535 ?_
  refine va_sld hx hb hX hbl hbA hS (pr_ix 1 hi hL (by omega)) dL_law_536 ?_
  refine lv_aload_n hx hb dL_law_537 rfl (lv_at hl 0 rfl) ?_
  refine lv_iload_n hx hb dL_law_538 rfl (lv_at hl 3 rfl) ?_
  refine lv_iconst (v := 2) hx hb dL_law_539 (by decide) ?_
  refine lv_iadd hx hb dL_law_540 ?_
  refine va_sld hx hb hX hbl hbA hS (pr_ix 2 hi hL (by omega)) dL_law_541 ?_
  refine pr_calli hS (pr_runV (As := [.int (xs ((nI i) + (1 : Int32)).toNatClampNeg), .int (xs ((nI i) + (2 : Int32)).toNatClampNeg)]) (rest := [.int r1]) C hR pr_l9 (by omega) rfl (c_X9_planned h) gw_RL_67 rfl rfl hd_X9_planned ⟨(Nat.le_of_ble_eq_true rfl), (Nat.le_of_ble_eq_true rfl)⟩ rfl hl.1 rfl (Nat.le_of_ble_eq_true rfl) dL_law_542 ⟨by have := hc.1; omega, by have := hc.2; omega⟩) (fun r2 σ2 H locs h hR hS => ?_)
  refine lv_icmp_eq (tgt := 906) hx hb dL_law_545 (by decide) (fun _ => ?_) (fun c9 => absurd h.1 c9)
  refine W.widen (k := cells + 7) (n := slots + 40) (by omega) (by omega) ?_
  exact kk _ _ _ _ _ h.2 hR hS hl
def pr_fact_worth (Inv : (Nat → Nat) → pr_Sg → Prop) : Prop := ∀ (g : Nat → Nat) (σ : pr_Sg) (a1 : Int32), Inv g σ → wp_X8_worth g σ a1 (fun r σ1 => wp_X9_worth g σ1 a1 (fun r2 σ2 => r = r2 ∧ Inv g σ2))
set_option maxHeartbeats 4000000 in
set_option maxRecDepth 100000 in
theorem lc_worth {p : Program} {l : Launch} {e : Env} {s : State} {m : MethodId} {b L : Nat} {xs : Nat → Int32} {below : List Frame} {meth : Method} {c : Code} {D : va_G} {cs : Nat → ClassId} {ad : pr_Ad} {g : Nat → Nat} {σ : pr_Sg} {H : Heap} {locs : List Loc} {ls : Array Slot} {cells slots i : Nat} {Qf : State → Prop} {Inv : (Nat → Nat) → pr_Sg → Prop} (P : pr_fact_worth Inv) (C : pr_C RL cL_law 4 (some .boolean) D cs p s m #[Value.ref b] meth c) (hX : va_X b L xs s s.heap) (hbl : b < s.heap.size) (hi : i + 5 ≤ L) (hL : L ≤ 2560) (hc : cells + 7 ≤ room_1.cells ∧ slots + 40 ≤ room_1.slots) (hI : Inv g σ) (hR : pr_R D cs (fun q : Nat => s.heap.size ≤ q) ad g σ H) (hS : va_S (fun q : Nat => s.heap.size ≤ q) s.heap H locs) (hl : lv_has ls 4 [(0, .ref b), (1, .ref (ad 8 0 0)), (2, .ref (ad 9 0 0)), (3, .int (nI i))])
    (kk : ∀ (ad' : pr_Ad) (g' : Nat → Nat) (u : pr_Sg) (H1 : Heap) (locs1 : List Loc), Inv g' u → pr_R D cs (fun q : Nat => s.heap.size ≤ q) ad' g' u H1 → va_S (fun q : Nat => s.heap.size ≤ q) s.heap H1 locs1 → lv_has ls 4 [(0, .ref b), (1, .ref (ad' 8 0 0)), (2, .ref (ad' 9 0 0)), (3, .int (nI i))] → W p l e room_1 s m #[Value.ref b] below meth c H1 locs1 (cells + 7) (slots + 40) Qf (F0 m 906 ls [])) : W p l e room_1 s m #[Value.ref b] below meth c H locs cells slots Qf (F0 m 550 ls []) := by
  obtain ⟨hx, hb, hml, hown, hts, hK, hr, hlocks⟩ := id C
  have hbA : ¬ (fun q : Nat => s.heap.size ≤ q) b := Nat.not_le.mpr hbl
  have hup : ∀ x y : Nat, (fun q : Nat => s.heap.size ≤ q) x → x ≤ y → (fun q : Nat => s.heap.size ≤ q) y := fun x y h1 h2 => Nat.le_trans h1 h2
  have h := P g σ (xs ((nI i) + (1 : Int32)).toNatClampNeg) hI
  refine lv_aload_n hx hb dL_law_550 rfl (lv_at hl 1 rfl) ?_
  refine lv_aload_n hx hb dL_law_551 rfl (lv_at hl 0 rfl) ?_
  refine lv_iload_n hx hb dL_law_552 rfl (lv_at hl 3 rfl) ?_
  refine lv_iconst (v := 1) hx hb dL_law_553 (by decide) ?_
  refine lv_iadd hx hb dL_law_554 ?_
  refine va_sld hx hb hX hbl hbA hS (pr_ix 1 hi hL (by omega)) dL_law_555 ?_
  refine pr_calli hS (pr_runV (As := [.int (xs ((nI i) + (1 : Int32)).toNatClampNeg)]) (rest := []) C hR pr_l8 (by omega) rfl (c_X8_worth h) gw_RL_68 rfl rfl hd_X8_worth ⟨(Nat.le_of_ble_eq_true rfl), (Nat.le_of_ble_eq_true rfl)⟩ rfl hl.1 rfl (Nat.le_of_ble_eq_true rfl) dL_law_556 ⟨by have := hc.1; omega, by have := hc.2; omega⟩) (fun r1 σ1 H locs h hR hS => ?_)
  refine lv_aload_n hx hb dL_law_559 rfl (lv_at hl 2 rfl) ?_
  refine lv_aload_n hx hb dL_law_560 rfl (lv_at hl 0 rfl) ?_
  refine lv_iload_n hx hb dL_law_561 rfl (lv_at hl 3 rfl) ?_
  refine lv_iconst (v := 1) hx hb dL_law_562 (by decide) ?_
  refine lv_iadd hx hb dL_law_563 ?_
  refine va_sld hx hb hX hbl hbA hS (pr_ix 1 hi hL (by omega)) dL_law_564 ?_
  refine pr_calli hS (pr_runV (As := [.int (xs ((nI i) + (1 : Int32)).toNatClampNeg)]) (rest := [.int r1]) C hR pr_l9 (by omega) rfl (c_X9_worth h) gw_RL_71 rfl rfl hd_X9_worth ⟨(Nat.le_of_ble_eq_true rfl), (Nat.le_of_ble_eq_true rfl)⟩ rfl hl.1 rfl (Nat.le_of_ble_eq_true rfl) dL_law_565 ⟨by have := hc.1; omega, by have := hc.2; omega⟩) (fun r2 σ2 H locs h hR hS => ?_)
  refine lv_icmp_eq (tgt := 906) hx hb dL_law_568 (by decide) (fun _ => ?_) (fun c9 => absurd h.1 c9)
  refine W.widen (k := cells + 7) (n := slots + 40) (by omega) (by omega) ?_
  exact kk _ _ _ _ _ h.2 hR hS hl
def pr_fact_trace (Inv : (Nat → Nat) → pr_Sg → Prop) : Prop := ∀ (g : Nat → Nat) (σ : pr_Sg) (a1 a2 : Int32), Inv g σ → wp_X8_trace g σ a1 a2 (fun r σ1 => wp_X9_trace g σ1 a1 a2 (fun r2 σ2 => r = r2 ∧ Inv g σ2))
set_option maxHeartbeats 4000000 in
set_option maxRecDepth 100000 in
theorem lc_trace {p : Program} {l : Launch} {e : Env} {s : State} {m : MethodId} {b L : Nat} {xs : Nat → Int32} {below : List Frame} {meth : Method} {c : Code} {D : va_G} {cs : Nat → ClassId} {ad : pr_Ad} {g : Nat → Nat} {σ : pr_Sg} {H : Heap} {locs : List Loc} {ls : Array Slot} {cells slots i : Nat} {Qf : State → Prop} {Inv : (Nat → Nat) → pr_Sg → Prop} (P : pr_fact_trace Inv) (C : pr_C RL cL_law 4 (some .boolean) D cs p s m #[Value.ref b] meth c) (hX : va_X b L xs s s.heap) (hbl : b < s.heap.size) (hi : i + 5 ≤ L) (hL : L ≤ 2560) (hc : cells + 7 ≤ room_1.cells ∧ slots + 40 ≤ room_1.slots) (hI : Inv g σ) (hR : pr_R D cs (fun q : Nat => s.heap.size ≤ q) ad g σ H) (hS : va_S (fun q : Nat => s.heap.size ≤ q) s.heap H locs) (hl : lv_has ls 4 [(0, .ref b), (1, .ref (ad 8 0 0)), (2, .ref (ad 9 0 0)), (3, .int (nI i))])
    (kk : ∀ (ad' : pr_Ad) (g' : Nat → Nat) (u : pr_Sg) (H1 : Heap) (locs1 : List Loc), Inv g' u → pr_R D cs (fun q : Nat => s.heap.size ≤ q) ad' g' u H1 → va_S (fun q : Nat => s.heap.size ≤ q) s.heap H1 locs1 → lv_has ls 4 [(0, .ref b), (1, .ref (ad' 8 0 0)), (2, .ref (ad' 9 0 0)), (3, .int (nI i))] → W p l e room_1 s m #[Value.ref b] below meth c H1 locs1 (cells + 7) (slots + 40) Qf (F0 m 906 ls [])) : W p l e room_1 s m #[Value.ref b] below meth c H locs cells slots Qf (F0 m 573 ls []) := by
  obtain ⟨hx, hb, hml, hown, hts, hK, hr, hlocks⟩ := id C
  have hbA : ¬ (fun q : Nat => s.heap.size ≤ q) b := Nat.not_le.mpr hbl
  have hup : ∀ x y : Nat, (fun q : Nat => s.heap.size ≤ q) x → x ≤ y → (fun q : Nat => s.heap.size ≤ q) y := fun x y h1 h2 => Nat.le_trans h1 h2
  have h := P g σ (xs ((nI i) + (1 : Int32)).toNatClampNeg) (xs ((nI i) + (2 : Int32)).toNatClampNeg) hI
  refine lv_aload_n hx hb dL_law_573 rfl (lv_at hl 1 rfl) ?_
  refine lv_aload_n hx hb dL_law_574 rfl (lv_at hl 0 rfl) ?_
  refine lv_iload_n hx hb dL_law_575 rfl (lv_at hl 3 rfl) ?_
  refine lv_iconst (v := 1) hx hb dL_law_576 (by decide) ?_
  refine lv_iadd hx hb dL_law_577 ?_
  refine va_sld hx hb hX hbl hbA hS (pr_ix 1 hi hL (by omega)) dL_law_578 ?_
  refine lv_aload_n hx hb dL_law_579 rfl (lv_at hl 0 rfl) ?_
  refine lv_iload_n hx hb dL_law_580 rfl (lv_at hl 3 rfl) ?_
  refine lv_iconst (v := 2) hx hb dL_law_581 (by decide) ?_
  refine lv_iadd hx hb dL_law_582 ?_
  refine va_sld hx hb hX hbl hbA hS (pr_ix 2 hi hL (by omega)) dL_law_583 ?_
  refine pr_calli hS (pr_runV (As := [.int (xs ((nI i) + (1 : Int32)).toNatClampNeg), .int (xs ((nI i) + (2 : Int32)).toNatClampNeg)]) (rest := []) C hR pr_l8 (by omega) rfl (c_X8_trace h) gw_RL_72 rfl rfl hd_X8_trace ⟨(Nat.le_of_ble_eq_true rfl), (Nat.le_of_ble_eq_true rfl)⟩ rfl hl.1 rfl (Nat.le_of_ble_eq_true rfl) dL_law_584 ⟨by have := hc.1; omega, by have := hc.2; omega⟩) (fun r1 σ1 H locs h hR hS => ?_)
  obtain ⟨-, h⟩ := h
  refine lv_aload_n hx hb dL_law_587 rfl (lv_at hl 2 rfl) ?_
  refine lv_aload_n hx hb dL_law_588 rfl (lv_at hl 0 rfl) ?_
  refine lv_iload_n hx hb dL_law_589 rfl (lv_at hl 3 rfl) ?_
  refine lv_iconst (v := 1) hx hb dL_law_590 (by decide) ?_
  refine lv_iadd hx hb dL_law_591 ?_
  refine va_sld hx hb hX hbl hbA hS (pr_ix 1 hi hL (by omega)) dL_law_592 ?_
  refine lv_aload_n hx hb dL_law_593 rfl (lv_at hl 0 rfl) ?_
  refine lv_iload_n hx hb dL_law_594 rfl (lv_at hl 3 rfl) ?_
  refine lv_iconst (v := 2) hx hb dL_law_595 (by decide) ?_
  refine lv_iadd hx hb dL_law_596 ?_
  refine va_sld hx hb hX hbl hbA hS (pr_ix 2 hi hL (by omega)) dL_law_597 ?_
  refine pr_calli hS (pr_runV (As := [.int (xs ((nI i) + (1 : Int32)).toNatClampNeg), .int (xs ((nI i) + (2 : Int32)).toNatClampNeg)]) (rest := [.int r1]) C hR pr_l9 (by omega) rfl (c_X9_trace h) gw_RL_75 rfl rfl hd_X9_trace ⟨(Nat.le_of_ble_eq_true rfl), (Nat.le_of_ble_eq_true rfl)⟩ rfl hl.1 rfl (Nat.le_of_ble_eq_true rfl) dL_law_598 ⟨by have := hc.1; omega, by have := hc.2; omega⟩) (fun r2 σ2 H locs h hR hS => ?_)
  obtain ⟨-, h⟩ := h
  refine lv_icmp_eq (tgt := 906) hx hb dL_law_601 (by decide) (fun _ => ?_) (fun c9 => absurd h.1 c9)
  refine W.widen (k := cells + 7) (n := slots + 40) (by omega) (by omega) ?_
  exact kk _ _ _ _ _ h.2 hR hS hl
def pr_fact_from (Inv : (Nat → Nat) → pr_Sg → Prop) : Prop := ∀ (g : Nat → Nat) (σ : pr_Sg) (a1 : Int32), Inv g σ → wp_X8_from g σ a1 (fun r σ1 => wp_X9_from g σ1 a1 (fun r2 σ2 => r = r2 ∧ Inv g σ2))
set_option maxHeartbeats 4000000 in
set_option maxRecDepth 100000 in
theorem lc_from {p : Program} {l : Launch} {e : Env} {s : State} {m : MethodId} {b L : Nat} {xs : Nat → Int32} {below : List Frame} {meth : Method} {c : Code} {D : va_G} {cs : Nat → ClassId} {ad : pr_Ad} {g : Nat → Nat} {σ : pr_Sg} {H : Heap} {locs : List Loc} {ls : Array Slot} {cells slots i : Nat} {Qf : State → Prop} {Inv : (Nat → Nat) → pr_Sg → Prop} (P : pr_fact_from Inv) (C : pr_C RL cL_law 4 (some .boolean) D cs p s m #[Value.ref b] meth c) (hX : va_X b L xs s s.heap) (hbl : b < s.heap.size) (hi : i + 5 ≤ L) (hL : L ≤ 2560) (hc : cells + 7 ≤ room_1.cells ∧ slots + 40 ≤ room_1.slots) (hI : Inv g σ) (hR : pr_R D cs (fun q : Nat => s.heap.size ≤ q) ad g σ H) (hS : va_S (fun q : Nat => s.heap.size ≤ q) s.heap H locs) (hl : lv_has ls 4 [(0, .ref b), (1, .ref (ad 8 0 0)), (2, .ref (ad 9 0 0)), (3, .int (nI i))])
    (kk : ∀ (ad' : pr_Ad) (g' : Nat → Nat) (u : pr_Sg) (H1 : Heap) (locs1 : List Loc), Inv g' u → pr_R D cs (fun q : Nat => s.heap.size ≤ q) ad' g' u H1 → va_S (fun q : Nat => s.heap.size ≤ q) s.heap H1 locs1 → lv_has ls 4 [(0, .ref b), (1, .ref (ad' 8 0 0)), (2, .ref (ad' 9 0 0)), (3, .int (nI i))] → W p l e room_1 s m #[Value.ref b] below meth c H1 locs1 (cells + 7) (slots + 40) Qf (F0 m 906 ls [])) : W p l e room_1 s m #[Value.ref b] below meth c H locs cells slots Qf (F0 m 606 ls []) := by
  obtain ⟨hx, hb, hml, hown, hts, hK, hr, hlocks⟩ := id C
  have hbA : ¬ (fun q : Nat => s.heap.size ≤ q) b := Nat.not_le.mpr hbl
  have hup : ∀ x y : Nat, (fun q : Nat => s.heap.size ≤ q) x → x ≤ y → (fun q : Nat => s.heap.size ≤ q) y := fun x y h1 h2 => Nat.le_trans h1 h2
  have h := P g σ (xs ((nI i) + (1 : Int32)).toNatClampNeg) hI
  refine lv_aload_n hx hb dL_law_606 rfl (lv_at hl 1 rfl) ?_
  refine lv_aload_n hx hb dL_law_607 rfl (lv_at hl 0 rfl) ?_
  refine lv_iload_n hx hb dL_law_608 rfl (lv_at hl 3 rfl) ?_
  refine lv_iconst (v := 1) hx hb dL_law_609 (by decide) ?_
  refine lv_iadd hx hb dL_law_610 ?_
  refine va_sld hx hb hX hbl hbA hS (pr_ix 1 hi hL (by omega)) dL_law_611 ?_
  refine pr_calli hS (pr_runV (As := [.int (xs ((nI i) + (1 : Int32)).toNatClampNeg)]) (rest := []) C hR pr_l8 (by omega) rfl (c_X8_from h) gw_RL_76 rfl rfl hd_X8_from ⟨(Nat.le_of_ble_eq_true rfl), (Nat.le_of_ble_eq_true rfl)⟩ rfl hl.1 rfl (Nat.le_of_ble_eq_true rfl) dL_law_612 ⟨by have := hc.1; omega, by have := hc.2; omega⟩) (fun r1 σ1 H locs h hR hS => ?_)
  refine lv_aload_n hx hb dL_law_615 rfl (lv_at hl 2 rfl) ?_
  refine lv_aload_n hx hb dL_law_616 rfl (lv_at hl 0 rfl) ?_
  refine lv_iload_n hx hb dL_law_617 rfl (lv_at hl 3 rfl) ?_
  refine lv_iconst (v := 1) hx hb dL_law_618 (by decide) ?_
  refine lv_iadd hx hb dL_law_619 ?_
  refine va_sld hx hb hX hbl hbA hS (pr_ix 1 hi hL (by omega)) dL_law_620 ?_
  refine pr_calli hS (pr_runV (As := [.int (xs ((nI i) + (1 : Int32)).toNatClampNeg)]) (rest := [.int r1]) C hR pr_l9 (by omega) rfl (c_X9_from h) gw_RL_79 rfl rfl hd_X9_from ⟨(Nat.le_of_ble_eq_true rfl), (Nat.le_of_ble_eq_true rfl)⟩ rfl hl.1 rfl (Nat.le_of_ble_eq_true rfl) dL_law_621 ⟨by have := hc.1; omega, by have := hc.2; omega⟩) (fun r2 σ2 H locs h hR hS => ?_)
  refine lv_icmp_eq (tgt := 906) hx hb dL_law_624 (by decide) (fun _ => ?_) (fun c9 => absurd h.1 c9)
  refine W.widen (k := cells + 7) (n := slots + 40) (by omega) (by omega) ?_
  exact kk _ _ _ _ _ h.2 hR hS hl
def pr_fact_doubt (Inv : (Nat → Nat) → pr_Sg → Prop) : Prop := ∀ (g : Nat → Nat) (σ : pr_Sg) (a1 : Int32), Inv g σ → wp_X8_doubt g σ a1 (fun r σ1 => wp_X9_doubt g σ1 a1 (fun r2 σ2 => r = r2 ∧ Inv g σ2))
set_option maxHeartbeats 4000000 in
set_option maxRecDepth 100000 in
theorem lc_doubt {p : Program} {l : Launch} {e : Env} {s : State} {m : MethodId} {b L : Nat} {xs : Nat → Int32} {below : List Frame} {meth : Method} {c : Code} {D : va_G} {cs : Nat → ClassId} {ad : pr_Ad} {g : Nat → Nat} {σ : pr_Sg} {H : Heap} {locs : List Loc} {ls : Array Slot} {cells slots i : Nat} {Qf : State → Prop} {Inv : (Nat → Nat) → pr_Sg → Prop} (P : pr_fact_doubt Inv) (C : pr_C RL cL_law 4 (some .boolean) D cs p s m #[Value.ref b] meth c) (hX : va_X b L xs s s.heap) (hbl : b < s.heap.size) (hi : i + 5 ≤ L) (hL : L ≤ 2560) (hc : cells + 7 ≤ room_1.cells ∧ slots + 40 ≤ room_1.slots) (hI : Inv g σ) (hR : pr_R D cs (fun q : Nat => s.heap.size ≤ q) ad g σ H) (hS : va_S (fun q : Nat => s.heap.size ≤ q) s.heap H locs) (hl : lv_has ls 4 [(0, .ref b), (1, .ref (ad 8 0 0)), (2, .ref (ad 9 0 0)), (3, .int (nI i))])
    (kk : ∀ (ad' : pr_Ad) (g' : Nat → Nat) (u : pr_Sg) (H1 : Heap) (locs1 : List Loc), Inv g' u → pr_R D cs (fun q : Nat => s.heap.size ≤ q) ad' g' u H1 → va_S (fun q : Nat => s.heap.size ≤ q) s.heap H1 locs1 → lv_has ls 4 [(0, .ref b), (1, .ref (ad' 8 0 0)), (2, .ref (ad' 9 0 0)), (3, .int (nI i))] → W p l e room_1 s m #[Value.ref b] below meth c H1 locs1 (cells + 7) (slots + 40) Qf (F0 m 906 ls [])) : W p l e room_1 s m #[Value.ref b] below meth c H locs cells slots Qf (F0 m 629 ls []) := by
  obtain ⟨hx, hb, hml, hown, hts, hK, hr, hlocks⟩ := id C
  have hbA : ¬ (fun q : Nat => s.heap.size ≤ q) b := Nat.not_le.mpr hbl
  have hup : ∀ x y : Nat, (fun q : Nat => s.heap.size ≤ q) x → x ≤ y → (fun q : Nat => s.heap.size ≤ q) y := fun x y h1 h2 => Nat.le_trans h1 h2
  have h := P g σ (xs ((nI i) + (1 : Int32)).toNatClampNeg) hI
  refine lv_aload_n hx hb dL_law_629 rfl (lv_at hl 1 rfl) ?_
  refine lv_aload_n hx hb dL_law_630 rfl (lv_at hl 0 rfl) ?_
  refine lv_iload_n hx hb dL_law_631 rfl (lv_at hl 3 rfl) ?_
  refine lv_iconst (v := 1) hx hb dL_law_632 (by decide) ?_
  refine lv_iadd hx hb dL_law_633 ?_
  refine va_sld hx hb hX hbl hbA hS (pr_ix 1 hi hL (by omega)) dL_law_634 ?_
  refine pr_calli hS (pr_runV (As := [.int (xs ((nI i) + (1 : Int32)).toNatClampNeg)]) (rest := []) C hR pr_l8 (by omega) rfl (c_X8_doubt h) gw_RL_80 rfl rfl hd_X8_doubt ⟨(Nat.le_of_ble_eq_true rfl), (Nat.le_of_ble_eq_true rfl)⟩ rfl hl.1 rfl (Nat.le_of_ble_eq_true rfl) dL_law_635 ⟨by have := hc.1; omega, by have := hc.2; omega⟩) (fun r1 σ1 H locs h hR hS => ?_)
  obtain ⟨-, h⟩ := h
  refine lv_aload_n hx hb dL_law_638 rfl (lv_at hl 2 rfl) ?_
  refine lv_aload_n hx hb dL_law_639 rfl (lv_at hl 0 rfl) ?_
  refine lv_iload_n hx hb dL_law_640 rfl (lv_at hl 3 rfl) ?_
  refine lv_iconst (v := 1) hx hb dL_law_641 (by decide) ?_
  refine lv_iadd hx hb dL_law_642 ?_
  refine va_sld hx hb hX hbl hbA hS (pr_ix 1 hi hL (by omega)) dL_law_643 ?_
  refine pr_calli hS (pr_runV (As := [.int (xs ((nI i) + (1 : Int32)).toNatClampNeg)]) (rest := [.int r1]) C hR pr_l9 (by omega) rfl (c_X9_doubt h) gw_RL_84 rfl rfl hd_X9_doubt ⟨(Nat.le_of_ble_eq_true rfl), (Nat.le_of_ble_eq_true rfl)⟩ rfl hl.1 rfl (Nat.le_of_ble_eq_true rfl) dL_law_644 ⟨by have := hc.1; omega, by have := hc.2; omega⟩) (fun r2 σ2 H locs h hR hS => ?_)
  obtain ⟨-, h⟩ := h
  refine lv_icmp_eq (tgt := 906) hx hb dL_law_647 (by decide) (fun _ => ?_) (fun c9 => absurd h.1 c9)
  refine W.widen (k := cells + 7) (n := slots + 40) (by omega) (by omega) ?_
  exact kk _ _ _ _ _ h.2 hR hS hl
def pr_fact_habit (Inv : (Nat → Nat) → pr_Sg → Prop) : Prop := ∀ (g : Nat → Nat) (σ : pr_Sg) (a1 a2 : Int32), Inv g σ → wp_X8_habit g σ a1 a2 (fun r σ1 => wp_X9_habit g σ1 a1 a2 (fun r2 σ2 => r = r2 ∧ Inv g σ2))
set_option maxHeartbeats 4000000 in
set_option maxRecDepth 100000 in
theorem lc_habit {p : Program} {l : Launch} {e : Env} {s : State} {m : MethodId} {b L : Nat} {xs : Nat → Int32} {below : List Frame} {meth : Method} {c : Code} {D : va_G} {cs : Nat → ClassId} {ad : pr_Ad} {g : Nat → Nat} {σ : pr_Sg} {H : Heap} {locs : List Loc} {ls : Array Slot} {cells slots i : Nat} {Qf : State → Prop} {Inv : (Nat → Nat) → pr_Sg → Prop} (P : pr_fact_habit Inv) (C : pr_C RL cL_law 4 (some .boolean) D cs p s m #[Value.ref b] meth c) (hX : va_X b L xs s s.heap) (hbl : b < s.heap.size) (hi : i + 5 ≤ L) (hL : L ≤ 2560) (hc : cells + 7 ≤ room_1.cells ∧ slots + 40 ≤ room_1.slots) (hI : Inv g σ) (hR : pr_R D cs (fun q : Nat => s.heap.size ≤ q) ad g σ H) (hS : va_S (fun q : Nat => s.heap.size ≤ q) s.heap H locs) (hl : lv_has ls 4 [(0, .ref b), (1, .ref (ad 8 0 0)), (2, .ref (ad 9 0 0)), (3, .int (nI i))])
    (kk : ∀ (ad' : pr_Ad) (g' : Nat → Nat) (u : pr_Sg) (H1 : Heap) (locs1 : List Loc), Inv g' u → pr_R D cs (fun q : Nat => s.heap.size ≤ q) ad' g' u H1 → va_S (fun q : Nat => s.heap.size ≤ q) s.heap H1 locs1 → lv_has ls 4 [(0, .ref b), (1, .ref (ad' 8 0 0)), (2, .ref (ad' 9 0 0)), (3, .int (nI i))] → W p l e room_1 s m #[Value.ref b] below meth c H1 locs1 (cells + 7) (slots + 40) Qf (F0 m 906 ls [])) : W p l e room_1 s m #[Value.ref b] below meth c H locs cells slots Qf (F0 m 652 ls []) := by
  obtain ⟨hx, hb, hml, hown, hts, hK, hr, hlocks⟩ := id C
  have hbA : ¬ (fun q : Nat => s.heap.size ≤ q) b := Nat.not_le.mpr hbl
  have hup : ∀ x y : Nat, (fun q : Nat => s.heap.size ≤ q) x → x ≤ y → (fun q : Nat => s.heap.size ≤ q) y := fun x y h1 h2 => Nat.le_trans h1 h2
  have h := P g σ (xs ((nI i) + (1 : Int32)).toNatClampNeg) (xs ((nI i) + (2 : Int32)).toNatClampNeg) hI
  refine lv_aload_n hx hb dL_law_652 rfl (lv_at hl 1 rfl) ?_
  refine lv_aload_n hx hb dL_law_653 rfl (lv_at hl 0 rfl) ?_
  refine lv_iload_n hx hb dL_law_654 rfl (lv_at hl 3 rfl) ?_
  refine lv_iconst (v := 1) hx hb dL_law_655 (by decide) ?_
  refine lv_iadd hx hb dL_law_656 ?_
  refine va_sld hx hb hX hbl hbA hS (pr_ix 1 hi hL (by omega)) dL_law_657 ?_
  refine lv_aload_n hx hb dL_law_658 rfl (lv_at hl 0 rfl) ?_
  refine lv_iload_n hx hb dL_law_659 rfl (lv_at hl 3 rfl) ?_
  refine lv_iconst (v := 2) hx hb dL_law_660 (by decide) ?_
  refine lv_iadd hx hb dL_law_661 ?_
  refine va_sld hx hb hX hbl hbA hS (pr_ix 2 hi hL (by omega)) dL_law_662 ?_
  refine pr_calli hS (pr_runV (As := [.int (xs ((nI i) + (1 : Int32)).toNatClampNeg), .int (xs ((nI i) + (2 : Int32)).toNatClampNeg)]) (rest := []) C hR pr_l8 (by omega) rfl (c_X8_habit h) gw_RL_85 rfl rfl hd_X8_habit ⟨(Nat.le_of_ble_eq_true rfl), (Nat.le_of_ble_eq_true rfl)⟩ rfl hl.1 rfl (Nat.le_of_ble_eq_true rfl) dL_law_663 ⟨by have := hc.1; omega, by have := hc.2; omega⟩) (fun r1 σ1 H locs h hR hS => ?_)
  obtain ⟨-, h⟩ := h
  refine lv_aload_n hx hb dL_law_666 rfl (lv_at hl 2 rfl) ?_
  refine lv_aload_n hx hb dL_law_667 rfl (lv_at hl 0 rfl) ?_
  refine lv_iload_n hx hb dL_law_668 rfl (lv_at hl 3 rfl) ?_
  refine lv_iconst (v := 1) hx hb dL_law_669 (by decide) ?_
  refine lv_iadd hx hb dL_law_670 ?_
  refine va_sld hx hb hX hbl hbA hS (pr_ix 1 hi hL (by omega)) dL_law_671 ?_
  refine lv_aload_n hx hb dL_law_672 rfl (lv_at hl 0 rfl) ?_
  refine lv_iload_n hx hb dL_law_673 rfl (lv_at hl 3 rfl) ?_
  refine lv_iconst (v := 2) hx hb dL_law_674 (by decide) ?_
  refine lv_iadd hx hb dL_law_675 ?_
  refine va_sld hx hb hX hbl hbA hS (pr_ix 2 hi hL (by omega)) dL_law_676 ?_
  refine pr_calli hS (pr_runV (As := [.int (xs ((nI i) + (1 : Int32)).toNatClampNeg), .int (xs ((nI i) + (2 : Int32)).toNatClampNeg)]) (rest := [.int r1]) C hR pr_l9 (by omega) rfl (c_X9_habit h) gw_RL_88 rfl rfl hd_X9_habit ⟨(Nat.le_of_ble_eq_true rfl), (Nat.le_of_ble_eq_true rfl)⟩ rfl hl.1 rfl (Nat.le_of_ble_eq_true rfl) dL_law_677 ⟨by have := hc.1; omega, by have := hc.2; omega⟩) (fun r2 σ2 H locs h hR hS => ?_)
  obtain ⟨-, h⟩ := h
  refine lv_icmp_eq (tgt := 906) hx hb dL_law_680 (by decide) (fun _ => ?_) (fun c9 => absurd h.1 c9)
  refine W.widen (k := cells + 7) (n := slots + 40) (by omega) (by omega) ?_
  exact kk _ _ _ _ _ h.2 hR hS hl
def pr_fact_margin (Inv : (Nat → Nat) → pr_Sg → Prop) : Prop := ∀ (g : Nat → Nat) (σ : pr_Sg) (a1 : Int32), Inv g σ → wp_X8_margin g σ a1 (fun r σ1 => wp_X9_margin g σ1 a1 (fun r2 σ2 => r = r2 ∧ Inv g σ2))
set_option maxHeartbeats 4000000 in
set_option maxRecDepth 100000 in
theorem lc_margin {p : Program} {l : Launch} {e : Env} {s : State} {m : MethodId} {b L : Nat} {xs : Nat → Int32} {below : List Frame} {meth : Method} {c : Code} {D : va_G} {cs : Nat → ClassId} {ad : pr_Ad} {g : Nat → Nat} {σ : pr_Sg} {H : Heap} {locs : List Loc} {ls : Array Slot} {cells slots i : Nat} {Qf : State → Prop} {Inv : (Nat → Nat) → pr_Sg → Prop} (P : pr_fact_margin Inv) (C : pr_C RL cL_law 4 (some .boolean) D cs p s m #[Value.ref b] meth c) (hX : va_X b L xs s s.heap) (hbl : b < s.heap.size) (hi : i + 5 ≤ L) (hL : L ≤ 2560) (hc : cells + 7 ≤ room_1.cells ∧ slots + 40 ≤ room_1.slots) (hI : Inv g σ) (hR : pr_R D cs (fun q : Nat => s.heap.size ≤ q) ad g σ H) (hS : va_S (fun q : Nat => s.heap.size ≤ q) s.heap H locs) (hl : lv_has ls 4 [(0, .ref b), (1, .ref (ad 8 0 0)), (2, .ref (ad 9 0 0)), (3, .int (nI i))])
    (kk : ∀ (ad' : pr_Ad) (g' : Nat → Nat) (u : pr_Sg) (H1 : Heap) (locs1 : List Loc), Inv g' u → pr_R D cs (fun q : Nat => s.heap.size ≤ q) ad' g' u H1 → va_S (fun q : Nat => s.heap.size ≤ q) s.heap H1 locs1 → lv_has ls 4 [(0, .ref b), (1, .ref (ad' 8 0 0)), (2, .ref (ad' 9 0 0)), (3, .int (nI i))] → W p l e room_1 s m #[Value.ref b] below meth c H1 locs1 (cells + 7) (slots + 40) Qf (F0 m 906 ls [])) : W p l e room_1 s m #[Value.ref b] below meth c H locs cells slots Qf (F0 m 685 ls []) := by
  obtain ⟨hx, hb, hml, hown, hts, hK, hr, hlocks⟩ := id C
  have hbA : ¬ (fun q : Nat => s.heap.size ≤ q) b := Nat.not_le.mpr hbl
  have hup : ∀ x y : Nat, (fun q : Nat => s.heap.size ≤ q) x → x ≤ y → (fun q : Nat => s.heap.size ≤ q) y := fun x y h1 h2 => Nat.le_trans h1 h2
  have h := P g σ (xs ((nI i) + (1 : Int32)).toNatClampNeg) hI
  refine lv_aload_n hx hb dL_law_685 rfl (lv_at hl 1 rfl) ?_
  refine lv_aload_n hx hb dL_law_686 rfl (lv_at hl 0 rfl) ?_
  refine lv_iload_n hx hb dL_law_687 rfl (lv_at hl 3 rfl) ?_
  refine lv_iconst (v := 1) hx hb dL_law_688 (by decide) ?_
  refine lv_iadd hx hb dL_law_689 ?_
  refine va_sld hx hb hX hbl hbA hS (pr_ix 1 hi hL (by omega)) dL_law_690 ?_
  refine pr_calli hS (pr_runV (As := [.int (xs ((nI i) + (1 : Int32)).toNatClampNeg)]) (rest := []) C hR pr_l8 (by omega) rfl (c_X8_margin h) gw_RL_89 rfl rfl hd_X8_margin ⟨(Nat.le_of_ble_eq_true rfl), (Nat.le_of_ble_eq_true rfl)⟩ rfl hl.1 rfl (Nat.le_of_ble_eq_true rfl) dL_law_691 ⟨by have := hc.1; omega, by have := hc.2; omega⟩) (fun r1 σ1 H locs h hR hS => ?_)
  obtain ⟨-, h⟩ := h
  refine lv_aload_n hx hb dL_law_694 rfl (lv_at hl 2 rfl) ?_
  refine lv_aload_n hx hb dL_law_695 rfl (lv_at hl 0 rfl) ?_
  refine lv_iload_n hx hb dL_law_696 rfl (lv_at hl 3 rfl) ?_
  refine lv_iconst (v := 1) hx hb dL_law_697 (by decide) ?_
  refine lv_iadd hx hb dL_law_698 ?_
  refine va_sld hx hb hX hbl hbA hS (pr_ix 1 hi hL (by omega)) dL_law_699 ?_
  refine pr_calli hS (pr_runV (As := [.int (xs ((nI i) + (1 : Int32)).toNatClampNeg)]) (rest := [.int r1]) C hR pr_l9 (by omega) rfl (c_X9_margin h) gw_RL_92 rfl rfl hd_X9_margin ⟨(Nat.le_of_ble_eq_true rfl), (Nat.le_of_ble_eq_true rfl)⟩ rfl hl.1 rfl (Nat.le_of_ble_eq_true rfl) dL_law_700 ⟨by have := hc.1; omega, by have := hc.2; omega⟩) (fun r2 σ2 H locs h hR hS => ?_)
  obtain ⟨-, h⟩ := h
  refine lv_icmp_eq (tgt := 906) hx hb dL_law_703 (by decide) (fun _ => ?_) (fun c9 => absurd h.1 c9)
  refine W.widen (k := cells + 7) (n := slots + 40) (by omega) (by omega) ?_
  exact kk _ _ _ _ _ h.2 hR hS hl
def pr_fact_strokes (Inv : (Nat → Nat) → pr_Sg → Prop) : Prop := ∀ (g : Nat → Nat) (σ : pr_Sg) (a1 a2 a3 : Int32), Inv g σ → wp_X8_strokes g σ a1 a2 a3 (fun r σ1 => wp_X9_strokes g σ1 a1 a2 a3 (fun r2 σ2 => r = r2 ∧ Inv g σ2))
set_option maxHeartbeats 4000000 in
set_option maxRecDepth 100000 in
theorem lc_strokes {p : Program} {l : Launch} {e : Env} {s : State} {m : MethodId} {b L : Nat} {xs : Nat → Int32} {below : List Frame} {meth : Method} {c : Code} {D : va_G} {cs : Nat → ClassId} {ad : pr_Ad} {g : Nat → Nat} {σ : pr_Sg} {H : Heap} {locs : List Loc} {ls : Array Slot} {cells slots i : Nat} {Qf : State → Prop} {Inv : (Nat → Nat) → pr_Sg → Prop} (P : pr_fact_strokes Inv) (C : pr_C RL cL_law 4 (some .boolean) D cs p s m #[Value.ref b] meth c) (hX : va_X b L xs s s.heap) (hbl : b < s.heap.size) (hi : i + 5 ≤ L) (hL : L ≤ 2560) (hc : cells + 7 ≤ room_1.cells ∧ slots + 40 ≤ room_1.slots) (hI : Inv g σ) (hR : pr_R D cs (fun q : Nat => s.heap.size ≤ q) ad g σ H) (hS : va_S (fun q : Nat => s.heap.size ≤ q) s.heap H locs) (hl : lv_has ls 4 [(0, .ref b), (1, .ref (ad 8 0 0)), (2, .ref (ad 9 0 0)), (3, .int (nI i))])
    (kk : ∀ (ad' : pr_Ad) (g' : Nat → Nat) (u : pr_Sg) (H1 : Heap) (locs1 : List Loc), Inv g' u → pr_R D cs (fun q : Nat => s.heap.size ≤ q) ad' g' u H1 → va_S (fun q : Nat => s.heap.size ≤ q) s.heap H1 locs1 → lv_has ls 4 [(0, .ref b), (1, .ref (ad' 8 0 0)), (2, .ref (ad' 9 0 0)), (3, .int (nI i))] → W p l e room_1 s m #[Value.ref b] below meth c H1 locs1 (cells + 7) (slots + 40) Qf (F0 m 906 ls [])) : W p l e room_1 s m #[Value.ref b] below meth c H locs cells slots Qf (F0 m 708 ls []) := by
  obtain ⟨hx, hb, hml, hown, hts, hK, hr, hlocks⟩ := id C
  have hbA : ¬ (fun q : Nat => s.heap.size ≤ q) b := Nat.not_le.mpr hbl
  have hup : ∀ x y : Nat, (fun q : Nat => s.heap.size ≤ q) x → x ≤ y → (fun q : Nat => s.heap.size ≤ q) y := fun x y h1 h2 => Nat.le_trans h1 h2
  have h := P g σ (xs ((nI i) + (1 : Int32)).toNatClampNeg) (xs ((nI i) + (2 : Int32)).toNatClampNeg) (xs ((nI i) + (3 : Int32)).toNatClampNeg) hI
  refine lv_aload_n hx hb dL_law_708 rfl (lv_at hl 1 rfl) ?_
  refine lv_aload_n hx hb dL_law_709 rfl (lv_at hl 0 rfl) ?_
  refine lv_iload_n hx hb dL_law_710 rfl (lv_at hl 3 rfl) ?_
  refine lv_iconst (v := 1) hx hb dL_law_711 (by decide) ?_
  refine lv_iadd hx hb dL_law_712 ?_
  refine va_sld hx hb hX hbl hbA hS (pr_ix 1 hi hL (by omega)) dL_law_713 ?_
  refine lv_aload_n hx hb dL_law_714 rfl (lv_at hl 0 rfl) ?_
  refine lv_iload_n hx hb dL_law_715 rfl (lv_at hl 3 rfl) ?_
  refine lv_iconst (v := 2) hx hb dL_law_716 (by decide) ?_
  refine lv_iadd hx hb dL_law_717 ?_
  refine va_sld hx hb hX hbl hbA hS (pr_ix 2 hi hL (by omega)) dL_law_718 ?_
  refine lv_aload_n hx hb dL_law_719 rfl (lv_at hl 0 rfl) ?_
  refine lv_iload_n hx hb dL_law_720 rfl (lv_at hl 3 rfl) ?_
  refine lv_iconst (v := 3) hx hb dL_law_721 (by decide) ?_
  refine lv_iadd hx hb dL_law_722 ?_
  refine va_sld hx hb hX hbl hbA hS (pr_ix 3 hi hL (by omega)) dL_law_723 ?_
  refine pr_calli hS (pr_runV (As := [.int (xs ((nI i) + (1 : Int32)).toNatClampNeg), .int (xs ((nI i) + (2 : Int32)).toNatClampNeg), .int (xs ((nI i) + (3 : Int32)).toNatClampNeg)]) (rest := []) C hR pr_l8 (by omega) rfl (c_X8_strokes h) gw_RL_93 rfl rfl hd_X8_strokes ⟨(Nat.le_of_ble_eq_true rfl), (Nat.le_of_ble_eq_true rfl)⟩ rfl hl.1 rfl (Nat.le_of_ble_eq_true rfl) dL_law_724 ⟨by have := hc.1; omega, by have := hc.2; omega⟩) (fun r1 σ1 H locs h hR hS => ?_)
  obtain ⟨-, h⟩ := h
  refine lv_aload_n hx hb dL_law_727 rfl (lv_at hl 2 rfl) ?_
  refine lv_aload_n hx hb dL_law_728 rfl (lv_at hl 0 rfl) ?_
  refine lv_iload_n hx hb dL_law_729 rfl (lv_at hl 3 rfl) ?_
  refine lv_iconst (v := 1) hx hb dL_law_730 (by decide) ?_
  refine lv_iadd hx hb dL_law_731 ?_
  refine va_sld hx hb hX hbl hbA hS (pr_ix 1 hi hL (by omega)) dL_law_732 ?_
  refine lv_aload_n hx hb dL_law_733 rfl (lv_at hl 0 rfl) ?_
  refine lv_iload_n hx hb dL_law_734 rfl (lv_at hl 3 rfl) ?_
  refine lv_iconst (v := 2) hx hb dL_law_735 (by decide) ?_
  refine lv_iadd hx hb dL_law_736 ?_
  refine va_sld hx hb hX hbl hbA hS (pr_ix 2 hi hL (by omega)) dL_law_737 ?_
  refine lv_aload_n hx hb dL_law_738 rfl (lv_at hl 0 rfl) ?_
  refine lv_iload_n hx hb dL_law_739 rfl (lv_at hl 3 rfl) ?_
  refine lv_iconst (v := 3) hx hb dL_law_740 (by decide) ?_
  refine lv_iadd hx hb dL_law_741 ?_
  refine va_sld hx hb hX hbl hbA hS (pr_ix 3 hi hL (by omega)) dL_law_742 ?_
  refine pr_calli hS (pr_runV (As := [.int (xs ((nI i) + (1 : Int32)).toNatClampNeg), .int (xs ((nI i) + (2 : Int32)).toNatClampNeg), .int (xs ((nI i) + (3 : Int32)).toNatClampNeg)]) (rest := [.int r1]) C hR pr_l9 (by omega) rfl (c_X9_strokes h) gw_RL_96 rfl rfl hd_X9_strokes ⟨(Nat.le_of_ble_eq_true rfl), (Nat.le_of_ble_eq_true rfl)⟩ rfl hl.1 rfl (Nat.le_of_ble_eq_true rfl) dL_law_743 ⟨by have := hc.1; omega, by have := hc.2; omega⟩) (fun r2 σ2 H locs h hR hS => ?_)
  obtain ⟨-, h⟩ := h
  refine lv_icmp_eq (tgt := 906) hx hb dL_law_746 (by decide) (fun _ => ?_) (fun c9 => absurd h.1 c9)
  refine W.widen (k := cells + 7) (n := slots + 40) (by omega) (by omega) ?_
  exact kk _ _ _ _ _ h.2 hR hS hl
def pr_fact_whose (Inv : (Nat → Nat) → pr_Sg → Prop) : Prop := ∀ (g : Nat → Nat) (σ : pr_Sg) (a1 a2 : Int32), Inv g σ → wp_X8_whose g σ a1 a2 (fun r σ1 => wp_X9_whose g σ1 a1 a2 (fun r2 σ2 => r = r2 ∧ Inv g σ2))
set_option maxHeartbeats 4000000 in
set_option maxRecDepth 100000 in
theorem lc_whose {p : Program} {l : Launch} {e : Env} {s : State} {m : MethodId} {b L : Nat} {xs : Nat → Int32} {below : List Frame} {meth : Method} {c : Code} {D : va_G} {cs : Nat → ClassId} {ad : pr_Ad} {g : Nat → Nat} {σ : pr_Sg} {H : Heap} {locs : List Loc} {ls : Array Slot} {cells slots i : Nat} {Qf : State → Prop} {Inv : (Nat → Nat) → pr_Sg → Prop} (P : pr_fact_whose Inv) (C : pr_C RL cL_law 4 (some .boolean) D cs p s m #[Value.ref b] meth c) (hX : va_X b L xs s s.heap) (hbl : b < s.heap.size) (hi : i + 5 ≤ L) (hL : L ≤ 2560) (hc : cells + 7 ≤ room_1.cells ∧ slots + 40 ≤ room_1.slots) (hI : Inv g σ) (hR : pr_R D cs (fun q : Nat => s.heap.size ≤ q) ad g σ H) (hS : va_S (fun q : Nat => s.heap.size ≤ q) s.heap H locs) (hl : lv_has ls 4 [(0, .ref b), (1, .ref (ad 8 0 0)), (2, .ref (ad 9 0 0)), (3, .int (nI i))])
    (kk : ∀ (ad' : pr_Ad) (g' : Nat → Nat) (u : pr_Sg) (H1 : Heap) (locs1 : List Loc), Inv g' u → pr_R D cs (fun q : Nat => s.heap.size ≤ q) ad' g' u H1 → va_S (fun q : Nat => s.heap.size ≤ q) s.heap H1 locs1 → lv_has ls 4 [(0, .ref b), (1, .ref (ad' 8 0 0)), (2, .ref (ad' 9 0 0)), (3, .int (nI i))] → W p l e room_1 s m #[Value.ref b] below meth c H1 locs1 (cells + 7) (slots + 40) Qf (F0 m 906 ls [])) : W p l e room_1 s m #[Value.ref b] below meth c H locs cells slots Qf (F0 m 751 ls []) := by
  obtain ⟨hx, hb, hml, hown, hts, hK, hr, hlocks⟩ := id C
  have hbA : ¬ (fun q : Nat => s.heap.size ≤ q) b := Nat.not_le.mpr hbl
  have hup : ∀ x y : Nat, (fun q : Nat => s.heap.size ≤ q) x → x ≤ y → (fun q : Nat => s.heap.size ≤ q) y := fun x y h1 h2 => Nat.le_trans h1 h2
  have h := P g σ (xs ((nI i) + (1 : Int32)).toNatClampNeg) (xs ((nI i) + (2 : Int32)).toNatClampNeg) hI
  refine lv_aload_n hx hb dL_law_751 rfl (lv_at hl 1 rfl) ?_
  refine lv_aload_n hx hb dL_law_752 rfl (lv_at hl 0 rfl) ?_
  refine lv_iload_n hx hb dL_law_753 rfl (lv_at hl 3 rfl) ?_
  refine lv_iconst (v := 1) hx hb dL_law_754 (by decide) ?_
  refine lv_iadd hx hb dL_law_755 ?_
  refine va_sld hx hb hX hbl hbA hS (pr_ix 1 hi hL (by omega)) dL_law_756 ?_
  refine lv_aload_n hx hb dL_law_757 rfl (lv_at hl 0 rfl) ?_
  refine lv_iload_n hx hb dL_law_758 rfl (lv_at hl 3 rfl) ?_
  refine lv_iconst (v := 2) hx hb dL_law_759 (by decide) ?_
  refine lv_iadd hx hb dL_law_760 ?_
  refine va_sld hx hb hX hbl hbA hS (pr_ix 2 hi hL (by omega)) dL_law_761 ?_
  refine pr_calli hS (pr_runV (As := [.int (xs ((nI i) + (1 : Int32)).toNatClampNeg), .int (xs ((nI i) + (2 : Int32)).toNatClampNeg)]) (rest := []) C hR pr_l8 (by omega) rfl (c_X8_whose h) gw_RL_97 rfl rfl hd_X8_whose ⟨(Nat.le_of_ble_eq_true rfl), (Nat.le_of_ble_eq_true rfl)⟩ rfl hl.1 rfl (Nat.le_of_ble_eq_true rfl) dL_law_762 ⟨by have := hc.1; omega, by have := hc.2; omega⟩) (fun r1 σ1 H locs h hR hS => ?_)
  refine lv_aload_n hx hb dL_law_765 rfl (lv_at hl 2 rfl) ?_
  refine lv_aload_n hx hb dL_law_766 rfl (lv_at hl 0 rfl) ?_
  refine lv_iload_n hx hb dL_law_767 rfl (lv_at hl 3 rfl) ?_
  refine lv_iconst (v := 1) hx hb dL_law_768 (by decide) ?_
  refine lv_iadd hx hb dL_law_769 ?_
  refine va_sld hx hb hX hbl hbA hS (pr_ix 1 hi hL (by omega)) dL_law_770 ?_
  refine lv_aload_n hx hb dL_law_771 rfl (lv_at hl 0 rfl) ?_
  refine lv_iload_n hx hb dL_law_772 rfl (lv_at hl 3 rfl) ?_
  refine lv_iconst (v := 2) hx hb dL_law_773 (by decide) ?_
  refine lv_iadd hx hb dL_law_774 ?_
  refine va_sld hx hb hX hbl hbA hS (pr_ix 2 hi hL (by omega)) dL_law_775 ?_
  refine pr_calli hS (pr_runV (As := [.int (xs ((nI i) + (1 : Int32)).toNatClampNeg), .int (xs ((nI i) + (2 : Int32)).toNatClampNeg)]) (rest := [.int r1]) C hR pr_l9 (by omega) rfl (c_X9_whose h) gw_RL_100 rfl rfl hd_X9_whose ⟨(Nat.le_of_ble_eq_true rfl), (Nat.le_of_ble_eq_true rfl)⟩ rfl hl.1 rfl (Nat.le_of_ble_eq_true rfl) dL_law_776 ⟨by have := hc.1; omega, by have := hc.2; omega⟩) (fun r2 σ2 H locs h hR hS => ?_)
  refine lv_icmp_eq (tgt := 906) hx hb dL_law_779 (by decide) (fun _ => ?_) (fun c9 => absurd h.1 c9)
  refine W.widen (k := cells + 7) (n := slots + 40) (by omega) (by omega) ?_
  exact kk _ _ _ _ _ h.2 hR hS hl
def pr_fact_told (Inv : (Nat → Nat) → pr_Sg → Prop) : Prop := ∀ (g : Nat → Nat) (σ : pr_Sg) (a1 a2 : Int32), Inv g σ → wp_X8_told g σ a1 a2 (fun r σ1 => wp_X9_told g σ1 a1 a2 (fun r2 σ2 => r = r2 ∧ Inv g σ2))
set_option maxHeartbeats 4000000 in
set_option maxRecDepth 100000 in
theorem lc_told {p : Program} {l : Launch} {e : Env} {s : State} {m : MethodId} {b L : Nat} {xs : Nat → Int32} {below : List Frame} {meth : Method} {c : Code} {D : va_G} {cs : Nat → ClassId} {ad : pr_Ad} {g : Nat → Nat} {σ : pr_Sg} {H : Heap} {locs : List Loc} {ls : Array Slot} {cells slots i : Nat} {Qf : State → Prop} {Inv : (Nat → Nat) → pr_Sg → Prop} (P : pr_fact_told Inv) (C : pr_C RL cL_law 4 (some .boolean) D cs p s m #[Value.ref b] meth c) (hX : va_X b L xs s s.heap) (hbl : b < s.heap.size) (hi : i + 5 ≤ L) (hL : L ≤ 2560) (hc : cells + 7 ≤ room_1.cells ∧ slots + 40 ≤ room_1.slots) (hI : Inv g σ) (hR : pr_R D cs (fun q : Nat => s.heap.size ≤ q) ad g σ H) (hS : va_S (fun q : Nat => s.heap.size ≤ q) s.heap H locs) (hl : lv_has ls 4 [(0, .ref b), (1, .ref (ad 8 0 0)), (2, .ref (ad 9 0 0)), (3, .int (nI i))])
    (kk : ∀ (ad' : pr_Ad) (g' : Nat → Nat) (u : pr_Sg) (H1 : Heap) (locs1 : List Loc), Inv g' u → pr_R D cs (fun q : Nat => s.heap.size ≤ q) ad' g' u H1 → va_S (fun q : Nat => s.heap.size ≤ q) s.heap H1 locs1 → lv_has ls 4 [(0, .ref b), (1, .ref (ad' 8 0 0)), (2, .ref (ad' 9 0 0)), (3, .int (nI i))] → W p l e room_1 s m #[Value.ref b] below meth c H1 locs1 (cells + 7) (slots + 40) Qf (F0 m 906 ls [])) : W p l e room_1 s m #[Value.ref b] below meth c H locs cells slots Qf (F0 m 784 ls []) := by
  obtain ⟨hx, hb, hml, hown, hts, hK, hr, hlocks⟩ := id C
  have hbA : ¬ (fun q : Nat => s.heap.size ≤ q) b := Nat.not_le.mpr hbl
  have hup : ∀ x y : Nat, (fun q : Nat => s.heap.size ≤ q) x → x ≤ y → (fun q : Nat => s.heap.size ≤ q) y := fun x y h1 h2 => Nat.le_trans h1 h2
  have h := P g σ (xs ((nI i) + (1 : Int32)).toNatClampNeg) (xs ((nI i) + (2 : Int32)).toNatClampNeg) hI
  refine lv_aload_n hx hb dL_law_784 rfl (lv_at hl 1 rfl) ?_
  refine lv_aload_n hx hb dL_law_785 rfl (lv_at hl 0 rfl) ?_
  refine lv_iload_n hx hb dL_law_786 rfl (lv_at hl 3 rfl) ?_
  refine lv_iconst (v := 1) hx hb dL_law_787 (by decide) ?_
  refine lv_iadd hx hb dL_law_788 ?_
  refine va_sld hx hb hX hbl hbA hS (pr_ix 1 hi hL (by omega)) dL_law_789 ?_
  refine lv_aload_n hx hb dL_law_790 rfl (lv_at hl 0 rfl) ?_
  refine lv_iload_n hx hb dL_law_791 rfl (lv_at hl 3 rfl) ?_
  refine lv_iconst (v := 2) hx hb dL_law_792 (by decide) ?_
  refine lv_iadd hx hb dL_law_793 ?_
  refine va_sld hx hb hX hbl hbA hS (pr_ix 2 hi hL (by omega)) dL_law_794 ?_
  refine pr_calli hS (pr_runV (As := [.int (xs ((nI i) + (1 : Int32)).toNatClampNeg), .int (xs ((nI i) + (2 : Int32)).toNatClampNeg)]) (rest := []) C hR pr_l8 (by omega) rfl (c_X8_told h) gw_RL_101 rfl rfl hd_X8_told ⟨(Nat.le_of_ble_eq_true rfl), (Nat.le_of_ble_eq_true rfl)⟩ rfl hl.1 rfl (Nat.le_of_ble_eq_true rfl) dL_law_795 ⟨by have := hc.1; omega, by have := hc.2; omega⟩) (fun r1 σ1 H locs h hR hS => ?_)
  refine lv_aload_n hx hb dL_law_798 rfl (lv_at hl 2 rfl) ?_
  refine lv_aload_n hx hb dL_law_799 rfl (lv_at hl 0 rfl) ?_
  refine lv_iload_n hx hb dL_law_800 rfl (lv_at hl 3 rfl) ?_
  refine lv_iconst (v := 1) hx hb dL_law_801 (by decide) ?_
  refine lv_iadd hx hb dL_law_802 ?_
  refine va_sld hx hb hX hbl hbA hS (pr_ix 1 hi hL (by omega)) dL_law_803 ?_
  refine lv_aload_n hx hb dL_law_804 rfl (lv_at hl 0 rfl) ?_
  refine lv_iload_n hx hb dL_law_805 rfl (lv_at hl 3 rfl) ?_
  refine lv_iconst (v := 2) hx hb dL_law_806 (by decide) ?_
  refine lv_iadd hx hb dL_law_807 ?_
  refine va_sld hx hb hX hbl hbA hS (pr_ix 2 hi hL (by omega)) dL_law_808 ?_
  refine pr_calli hS (pr_runV (As := [.int (xs ((nI i) + (1 : Int32)).toNatClampNeg), .int (xs ((nI i) + (2 : Int32)).toNatClampNeg)]) (rest := [.int r1]) C hR pr_l9 (by omega) rfl (c_X9_told h) gw_RL_104 rfl rfl hd_X9_told ⟨(Nat.le_of_ble_eq_true rfl), (Nat.le_of_ble_eq_true rfl)⟩ rfl hl.1 rfl (Nat.le_of_ble_eq_true rfl) dL_law_809 ⟨by have := hc.1; omega, by have := hc.2; omega⟩) (fun r2 σ2 H locs h hR hS => ?_)
  refine lv_icmp_eq (tgt := 906) hx hb dL_law_812 (by decide) (fun _ => ?_) (fun c9 => absurd h.1 c9)
  refine W.widen (k := cells + 7) (n := slots + 40) (by omega) (by omega) ?_
  exact kk _ _ _ _ _ h.2 hR hS hl
def pr_fact_part (Inv : (Nat → Nat) → pr_Sg → Prop) : Prop := ∀ (g : Nat → Nat) (σ : pr_Sg) (a1 a2 a3 : Int32), Inv g σ → wp_X8_part g σ a1 a2 a3 (fun r σ1 => wp_X9_part g σ1 a1 a2 a3 (fun r2 σ2 => r = r2 ∧ Inv g σ2))
set_option maxHeartbeats 4000000 in
set_option maxRecDepth 100000 in
theorem lc_part {p : Program} {l : Launch} {e : Env} {s : State} {m : MethodId} {b L : Nat} {xs : Nat → Int32} {below : List Frame} {meth : Method} {c : Code} {D : va_G} {cs : Nat → ClassId} {ad : pr_Ad} {g : Nat → Nat} {σ : pr_Sg} {H : Heap} {locs : List Loc} {ls : Array Slot} {cells slots i : Nat} {Qf : State → Prop} {Inv : (Nat → Nat) → pr_Sg → Prop} (P : pr_fact_part Inv) (C : pr_C RL cL_law 4 (some .boolean) D cs p s m #[Value.ref b] meth c) (hX : va_X b L xs s s.heap) (hbl : b < s.heap.size) (hi : i + 5 ≤ L) (hL : L ≤ 2560) (hc : cells + 7 ≤ room_1.cells ∧ slots + 40 ≤ room_1.slots) (hI : Inv g σ) (hR : pr_R D cs (fun q : Nat => s.heap.size ≤ q) ad g σ H) (hS : va_S (fun q : Nat => s.heap.size ≤ q) s.heap H locs) (hl : lv_has ls 4 [(0, .ref b), (1, .ref (ad 8 0 0)), (2, .ref (ad 9 0 0)), (3, .int (nI i))])
    (kk : ∀ (ad' : pr_Ad) (g' : Nat → Nat) (u : pr_Sg) (H1 : Heap) (locs1 : List Loc), Inv g' u → pr_R D cs (fun q : Nat => s.heap.size ≤ q) ad' g' u H1 → va_S (fun q : Nat => s.heap.size ≤ q) s.heap H1 locs1 → lv_has ls 4 [(0, .ref b), (1, .ref (ad' 8 0 0)), (2, .ref (ad' 9 0 0)), (3, .int (nI i))] → W p l e room_1 s m #[Value.ref b] below meth c H1 locs1 (cells + 7) (slots + 40) Qf (F0 m 906 ls [])) : W p l e room_1 s m #[Value.ref b] below meth c H locs cells slots Qf (F0 m 817 ls []) := by
  obtain ⟨hx, hb, hml, hown, hts, hK, hr, hlocks⟩ := id C
  have hbA : ¬ (fun q : Nat => s.heap.size ≤ q) b := Nat.not_le.mpr hbl
  have hup : ∀ x y : Nat, (fun q : Nat => s.heap.size ≤ q) x → x ≤ y → (fun q : Nat => s.heap.size ≤ q) y := fun x y h1 h2 => Nat.le_trans h1 h2
  have h := P g σ (xs ((nI i) + (1 : Int32)).toNatClampNeg) (xs ((nI i) + (2 : Int32)).toNatClampNeg) (xs ((nI i) + (3 : Int32)).toNatClampNeg) hI
  refine lv_aload_n hx hb dL_law_817 rfl (lv_at hl 1 rfl) ?_
  refine lv_aload_n hx hb dL_law_818 rfl (lv_at hl 0 rfl) ?_
  refine lv_iload_n hx hb dL_law_819 rfl (lv_at hl 3 rfl) ?_
  refine lv_iconst (v := 1) hx hb dL_law_820 (by decide) ?_
  refine lv_iadd hx hb dL_law_821 ?_
  refine va_sld hx hb hX hbl hbA hS (pr_ix 1 hi hL (by omega)) dL_law_822 ?_
  refine lv_aload_n hx hb dL_law_823 rfl (lv_at hl 0 rfl) ?_
  refine lv_iload_n hx hb dL_law_824 rfl (lv_at hl 3 rfl) ?_
  refine lv_iconst (v := 2) hx hb dL_law_825 (by decide) ?_
  refine lv_iadd hx hb dL_law_826 ?_
  refine va_sld hx hb hX hbl hbA hS (pr_ix 2 hi hL (by omega)) dL_law_827 ?_
  refine lv_aload_n hx hb dL_law_828 rfl (lv_at hl 0 rfl) ?_
  refine lv_iload_n hx hb dL_law_829 rfl (lv_at hl 3 rfl) ?_
  refine lv_iconst (v := 3) hx hb dL_law_830 (by decide) ?_
  refine lv_iadd hx hb dL_law_831 ?_
  refine va_sld hx hb hX hbl hbA hS (pr_ix 3 hi hL (by omega)) dL_law_832 ?_
  refine pr_calli hS (pr_runV (As := [.int (xs ((nI i) + (1 : Int32)).toNatClampNeg), .int (xs ((nI i) + (2 : Int32)).toNatClampNeg), .int (xs ((nI i) + (3 : Int32)).toNatClampNeg)]) (rest := []) C hR pr_l8 (by omega) rfl (c_X8_part h) gw_RL_105 rfl rfl hd_X8_part ⟨(Nat.le_of_ble_eq_true rfl), (Nat.le_of_ble_eq_true rfl)⟩ rfl hl.1 rfl (Nat.le_of_ble_eq_true rfl) dL_law_833 ⟨by have := hc.1; omega, by have := hc.2; omega⟩) (fun r1 σ1 H locs h hR hS => ?_)
  refine lv_aload_n hx hb dL_law_836 rfl (lv_at hl 2 rfl) ?_
  refine lv_aload_n hx hb dL_law_837 rfl (lv_at hl 0 rfl) ?_
  refine lv_iload_n hx hb dL_law_838 rfl (lv_at hl 3 rfl) ?_
  refine lv_iconst (v := 1) hx hb dL_law_839 (by decide) ?_
  refine lv_iadd hx hb dL_law_840 ?_
  refine va_sld hx hb hX hbl hbA hS (pr_ix 1 hi hL (by omega)) dL_law_841 ?_
  refine lv_aload_n hx hb dL_law_842 rfl (lv_at hl 0 rfl) ?_
  refine lv_iload_n hx hb dL_law_843 rfl (lv_at hl 3 rfl) ?_
  refine lv_iconst (v := 2) hx hb dL_law_844 (by decide) ?_
  refine lv_iadd hx hb dL_law_845 ?_
  refine va_sld hx hb hX hbl hbA hS (pr_ix 2 hi hL (by omega)) dL_law_846 ?_
  refine lv_aload_n hx hb dL_law_847 rfl (lv_at hl 0 rfl) ?_
  refine lv_iload_n hx hb dL_law_848 rfl (lv_at hl 3 rfl) ?_
  refine lv_iconst (v := 3) hx hb dL_law_849 (by decide) ?_
  refine lv_iadd hx hb dL_law_850 ?_
  refine va_sld hx hb hX hbl hbA hS (pr_ix 3 hi hL (by omega)) dL_law_851 ?_
  refine pr_calli hS (pr_runV (As := [.int (xs ((nI i) + (1 : Int32)).toNatClampNeg), .int (xs ((nI i) + (2 : Int32)).toNatClampNeg), .int (xs ((nI i) + (3 : Int32)).toNatClampNeg)]) (rest := [.int r1]) C hR pr_l9 (by omega) rfl (c_X9_part h) gw_RL_108 rfl rfl hd_X9_part ⟨(Nat.le_of_ble_eq_true rfl), (Nat.le_of_ble_eq_true rfl)⟩ rfl hl.1 rfl (Nat.le_of_ble_eq_true rfl) dL_law_852 ⟨by have := hc.1; omega, by have := hc.2; omega⟩) (fun r2 σ2 H locs h hR hS => ?_)
  refine lv_icmp_eq (tgt := 906) hx hb dL_law_855 (by decide) (fun _ => ?_) (fun c9 => absurd h.1 c9)
  refine W.widen (k := cells + 7) (n := slots + 40) (by omega) (by omega) ?_
  exact kk _ _ _ _ _ h.2 hR hS hl
def pr_fact_due (Inv : (Nat → Nat) → pr_Sg → Prop) : Prop := ∀ (g : Nat → Nat) (σ : pr_Sg) (a1 : Int32), Inv g σ → wp_X8_due g σ a1 (fun r σ1 => wp_X9_due g σ1 a1 (fun r2 σ2 => r = r2 ∧ Inv g σ2))
set_option maxHeartbeats 4000000 in
set_option maxRecDepth 100000 in
theorem lc_due {p : Program} {l : Launch} {e : Env} {s : State} {m : MethodId} {b L : Nat} {xs : Nat → Int32} {below : List Frame} {meth : Method} {c : Code} {D : va_G} {cs : Nat → ClassId} {ad : pr_Ad} {g : Nat → Nat} {σ : pr_Sg} {H : Heap} {locs : List Loc} {ls : Array Slot} {cells slots i : Nat} {Qf : State → Prop} {Inv : (Nat → Nat) → pr_Sg → Prop} (P : pr_fact_due Inv) (C : pr_C RL cL_law 4 (some .boolean) D cs p s m #[Value.ref b] meth c) (hX : va_X b L xs s s.heap) (hbl : b < s.heap.size) (hi : i + 5 ≤ L) (hL : L ≤ 2560) (hc : cells + 7 ≤ room_1.cells ∧ slots + 40 ≤ room_1.slots) (hI : Inv g σ) (hR : pr_R D cs (fun q : Nat => s.heap.size ≤ q) ad g σ H) (hS : va_S (fun q : Nat => s.heap.size ≤ q) s.heap H locs) (hl : lv_has ls 4 [(0, .ref b), (1, .ref (ad 8 0 0)), (2, .ref (ad 9 0 0)), (3, .int (nI i))])
    (kk : ∀ (ad' : pr_Ad) (g' : Nat → Nat) (u : pr_Sg) (H1 : Heap) (locs1 : List Loc), Inv g' u → pr_R D cs (fun q : Nat => s.heap.size ≤ q) ad' g' u H1 → va_S (fun q : Nat => s.heap.size ≤ q) s.heap H1 locs1 → lv_has ls 4 [(0, .ref b), (1, .ref (ad' 8 0 0)), (2, .ref (ad' 9 0 0)), (3, .int (nI i))] → W p l e room_1 s m #[Value.ref b] below meth c H1 locs1 (cells + 7) (slots + 40) Qf (F0 m 906 ls [])) : W p l e room_1 s m #[Value.ref b] below meth c H locs cells slots Qf (F0 m 860 ls []) := by
  obtain ⟨hx, hb, hml, hown, hts, hK, hr, hlocks⟩ := id C
  have hbA : ¬ (fun q : Nat => s.heap.size ≤ q) b := Nat.not_le.mpr hbl
  have hup : ∀ x y : Nat, (fun q : Nat => s.heap.size ≤ q) x → x ≤ y → (fun q : Nat => s.heap.size ≤ q) y := fun x y h1 h2 => Nat.le_trans h1 h2
  have h := P g σ (xs ((nI i) + (1 : Int32)).toNatClampNeg) hI
  refine lv_aload_n hx hb dL_law_860 rfl (lv_at hl 1 rfl) ?_
  refine lv_aload_n hx hb dL_law_861 rfl (lv_at hl 0 rfl) ?_
  refine lv_iload_n hx hb dL_law_862 rfl (lv_at hl 3 rfl) ?_
  refine lv_iconst (v := 1) hx hb dL_law_863 (by decide) ?_
  refine lv_iadd hx hb dL_law_864 ?_
  refine va_sld hx hb hX hbl hbA hS (pr_ix 1 hi hL (by omega)) dL_law_865 ?_
  refine pr_calli hS (pr_runV (As := [.int (xs ((nI i) + (1 : Int32)).toNatClampNeg)]) (rest := []) C hR pr_l8 (by omega) rfl (c_X8_due h) gw_RL_109 rfl rfl hd_X8_due ⟨(Nat.le_of_ble_eq_true rfl), (Nat.le_of_ble_eq_true rfl)⟩ rfl hl.1 rfl (Nat.le_of_ble_eq_true rfl) dL_law_866 ⟨by have := hc.1; omega, by have := hc.2; omega⟩) (fun r1 σ1 H locs h hR hS => ?_)
  refine lv_aload_n hx hb dL_law_869 rfl (lv_at hl 2 rfl) ?_
  refine lv_aload_n hx hb dL_law_870 rfl (lv_at hl 0 rfl) ?_
  refine lv_iload_n hx hb dL_law_871 rfl (lv_at hl 3 rfl) ?_
  refine lv_iconst (v := 1) hx hb dL_law_872 (by decide) ?_
  refine lv_iadd hx hb dL_law_873 ?_
  refine va_sld hx hb hX hbl hbA hS (pr_ix 1 hi hL (by omega)) dL_law_874 ?_
  refine pr_calli hS (pr_runV (As := [.int (xs ((nI i) + (1 : Int32)).toNatClampNeg)]) (rest := [.int r1]) C hR pr_l9 (by omega) rfl (c_X9_due h) gw_RL_112 rfl rfl hd_X9_due ⟨(Nat.le_of_ble_eq_true rfl), (Nat.le_of_ble_eq_true rfl)⟩ rfl hl.1 rfl (Nat.le_of_ble_eq_true rfl) dL_law_875 ⟨by have := hc.1; omega, by have := hc.2; omega⟩) (fun r2 σ2 H locs h hR hS => ?_)
  refine lv_icmp_eq (tgt := 906) hx hb dL_law_878 (by decide) (fun _ => ?_) (fun c9 => absurd h.1 c9)
  refine W.widen (k := cells + 7) (n := slots + 40) (by omega) (by omega) ?_
  exact kk _ _ _ _ _ h.2 hR hS hl
def pr_fact_count (Inv : (Nat → Nat) → pr_Sg → Prop) : Prop := ∀ (g : Nat → Nat) (σ : pr_Sg) (a1 : Int32), Inv g σ → wp_X8_count g σ a1 (fun r σ1 => wp_X9_count g σ1 a1 (fun r2 σ2 => r = r2 ∧ Inv g σ2))
set_option maxHeartbeats 4000000 in
set_option maxRecDepth 100000 in
theorem lc_count {p : Program} {l : Launch} {e : Env} {s : State} {m : MethodId} {b L : Nat} {xs : Nat → Int32} {below : List Frame} {meth : Method} {c : Code} {D : va_G} {cs : Nat → ClassId} {ad : pr_Ad} {g : Nat → Nat} {σ : pr_Sg} {H : Heap} {locs : List Loc} {ls : Array Slot} {cells slots i : Nat} {Qf : State → Prop} {Inv : (Nat → Nat) → pr_Sg → Prop} (P : pr_fact_count Inv) (C : pr_C RL cL_law 4 (some .boolean) D cs p s m #[Value.ref b] meth c) (hX : va_X b L xs s s.heap) (hbl : b < s.heap.size) (hi : i + 5 ≤ L) (hL : L ≤ 2560) (hc : cells + 7 ≤ room_1.cells ∧ slots + 40 ≤ room_1.slots) (hI : Inv g σ) (hR : pr_R D cs (fun q : Nat => s.heap.size ≤ q) ad g σ H) (hS : va_S (fun q : Nat => s.heap.size ≤ q) s.heap H locs) (hl : lv_has ls 4 [(0, .ref b), (1, .ref (ad 8 0 0)), (2, .ref (ad 9 0 0)), (3, .int (nI i))])
    (kk : ∀ (ad' : pr_Ad) (g' : Nat → Nat) (u : pr_Sg) (H1 : Heap) (locs1 : List Loc), Inv g' u → pr_R D cs (fun q : Nat => s.heap.size ≤ q) ad' g' u H1 → va_S (fun q : Nat => s.heap.size ≤ q) s.heap H1 locs1 → lv_has ls 4 [(0, .ref b), (1, .ref (ad' 8 0 0)), (2, .ref (ad' 9 0 0)), (3, .int (nI i))] → W p l e room_1 s m #[Value.ref b] below meth c H1 locs1 (cells + 7) (slots + 40) Qf (F0 m 906 ls [])) : W p l e room_1 s m #[Value.ref b] below meth c H locs cells slots Qf (F0 m 883 ls []) := by
  obtain ⟨hx, hb, hml, hown, hts, hK, hr, hlocks⟩ := id C
  have hbA : ¬ (fun q : Nat => s.heap.size ≤ q) b := Nat.not_le.mpr hbl
  have hup : ∀ x y : Nat, (fun q : Nat => s.heap.size ≤ q) x → x ≤ y → (fun q : Nat => s.heap.size ≤ q) y := fun x y h1 h2 => Nat.le_trans h1 h2
  have h := P g σ (xs ((nI i) + (1 : Int32)).toNatClampNeg) hI
  refine lv_aload_n hx hb dL_law_883 rfl (lv_at hl 1 rfl) ?_
  refine lv_aload_n hx hb dL_law_884 rfl (lv_at hl 0 rfl) ?_
  refine lv_iload_n hx hb dL_law_885 rfl (lv_at hl 3 rfl) ?_
  refine lv_iconst (v := 1) hx hb dL_law_886 (by decide) ?_
  refine lv_iadd hx hb dL_law_887 ?_
  refine va_sld hx hb hX hbl hbA hS (pr_ix 1 hi hL (by omega)) dL_law_888 ?_
  refine pr_calli hS (pr_runV (As := [.int (xs ((nI i) + (1 : Int32)).toNatClampNeg)]) (rest := []) C hR pr_l8 (by omega) rfl (c_X8_count h) gw_RL_113 rfl rfl hd_X8_count ⟨(Nat.le_of_ble_eq_true rfl), (Nat.le_of_ble_eq_true rfl)⟩ rfl hl.1 rfl (Nat.le_of_ble_eq_true rfl) dL_law_889 ⟨by have := hc.1; omega, by have := hc.2; omega⟩) (fun r1 σ1 H locs h hR hS => ?_)
  refine lv_aload_n hx hb dL_law_892 rfl (lv_at hl 2 rfl) ?_
  refine lv_aload_n hx hb dL_law_893 rfl (lv_at hl 0 rfl) ?_
  refine lv_iload_n hx hb dL_law_894 rfl (lv_at hl 3 rfl) ?_
  refine lv_iconst (v := 1) hx hb dL_law_895 (by decide) ?_
  refine lv_iadd hx hb dL_law_896 ?_
  refine va_sld hx hb hX hbl hbA hS (pr_ix 1 hi hL (by omega)) dL_law_897 ?_
  refine pr_calli hS (pr_runV (As := [.int (xs ((nI i) + (1 : Int32)).toNatClampNeg)]) (rest := [.int r1]) C hR pr_l9 (by omega) rfl (c_X9_count h) gw_RL_116 rfl rfl hd_X9_count ⟨(Nat.le_of_ble_eq_true rfl), (Nat.le_of_ble_eq_true rfl)⟩ rfl hl.1 rfl (Nat.le_of_ble_eq_true rfl) dL_law_898 ⟨by have := hc.1; omega, by have := hc.2; omega⟩) (fun r2 σ2 H locs h hR hS => ?_)
  refine lv_icmp_eq (tgt := 906) hx hb dL_law_901 (by decide) (fun _ => ?_) (fun c9 => absurd h.1 c9)
  refine W.widen (k := cells + 7) (n := slots + 40) (by omega) (by omega) ?_
  exact kk _ _ _ _ _ h.2 hR hS hl
