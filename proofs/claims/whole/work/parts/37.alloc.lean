/-! A Hand, a Sitter, a Picture comes: the state grows -/
def pr_g (g : Nat → Nat) (c : Nat) : Nat → Nat := fun x => if x = c then g c + 1 else g x
def pr_adH (ad : pr_Ad) (n q : Nat) : pr_Ad := fun k i j => if k = 0 ∧ i = n ∧ j = 0 then q else ad k i j
def pr_adS (ad : pr_Ad) (n q : Nat) : pr_Ad := fun k i j => if k = 6 ∧ i = n ∧ j = 0 then q else ad k i j
def pr_adP (ad : pr_Ad) (n q : Nat) : pr_Ad := fun k i j => if k = 3 ∧ i = n ∧ j = 0 then q else if k = 83 ∧ i = n ∧ j = 0 then q + 1 else if k = 2 ∧ i = n ∧ j < 5 then q + 6 - j else ad k i j
def pr_mkH (σ : pr_Sg) (n : Nat) : pr_Sg := fun t i j => if t < 3 ∧ i = n ∧ j = 0 then (if t = 2 then 0 else -1) else σ t i j
def pr_mkS (σ : pr_Sg) (n : Nat) (a1 a2 : Int32) : pr_Sg := fun t i j => if (384 ≤ t ∧ t < 387) ∧ i = n ∧ j = 0 then (if t = 384 then a1 else if t = 385 then a2 else 0) else σ t i j
def pr_cut (x : Int32) : Nat → Int32
  | 0 => x
  | n + 1 => pr_cut x n / (10 : Int32)
def pr_dig (x : Int32) (n : Nat) : Int32 := pr_cut x n - pr_cut x n / (10 : Int32) * (10 : Int32)
def pr_mkP (σ : pr_Sg) (n : Nat) (a1 a2 a3 a4 a5 : Int32) : pr_Sg := fun t i j => if (192 ≤ t ∧ t < 202) ∧ i = n ∧ j = 0 then (if t = 192 then a1 else if t = 193 then a3 else if t = 194 then a4 else if t = 195 then a5 else if t = 197 then -1 else if t = 198 then (((((0 : Int32) + pr_dig a2 0) + pr_dig a2 1) + pr_dig a2 2) + pr_dig a2 3) + pr_dig a2 4 else if t = 201 then -1 else 0) else if (128 ≤ t ∧ t < 133) ∧ i = n ∧ j < 5 then (if t = 128 then pr_dig a2 (4 - j) else if t = 129 then 0 else -1) else σ t i j
theorem pr_grow {D : va_G} {cs : Nat → ClassId} {A : Nat → Prop} {ad ad' : pr_Ad} {g g' : Nat → Nat} {σ σ' : pr_Sg} {H H3 : Heap} (hR : pr_R D cs A ad g σ H) (K q : Nat)
    (hq : ∀ k i j, pr_lv g k i j → ad k i j < q) (h1 : ∀ k i j, pr_lv g k i j → k ≠ K → H3[ad k i j]? = H[ad k i j]?) (hK : ∀ i j, pr_lv g K i j → i = 0 ∧ j = 0)
    (h2 : ∀ k i j, pr_lv g' k i j → ¬ pr_lv g k i j → va_at D vwCl (ad' k i j, pr_ct cs ad' g' σ' k i j) H3 ∧ A (ad' k i j) ∧ q ≤ ad' k i j)
    (h3 : va_at D vwCl (ad K 0 0, pr_ct cs ad' g' σ' K 0 0) H3)
    (h4 : ∀ k i j, pr_lv g k i j → ad' k i j = ad k i j)
    (h5 : ∀ k i j, pr_lv g k i j → k ≠ K → pr_ct cs ad' g' σ' k i j = pr_ct cs ad g σ k i j)
    (h6 : ∀ k i j k' i' j', pr_lv g' k i j → ¬ pr_lv g k i j → pr_lv g' k' i' j' → ¬ pr_lv g k' i' j' → ad' k i j = ad' k' i' j' → k = k' ∧ i = i' ∧ j = j') : pr_R D cs A ad' g' σ' H3 := by
  refine ⟨fun k i j hl => ?_, fun k i j k' i' j' hl hl' he => ?_⟩
  · by_cases h : pr_lv g k i j
    · rw [h4 k i j h]
      refine ⟨?_, (hR.1 k i j h).2⟩
      by_cases hk : k = K
      · subst hk
        obtain ⟨rfl, rfl⟩ := hK _ _ h
        exact h3
      · rw [h5 k i j h hk]
        exact (hR.1 k i j h).1.kept (h1 k i j h hk)
    · exact ⟨(h2 k i j hl h).1, (h2 k i j hl h).2.1⟩
  · by_cases h : pr_lv g k i j <;> by_cases h' : pr_lv g k' i' j'
    · rw [h4 _ _ _ h, h4 _ _ _ h'] at he
      exact hR.2 _ _ _ _ _ _ h h' he
    · have := hq _ _ _ h
      have := (h2 _ _ _ hl' h').2.2
      rw [h4 _ _ _ h] at he
      omega
    · have := hq _ _ _ h'
      have := (h2 _ _ _ hl h).2.2
      rw [h4 _ _ _ h'] at he
      omega
    · exact h6 _ _ _ _ _ _ hl h hl' h' he
theorem pr_nf42 : ∀ q, q < 10 → pr_nf q ≤ 42 := by decide
theorem pr_rt02 : ∀ k, k < 10 → ∀ f, f < 42 → pr_rt k f ≠ 0 → pr_rt k f ≠ 6 ∧ pr_rt k f ≠ 3 ∧ pr_rt k f ≠ 2 ∧ (pr_rt k f = 83 → k = 3) := by decide
theorem pr_ct_eq {cs : Nat → ClassId} {ad ad' : pr_Ad} {g g' : Nat → Nat} {σ σ' : pr_Sg} {k i j : Nat} (hk : k < 10) (h : ∀ f, f < pr_nf k → pr_fv ad' σ' k i j f = pr_fv ad σ k i j f) : pr_ct cs ad' g' σ' k i j = pr_ct cs ad g σ k i j := by
  rw [pr_ctO hk, pr_ctO hk]
  congr 2
  apply List.map_congr_left
  intro f hf
  exact h f (List.mem_range.mp hf)
theorem pr_rr_eq {cs : Nat → ClassId} {ad ad' : pr_Ad} {g g' : Nat → Nat} {σ σ' : pr_Sg} {k i j : Nat} (hk : 80 ≤ k) (h : pr_rr ad' g' k i = pr_rr ad g k i) : pr_ct cs ad' g' σ' k i j = pr_ct cs ad g σ k i j := by
  rw [pr_ctR hk, pr_ctR hk, h]
theorem pr_mid_eq {cs : Nat → ClassId} {ad ad' : pr_Ad} {g g' : Nat → Nat} {σ σ' : pr_Sg} {k i j : Nat} (hk : 10 ≤ k) (hk2 : k < 80) (h : σ' (1000 + k) i = σ (1000 + k) i) : pr_ct cs ad' g' σ' k i j = pr_ct cs ad g σ k i j := by
  unfold pr_ct
  rw [h]
  simp only [show ¬ k < 10 by omega, if_false, hk2, if_true]
theorem pr_live0 {g : Nat → Nat} {i j : Nat} : pr_lv g 0 i j ↔ i < g 0 ∧ j = 0 := by simp [pr_lv, pr_ok]
theorem pr_live6 {g : Nat → Nat} {i j : Nat} : pr_lv g 6 i j ↔ i < g 1 ∧ j = 0 := by simp [pr_lv, pr_ok]
theorem pr_live3 {g : Nat → Nat} {i j : Nat} : pr_lv g 3 i j ↔ i < g 2 ∧ j = 0 := by simp [pr_lv, pr_ok]
theorem pr_live83 {g : Nat → Nat} {i j : Nat} : pr_lv g 83 i j ↔ i < g 2 ∧ j = 0 := by simp [pr_lv, pr_ok]
theorem pr_live2 {g : Nat → Nat} {i j : Nat} : pr_lv g 2 i j ↔ i < g 2 ∧ j < 5 := by simp [pr_lv, pr_ok]
theorem pr_liveK {g : Nat → Nat} {k i j : Nat} (hk : k = 80 ∨ k = 81 ∨ k = 82) (h : pr_lv g k i j) : i = 0 ∧ j = 0 := by
  rcases hk with rfl | rfl | rfl <;> simpa [pr_lv, pr_ok] using h
theorem pr_lvg {g g' : Nat → Nat} {k i j : Nat} (hk : k ≠ 0 ∧ k ≠ 6 ∧ k ≠ 3 ∧ k ≠ 83 ∧ k ≠ 2) (h : pr_lv g k i j) : pr_lv g' k i j := by
  refine ⟨h.1, ?_⟩
  have h2 := h.2
  rw [if_neg (by omega), if_neg (by omega), if_neg (by omega), if_neg (by omega)] at h2 ⊢
  exact h2
theorem pr_g0 (g : Nat → Nat) (c : Nat) : pr_g g c c = g c + 1 := by simp [pr_g]
theorem pr_gn (g : Nat → Nat) {c x : Nat} (h : x ≠ c) : pr_g g c x = g x := by simp [pr_g, h]
section PRN
variable {p : Program} {l : Launch} {e : Env} {R : Room} {s : State} {m : MethodId} {args : Array Value} {below : List Frame} {meth : Method} {c : Code} {H : Heap} {locs : List Loc} {cells slots : Nat} {Q : State → Prop}
variable {cc : ByteArray} {pc nL : Nat} {rt0 : Option FieldType} {ls : Array Slot} {rest : List Value} {D : va_G} {cs : Nat → ClassId} {A : Nat → Prop} {ad : pr_Ad} {g : Nat → Nat} {σ : pr_Sg} {H0 : Heap} {own : String}
theorem kr_new {C : String} {T : u_T} {Nf index k' : Nat} (S : pr_C own cc nL rt0 D cs p s m args meth c) (hR : pr_R D cs A ad g σ H) (hup : ∀ x y : Nat, A x → x ≤ y → A y) (hS0 : va_S A H0 H locs) (hc : vwCl[k']? = some (C, T, Nf)) (hin : ∀ w ∈ u_ws C T Nf, w ∈ wsL_law) (ty0 : Nat → FieldType) (hty : ∀ k, k < Nf → parseFieldDescriptor (T k).2.2.1 = some (ty0 k)) (h1 : Cond.classLink own index C ∈ wsL_law) (h2 : Cond.instantiable C Nf ∈ wsL_law) (h3 : Cond.initialized C ∈ wsL_law) {gs : List Value} (hgs : ∀ j, j < Nf → defaultValue (ty0 j) = vp_V gs j) (hcells : cells + 1 ≤ R.cells) (hslots : slots + Nf ≤ R.slots) (hdg : decode cc pc = .ok (.new index, 3))
    (kk : ∀ (q : Nat) (H1 : Heap), (∀ k i j, pr_lv g k i j → ad k i j < q) → A q → pr_R D cs A ad g σ H1 → pr_G D (q + 1) q k' 0 pr_F0 gs H1 → va_S A H0 H1 locs → W p l e R s m args below meth c H1 locs (cells + 1) (slots + Nf) Q (F0 m (pc + 3) ls (.ref q :: rest))) : W p l e R s m args below meth c H locs cells slots Q (F0 m pc ls rest) := by
  obtain ⟨hx, hb, hml, hown, hts, hK, -, -⟩ := S
  have hKn := hK.1.1 k' _ hc
  refine W.newcK hx hb hown (hts _ h1) (hts _ h2) (hts _ h3) rfl hdg hcells hslots hKn.2.1 rfl fun H1 kC hkC e1 z1 o1 => ?_
  have hlt : ∀ k i j, pr_lv g k i j → ad k i j < H.size := fun k i j h => (hR.1 k i j h).1.lt
  have h8 : pr_lv g 8 0 0 := pr_l8
  refine kk H.size H1 hlt (hup _ _ (hR.1 8 0 0 h8).2 (Nat.le_of_lt (hlt 8 0 0 h8))) ⟨fun k i j h => ⟨(hR.1 k i j h).1.kept (o1 _ (hlt k i j h)), (hR.1 k i j h).2⟩, hR.2⟩ ⟨by omega, by omega, fun n hn => absurd hn (Nat.not_lt_zero n), ⟨_, hc, (u_born ty0 hts hin hKn hkC e1 hty).to hgs⟩⟩ (pr_Sp hS0 (by omega) o1)
theorem kr_ctor {y : MethodName} {bytes : ByteArray} {maxL index nA k' N' q : Nat} {rm : Room} {As st0 : List Value} {gs gs' : List Value} {F' : Nat → va_E} {mc ms : Nat} (S : pr_C own cc nL rt0 D cs p s m args meth c) (hR : pr_R D cs A ad g σ H) (hup : ∀ x y : Nat, A x → x ≤ y → A y) (hS0 : va_S A H0 H locs) (hq : ∀ k i j, pr_lv g k i j → ad k i j < q) (hAq : A q) (hG : pr_G D (q + 1) q k' 0 pr_F0 gs H) (hM : pr_Mc l D cs y bytes maxL rm (q + 1) q k' As gs N' F' gs' mc ms)
    (hco : Cond.code y bytes maxL none ∈ wsL_law) (hini : Cond.initialized y.cls ∈ wsL_law) (hlk : Cond.methodLink own index y ∈ wsL_law) (him : Cond.instanceMethod y ∈ wsL_law) (hy : y.name = "<init>") (hrc : rm.cells = mc) (hrs : rm.slots = ms) (hd : y.cls ≠ "java/lang/invoke/MethodHandle" ∧ y.cls ≠ "java/lang/invoke/VarHandle" ∧ (parseMethodDescriptor y.desc).map (fun d => d.parameters.length) = some nA)
    (hRm : rm.frames + 1 ≤ R.frames ∧ 8 + (maxL + 11) + rm.locals ≤ R.locals) (hnA : As.length = nA) (hsize : ls.size = nL) (hstack : st0 = As.reverse ++ .ref q :: rest) (hW : (rest.map fun v => v.category).sum ≤ 8) (hdg : decode cc pc = .ok (.invokespecial index, 3)) (hf : cells + mc ≤ R.cells ∧ slots + ms ≤ R.slots)
    (kk : ∀ (H1 : Heap) (locs1 : List Loc), pr_R D cs A ad g σ H1 → pr_G D (q + 1) q k' N' F' gs' H1 → va_S A H0 H1 locs1 → W p l e R s m args below meth c H1 locs1 (cells + mc) (slots + ms) Q (F0 m (pc + 3) ls rest)) : W p l e R s m args below meth c H locs cells slots Q (F0 m pc ls st0) := by
  obtain ⟨hx, hb, hml, hown, hts, hK, -, -⟩ := S
  have hAA : ∀ x, pr_A q (q + 1) x → A x := fun x h => by
    rcases h with rfl | h
    · exact hAq
    · exact hup _ _ hAq (by omega)
  refine va_callv (va_runI (As := As) (rest := rest) ⟨hx, hb, hml, hown, hts⟩ hM (cwI nA hts (pr_gI hco) rfl hrc hrs (hts _ hini) (hts _ hlk) (hts _ him) hy hd hRm) ⟨fun a U f mk q => ⟨q.1, q.2.1, q.2.2.call f mk a⟩, fun U hU hW => ⟨rfl, by rw [hU]; exact hG, hK.warm hW⟩⟩ rfl hnA hsize hstack (lv_room hW) hdg hf) hS0 (fun x _ h => hAA x h) hAA (fun u t H1 locs1 ht hvm _ hB hz1 hk1 hS1 => ?_)
  rw [ht] at hB
  refine kk H1 locs1 ⟨fun k i j h => ⟨(hR.1 k i j h).1.kept (hk1 _ (hR.1 k i j h).1.lt ?_), (hR.1 k i j h).2⟩, hR.2⟩ hB hS1
  intro h9
  have := hq k i j h
  rcases h9 with h9 | h9
  · exact absurd h9 (by omega)
  · have h9 : q + 1 ≤ ad k i j := h9
    omega
theorem kr_hand (S : pr_C own cc nL rt0 D cs p s m args meth c) (hR : pr_R D cs A ad g σ H) (hS0 : va_S A H0 H locs) {q : Nat} (hq : ∀ k i j, pr_lv g k i j → ad k i j < q) (hAq : A q) {F' : Nat → va_E} (hG : pr_G D (q + 1) q 0 0 F' [.int (-1 : Int32), .int (-1 : Int32), .int 0] H) {x : Int32} (hin : vp_in x 7) (hx0 : x.toNatClampNeg = g 0) (hdg : decode cc pc = .ok (.aastore, 1))
    (kk : ∀ (H1 : Heap) (locs1 : List Loc) (u : pr_Sg), u = pr_mkH σ (g 0) → pr_R D cs A (pr_adH ad (g 0) q) (pr_g g 0) u H1 → va_S A H0 H1 locs1 → W p l e R s m args below meth c H1 locs1 cells slots Q (F0 m (pc + 1) ls rest)) : W p l e R s m args below meth c H locs cells slots Q (F0 m pc ls (.ref q :: .int x :: .ref (ad 80 0 0) :: rest)) := by
  obtain ⟨hx, hb, hml, hown, hts, hK, -, -⟩ := S
  obtain ⟨ha, haA⟩ := hR.1 80 0 0 pr_l80
  rw [pr_ctR (by omega)] at ha
  have hq80 := hq 80 0 0 pr_l80
  refine kc_asq0 (ci := 0) (t0 := 2) (r := (RX0, TX0, 3)) hx hb hK ha rfl hG.2.2.2 rfl hin hdg (fun H1 e z oq => kk H1 _ _ rfl ?_ (hS0.put z oq haA))
  have hother : ∀ {k i j : Nat}, pr_lv g k i j → ¬ (k = 0 ∧ i = g 0 ∧ j = 0) := fun {k i j} h q => by
    obtain ⟨rfl, rfl, rfl⟩ := q
    exact absurd (pr_live0.mp h).1 (Nat.lt_irrefl _)
  have hnew : ∀ {k i j : Nat}, pr_lv (pr_g g 0) k i j → ¬ pr_lv g k i j → k = 0 ∧ i = g 0 ∧ j = 0 := fun {k i j} h h' => by
    by_cases h0 : k = 0
    · subst h0
      obtain ⟨h1, h2⟩ := pr_live0.mp h
      rw [pr_g0] at h1
      have h3 : ¬ (i < g 0 ∧ j = 0) := fun q => h' (pr_live0.mpr q)
      exact ⟨rfl, by omega, h2⟩
    · exfalso
      by_cases h6 : k = 6
      · subst h6; exact h' (pr_live6.mpr (by have := pr_live6.mp h; rwa [pr_gn g (by omega)] at this))
      by_cases h6 : k = 3
      · subst h6; exact h' (pr_live3.mpr (by have := pr_live3.mp h; rwa [pr_gn g (by omega)] at this))
      by_cases h6 : k = 83
      · subst h6; exact h' (pr_live83.mpr (by have := pr_live83.mp h; rwa [pr_gn g (by omega)] at this))
      by_cases h6 : k = 2
      · subst h6; exact h' (pr_live2.mpr (by have := pr_live2.mp h; rwa [pr_gn g (by omega)] at this))
      exact h' (pr_lvg (by omega) h)
  refine pr_grow hR 80 q hq (fun k i j h hk => oq _ (fun q => hk (hR.2 _ _ _ _ _ _ h pr_l80 q).1)) (fun i j h => pr_liveK (Or.inl rfl) h) (fun k i j h h' => ?_) ?_ (fun k i j h => by unfold pr_adH; rw [if_neg (hother h)]) (fun k i j h hk => ?_) (fun k i j k' i' j' a1 a2 b1 b2 _ => ?_)
  · obtain ⟨rfl, rfl, rfl⟩ := hnew h h'
    have e1 : pr_adH ad (g 0) q 0 (g 0) 0 = q := by simp [pr_adH]
    rw [e1]
    refine ⟨?_, hAq, Nat.le_refl q⟩
    have e2 : pr_ct cs (pr_adH ad (g 0) q) (pr_g g 0) (pr_mkH σ (g 0)) 0 (g 0) 0 = .inr (0, [.int (-1 : Int32), .int (-1 : Int32), .int 0]) := by
      rw [pr_ctO (by omega)]
      simp [pr_nf, pr_fv, pr_rt, pr_mkH, List.range_succ]
    rw [e2]
    exact hG.2.2.2.kept (oq _ (by show q ≠ ad 80 0 0; omega))
  · rw [pr_ctR (by omega)]
    have e3 : va_up (pr_rr ad g 80 0) x.toNatClampNeg (some q) = pr_rr (pr_adH ad (g 0) q) (pr_g g 0) 80 0 := by
      funext n
      rw [hx0]
      unfold va_up pr_rr pr_rc pr_ek
      simp only [if_true, pr_g0, show ¬ (80 : Nat) = 83 by omega, if_false]
      by_cases h1 : n = g 0
      · subst h1
        simp [pr_adH]
      · by_cases h2 : n < g 0
        · simp [pr_adH, h1, h2, Nat.lt_succ_of_lt h2]
        · simp [h1, h2, show ¬ n < g 0 + 1 by omega]
    rw [← e3]
    exact e
  · by_cases h10 : k < 10
    · refine pr_ct_eq h10 (fun f hf => ?_)
      have hf42 := pr_nf42 k h10
      unfold pr_fv
      by_cases hr : pr_rt k f = 0
      · rw [if_pos hr, if_pos hr]
        unfold pr_mkH
        rw [if_neg (fun q => hother h ⟨by omega, q.2.1, q.2.2⟩)]
      · rw [if_neg hr, if_neg hr]
        unfold pr_adH
        rw [if_neg (fun q => hr q.1)]
    · by_cases h80 : k < 80
      · refine pr_mid_eq (by omega) h80 ?_
        funext n
        unfold pr_mkH
        rw [if_neg (by omega)]
      · refine pr_rr_eq (by omega) ?_
        funext n
        unfold pr_rr
        have e4 : pr_rc (pr_g g 0) k = pr_rc g k := by
          unfold pr_rc
          rw [if_neg hk, if_neg hk, pr_gn g (by omega), pr_gn g (by omega)]
        have e5 : pr_ek k ≠ 0 := by
          unfold pr_ek
          rw [if_neg hk]
          repeat' split
          all_goals omega
        have e6 : ∀ a b : Nat, pr_adH ad (g 0) q (pr_ek k) a b = ad (pr_ek k) a b := fun a b => by
          unfold pr_adH
          rw [if_neg (fun q => e5 q.1)]
        have e7 : ∀ a b : Nat, pr_adH ad (g 0) q 2 a b = ad 2 a b := fun a b => by
          unfold pr_adH
          rw [if_neg (by omega)]
        rw [e4, e6, e7]
  · obtain ⟨rfl, rfl, rfl⟩ := hnew a1 a2
    obtain ⟨rfl, rfl, rfl⟩ := hnew b1 b2
    exact ⟨rfl, rfl, rfl⟩
theorem kr_sitter (S : pr_C own cc nL rt0 D cs p s m args meth c) (hR : pr_R D cs A ad g σ H) (hS0 : va_S A H0 H locs) {q : Nat} (hq : ∀ k i j, pr_lv g k i j → ad k i j < q) (hAq : A q) {a1 a2 : Int32} {F' : Nat → va_E} (hG : pr_G D (q + 1) q 6 0 F' [.int a1, .int a2, .int 0] H) {x : Int32} (hin : vp_in x 20) (hx0 : x.toNatClampNeg = g 1) (hdg : decode cc pc = .ok (.aastore, 1))
    (kk : ∀ (H1 : Heap) (locs1 : List Loc) (u : pr_Sg), u = pr_mkS σ (g 1) a1 a2 → pr_R D cs A (pr_adS ad (g 1) q) (pr_g g 1) u H1 → va_S A H0 H1 locs1 → W p l e R s m args below meth c H1 locs1 cells slots Q (F0 m (pc + 1) ls rest)) : W p l e R s m args below meth c H locs cells slots Q (F0 m pc ls (.ref q :: .int x :: .ref (ad 81 0 0) :: rest)) := by
  obtain ⟨hx, hb, hml, hown, hts, hK, -, -⟩ := S
  obtain ⟨ha, haA⟩ := hR.1 81 0 0 pr_l81
  rw [pr_ctR (by omega)] at ha
  have hq80 := hq 81 0 0 pr_l81
  refine kc_asq0 (ci := 6) (t0 := 3) (r := (RX6, TX6, 3)) hx hb hK ha rfl hG.2.2.2 rfl hin hdg (fun H1 e z oq => kk H1 _ _ rfl ?_ (hS0.put z oq haA))
  have hother : ∀ {k i j : Nat}, pr_lv g k i j → ¬ (k = 6 ∧ i = g 1 ∧ j = 0) := fun {k i j} h q => by
    obtain ⟨rfl, rfl, rfl⟩ := q
    exact absurd (pr_live6.mp h).1 (Nat.lt_irrefl _)
  have hnew : ∀ {k i j : Nat}, pr_lv (pr_g g 1) k i j → ¬ pr_lv g k i j → k = 6 ∧ i = g 1 ∧ j = 0 := fun {k i j} h h' => by
    by_cases h0 : k = 6
    · subst h0
      obtain ⟨h1, h2⟩ := pr_live6.mp h
      rw [pr_g0] at h1
      have h3 : ¬ (i < g 1 ∧ j = 0) := fun q => h' (pr_live6.mpr q)
      exact ⟨rfl, by omega, h2⟩
    · exfalso
      by_cases h6 : k = 0
      · subst h6; exact h' (pr_live0.mpr (by have := pr_live0.mp h; rwa [pr_gn g (by omega)] at this))
      by_cases h6 : k = 3
      · subst h6; exact h' (pr_live3.mpr (by have := pr_live3.mp h; rwa [pr_gn g (by omega)] at this))
      by_cases h6 : k = 83
      · subst h6; exact h' (pr_live83.mpr (by have := pr_live83.mp h; rwa [pr_gn g (by omega)] at this))
      by_cases h6 : k = 2
      · subst h6; exact h' (pr_live2.mpr (by have := pr_live2.mp h; rwa [pr_gn g (by omega)] at this))
      exact h' (pr_lvg (by omega) h)
  refine pr_grow hR 81 q hq (fun k i j h hk => oq _ (fun q => hk (hR.2 _ _ _ _ _ _ h pr_l81 q).1)) (fun i j h => pr_liveK (Or.inr (Or.inl rfl)) h) (fun k i j h h' => ?_) ?_ (fun k i j h => by unfold pr_adS; rw [if_neg (hother h)]) (fun k i j h hk => ?_) (fun k i j k' i' j' a1 a2 b1 b2 _ => ?_)
  · obtain ⟨rfl, rfl, rfl⟩ := hnew h h'
    have e1 : pr_adS ad (g 1) q 6 (g 1) 0 = q := by simp [pr_adS]
    rw [e1]
    refine ⟨?_, hAq, Nat.le_refl q⟩
    have e2 : pr_ct cs (pr_adS ad (g 1) q) (pr_g g 1) (pr_mkS σ (g 1) a1 a2) 6 (g 1) 0 = .inr (6, [.int a1, .int a2, .int 0]) := by
      rw [pr_ctO (by omega)]
      simp [pr_nf, pr_fv, pr_rt, pr_mkS, List.range_succ]
    rw [e2]
    exact hG.2.2.2.kept (oq _ (by show q ≠ ad 81 0 0; omega))
  · rw [pr_ctR (by omega)]
    have e3 : va_up (pr_rr ad g 81 0) x.toNatClampNeg (some q) = pr_rr (pr_adS ad (g 1) q) (pr_g g 1) 81 0 := by
      funext n
      rw [hx0]
      unfold va_up pr_rr pr_rc pr_ek
      simp only [if_true, pr_g0, show ¬ (81 : Nat) = 80 by omega, if_false, show ¬ (81 : Nat) = 83 by omega]
      by_cases h1 : n = g 1
      · subst h1
        simp [pr_adS]
      · by_cases h2 : n < g 1
        · simp [pr_adS, h1, h2, Nat.lt_succ_of_lt h2]
        · simp [h1, h2, show ¬ n < g 1 + 1 by omega]
    rw [← e3]
    exact e
  · by_cases h10 : k < 10
    · refine pr_ct_eq h10 (fun f hf => ?_)
      have hf42 := pr_nf42 k h10
      unfold pr_fv
      by_cases hr : pr_rt k f = 0
      · rw [if_pos hr, if_pos hr]
        unfold pr_mkS
        rw [if_neg (fun q => hother h ⟨by omega, q.2.1, q.2.2⟩)]
      · rw [if_neg hr, if_neg hr]
        unfold pr_adS
        rw [if_neg (fun q => (pr_rt02 k h10 f (by omega) hr).1 q.1)]
    · by_cases h80 : k < 80
      · refine pr_mid_eq (by omega) h80 ?_
        funext n
        unfold pr_mkS
        rw [if_neg (by omega)]
      · refine pr_rr_eq (by omega) ?_
        funext n
        unfold pr_rr
        have e4 : pr_rc (pr_g g 1) k = pr_rc g k := by
          unfold pr_rc
          rw [if_neg hk, if_neg hk, pr_gn g (by omega), pr_gn g (by omega)]
        have e5 : pr_ek k ≠ 6 := by
          unfold pr_ek
          rw [if_neg hk]
          repeat' split
          all_goals omega
        have e6 : ∀ a b : Nat, pr_adS ad (g 1) q (pr_ek k) a b = ad (pr_ek k) a b := fun a b => by
          unfold pr_adS
          rw [if_neg (fun q => e5 q.1)]
        have e7 : ∀ a b : Nat, pr_adS ad (g 1) q 2 a b = ad 2 a b := fun a b => by
          unfold pr_adS
          rw [if_neg (by omega)]
        rw [e4, e6, e7]
  · obtain ⟨rfl, rfl, rfl⟩ := hnew a1 a2
    obtain ⟨rfl, rfl, rfl⟩ := hnew b1 b2
    exact ⟨rfl, rfl, rfl⟩
end PRN
