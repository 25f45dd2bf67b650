/-! CONSTRUCTORS: the cells that are made lie one behind another from the heap's size b on; 'this' lies before them. -/
def pr_A (h0 b : Nat) : Nat → Prop := fun q => q = h0 ∨ b ≤ q
def pr_G (D : va_G) (b h0 k N : Nat) (F : Nat → va_E) (fs : List Value) (H : Heap) : Prop := H.size = b + N ∧ h0 < b ∧ (∀ n, n < N → va_at D vwCl (b + n, F n) H) ∧ va_at D vwCl (h0, .inr (k, fs)) H
def pr_F0 : Nat → va_E := fun _ => .inr (0, [])
abbrev pr_Mc (l : Launch) (D : va_G) (cs : Nat → ClassId) (y : MethodName) (cc : ByteArray) (n : Nat) (rm : Room) (b h0 k : Nat) (as : List Value) (fs : List Value) (N : Nat) (F : Nat → va_E) (fs' : List Value) (mc ms : Nat) : Prop := Met l y (pr_ws y cc n none) rm (va_Pc (.ref h0 :: as) (fun U => pr_G D b h0 k 0 pr_F0 fs U.heap ∧ pr_K D cs U)) (va_Qv (fun _ : Unit => True) (fun _ t => pr_G D b h0 k N F fs' t.heap) (pr_A h0 b)) mc ms (pr_A h0 b)
theorem pr_G.this {D : va_G} {b h0 k N : Nat} {F : Nat → va_E} {fs fs' : List Value} {H H1 : Heap} (h : pr_G D b h0 k N F fs H) (z : H1.size = H.size) (e : va_at D vwCl (h0, .inr (k, fs')) H1) (oq : ∀ q : Nat, q ≠ h0 → H1[q]? = H[q]?) : pr_G D b h0 k N F fs' H1 :=
  ⟨z.trans h.1, h.2.1, fun n hn => (h.2.2.1 n hn).kept (oq _ (by have := h.2.1; show b + n ≠ h0; omega)), e⟩
theorem pr_G.cell {D : va_G} {b h0 k N n0 : Nat} {F : Nat → va_E} {fs : List Value} {H H1 : Heap} {e : va_E} (h : pr_G D b h0 k N F fs H) (z : H1.size = H.size) (he : va_at D vwCl (b + n0, e) H1) (oq : ∀ q : Nat, q ≠ b + n0 → H1[q]? = H[q]?) : pr_G D b h0 k N (va_up F n0 e) fs H1 := by
  refine ⟨z.trans h.1, h.2.1, fun n hn => ?_, h.2.2.2.kept (oq _ (by have := h.2.1; show h0 ≠ b + n0; omega))⟩
  by_cases q : n = n0
  · subst q
    rw [va_up_self]
    exact he
  · rw [va_up_ne _ _ q]
    exact (h.2.2.1 n hn).kept (oq _ (by show b + n ≠ b + n0; omega))
theorem pr_G.push {D : va_G} {b h0 k N : Nat} {F : Nat → va_E} {fs : List Value} {H H1 : Heap} {e : va_E} (h : pr_G D b h0 k N F fs H) (z : H1.size = H.size + 1) (he : va_at D vwCl (H.size, e) H1) (oq : ∀ q : Nat, q < H.size → H1[q]? = H[q]?) : pr_G D b h0 k (N + 1) (va_up F N e) fs H1 := by
  have h1 := h.1
  refine ⟨by omega, h.2.1, fun n hn => ?_, h.2.2.2.kept (oq _ (by have := h.2.1; show h0 < H.size; omega))⟩
  by_cases q : n = N
  · subst q
    rw [va_up_self, ← h1]
    exact he
  · rw [va_up_ne _ _ q]
    exact (h.2.2.1 n (by omega)).kept (oq _ (by show b + n < H.size; omega))
theorem pr_Sp {A : Nat → Prop} {H0 H H1 : Heap} {locs : List Loc} (hS : va_S A H0 H locs) (z : H.size ≤ H1.size) (oq : ∀ q : Nat, q < H.size → H1[q]? = H[q]?) : va_S A H0 H1 locs := ⟨Nat.le_trans hS.1 z, fun x h1 h2 => (oq x (Nat.lt_of_lt_of_le h1 hS.1)).trans (hS.2.1 x h1 h2), hS.2.2⟩
theorem pr_clsOf {D : va_G} {cs : Nat → ClassId} {s : State} (hK : pr_K D cs s) (t0 : Nat) {cA : ClassId} {ty : FieldType} (ht : (pr_tys cs)[t0]? = some (cA, ty)) {c2 : ClassId} (h : s.vm.findClass ("[" ++ ty.toString) = some c2) : c2 = cA := by
  have h2 := (hK.1.2 t0 _ ht).2
  cases ty with
  | object C =>
    obtain ⟨_, _, _, _, _, h4⟩ := h2
    exact Option.some.inj (h.symm.trans h4)
  | _ => exact Option.some.inj (h.symm.trans h2)
section PRG
variable {p : Program} {l : Launch} {e : Env} {R : Room} {s : State} {m : MethodId} {args : Array Value} {below : List Frame} {meth : Method} {c : Code} {H : Heap} {locs : List Loc} {cells slots : Nat} {Q : State → Prop}
variable {cc : ByteArray} {pc nL : Nat} {rt0 : Option FieldType} {ls : Array Slot} {rest : List Value} {D : va_G} {cs : Nat → ClassId} {b h0 k N : Nat} {F : Nat → va_E} {fs : List Value} {H0 : Heap} {own : String}
theorem kc_get {C ref : String} {T : u_T} {Nf index : Nat} (S : pr_C own cc nL rt0 D cs p s m args meth c) (hG : pr_G D b h0 k N F fs H) (hc : vwCl[k]? = some (C, T, Nf)) (hin : ∀ w ∈ u_ws C T Nf, w ∈ wsL_law) (f : Nat) (hf : f < Nf) (hlink : Cond.fieldLink own index ref (T f).2.1 (T f).2.2.1 ∈ wsL_law) (href : (T f).1 = ref) {v : Value} (hv : fs[f]? = some v) (hdg : decode cc pc = .ok (.getfield index, 3))
    (kk : W p l e R s m args below meth c H locs cells slots Q (F0 m (pc + 3) ls (v :: rest))) : W p l e R s m args below meth c H locs cells slots Q (F0 m pc ls (.ref h0 :: rest)) := by
  obtain ⟨hx, hb, hml, hown, hts, hK, -, -⟩ := S
  subst href
  refine va_get (D := D) (cl := vwCl) (ws := [(h0, .inr (k, fs))]) (ci := k) (v := v) hx hb hts hin hown hK.1 (fun n q hq => ?_) 0 rfl hc f hf (hts _ hlink) (fun _ h => h) hv hdg kk
  match n, hq with
  | 0, hq => cases hq; exact hG.2.2.2
  | n + 1, hq => simp at hq
theorem kc_put {C ref : String} {T : u_T} {Nf index : Nat} (S : pr_C own cc nL rt0 D cs p s m args meth c) (hG : pr_G D b h0 k N F fs H) (hS0 : va_S (pr_A h0 b) H0 H locs) (hc : vwCl[k]? = some (C, T, Nf)) (hin : ∀ w ∈ u_ws C T Nf, w ∈ wsL_law) (ty0 : Nat → FieldType) (hty : ∀ k, k < Nf → parseFieldDescriptor (T k).2.2.1 = some (ty0 k)) (hnm : ∀ a, a < Nf → ∀ b, b < Nf → a ≠ b → (T a).2.1 ≠ (T b).2.1) (f : Nat) (hf : f < Nf) (hlink : Cond.fieldLink own index ref (T f).2.1 (T f).2.2.1 ∈ wsL_law) (href : (T f).1 = ref) (hfin : (T f).2.2.2 = false) {v : Value} (hn : narrow (ty0 f) v = v) (hfit : fits (ty0 f) v = true) (hl : f < fs.length) (hdg : decode cc pc = .ok (.putfield index, 3)) {fs' : List Value} (hfs : fs.set f v = fs')
    (kk : ∀ (H1 : Heap) (locs1 : List Loc), pr_G D b h0 k N F fs' H1 → va_S (pr_A h0 b) H0 H1 locs1 → W p l e R s m args below meth c H1 locs1 cells slots Q (F0 m (pc + 3) ls rest)) : W p l e R s m args below meth c H locs cells slots Q (F0 m pc ls (v :: .ref h0 :: rest)) := by
  obtain ⟨hx, hb, hml, hown, hts, hK, -, -⟩ := S
  subst hfs
  subst href
  have hap := va_apart (own := own) hts hin ty0 hty hnm hK.1 hc
  obtain ⟨r, h1, cell, q1, q2, q3, q4⟩ := hG.2.2.2
  have hr : r = (C, T, Nf) := Option.some.inj (h1.symm.trans hc)
  subst hr
  obtain ⟨hS, hfc, kC, hkC, hkind⟩ := hK.1.1 k _ hc
  obtain ⟨cf, kf, fi, fd, hi, hsl⟩ := hS f hf
  have hlay := hts _ (hin _ (u_in_lay hf))
  unfold u_lay at hlay
  rw [if_neg (by rw [hfin]; decide)] at hlay
  have hst := (u_facts hfc hkC (u_lays hts hin hf) hi).1
  have h6 := u_store hfc hkC hkind hlay hi (hty f hf) hn hfit
  refine W.putK hx hb (f := fd) ⟨hown, hts _ hlink, ⟨_, _, _, hi⟩, hst⟩ (by rw [q2]; exact h6) q1 q3 (by rw [hsl]; exact k2_hasslot (q4 f hf)) rfl rfl hdg fun H' e1 e2 e3 => ?_
  rw [hsl] at e1 ⊢
  exact kk H' _ (hG.this e2 ⟨_, hc, t_OB.to (V := updV (vp_V fs) f v) ⟨_, e1, q2, q3, t_set q4 hap hf v⟩ (fun j _ => vp_updV_set hl v j)⟩ e3) (hS0.put e2 e3 (Or.inl rfl))
theorem kc_putF {C ref : String} {T : u_T} {Nf index : Nat} (S : pr_C own cc nL rt0 D cs p s m args meth c) (hin2 : meth.name = "<init>") (hG : pr_G D b h0 k N F fs H) (hS0 : va_S (pr_A h0 b) H0 H locs) (hc : vwCl[k]? = some (C, T, Nf)) (hin : ∀ w ∈ u_ws C T Nf, w ∈ wsL_law) (ty0 : Nat → FieldType) (hty : ∀ k, k < Nf → parseFieldDescriptor (T k).2.2.1 = some (ty0 k)) (hnm : ∀ a, a < Nf → ∀ b, b < Nf → a ≠ b → (T a).2.1 ≠ (T b).2.1) (f : Nat) (hf : f < Nf) (hlink : Cond.fieldLink own index ref (T f).2.1 (T f).2.2.1 ∈ wsL_law) (href : (T f).1 = ref) (hfin : (T f).2.2.2 = true) (hdecl : (T f).1 = own) {v : Value} (hn : narrow (ty0 f) v = v) (hfit : fits (ty0 f) v = true) (hl : f < fs.length) (hdg : decode cc pc = .ok (.putfield index, 3)) {fs' : List Value} (hfs : fs.set f v = fs')
    (kk : ∀ (H1 : Heap) (locs1 : List Loc), pr_G D b h0 k N F fs' H1 → va_S (pr_A h0 b) H0 H1 locs1 → W p l e R s m args below meth c H1 locs1 cells slots Q (F0 m (pc + 3) ls rest)) : W p l e R s m args below meth c H locs cells slots Q (F0 m pc ls (v :: .ref h0 :: rest)) := by
  obtain ⟨hx, hb, hml, hown, hts, hK, -, -⟩ := S
  subst hfs
  subst href
  have hap := va_apart (own := own) hts hin ty0 hty hnm hK.1 hc
  obtain ⟨r, h1, cell, q1, q2, q3, q4⟩ := hG.2.2.2
  have hr : r = (C, T, Nf) := Option.some.inj (h1.symm.trans hc)
  subst hr
  obtain ⟨hS, hfc, kC, hkC, hkind⟩ := hK.1.1 k _ hc
  obtain ⟨cf, kf, fi, fd, hi, hsl⟩ := hS f hf
  have hlay := hts _ (hin _ (u_in_lay hf))
  unfold u_lay at hlay
  rw [if_pos hfin] at hlay
  have hst := (u_facts hfc hkC (u_lays hts hin hf) hi).1
  have hcf : m.cls = cf := by
    obtain ⟨_, _, c', _, _, _, -, -, hf', -, -, -, hown2, -⟩ := Cond.laysFinal_spec hlay
    have e1 : c' = cf := by have := hi.symm.trans hf'; simp at this; exact this.1.symm
    rw [hdecl] at hown2
    rw [← e1]; exact Option.some.inj (hown.symm.trans hown2)
  have h6 := u_fits hfc hkC hkind (Or.inr hlay) hi (hty f hf) hn hfit
  refine W.putFinK hx hb hown (hts _ hlink) hi hst hcf hin2 (by rw [q2]; exact h6) q1 q3 (by rw [hsl]; exact k2_hasslot (q4 f hf)) rfl rfl hdg fun H' e1 e2 e3 => ?_
  rw [hsl] at e1 ⊢
  exact kk H' _ (hG.this e2 ⟨_, hc, t_OB.to (V := updV (vp_V fs) f v) ⟨_, e1, q2, q3, t_set q4 hap hf v⟩ (fun j _ => vp_updV_set hl v j)⟩ e3) (hS0.put e2 e3 (Or.inl rfl))
theorem kc_newi (S : pr_C own cc nL rt0 D cs p s m args meth c) (hG : pr_G D b h0 k N F fs H) (hS0 : va_S (pr_A h0 b) H0 H locs) {n : Int32} {N' : Nat} (hw : Cond.arrayClass .int ∈ wsL_law) (hn : ¬ n < 0) (hN : n.toNatClampNeg = N') (hbytes : N' * 4 ≤ 536870912) (hcells : cells + 1 ≤ R.cells) (hslots : slots + N' ≤ R.slots) (hdg : decode cc pc = .ok (.newarray .int, 2)) {N1 : Nat} (hN1 : N + 1 = N1)
    (kk : ∀ (H1 : Heap), pr_G D b h0 k N1 (va_up F N (.inl (cs 0, N', .inl (fun _ => 0)))) fs H1 → va_S (pr_A h0 b) H0 H1 locs → W p l e R s m args below meth c H1 locs (cells + 1) (slots + N') Q (F0 m (pc + 2) ls (.ref (b + N) :: rest))) : W p l e R s m args below meth c H locs cells slots Q (F0 m pc ls (.int n :: rest)) := by
  obtain ⟨hx, hb, hml, hown, hts, hK, -, -⟩ := S
  subst hN1
  refine va_newaK hx hb (atype := .int) (hts _ hw) rfl hdg rfl hn hN hbytes hcells hslots rfl fun H1 cA e1 z1 o1 hAr hNm => ?_
  have hcA : cA = cs 0 := pr_clsOf hK 0 rfl hNm
  subst hcA
  have hsz := hG.1
  rw [hsz]
  exact kk H1 (hG.push z1 e1 o1) (pr_Sp hS0 (by omega) o1)
theorem kc_newz (S : pr_C own cc nL rt0 D cs p s m args meth c) (hG : pr_G D b h0 k N F fs H) (hS0 : va_S (pr_A h0 b) H0 H locs) {n : Int32} {N' : Nat} (hw : Cond.arrayClass .boolean ∈ wsL_law) (hn : ¬ n < 0) (hN : n.toNatClampNeg = N') (hbytes : N' * 4 ≤ 536870912) (hcells : cells + 1 ≤ R.cells) (hslots : slots + N' ≤ R.slots) (hdg : decode cc pc = .ok (.newarray .boolean, 2)) {N1 : Nat} (hN1 : N + 1 = N1)
    (kk : ∀ (H1 : Heap), pr_G D b h0 k N1 (va_up F N (.inl (cs 1, N', .inl (fun _ => 0)))) fs H1 → va_S (pr_A h0 b) H0 H1 locs → W p l e R s m args below meth c H1 locs (cells + 1) (slots + N') Q (F0 m (pc + 2) ls (.ref (b + N) :: rest))) : W p l e R s m args below meth c H locs cells slots Q (F0 m pc ls (.int n :: rest)) := by
  obtain ⟨hx, hb, hml, hown, hts, hK, -, -⟩ := S
  subst hN1
  refine va_newaK hx hb (atype := .boolean) (hts _ hw) rfl hdg rfl hn hN (by have : componentBytes (newarray.typeOf .boolean) = 1 := rfl; rw [this]; omega) hcells hslots rfl fun H1 cA e1 z1 o1 hAr hNm => ?_
  have hcA : cA = cs 1 := pr_clsOf hK 1 rfl hNm
  subst hcA
  have hsz := hG.1
  rw [hsz]
  exact kk H1 (hG.push z1 e1 o1) (pr_Sp hS0 (by omega) o1)
theorem kc_newq (S : pr_C own cc nL rt0 D cs p s m args meth c) (hG : pr_G D b h0 k N F fs H) (hS0 : va_S (pr_A h0 b) H0 H locs) {C : String} {index t0 : Nat} {cA0 : ClassId} (hC : C = RX0 ∨ C = RX6 ∨ C = RX3 ∨ C = RX2) (ht : (pr_tys cs)[t0]? = some (cA0, .object C)) {n : Int32} {N' : Nat} (hw : Cond.classLink own index C ∈ wsL_law) (hn : ¬ n < 0) (hN : n.toNatClampNeg = N') (hbytes : N' * 4 ≤ 536870912) (hcells : cells + 1 ≤ R.cells) (hslots : slots + N' ≤ R.slots) (hdg : decode cc pc = .ok (.anewarray index, 3)) {N1 : Nat} (hN1 : N + 1 = N1)
    (kk : ∀ (H1 : Heap), pr_G D b h0 k N1 (va_up F N (.inl (cA0, N', .inr (.inr (.inr (.inr (fun _ => none))))))) fs H1 → va_S (pr_A h0 b) H0 H1 locs → W p l e R s m args below meth c H1 locs (cells + 1) (slots + N') Q (F0 m (pc + 3) ls (.ref (b + N) :: rest))) : W p l e R s m args below meth c H locs cells slots Q (F0 m pc ls (.int n :: rest)) := by
  obtain ⟨hx, hb, hml, hown, hts, hK, -, -⟩ := S
  subst hN1
  subst hN
  refine W.anew hx hb hown (hts _ hw) (va_AO.use (hK.2.2.1 C hC)) rfl hdg rfl hn hbytes hcells hslots fun cA kA comp f1 f2 f3 f4 => ?_
  have hcA : cA = cA0 := pr_clsOf hK t0 ht f1
  subst hcA
  generalize hH1 : H.push ({ cls := cA, slots := Array.replicate n.toNatClampNeg .null, vm := .none } : Cell) = H1
  have z1 : H1.size = H.size + 1 := by rw [← hH1, Array.size_push]
  have e1 : H1[H.size]? = some (arrV cA n.toNatClampNeg (fun _ => .null)) := by rw [← hH1, Array.getElem?_push_size, ← arrV_new]
  have o1 : ∀ q : Nat, q < H.size → H1[q]? = H[q]? := fun q hq => by rw [← hH1, Array.getElem?_push, if_neg (Nat.ne_of_lt hq)]
  have hsz := hG.1
  have hG1 := hG.push (e := .inl (cA, n.toNatClampNeg, .inr (.inr (.inr (.inr (fun _ => none)))))) z1 (show H1[H.size]? = some (vp_cell _ _) by rw [vp_cell_q]; exact e1) o1
  rw [hsz]
  exact kk H1 hG1 (pr_Sp hS0 (by omega) o1)
theorem kc_new {C : String} {T : u_T} {Nf index k' : Nat} (S : pr_C own cc nL rt0 D cs p s m args meth c) (hG : pr_G D b h0 k N F fs H) (hS0 : va_S (pr_A h0 b) H0 H locs) (hc : vwCl[k']? = some (C, T, Nf)) (hin : ∀ w ∈ u_ws C T Nf, w ∈ wsL_law) (ty0 : Nat → FieldType) (hty : ∀ k, k < Nf → parseFieldDescriptor (T k).2.2.1 = some (ty0 k)) (h1 : Cond.classLink own index C ∈ wsL_law) (h2 : Cond.instantiable C Nf ∈ wsL_law) (h3 : Cond.initialized C ∈ wsL_law) {gs : List Value} (hgs : ∀ j, j < Nf → defaultValue (ty0 j) = vp_V gs j) (hcells : cells + 1 ≤ R.cells) (hslots : slots + Nf ≤ R.slots) (hdg : decode cc pc = .ok (.new index, 3)) {N1 : Nat} (hN1 : N + 1 = N1)
    (kk : ∀ (H1 : Heap), pr_G D b h0 k N1 (va_up F N (.inr (k', gs))) fs H1 → va_S (pr_A h0 b) H0 H1 locs → W p l e R s m args below meth c H1 locs (cells + 1) (slots + Nf) Q (F0 m (pc + 3) ls (.ref (b + N) :: rest))) : W p l e R s m args below meth c H locs cells slots Q (F0 m pc ls rest) := by
  obtain ⟨hx, hb, hml, hown, hts, hK, -, -⟩ := S
  subst hN1
  have hKn := hK.1.1 k' _ hc
  refine W.newcK hx hb hown (hts _ h1) (hts _ h2) (hts _ h3) rfl hdg hcells hslots hKn.2.1 rfl fun H1 kC hkC e1 z1 o1 => ?_
  have hsz := hG.1
  have hG1 := hG.push (e := .inr (k', gs)) z1 ⟨_, hc, (u_born ty0 hts hin hKn hkC e1 hty).to hgs⟩ o1
  show W p l e R s m args below meth c H1 locs (cells + 1) (slots + Nf) Q (F0 m (pc + 3) ls (.ref H.size :: rest))
  rw [hsz]
  exact kk H1 hG1 (pr_Sp hS0 (by omega) o1)
theorem kc_ast (S : pr_C own cc nL rt0 D cs p s m args meth c) (hG : pr_G D b h0 k N F fs H) (hS0 : va_S (pr_A h0 b) H0 H locs) (n : Nat) (hn : n < N) {len : Nat} {f : Nat → Int32} (hF : F n = .inl (cs 0, len, .inl f)) {x v : Int32} (hin : vp_in x len) (hdg : decode cc pc = .ok (.iastore, 1))
    (kk : ∀ (H1 : Heap) (locs1 : List Loc), pr_G D b h0 k N (va_up F n (.inl (cs 0, len, .inl (upd f x.toNatClampNeg v)))) fs H1 → va_S (pr_A h0 b) H0 H1 locs1 → W p l e R s m args below meth c H1 locs1 cells slots Q (F0 m (pc + 1) ls rest)) : W p l e R s m args below meth c H locs cells slots Q (F0 m pc ls (.int v :: .int x :: .ref (b + n) :: rest)) := by
  obtain ⟨hx, hb, hml, hown, hts, hK, -, -⟩ := S
  have ha := hG.2.2.1 n hn
  rw [hF] at ha
  refine W.iast hx hb ha ((hK.1.2 0 _ rfl).1 len (fun j => .int (f j))) (fun q => by cases q) (by show ¬ (x < 0 ∨ (arrV _ _ _).slots.size ≤ _); rw [arrV_size]; exact hin) rfl rfl hdg fun H1 e z oq => ?_
  refine kk H1 _ (hG.cell z ?_ oq) (hS0.put z oq (Or.inr (by omega)))
  show H1[b + n]? = some (vp_cell _ _)
  rw [e]
  rw [vp_cell_i, vp_cell_i, arrV_store]
  congr 2
  funext q
  by_cases hq : q = x.toNatClampNeg
  · subst hq
    simp [updV, upd]
  · simp [updV, upd, hq]
/-- an object into an array of references -/
theorem kc_asq0 (hx : p.tables.exec = Jvm.exec) (hb : c.code = cc) (hK : pr_K D cs s) {a v n t0 ci : Nat} {r : vw_C} {f : Nat → Option Nat} {vs : List Value} {cA : ClassId} (ha : va_at D vwCl (a, .inl (cA, n, .inr (.inr (.inr (.inr f))))) H) (ht : (pr_tys cs)[t0]? = some (cA, .object r.1)) (hv : va_at D vwCl (v, .inr (ci, vs)) H) (hc : vwCl[ci]? = some r) {x : Int32} (hin : vp_in x n) (hdg : decode cc pc = .ok (.aastore, 1))
    (kk : ∀ (H1 : Heap), va_at D vwCl (a, .inl (cA, n, .inr (.inr (.inr (.inr (va_up f x.toNatClampNeg (some v))))))) H1 → H1.size = H.size → (∀ q : Nat, q ≠ a → H1[q]? = H[q]?) → W p l e R s m args below meth c H1 (locs ++ [⟨a, x.toNatClampNeg⟩]) cells slots Q (F0 m (pc + 1) ls rest)) : W p l e R s m args below meth c H locs cells slots Q (F0 m pc ls (.ref v :: .int x :: .ref a :: rest)) := by
  have hlt : x.toNatClampNeg < n := Nat.not_le.mp fun q => hin (Or.inr q)
  have h0 : ¬ x < 0 := fun q => hin (Or.inl q)
  obtain ⟨r', hr', cellV, g1, g2, g3, -⟩ := hv
  have hcls := (hK.1.1 ci r hc).2
  obtain ⟨kA, comp, k1, k2, k3, -⟩ := (hK.1.2 t0 _ ht).2
  have hcomp : comp = D.1 ci := Option.some.inj (k3.symm.trans hcls.1)
  subst hcomp
  obtain ⟨kC, hkC, -⟩ := hcls.2
  refine W.aast hx hb ha (fun q h => by cases h) (fun h => by cases h) k1 k2 rfl hkC ⟨h0, by show _ < (arrV _ _ _).slots.size; rw [arrV_size]; exact hlt⟩ g1 (fun q h => by rw [g3] at h; cases h) (by rw [g2]; exact hkC) (by rw [g2]; exact va_assign hcls) rfl rfl hdg fun H1 e z oq => ?_
  refine kk H1 ?_ z oq
  show H1[a]? = some (vp_cell _ _)
  rw [e]
  rw [vp_cell_q, vp_cell_q, arrV_store]
  congr 2
  funext q
  by_cases hq : q = x.toNatClampNeg
  · subst hq
    simp [updV, va_up, va_rf]
  · simp [updV, va_up, hq]
theorem kc_asq (S : pr_C own cc nL rt0 D cs p s m args meth c) (hG : pr_G D b h0 k N F fs H) (hS0 : va_S (pr_A h0 b) H0 H locs) (n v : Nat) (hn : n < N) (hv : v < N) {len t0 ci : Nat} {r : vw_C} {f : Nat → Option Nat} {vs : List Value} {cA : ClassId} (hF : F n = .inl (cA, len, .inr (.inr (.inr (.inr f))))) (ht : (pr_tys cs)[t0]? = some (cA, .object r.1)) (hFv : F v = .inr (ci, vs)) (hc : vwCl[ci]? = some r) {x : Int32} (hin : vp_in x len) (hdg : decode cc pc = .ok (.aastore, 1))
    (kk : ∀ (H1 : Heap) (locs1 : List Loc), pr_G D b h0 k N (va_up F n (.inl (cA, len, .inr (.inr (.inr (.inr (va_up f x.toNatClampNeg (some (b + v))))))))) fs H1 → va_S (pr_A h0 b) H0 H1 locs1 → W p l e R s m args below meth c H1 locs1 cells slots Q (F0 m (pc + 1) ls rest)) : W p l e R s m args below meth c H locs cells slots Q (F0 m pc ls (.ref (b + v) :: .int x :: .ref (b + n) :: rest)) := by
  have ha := hG.2.2.1 n hn
  rw [hF] at ha
  have hav := hG.2.2.1 v hv
  rw [hFv] at hav
  exact kc_asq0 S.1 S.2.1 S.2.2.2.2.2.1 ha ht hav hc hin hdg (fun H1 e z oq => kk H1 _ (hG.cell z e oq) (hS0.put z oq (Or.inr (by omega))))
theorem kc_mna (S : pr_C own cc nL rt0 D cs p s m args meth c) (hG : pr_G D b h0 k N F fs H) (hS0 : va_S (pr_A h0 b) H0 H locs) {index : Nat} {n kk0 : Int32} {N' K' : Nat} (hw : Cond.classLink own index "[[I" ∈ wsL_law) (hw2 : Cond.arrayClass .int ∈ wsL_law) (hn : ¬ n < 0) (hk0 : ¬ kk0 < 0) (hN : n.toNatClampNeg = N') (hM : kk0.toNatClampNeg = K') (hb1 : N' * 4 ≤ 536870912) (hb2 : K' * 4 ≤ 536870912) (hcells : cells + (1 + N') ≤ R.cells) (hslots : slots + (N' + N' * K') ≤ R.slots) (hdg : decode cc pc = .ok (.multianewarray index 2, 4)) {N1 : Nat} (hN1 : N + (1 + N') = N1)
    (kk : ∀ (H1 : Heap), pr_G D b h0 k N1 (fun q => if q < N then F q else if q = N then .inl (cs 6, N', .inr (.inr (.inr (.inr (fun i => if i < N' then some (b + N + 1 + i) else none))))) else .inl (cs 0, K', .inl (fun _ => 0))) fs H1 → va_S (pr_A h0 b) H0 H1 locs → W p l e R s m args below meth c H1 locs (cells + 1 + N') (slots + N' + N' * K') Q (F0 m (pc + 4) ls (.ref (b + N) :: rest))) : W p l e R s m args below meth c H locs cells slots Q (F0 m pc ls (.int kk0 :: .int n :: rest)) := by
  obtain ⟨hx, hb, hml, hown, hts, hK, -, -⟩ := S
  subst hN1
  subst hN
  subst hM
  intro T hT Xs
  obtain ⟨vm₁, cA, comp, -, fA, fC, hO, -, X', step⟩ := Jvm.Stand.multianewarray2F Xs hx hown (ty := .int) (hts _ hw) (va_AOA.use hK.2.2.2) (hts _ hw2) (g := F0 m pc ls (.int kk0 :: .int n :: rest)) rfl (by rw [hb]; exact hdg) rfl hn hk0 hb1 hb2 (by omega) (by decide) (by decide) hcells hslots
  have hcA : cA = cs 6 := pr_clsOf hK 6 rfl fA
  have hcC : comp = cs 0 := pr_clsOf hK 0 rfl fC
  subst hcA
  subst hcC
  generalize hF : Jvm.Free.Multi.fill (T.setVm vm₁) (cs 6) (cs 0) n.toNatClampNeg kk0.toNatClampNeg (defaultValue .int) n.toNatClampNeg = F2 at X' step
  have hTh : (T.setVm vm₁).heap = H := hT
  obtain ⟨f1, f2, -, -⟩ := Jvm.Free.Multi.fill_facts (T.setVm vm₁) (cs 6) (cs 0) n.toNatClampNeg kk0.toNatClampNeg (defaultValue .int) n.toNatClampNeg
  rw [hF, hTh] at f1 f2
  have hold : ∀ x : Nat, x < H.size → F2.heap[x]? = H[x]? := fun x hx => by
    have := Jvm.Free.Multi.fill_old (T.setVm vm₁) (cs 6) (cs 0) n.toNatClampNeg kk0.toNatClampNeg (defaultValue .int) (a := x) (by rw [hTh]; exact hx) n.toNatClampNeg
    rw [hF, hTh] at this
    exact this
  have hrow : ∀ j : Nat, j < n.toNatClampNeg → F2.heap[H.size + 1 + j]? = some (vp_cell (cs 0) (kk0.toNatClampNeg, .inl (fun _ => 0))) := fun j hj => by
    have := Jvm.Free.Multi.fill_inner (T.setVm vm₁) (cs 6) (cs 0) n.toNatClampNeg kk0.toNatClampNeg (defaultValue .int) n.toNatClampNeg j hj
    rw [hF, hTh] at this
    rw [this]
    exact congrArg some (arrV_new _ _ _)
  have hout : Jvm.Free.Multi.outerC (cs 6) n.toNatClampNeg H.size n.toNatClampNeg = vp_cell (cs 6) (n.toNatClampNeg, .inr (.inr (.inr (.inr (fun i => if i < n.toNatClampNeg then some (H.size + 1 + i) else none))))) := by
    rw [vp_cell_q]
    exact vr_outer (cs 6) n.toNatClampNeg H.size n.toNatClampNeg
  rw [hout] at f2
  have hsz := hG.1
  have hall : ∀ q, q < N + (1 + n.toNatClampNeg) → va_at D vwCl (b + q, if q < N then F q else if q = N then .inl (cs 6, n.toNatClampNeg, .inr (.inr (.inr (.inr (fun i => if i < n.toNatClampNeg then some (b + N + 1 + i) else none))))) else .inl (cs 0, kk0.toNatClampNeg, .inl (fun _ => 0))) F2.heap := by
    intro q hq
    by_cases h1 : q < N
    · rw [if_pos h1]
      exact (hG.2.2.1 q h1).kept (hold _ (by show b + q < H.size; omega))
    · rw [if_neg h1]
      by_cases h2 : q = N
      · rw [if_pos h2]
        subst h2
        show F2.heap[b + q]? = some (vp_cell _ _)
        rw [← hsz]
        exact f2
      · rw [if_neg h2]
        have h3 := hrow (q - N - 1) (by omega)
        show F2.heap[b + q]? = some (vp_cell _ _)
        rw [← h3]
        congr 1
        omega
  obtain ⟨t, a1, b1⟩ := kk F2.heap ⟨by rw [f1, hsz]; omega, hG.2.1, hall, hG.2.2.2.kept (hold _ (by have := hG.2.1; show h0 < H.size; omega))⟩ (pr_Sp hS0 (by rw [f1]; omega) hold) F2 rfl X'
  refine ⟨t, step t ?_, b1⟩
  have e : T.heap.size = b + N := by rw [hT]; exact hsz
  rw [e]
  exact a1
theorem kc_ret (S : pr_C own cc nL none D cs p s m args meth c) (hG : pr_G D b h0 k N F fs H) (hS : va_S (pr_A h0 b) s.heap H locs) {Nq : Nat} {Fq : Nat → va_E} {fsq : List Value} (hN : N = Nq) (hF : ∀ n, n < N → F n = Fq n) (hfs : fs = fsq) {mc ms : Nat} (hmc : cells = mc) (hms : slots = ms) (hdg : decode cc pc = .ok (.return_, 1)) : W p l e R s m args below meth c H locs cells slots (MQ below (va_Qv (fun _ : Unit => True) (fun _ t => pr_G D b h0 k Nq Fq fsq t.heap) (pr_A h0 b)) args s mc ms (pr_A h0 b)) (F0 m pc ls []) := by
  obtain ⟨hx, hb, -, -, -, -, hr, hlocks⟩ := S
  subst hN
  subst hfs
  subst hmc
  subst hms
  refine W.vret hx hb hr (fun t ht hW => ⟨⟨(), rfl, trivial, ?_⟩, hS.F ht⟩) hS.2.2 hdg hlocks
  show pr_G D b h0 k N Fq fs t.heap
  rw [ht]
  exact ⟨hG.1, hG.2.1, fun n hn => by rw [← hF n hn]; exact hG.2.2.1 n hn, hG.2.2.2⟩
/-- a constructor is called on the cell at place n, which is the last that was made -/
theorem kc_ctor {y : MethodName} {bytes : ByteArray} {maxL index nA k' N' n1 : Nat} {rm : Room} {As st0 : List Value} {gs gs' : List Value} {F' : Nat → va_E} {mc ms n : Nat} (S : pr_C own cc nL rt0 D cs p s m args meth c) (hG : pr_G D b h0 k N F fs H) (hS0 : va_S (pr_A h0 b) H0 H locs) (hn : n + 1 = N) (hF : F n = .inr (k', gs)) (hM : pr_Mc l D cs y bytes maxL rm (b + N) (b + n) k' As gs N' F' gs' mc ms)
    (hco : Cond.code y bytes maxL none ∈ wsL_law) (hini : Cond.initialized y.cls ∈ wsL_law) (hlk : Cond.methodLink own index y ∈ wsL_law) (him : Cond.instanceMethod y ∈ wsL_law) (hy : y.name = "<init>") (hrc : rm.cells = mc) (hrs : rm.slots = ms) (hd : y.cls ≠ "java/lang/invoke/MethodHandle" ∧ y.cls ≠ "java/lang/invoke/VarHandle" ∧ (parseMethodDescriptor y.desc).map (fun d => d.parameters.length) = some nA)
    (hRm : rm.frames + 1 ≤ R.frames ∧ 8 + (maxL + 11) + rm.locals ≤ R.locals) (hnA : As.length = nA) (hsize : ls.size = nL) (hstack : st0 = As.reverse ++ .ref (b + n) :: rest) (hW : (rest.map fun v => v.category).sum ≤ 8) (hdg : decode cc pc = .ok (.invokespecial index, 3)) (hf : cells + mc ≤ R.cells ∧ slots + ms ≤ R.slots) (hn1 : N + N' = n1)
    (kk : ∀ (H1 : Heap) (locs1 : List Loc), pr_G D b h0 k n1 (fun q => if q < n then F q else if q = n then .inr (k', gs') else F' (q - N)) fs H1 → va_S (pr_A h0 b) H0 H1 locs1 → W p l e R s m args below meth c H1 locs1 (cells + mc) (slots + ms) Q (F0 m (pc + 3) ls rest)) : W p l e R s m args below meth c H locs cells slots Q (F0 m pc ls st0) := by
  obtain ⟨hx, hb, hml, hown, hts, hK, -, -⟩ := S
  subst hn1
  have hsz := hG.1
  have hlt := hG.2.1
  have hcell := hG.2.2.1 n (by omega)
  rw [hF] at hcell
  refine va_callv (va_runI (As := As) (rest := rest) ⟨hx, hb, hml, hown, hts⟩ hM (cwI nA hts (pr_gI hco) rfl hrc hrs (hts _ hini) (hts _ hlk) (hts _ him) hy hd hRm) ⟨fun a U f mk q => ⟨q.1, q.2.1, q.2.2.call f mk a⟩, fun U hU hW => ⟨rfl, by rw [hU]; exact ⟨by omega, by omega, fun n hn => absurd hn (Nat.not_lt_zero n), hcell⟩, hK.warm hW⟩⟩ rfl hnA hsize hstack (lv_room hW) hdg hf) hS0 (fun q hq h => ?_) (fun q h => ?_) (fun u t H1 locs1 ht hvm _ hB hz1 hk1 hS1 => ?_)
  · rcases h with rfl | h
    · exact Or.inr (by omega)
    · exact Or.inr (by omega)
  · rcases h with rfl | h
    · exact Or.inr (by omega)
    · exact Or.inr (by omega)
  · rw [ht] at hB
    refine kk H1 locs1 ⟨by have := hB.1; omega, hlt, fun q hq => ?_, hG.2.2.2.kept (hk1 _ (by show h0 < H.size; omega) (fun h => by rcases h with h | h <;> (have h : _ := h; omega)))⟩ hS1
    dsimp only
    by_cases h1 : q < n
    · rw [if_pos h1]
      exact (hG.2.2.1 q (by omega)).kept (hk1 _ (by show b + q < H.size; omega) (fun h => by rcases h with h | h <;> (have h : _ := h; omega)))
    · rw [if_neg h1]
      by_cases h2 : q = n
      · rw [if_pos h2]
        subst h2
        exact hB.2.2.2
      · rw [if_neg h2]
        have h3 := hB.2.2.1 (q - N) (by omega)
        have h4 : b + N + (q - N) = b + q := by omega
        rw [h4] at h3
        exact h3
end PRG
