/-! THE STATE: numbers by tag, instance and index; cells by kind, instance and index. Kinds 0..9: the objects of vwCl's classes; 20..69 int arrays; 70, 71 boolean arrays; 80..88 arrays of references. -/
abbrev pr_Sg : Type := Nat → Nat → Nat → Int32
abbrev pr_Ad : Type := Nat → Nat → Nat → Nat
def pr_up (σ : pr_Sg) (t i j : Nat) (v : Int32) : pr_Sg := fun t' i' j' => if t' = t ∧ i' = i ∧ j' = j then v else σ t' i' j'
def pr_nf (k : Nat) : Nat := ([3, 4, 5, 10, 9, 2, 3, 6, 17, 42] : List Nat).getD k 0
def pr_rt (k f : Nat) : Nat := (([[0, 0, 0], [20, 21, 22, 0], [0, 0, 0, 0, 0], [0, 0, 0, 0, 83, 0, 0, 0, 0, 0], [30, 31, 32, 33, 34, 35, 0, 0, 0], [28, 29], [0, 0, 0], [24, 25, 26, 27, 70, 0], [1, 23, 80, 81, 82, 7, 5, 4, 0, 0, 0, 0, 0, 0, 0, 0, 0], [0, 40, 41, 42, 0, 43, 44, 45, 46, 0, 47, 48, 49, 0, 50, 51, 52, 53, 54, 55, 84, 85, 86, 87, 88, 0, 56, 57, 58, 59, 60, 71, 0, 0, 0, 0, 0, 61, 62, 63, 0, 0]] : List (List Nat)).getD k []).getD f 0
def pr_ln (k : Nat) : Nat := if k < 23 then 60 else if k = 23 then 5 else if k < 28 then 200 else if k < 36 then 5 else if k < 43 then 60 else if k = 43 then 5 else if k < 47 then 7 else if k < 50 then 20 else if k < 56 then 40 else if k < 58 then 5 else if k < 61 then 200 else if k < 69 then 5 else if k < 80 then 200 else if k = 80 then 7 else if k = 81 then 20 else if k = 82 then 40 else if k = 83 then 5 else 40
def pr_fv (ad : pr_Ad) (σ : pr_Sg) (k i j f : Nat) : Value := if pr_rt k f = 0 then .int (σ (64 * k + f) i j) else .ref (ad (pr_rt k f) i 0)
def pr_rc (g : Nat → Nat) (k : Nat) : Nat := if k = 80 then g 0 else if k = 81 then g 1 else if k = 82 then g 2 else if k = 83 then 5 else 40
def pr_ek (k : Nat) : Nat := if k = 80 then 0 else if k = 81 then 6 else if k = 82 then 3 else k - 20
def pr_rr (ad : pr_Ad) (g : Nat → Nat) (k i q : Nat) : Option Nat := if q < pr_rc g k then some (if k = 83 then ad 2 i q else ad (pr_ek k) q 0) else none
def pr_ct (cs : Nat → ClassId) (ad : pr_Ad) (g : Nat → Nat) (σ : pr_Sg) (k i j : Nat) : va_E :=
  if k < 10 then .inr (k, (List.range (pr_nf k)).map (pr_fv ad σ k i j))
  else if k < 70 then .inl (cs 0, pr_ln k, .inl (σ (1000 + k) i))
  else if k < 80 then .inl (cs 1, pr_ln k, .inl (σ (1000 + k) i))
  else .inl (cs (if k < 84 then k - 78 else 6), pr_ln k, .inr (.inr (.inr (.inr (pr_rr ad g k i)))))
def pr_ok (k : Nat) : Prop := k < 10 ∨ (20 ≤ k ∧ k < 36) ∨ (40 ≤ k ∧ k < 69) ∨ (70 ≤ k ∧ k < 72) ∨ (80 ≤ k ∧ k < 89)
def pr_lv (g : Nat → Nat) (k i j : Nat) : Prop := pr_ok k ∧ (if k = 0 then i < g 0 ∧ j = 0 else if k = 6 then i < g 1 ∧ j = 0 else if k = 3 ∨ k = 83 then i < g 2 ∧ j = 0 else if k = 2 then i < g 2 ∧ j < 5 else if 64 ≤ k ∧ k < 69 then i < 40 ∧ j = 0 else i = 0 ∧ j = 0)
def pr_R (D : va_G) (cs : Nat → ClassId) (A : Nat → Prop) (ad : pr_Ad) (g : Nat → Nat) (σ : pr_Sg) (H : Heap) : Prop :=
  (∀ k i j, pr_lv g k i j → va_at D vwCl (ad k i j, pr_ct cs ad g σ k i j) H ∧ A (ad k i j)) ∧ ∀ k i j k' i' j', pr_lv g k i j → pr_lv g k' i' j' → ad k i j = ad k' i' j' → k = k' ∧ i = i' ∧ j = j'
def pr_tys (cs : Nat → ClassId) : List (ClassId × FieldType) := [(cs 0, .int), (cs 1, .boolean), (cs 2, .object RX0), (cs 3, .object RX6), (cs 4, .object RX3), (cs 5, .object RX2), (cs 6, .array .int)]
theorem va_AOA.moved {ty : FieldType} {u U : State} (hvm : u.vm.Alike U.vm) (h : va_AOA ty u) : va_AOA ty U := fun B => (Jvm.Cond.arrayOver_setVmC (args := B) (s := u) hvm (.array ty)).trans (h B)
def pr_K (D : va_G) (cs : Nat → ClassId) (s : State) : Prop := va_K D vwCl (pr_tys cs) s ∧ va_Nw (.methodLinkNest RX5 18 yX8_within RX8) s ∧ (∀ C : String, C = RX0 ∨ C = RX6 ∨ C = RX3 ∨ C = RX2 → va_AO C s) ∧ va_AOA .int s
theorem pr_up_s (σ : pr_Sg) (t i j : Nat) (v : Int32) : pr_up σ t i j v t i j = v := by simp [pr_up]
theorem pr_K.warm {D : va_G} {cs : Nat → ClassId} {s U : State} (h : pr_K D cs s) (hW : s.WarmedH U.vm) : pr_K D cs U := ⟨va_K.moved hW.alike h.1, va_Nw.warmM hW h.2.1, fun C q => (h.2.2.1 C q).moved hW.alike, h.2.2.2.moved hW.alike⟩
theorem pr_K.call {D : va_G} {cs : Nat → ClassId} {U : State} (h : pr_K D cs U) (f : JFrame) (mk : MethodId) (a : Array Value) : pr_K D cs (U.calling f mk a) := ⟨va_K.moved (u := U) (U := U.calling f mk a) (Vm.Alike.refl U.vm) h.1, va_Nw.same rfl rfl h.2.1, fun C q => va_AO.moved (u := U) (U := U.calling f mk a) (Vm.Alike.refl U.vm) (h.2.2.1 C q), va_AOA.moved (u := U) (U := U.calling f mk a) (Vm.Alike.refl U.vm) h.2.2.2⟩
/-- one cell changes, and the state's numbers with it -/
theorem pr_R.set {D : va_G} {cs : Nat → ClassId} {A : Nat → Prop} {ad : pr_Ad} {g : Nat → Nat} {σ σ' : pr_Sg} {H H1 : Heap} (h : pr_R D cs A ad g σ H) {k i j : Nat} (hl : pr_lv g k i j)
    (he : va_at D vwCl (ad k i j, pr_ct cs ad g σ' k i j) H1) (oq : ∀ q : Nat, q ≠ ad k i j → H1[q]? = H[q]?) (ho : ∀ k' i' j', pr_lv g k' i' j' → ¬ (k' = k ∧ i' = i ∧ j' = j) → pr_ct cs ad g σ' k' i' j' = pr_ct cs ad g σ k' i' j') : pr_R D cs A ad g σ' H1 := by
  refine ⟨fun k' i' j' hl' => ?_, h.2⟩
  by_cases e : k' = k ∧ i' = i ∧ j' = j
  · obtain ⟨rfl, rfl, rfl⟩ := e
    exact ⟨he, (h.1 _ _ _ hl).2⟩
  · rw [ho k' i' j' hl' e]
    refine ⟨(h.1 _ _ _ hl').1.kept (oq _ (fun q => e ?_)), (h.1 _ _ _ hl').2⟩
    exact h.2 _ _ _ _ _ _ hl' hl q
theorem pr_one {D : va_G} {cs : Nat → ClassId} {A : Nat → Prop} {ad : pr_Ad} {g : Nat → Nat} {σ : pr_Sg} {H : Heap} (h : pr_R D cs A ad g σ H) {k i j : Nat} (hl : pr_lv g k i j) {e : va_E} (he : pr_ct cs ad g σ k i j = e) : va_P D vwCl [(ad k i j, e)] H := by
  intro n q hq
  match n, hq with
  | 0, hq => cases hq; rw [← he]; exact (h.1 _ _ _ hl).1
  | n + 1, hq => simp at hq
theorem pr_ctO {cs : Nat → ClassId} {ad : pr_Ad} {g : Nat → Nat} {σ : pr_Sg} {k i j : Nat} (hk : k < 10) : pr_ct cs ad g σ k i j = .inr (k, (List.range (pr_nf k)).map (pr_fv ad σ k i j)) := by simp [pr_ct, hk]
theorem pr_ctI {cs : Nat → ClassId} {ad : pr_Ad} {g : Nat → Nat} {σ : pr_Sg} {k i j : Nat} (hk : 10 ≤ k) (hk2 : k < 70) : pr_ct cs ad g σ k i j = .inl (cs 0, pr_ln k, .inl (σ (1000 + k) i)) := by simp [pr_ct, hk2, show ¬ k < 10 by omega]
theorem pr_ctZ {cs : Nat → ClassId} {ad : pr_Ad} {g : Nat → Nat} {σ : pr_Sg} {k i j : Nat} (hk : 70 ≤ k) (hk2 : k < 80) : pr_ct cs ad g σ k i j = .inl (cs 1, pr_ln k, .inl (σ (1000 + k) i)) := by simp [pr_ct, hk2, show ¬ k < 10 by omega, show ¬ k < 70 by omega]
theorem pr_ctR {cs : Nat → ClassId} {ad : pr_Ad} {g : Nat → Nat} {σ : pr_Sg} {k i j : Nat} (hk : 80 ≤ k) : pr_ct cs ad g σ k i j = .inl (cs (if k < 84 then k - 78 else 6), pr_ln k, .inr (.inr (.inr (.inr (pr_rr ad g k i))))) := by simp only [pr_ct, show ¬ k < 10 by omega, show ¬ k < 70 by omega, show ¬ k < 80 by omega, if_false]
theorem pr_lv0 {g : Nat → Nat} {k i j : Nat} (hk : 10 ≤ k) (h : pr_lv g k i j) : j = 0 := by
  have h2 := h.2
  rw [if_neg (by omega), if_neg (by omega)] at h2
  by_cases e : k = 3 ∨ k = 83
  · rw [if_pos e] at h2
    exact h2.2
  · rw [if_neg e, if_neg (by omega)] at h2
    by_cases e2 : 64 ≤ k ∧ k < 69
    · rw [if_pos e2] at h2
      exact h2.2
    · rw [if_neg e2] at h2
      exact h2.2
section PRW
variable {p : Program} {l : Launch} {e : Env} {R : Room} {s : State} {m : MethodId} {args : Array Value} {below : List Frame} {meth : Method} {c : Code} {H : Heap} {locs : List Loc} {cells slots : Nat} {Q : State → Prop}
variable {cc : ByteArray} {pc : Nat} {ls : Array Slot} {rest : List Value} {D : va_G} {cs : Nat → ClassId} {A : Nat → Prop} {ad : pr_Ad} {g : Nat → Nat} {σ : pr_Sg} {H0 : Heap}
theorem pr_get (hexec : p.tables.exec = Jvm.exec) (hb : c.code = cc) {own ref C : String} {T : u_T} {N index : Nat} (hts : ∀ w ∈ wsL_law, w.before args s = true) (hin : ∀ w ∈ u_ws C T N, w ∈ wsL_law) (hown : s.vm.findClass own = some m.cls) (hK : pr_K D cs s) (hR : pr_R D cs A ad g σ H)
    {k i j : Nat} (hl : pr_lv g k i j) (hk : k < 10) (hc : vwCl[k]? = some (C, T, N)) (f : Nat) (hf : f < N) (hfn : f < pr_nf k) (hlink : Cond.fieldLink own index ref (T f).2.1 (T f).2.2.1 ∈ wsL_law) (href : (T f).1 = ref) {v : Value} (hv : pr_fv ad σ k i j f = v) (hdg : decode cc pc = .ok (.getfield index, 3))
    (kk : W p l e R s m args below meth c H locs cells slots Q (F0 m (pc + 3) ls (v :: rest))) : W p l e R s m args below meth c H locs cells slots Q (F0 m pc ls (.ref (ad k i j) :: rest)) := by
  subst href
  refine va_get (D := D) (cl := vwCl) (ci := k) (v := v) hexec hb hts hin hown hK.1 (pr_one hR hl (pr_ctO hk)) 0 rfl hc f hf (hts _ hlink) (fun _ h => h) ?_ hdg kk
  rw [List.getElem?_map, List.getElem?_range hfn, ← hv]
  rfl
theorem pr_put (hexec : p.tables.exec = Jvm.exec) (hb : c.code = cc) {own ref C : String} {T : u_T} {N index : Nat} (hts : ∀ w ∈ wsL_law, w.before args s = true) (hin : ∀ w ∈ u_ws C T N, w ∈ wsL_law) (ty0 : Nat → FieldType) (hty : ∀ k, k < N → parseFieldDescriptor (T k).2.2.1 = some (ty0 k)) (hnm : ∀ a, a < N → ∀ b, b < N → a ≠ b → (T a).2.1 ≠ (T b).2.1) (hown : s.vm.findClass own = some m.cls) (hK : pr_K D cs s) (hR : pr_R D cs A ad g σ H) (hS0 : va_S A H0 H locs)
    {k i j : Nat} (hl : pr_lv g k i j) (hk : k < 10) (hc : vwCl[k]? = some (C, T, N)) (f : Nat) (hf : f < N) (hfn : f < pr_nf k) (hf64 : f < 64) (hrt : pr_rt k f = 0) (hlink : Cond.fieldLink own index ref (T f).2.1 (T f).2.2.1 ∈ wsL_law) (href : (T f).1 = ref) (hfin : (T f).2.2.2 = false) (hd : parseFieldDescriptor (T f).2.2.1 = some .int) {v : Int32} (hdg : decode cc pc = .ok (.putfield index, 3))
    (kk : ∀ (H1 : Heap) (locs1 : List Loc) (u : pr_Sg), u = pr_up σ (64 * k + f) i j v → pr_R D cs A ad g u H1 → va_S A H0 H1 locs1 → W p l e R s m args below meth c H1 locs1 cells slots Q (F0 m (pc + 3) ls rest)) : W p l e R s m args below meth c H locs cells slots Q (F0 m pc ls (.int v :: .ref (ad k i j) :: rest)) := by
  subst href
  have hap := va_apart (own := own) hts hin ty0 hty hnm hK.1 hc
  obtain ⟨h0, hA0⟩ := hR.1 _ _ _ hl
  rw [pr_ctO hk] at h0
  obtain ⟨r, h1, cell, q1, q2, q3, q4⟩ := h0
  have hr : r = (C, T, N) := Option.some.inj (h1.symm.trans hc)
  subst hr
  obtain ⟨hS, hfc, kC, hkC, hkind⟩ := hK.1.1 k _ hc
  obtain ⟨cf, kf, fi, fd, hi, hsl⟩ := hS f hf
  have hlay := hts _ (hin _ (u_in_lay hf))
  unfold u_lay at hlay
  rw [if_neg (by rw [hfin]; decide)] at hlay
  have hst := (u_facts hfc hkC (u_lays hts hin hf) hi).1
  have h6 := u_store hfc hkC hkind hlay hi hd (show narrow .int (.int v) = .int v from rfl) (show fits .int (.int v) = true from rfl)
  refine W.putK hexec hb (f := fd) ⟨hown, hts _ hlink, ⟨_, _, _, hi⟩, hst⟩ (by rw [q2]; exact h6) q1 q3 (by rw [hsl]; exact k2_hasslot (q4 f hf)) rfl rfl hdg fun H' e1 e2 e3 => ?_
  rw [hsl] at e1 ⊢
  refine kk H' _ _ rfl (hR.set hl ?_ e3 ?_) (hS0.put e2 e3 hA0)
  · rw [pr_ctO hk]
    have hlen : f < ((List.range (pr_nf k)).map (pr_fv ad σ k i j)).length := by rw [List.length_map, List.length_range]; exact hfn
    have hset : (List.range (pr_nf k)).map (pr_fv ad (pr_up σ (64 * k + f) i j v) k i j) = ((List.range (pr_nf k)).map (pr_fv ad σ k i j)).set f (.int v) := by
      apply List.ext_getElem?
      intro n
      rw [List.getElem?_set, List.getElem?_map, List.getElem?_map, List.length_map, List.length_range]
      by_cases hn : n < pr_nf k
      · rw [List.getElem?_range hn]
        by_cases e : f = n
        · subst e
          simp [hfn, pr_fv, hrt, pr_up]
        · simp only [if_neg e, Option.map_some, Option.some.injEq]
          unfold pr_fv pr_up
          by_cases e0 : pr_rt k n = 0
          · rw [if_pos e0, if_pos e0, if_neg (by omega)]
          · rw [if_neg e0, if_neg e0]
      · rw [List.getElem?_eq_none (by rw [List.length_range]; omega)]
        rw [if_neg (by omega)]
        rfl
    rw [hset]
    exact ⟨_, hc, t_OB.to (V := updV (vp_V ((List.range (pr_nf k)).map (pr_fv ad σ k i j))) f (.int v)) ⟨_, e1, q2, q3, t_set q4 hap hf (.int v)⟩ (fun j _ => vp_updV_set hlen (.int v) j)⟩
  · intro k' i' j' _ hne
    unfold pr_ct
    by_cases hk' : k' < 10
    · rw [if_pos hk', if_pos hk']
      congr 2
      apply List.map_congr_left
      intro n hn
      have hn := List.mem_range.mp hn
      have hn64 : n < 64 := by
        have : pr_nf k' ≤ 42 := by
          have : ∀ q, q < 10 → pr_nf q ≤ 42 := by decide
          exact this k' hk'
        omega
      unfold pr_fv pr_up
      by_cases e0 : pr_rt k' n = 0
      · rw [if_pos e0, if_pos e0, if_neg (fun q => hne ⟨by omega, q.2.1, q.2.2⟩)]
      · rw [if_neg e0, if_neg e0]
    · have h7 : ∀ i2 : Nat, pr_up σ (64 * k + f) i j v (1000 + k') i2 = σ (1000 + k') i2 := fun i2 => by
        funext j2
        unfold pr_up
        rw [if_neg (by omega)]
      rw [if_neg hk', if_neg hk', h7]
theorem pr_upI {cs : Nat → ClassId} {ad : pr_Ad} {g : Nat → Nat} {σ : pr_Sg} {k i n : Nat} {v : Int32} (hk : 10 ≤ k) (k' i' j' : Nat) (hne : ¬ (k' = k ∧ i' = i)) : pr_ct cs ad g (pr_up σ (1000 + k) i n v) k' i' j' = pr_ct cs ad g σ k' i' j' := by
  unfold pr_ct
  by_cases hk' : k' < 10
  · rw [if_pos hk', if_pos hk']
    congr 2
    apply List.map_congr_left
    intro q hq
    have hq := List.mem_range.mp hq
    have hq64 : q < 64 := by
      have : pr_nf k' ≤ 42 := by
        have : ∀ q, q < 10 → pr_nf q ≤ 42 := by decide
        exact this k' hk'
      omega
    unfold pr_fv pr_up
    by_cases e0 : pr_rt k' q = 0
    · rw [if_pos e0, if_pos e0, if_neg (by omega)]
    · rw [if_neg e0, if_neg e0]
  · have h7 : pr_up σ (1000 + k) i n v (1000 + k') i' = σ (1000 + k') i' := by
      funext j2
      unfold pr_up
      rw [if_neg (fun q => hne ⟨by omega, q.2.1⟩)]
    rw [if_neg hk', if_neg hk', h7]
theorem pr_ctJ {cs : Nat → ClassId} {ad : pr_Ad} {g : Nat → Nat} {σ : pr_Sg} {k i : Nat} (hk : 10 ≤ k) (j j' : Nat) : pr_ct cs ad g σ k i j = pr_ct cs ad g σ k i j' := by simp [pr_ct, show ¬ k < 10 by omega]
theorem pr_ald (hexec : p.tables.exec = Jvm.exec) (hb : c.code = cc) (hK : pr_K D cs s) (hR : pr_R D cs A ad g σ H) {k i j : Nat} (hl : pr_lv g k i j) (hk : 10 ≤ k) (hk2 : k < 70) {n : Nat} (hn : pr_ln k = n) {x : Int32} (hin : vp_in x n) (hdg : decode cc pc = .ok (.iaload, 1))
    {t : Nat} (ht : 1000 + k = t) (kk : W p l e R s m args below meth c H locs cells slots Q (F0 m (pc + 1) ls (.int (σ t i x.toNatClampNeg) :: rest))) : W p l e R s m args below meth c H locs cells slots Q (F0 m pc ls (.int x :: .ref (ad k i j) :: rest)) :=
  va_iald hexec hb hK.1 (pr_one hR hl (pr_ctI hk hk2)) 0 0 rfl rfl (by rw [hn]; exact hin) hdg (by subst ht; exact kk)
theorem pr_zld (hexec : p.tables.exec = Jvm.exec) (hb : c.code = cc) (hK : pr_K D cs s) (hR : pr_R D cs A ad g σ H) {k i j : Nat} (hl : pr_lv g k i j) (hk : 70 ≤ k) (hk2 : k < 80) {n : Nat} (hn : pr_ln k = n) {x : Int32} (hin : vp_in x n) (hdg : decode cc pc = .ok (.baload, 1))
    {t : Nat} (ht : 1000 + k = t) (kk : W p l e R s m args below meth c H locs cells slots Q (F0 m (pc + 1) ls (.int (σ t i x.toNatClampNeg) :: rest))) : W p l e R s m args below meth c H locs cells slots Q (F0 m pc ls (.int x :: .ref (ad k i j) :: rest)) :=
  va_zald hexec hb hK.1 (pr_one hR hl (pr_ctZ hk hk2)) 0 1 rfl rfl (by rw [hn]; exact hin) hdg (by subst ht; exact kk)
theorem pr_ast (hexec : p.tables.exec = Jvm.exec) (hb : c.code = cc) (hK : pr_K D cs s) (hR : pr_R D cs A ad g σ H) (hS0 : va_S A H0 H locs) {k i j : Nat} (hl : pr_lv g k i j) (hk : 10 ≤ k) (hk2 : k < 70) {n : Nat} (hn : pr_ln k = n) {x v : Int32} (hin : vp_in x n) (hdg : decode cc pc = .ok (.iastore, 1))
    {t : Nat} (ht : 1000 + k = t) (kk : ∀ (H1 : Heap) (locs1 : List Loc) (u : pr_Sg), u = pr_up σ t i x.toNatClampNeg v → pr_R D cs A ad g u H1 → va_S A H0 H1 locs1 → W p l e R s m args below meth c H1 locs1 cells slots Q (F0 m (pc + 1) ls rest)) : W p l e R s m args below meth c H locs cells slots Q (F0 m pc ls (.int v :: .int x :: .ref (ad k i j) :: rest)) := by
  obtain ⟨h0, hA0⟩ := hR.1 _ _ _ hl
  rw [pr_ctI hk hk2] at h0
  subst hn
  refine W.iast hexec hb h0 ((hK.1.2 0 _ rfl).1 (pr_ln k) (fun j => .int (σ (1000 + k) i j))) (fun q => by cases q) (by show ¬ (x < 0 ∨ (arrV _ _ _).slots.size ≤ _); rw [arrV_size]; exact hin) rfl rfl hdg fun H1 e z oq => ?_
  subst ht
  refine kk H1 _ _ rfl (hR.set hl ?_ oq ?_) (hS0.put z oq hA0)
  · rw [pr_ctI hk hk2]
    show H1[ad k i j]? = some (vp_cell _ _)
    rw [e]
    rw [vp_cell_i, vp_cell_i, arrV_store]
    congr 2
    funext q
    by_cases hq : q = x.toNatClampNeg
    · subst hq
      simp [updV, pr_up]
    · simp [updV, pr_up, hq]
  · intro k' i' j' hl' hne
    refine pr_upI hk k' i' j' (fun q => hne ⟨q.1, q.2, ?_⟩)
    obtain ⟨rfl, rfl⟩ := q
    exact (pr_lv0 (by omega) hl').trans (pr_lv0 (by omega) hl).symm
theorem pr_zst (hexec : p.tables.exec = Jvm.exec) (hb : c.code = cc) (hK : pr_K D cs s) (hR : pr_R D cs A ad g σ H) (hS0 : va_S A H0 H locs) {k i j : Nat} (hl : pr_lv g k i j) (hk : 70 ≤ k) (hk2 : k < 80) {n : Nat} (hn : pr_ln k = n) {x v : Int32} (hin : vp_in x n) (hdg : decode cc pc = .ok (.bastore, 1))
    {t : Nat} (ht : 1000 + k = t) (kk : ∀ (H1 : Heap) (locs1 : List Loc) (u : pr_Sg), u = pr_up σ t i x.toNatClampNeg (vp_nar .boolean v) → pr_R D cs A ad g u H1 → va_S A H0 H1 locs1 → W p l e R s m args below meth c H1 locs1 cells slots Q (F0 m (pc + 1) ls rest)) : W p l e R s m args below meth c H locs cells slots Q (F0 m pc ls (.int v :: .int x :: .ref (ad k i j) :: rest)) := by
  obtain ⟨h0, hA0⟩ := hR.1 _ _ _ hl
  rw [pr_ctZ hk hk2] at h0
  subst hn
  refine W.zast hexec hb h0 ((hK.1.2 1 _ rfl).1 (pr_ln k) (fun j => .int (σ (1000 + k) i j))) (fun q => by cases q) (by show ¬ (x < 0 ∨ (arrV _ _ _).slots.size ≤ _); rw [arrV_size]; exact hin) rfl rfl hdg fun H1 e z oq => ?_
  subst ht
  refine kk H1 _ _ rfl (hR.set hl ?_ oq ?_) (hS0.put z oq hA0)
  · rw [pr_ctZ hk hk2]
    show H1[ad k i j]? = some (vp_cell _ _)
    rw [e]
    rw [vp_cell_i, vp_cell_i, arrV_store]
    congr 2
    funext q
    by_cases hq : q = x.toNatClampNeg
    · subst hq
      simp [updV, pr_up, vp_nar]
      try rfl
    · simp [updV, pr_up, hq]
  · intro k' i' j' hl' hne
    refine pr_upI (by omega) k' i' j' (fun q => hne ⟨q.1, q.2, ?_⟩)
    obtain ⟨rfl, rfl⟩ := q
    exact (pr_lv0 (by omega) hl').trans (pr_lv0 (by omega) hl).symm
/-- the cell of an array of references: null, or the cell of its kind -/
def pr_rv (ad : pr_Ad) (k : Nat) (o : Option (Nat × Nat)) : Value := match o with
  | none => .null
  | some q => .ref (ad k q.1 q.2)
theorem pr_ldq (hexec : p.tables.exec = Jvm.exec) (hb : c.code = cc) (hK : pr_K D cs s) (hR : pr_R D cs A ad g σ H) {k i j : Nat} (hl : pr_lv g k i j) (hk : 80 ≤ k) {n t0 : Nat} (hn : pr_ln k = n) {ty : FieldType} (hty : ty.isReference = true) (ht : (pr_tys cs)[t0]? = some (cs (if k < 84 then k - 78 else 6), ty)) {x : Int32} (hin : vp_in x n) {v : Value} (hv : va_rf (pr_rr ad g k i x.toNatClampNeg) = v) (hdg : decode cc pc = .ok (.aaload, 1))
    (kk : W p l e R s m args below meth c H locs cells slots Q (F0 m (pc + 1) ls (v :: rest))) : W p l e R s m args below meth c H locs cells slots Q (F0 m pc ls (.int x :: .ref (ad k i j) :: rest)) := by
  have h0 := (hR.1 _ _ _ hl).1
  rw [pr_ctR hk] at h0
  subst hn
  subst hv
  have hlt : x.toNatClampNeg < pr_ln k := Nat.not_le.mp fun q => hin (Or.inr q)
  exact W.aald (v := va_rf (pr_rr ad g k i x.toNatClampNeg)) (ty := ty) hexec hb h0 ((hK.1.2 t0 _ ht).1 (pr_ln k) (fun j => va_rf (pr_rr ad g k i j))) hty (fun q => by cases q) (by show ¬ (x < 0 ∨ (arrV _ _ _).slots.size ≤ _); rw [arrV_size]; exact hin) (by show (arrV _ _ _).slots[_]? = _; rw [arrV_read _ _ hlt]) rfl rfl hdg kk
end PRW
