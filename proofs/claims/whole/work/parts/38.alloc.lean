section PRP
variable {p : Program} {l : Launch} {e : Env} {R : Room} {s : State} {m : MethodId} {args : Array Value} {below : List Frame} {meth : Method} {c : Code} {H : Heap} {locs : List Loc} {cells slots : Nat} {Q : State → Prop}
variable {cc : ByteArray} {pc nL : Nat} {rt0 : Option FieldType} {ls : Array Slot} {rest : List Value} {D : va_G} {cs : Nat → ClassId} {A : Nat → Prop} {ad : pr_Ad} {g : Nat → Nat} {σ : pr_Sg} {H0 : Heap} {own : String}
theorem kr_kF0 {cs : Nat → ClassId} {q p0 : Nat} {ad : pr_Ad} {g' : Nat → Nat} {a1 a2 a3 a4 a5 : Int32} : kF_X3_init cs (q + 1) a1 a2 a3 a4 a5 0 = .inl (cs 5, 5, .inr (.inr (.inr (.inr (pr_rr (pr_adP ad p0 q) g' 83 p0))))) := by
  have h4 : ((4 : Int32)).toNatClampNeg = 4 := by decide
  have h3 : ((3 : Int32)).toNatClampNeg = 3 := by decide
  have h2 : ((2 : Int32)).toNatClampNeg = 2 := by decide
  have h1 : ((1 : Int32)).toNatClampNeg = 1 := by decide
  have h0 : ((0 : Int32)).toNatClampNeg = 0 := by decide
  show (Sum.inl (cs 5, 5, Sum.inr (Sum.inr (Sum.inr (Sum.inr (va_up (va_up (va_up (va_up (va_up (fun _ => none) ((4 : Int32)).toNatClampNeg (some (q + 1 + 1))) ((3 : Int32)).toNatClampNeg (some (q + 1 + 2))) ((2 : Int32)).toNatClampNeg (some (q + 1 + 3))) ((1 : Int32)).toNatClampNeg (some (q + 1 + 4))) ((0 : Int32)).toNatClampNeg (some (q + 1 + 5))))))) : va_E) = _
  have e : va_up (va_up (va_up (va_up (va_up (fun _ => none) ((4 : Int32)).toNatClampNeg (some (q + 1 + 1))) ((3 : Int32)).toNatClampNeg (some (q + 1 + 2))) ((2 : Int32)).toNatClampNeg (some (q + 1 + 3))) ((1 : Int32)).toNatClampNeg (some (q + 1 + 4))) ((0 : Int32)).toNatClampNeg (some (q + 1 + 5)) = pr_rr (pr_adP ad p0 q) g' 83 p0 := by
    funext n
    rw [h4, h3, h2, h1, h0]
    rcases n with _ | _ | _ | _ | _ | n
    · simp [va_up, pr_rr, pr_rc, pr_adP]
    · simp [va_up, pr_rr, pr_rc, pr_adP]
    · simp [va_up, pr_rr, pr_rc, pr_adP]
    · simp [va_up, pr_rr, pr_rc, pr_adP]
    · simp [va_up, pr_rr, pr_rc, pr_adP]
    · simp [va_up, pr_rr, pr_rc, pr_adP]
  rw [e]
theorem kr_picture (S : pr_C own cc nL rt0 D cs p s m args meth c) (hR : pr_R D cs A ad g σ H) (hup : ∀ x y : Nat, A x → x ≤ y → A y) (hS0 : va_S A H0 H locs) {q : Nat} (hq : ∀ k i j, pr_lv g k i j → ad k i j < q) (hAq : A q) {a1 a2 a3 a4 a5 : Int32} (hG : pr_G D (q + 1) q 3 6 (kF_X3_init cs (q + 1) a1 a2 a3 a4 a5) [.int a1, .int a3, .int a4, .int a5, .ref (q + 1 + 0), .int (-1 : Int32), .int ((((((0 : Int32) + pr_dig a2 0) + pr_dig a2 1) + pr_dig a2 2) + pr_dig a2 3) + pr_dig a2 4), .int 0, .int 0, .int (-1 : Int32)] H) {x : Int32} (hin : vp_in x 40) (hx0 : x.toNatClampNeg = g 2) (hdg : decode cc pc = .ok (.aastore, 1))
    (kk : ∀ (H1 : Heap) (locs1 : List Loc) (u : pr_Sg), u = pr_mkP σ (g 2) a1 a2 a3 a4 a5 → pr_R D cs A (pr_adP ad (g 2) q) (pr_g g 2) u H1 → va_S A H0 H1 locs1 → W p l e R s m args below meth c H1 locs1 cells slots Q (F0 m (pc + 1) ls rest)) : W p l e R s m args below meth c H locs cells slots Q (F0 m pc ls (.ref q :: .int x :: .ref (ad 82 0 0) :: rest)) := by
  obtain ⟨hx, hb, hml, hown, hts, hK, -, -⟩ := S
  obtain ⟨ha, haA⟩ := hR.1 82 0 0 pr_l82
  rw [pr_ctR (by omega)] at ha
  have hq80 := hq 82 0 0 pr_l82
  refine kc_asq0 (ci := 3) (t0 := 4) (r := (RX3, TX3, 10)) hx hb hK ha rfl hG.2.2.2 rfl hin hdg (fun H1 e z oq => kk H1 _ _ rfl ?_ (hS0.put z oq haA))
  have hoth : ∀ {k i j : Nat}, pr_lv g k i j → (k = 3 ∨ k = 83 ∨ k = 2) → i ≠ g 2 := fun {k i j} h hk q => by
    subst q
    rcases hk with rfl | rfl | rfl
    · exact absurd (pr_live3.mp h).1 (Nat.lt_irrefl _)
    · exact absurd (pr_live83.mp h).1 (Nat.lt_irrefl _)
    · exact absurd (pr_live2.mp h).1 (Nat.lt_irrefl _)
  have hadP : ∀ {k i j : Nat}, ¬ ((k = 3 ∨ k = 83 ∨ k = 2) ∧ i = g 2) → pr_adP ad (g 2) q k i j = ad k i j := fun {k i j} h => by
    unfold pr_adP
    rw [if_neg (fun q => h ⟨Or.inl q.1, q.2.1⟩), if_neg (fun q => h ⟨Or.inr (Or.inl q.1), q.2.1⟩), if_neg (fun q => h ⟨Or.inr (Or.inr q.1), q.2.1⟩)]
  have hmkP : ∀ {t i j : Nat}, ¬ ((192 ≤ t ∧ t < 202 ∨ 128 ≤ t ∧ t < 133) ∧ i = g 2) → pr_mkP σ (g 2) a1 a2 a3 a4 a5 t i j = σ t i j := fun {t i j} h => by
    unfold pr_mkP
    rw [if_neg (fun q => h ⟨Or.inl q.1, q.2.1⟩), if_neg (fun q => h ⟨Or.inr q.1, q.2.1⟩)]
  have hnew : ∀ {k i j : Nat}, pr_lv (pr_g g 2) k i j → ¬ pr_lv g k i j → i = g 2 ∧ (k = 3 ∧ j = 0 ∨ k = 83 ∧ j = 0 ∨ k = 2 ∧ j < 5) := fun {k i j} h h' => by
    by_cases h3 : k = 3
    · subst h3
      obtain ⟨h1, h2⟩ := pr_live3.mp h
      rw [pr_g0] at h1
      have h3 : ¬ (i < g 2 ∧ j = 0) := fun q => h' (pr_live3.mpr q)
      exact ⟨by omega, Or.inl ⟨rfl, h2⟩⟩
    by_cases h83 : k = 83
    · subst h83
      obtain ⟨h1, h2⟩ := pr_live83.mp h
      rw [pr_g0] at h1
      have h3 : ¬ (i < g 2 ∧ j = 0) := fun q => h' (pr_live83.mpr q)
      exact ⟨by omega, Or.inr (Or.inl ⟨rfl, h2⟩)⟩
    by_cases h2' : k = 2
    · subst h2'
      obtain ⟨h1, h2⟩ := pr_live2.mp h
      rw [pr_g0] at h1
      have h3 : ¬ (i < g 2 ∧ j < 5) := fun q => h' (pr_live2.mpr q)
      exact ⟨by omega, Or.inr (Or.inr ⟨rfl, h2⟩)⟩
    exfalso
    by_cases h6 : k = 0
    · subst h6; exact h' (pr_live0.mpr (by have := pr_live0.mp h; rwa [pr_gn g (by omega)] at this))
    by_cases h6 : k = 6
    · subst h6; exact h' (pr_live6.mpr (by have := pr_live6.mp h; rwa [pr_gn g (by omega)] at this))
    exact h' (pr_lvg (by omega) h)
  have hcell : ∀ n, n < 6 → va_at D vwCl (q + 1 + n, kF_X3_init cs (q + 1) a1 a2 a3 a4 a5 n) H1 := fun n hn => (hG.2.2.1 n hn).kept (oq _ (by show q + 1 + n ≠ ad 82 0 0; omega))
  refine pr_grow hR 82 q hq (fun k i j h hk => oq _ (fun q => hk (hR.2 _ _ _ _ _ _ h pr_l82 q).1)) (fun i j h => pr_liveK (Or.inr (Or.inr rfl)) h) (fun k i j h h' => ?_) ?_ (fun k i j h => hadP (fun q => hoth h q.1 q.2)) (fun k i j h hk => ?_) (fun k i j k' i' j' b1 b2 c1 c2 he => ?_)
  · obtain ⟨rfl, hk⟩ := hnew h h'
    rcases hk with ⟨rfl, rfl⟩ | ⟨rfl, rfl⟩ | ⟨rfl, hj⟩
    · have e1 : pr_adP ad (g 2) q 3 (g 2) 0 = q := by simp [pr_adP]
      rw [e1]
      refine ⟨?_, hAq, Nat.le_refl q⟩
      have e2 : pr_ct cs (pr_adP ad (g 2) q) (pr_g g 2) (pr_mkP σ (g 2) a1 a2 a3 a4 a5) 3 (g 2) 0 = .inr (3, [.int a1, .int a3, .int a4, .int a5, .ref (q + 1 + 0), .int (-1 : Int32), .int ((((((0 : Int32) + pr_dig a2 0) + pr_dig a2 1) + pr_dig a2 2) + pr_dig a2 3) + pr_dig a2 4), .int 0, .int 0, .int (-1 : Int32)]) := by
        rw [pr_ctO (by omega)]
        simp [pr_nf, pr_fv, pr_rt, pr_mkP, pr_adP, List.range_succ]
      rw [e2]
      exact hG.2.2.2.kept (oq _ (by show q ≠ ad 82 0 0; omega))
    · have e1 : pr_adP ad (g 2) q 83 (g 2) 0 = q + 1 := by simp [pr_adP]
      rw [e1, pr_ctR (by omega)]
      refine ⟨?_, hup _ _ hAq (by omega), by omega⟩
      have h0 := hcell 0 (by omega)
      rw [kr_kF0 (p0 := g 2) (ad := ad) (g' := pr_g g 2)] at h0
      exact h0
    · have e1 : pr_adP ad (g 2) q 2 (g 2) j = q + 6 - j := by simp [pr_adP, hj]
      rw [e1, pr_ctO (by omega)]
      refine ⟨?_, hup _ _ hAq (by omega), by omega⟩
      have e2 : (List.range (pr_nf 2)).map (pr_fv (pr_adP ad (g 2) q) (pr_mkP σ (g 2) a1 a2 a3 a4 a5) 2 (g 2) j) = [.int (pr_dig a2 (4 - j)), .int 0, .int (-1 : Int32), .int (-1 : Int32), .int (-1 : Int32)] := by
        simp [pr_nf, pr_fv, pr_rt, pr_mkP, List.range_succ, hj]
      rw [e2]
      rcases (show j = 0 ∨ j = 1 ∨ j = 2 ∨ j = 3 ∨ j = 4 by omega) with rfl | rfl | rfl | rfl | rfl
      · rw [show q + 6 - 0 = q + 1 + 5 by omega]
        exact hcell 5 (by omega)
      · rw [show q + 6 - 1 = q + 1 + 4 by omega]
        exact hcell 4 (by omega)
      · rw [show q + 6 - 2 = q + 1 + 3 by omega]
        exact hcell 3 (by omega)
      · rw [show q + 6 - 3 = q + 1 + 2 by omega]
        exact hcell 2 (by omega)
      · rw [show q + 6 - 4 = q + 1 + 1 by omega]
        exact hcell 1 (by omega)
  · rw [pr_ctR (by omega)]
    have e3 : va_up (pr_rr ad g 82 0) x.toNatClampNeg (some q) = pr_rr (pr_adP ad (g 2) q) (pr_g g 2) 82 0 := by
      funext n
      rw [hx0]
      unfold va_up pr_rr pr_rc pr_ek
      simp only [if_true, pr_g0, show ¬ (82 : Nat) = 80 by omega, if_false, show ¬ (82 : Nat) = 83 by omega, show ¬ (82 : Nat) = 81 by omega]
      by_cases h1 : n = g 2
      · subst h1
        simp [pr_adP]
      · by_cases h2 : n < g 2
        · simp [pr_adP, h1, h2, Nat.lt_succ_of_lt h2]
        · simp [h1, h2, show ¬ n < g 2 + 1 by omega]
    rw [← e3]
    exact e
  · by_cases h10 : k < 10
    · refine pr_ct_eq h10 (fun f hf => ?_)
      have hf42 := pr_nf42 k h10
      unfold pr_fv
      by_cases hr : pr_rt k f = 0
      · rw [if_pos hr, if_pos hr, hmkP (fun q => ?_)]
        by_cases h3 : k = 3
        · exact hoth h (Or.inl h3) q.2
        · by_cases h2 : k = 2
          · exact hoth h (Or.inr (Or.inr h2)) q.2
          · omega
      · rw [if_neg hr, if_neg hr, hadP (fun q => ?_)]
        obtain ⟨r1, r2, r3, r4⟩ := pr_rt02 k h10 f (by omega) hr
        rcases q.1 with q1 | q1 | q1
        · exact r2 q1
        · exact hoth h (Or.inl (r4 q1)) q.2
        · exact r3 q1
    · by_cases h80 : k < 80
      · refine pr_mid_eq (by omega) h80 ?_
        funext n
        exact hmkP (by omega)
      · refine pr_rr_eq (by omega) ?_
        funext n
        unfold pr_rr
        have e4 : pr_rc (pr_g g 2) k = pr_rc g k := by
          unfold pr_rc
          rw [if_neg hk, if_neg hk, pr_gn g (by omega), pr_gn g (by omega)]
        by_cases h83 : k = 83
        · rw [e4, if_pos h83, if_pos h83, hadP (fun q => hoth h (Or.inr (Or.inl h83)) q.2)]
        · have e5 : pr_ek k ≠ 3 ∧ pr_ek k ≠ 83 ∧ pr_ek k ≠ 2 := by
            have h88 := h.1
            unfold pr_ok at h88
            unfold pr_ek
            rw [if_neg hk]
            repeat' split
            all_goals omega
          rw [e4, if_neg h83, if_neg h83, hadP (by omega)]
  · obtain ⟨rfl, hk⟩ := hnew b1 b2
    obtain ⟨rfl, hk'⟩ := hnew c1 c2
    rcases hk with ⟨rfl, rfl⟩ | ⟨rfl, rfl⟩ | ⟨rfl, hj⟩ <;> rcases hk' with ⟨rfl, rfl⟩ | ⟨rfl, rfl⟩ | ⟨rfl, hj'⟩ <;> simp [pr_adP, *] at he ⊢ <;> omega
/-- the end of a method that makes: where the objects that were there lie is as it was -/
def pr_Qa (D : va_G) (cs : Nat → ClassId) (A : Nat → Prop) (ad : pr_Ad) (Q : Int32 → (Nat → Nat) → pr_Sg → Prop) : Array Value → State → Outcome → State → Prop := fun _ st oc t => (∃ (r : Int32) (ad' : pr_Ad) (g' : Nat → Nat) (u : pr_Sg), oc = .returned (some (.int r)) ∧ Q r g' u ∧ pr_R D cs A ad' g' u t.heap ∧ ad' 8 0 0 = ad 8 0 0 ∧ ad' 9 0 0 = ad 9 0 0) ∧ va_F A st t
theorem pr_reta {Q : Int32 → (Nat → Nat) → pr_Sg → Prop} {v : Int32} {ad' : pr_Ad} {g' : Nat → Nat} {mc ms : Nat} (S : pr_C own cc nL (some .int) D cs p s m args meth c) (hmc : cells ≤ mc) (hms : slots ≤ ms) (h : Q v g' σ) (hR : pr_R D cs A ad' g' σ H) (h8 : ad' 8 0 0 = ad 8 0 0) (h9 : ad' 9 0 0 = ad 9 0 0) (hS : va_S A s.heap H locs) (hdg : decode cc pc = .ok (.ireturn, 1)) : W p l e R s m args below meth c H locs cells slots (MQ below (pr_Qa D cs A ad Q) args s mc ms A) (F0 m pc ls [.int v]) := by
  obtain ⟨hx, hb, -, -, -, -, hr, hlocks⟩ := S
  refine W.widen (k := mc) (n := ms) hmc hms ?_
  exact W.iret hx hb hr (fun t ht hW => ⟨⟨v, ad', g', σ, rfl, h, by rw [ht]; exact hR, h8, h9⟩, hS.F ht⟩) hS.2.2 hdg hlocks
abbrev pr_Ma (l : Launch) (D : va_G) (cs : Nat → ClassId) (A : Nat → Prop) (ad : pr_Ad) (g : Nat → Nat) (y : MethodName) (cc : ByteArray) (n : Nat) (rm : Room) (vs : List Value) (σ : pr_Sg) (mc ms : Nat) (Q : Int32 → (Nat → Nat) → pr_Sg → Prop) : Prop := Met l y (pr_ws y cc n (some .int)) rm (va_Pc vs (pr_B D cs A ad g σ)) (pr_Qa D cs A ad Q) mc ms A
end PRP
