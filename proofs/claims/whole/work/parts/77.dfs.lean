/-- THE PLAN: a search through all lines, abstractly -/
def st1 (ln : Nat → Int32) (k : Nat) (v : Int32) : Nat → Int32 := fun i => if i = k then v else ln i
def lf (w : Nat → Nat) : Nat → Nat → Nat
  | 0, _ => 0
  | r + 1, k => w k + lf w r (k + 1)
def hl {β : Type} (c : Nat → Bool) (f : Nat → β → β) : Nat → Nat → β → β
  | 0, _, b => b
  | n + 1, h, b => hl c f n (h + 1) (if c h = true then f h b else b)
def tw (S : Nat → Int32) (ln : Nat → Int32) (k : Nat) : Bool := decide (∃ i, i < k ∧ S i = S k ∧ ¬ ln i = -1)
def cnd (ok : Nat → Nat → Bool) (S : Nat → Int32) (k t : Nat) (ln : Nat → Int32) (h : Nat) : Bool := ok k h && !(t.testBit h) && !(tw S ln k)
def dfs (w : Nat → Nat) (ok : Nat → Nat → Bool) (S : Nat → Int32) : Nat → Nat → Nat → Nat → (Nat → Int32) → Nat × (Nat → Int32) → Nat × (Nat → Int32)
  | 0, _, _, s, ln, b => if b.1 ≤ s then (s + 1, ln) else b
  | r + 1, k, t, s, ln, b => dfs w ok S r (k + 1) t s (st1 ln k (-1)) (hl (cnd ok S k t ln) (fun h b => dfs w ok S r (k + 1) (t ||| 2 ^ h) (s + w k) (st1 ln k (nI h)) b) 6 0 b)
theorem hl_inv {β : Type} {c : Nat → Bool} {f : Nat → β → β} {P : β → Prop} (hf : ∀ h b, P b → P (f h b)) : ∀ n h b, P b → P (hl c f n h b) := by
  intro n
  induction n with
  | zero => intro h b hb; exact hb
  | succ n ih =>
    intro h b hb
    unfold hl
    refine ih _ _ ?_
    split
    · exact hf h b hb
    · exact hb
theorem hl_id {β : Type} {c : Nat → Bool} {f : Nat → β → β} {b : β} (hf : ∀ h, f h b = b) : ∀ n h, hl c f n h b = b := by
  intro n h
  refine hl_inv (P := fun x => x = b) (fun h x hx => ?_) n h b rfl
  rw [hx]
  exact hf h
theorem hl_no {β : Type} {c : Nat → Bool} {f : Nat → β → β} (hc : ∀ h, c h = false) : ∀ n h b, hl c f n h b = b := by
  intro n
  induction n with
  | zero => intro h b; rfl
  | succ n ih =>
    intro h b
    unfold hl
    rw [hc h, if_neg (by decide)]
    exact ih _ _
theorem dfs_prune {w : Nat → Nat} {ok : Nat → Nat → Bool} {S : Nat → Int32} : ∀ r k t s ln b, s + lf w r k < b.1 → dfs w ok S r k t s ln b = b := by
  intro r
  induction r with
  | zero =>
    intro k t s ln b h
    unfold dfs
    unfold lf at h
    rw [if_neg (by omega)]
  | succ r ih =>
    intro k t s ln b h
    unfold dfs
    unfold lf at h
    rw [hl_id (fun h => ih _ _ _ _ _ (by omega)), ih _ _ _ _ _ (by omega)]
theorem dfs_pos {w : Nat → Nat} {ok : Nat → Nat → Bool} {S : Nat → Int32} : ∀ r k t s ln b, (dfs w ok S r k t s ln b).1 ≠ 0 := by
  intro r
  induction r with
  | zero =>
    intro k t s ln b
    unfold dfs
    split
    · exact Nat.succ_ne_zero s
    · omega
  | succ r ih =>
    intro k t s ln b
    unfold dfs
    exact ih _ _ _ _ _
theorem dfs_le {w : Nat → Nat} {ok : Nat → Nat → Bool} {S : Nat → Int32} {M : Nat} : ∀ r k t s ln b, s + lf w r k < M → b.1 ≤ M → (dfs w ok S r k t s ln b).1 ≤ M := by
  intro r
  induction r with
  | zero =>
    intro k t s ln b h hb
    unfold dfs
    unfold lf at h
    split
    · show s + 1 ≤ M
      omega
    · exact hb
  | succ r ih =>
    intro k t s ln b h hb
    unfold dfs
    unfold lf at h
    refine ih _ _ _ _ _ (by omega) ?_
    exact hl_inv (P := fun (b : Nat × (Nat → Int32)) => b.1 ≤ M) (fun h b hb => ih _ _ _ _ _ (by omega) hb) _ _ _ hb
theorem st1_eq {ln : Nat → Int32} {k : Nat} {v : Int32} : st1 ln k v k = v := by simp [st1]
theorem st1_lt {ln : Nat → Int32} {k i : Nat} {v : Int32} (h : i < k) : st1 ln k v i = ln i := by
  unfold st1
  rw [if_neg (by omega)]
theorem bt1 : ∀ t, t < 64 → ∀ h, h < 6 → nI t ||| ((1 : Int32) <<< (nI h &&& 31)) = nI (t ||| 2 ^ h) ∧ t ||| 2 ^ h < 64 := by decide +kernel
theorem bt2 : ∀ t, t < 64 → ∀ h, h < 6 → (((nI t >>> (nI h &&& 31)) &&& (1 : Int32) = 1) ↔ t.testBit h = true) := by decide +kernel
theorem bt3 : ∀ t, t < 64 → ∀ h, h < 6 → (nI t ^^^ (-1 : Int32)) &&& ((1 : Int32) <<< (nI h &&& 31)) = if t.testBit h = true then 0 else ((1 : Int32) <<< (nI h &&& 31)) := by decide +kernel
theorem bt4 : ∀ t, t < 64 → ∀ h, h < 6 → ((nI t &&& ((1 : Int32) <<< (nI h &&& 31)) = 0) ↔ t.testBit h = false) := by decide +kernel
theorem bt5 {c t h : Nat} (hc : c < 64) (ht : t < 64) (hh : h < 6) : ((nI c &&& (nI t ^^^ (-1 : Int32))) &&& ((1 : Int32) <<< (nI h &&& 31)) = 0) ↔ (c.testBit h && !(t.testBit h)) = false := by
  rw [Int32.and_assoc, bt3 t ht h hh]
  by_cases e : t.testBit h = true
  · rw [if_pos e, e]
    simp
  · rw [if_neg e, bt4 c hc h hh]
    simp [e]
theorem bt6 {t h k : Nat} : (t ||| 2 ^ k).testBit h = (t.testBit h || decide (k = h)) := by
  rw [Nat.testBit_or, Nat.testBit_two_pow]
