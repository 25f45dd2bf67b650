def pr_cnt0 : Nat → Nat := fun c => if c = 0 then 1 else 0
def pr_s0 : pr_Sg := fun t i j => if t < 2 then (if i = 0 ∧ j = 0 then -1 else 0) else if t = 521 ∨ t = 585 then 1 else if t = 528 ∨ t = 609 then 5 else if t = 1028 ∨ t = 1029 ∨ t = 1056 then (if j < 5 then -1 else 0) else if t = 1044 ∨ t = 1046 then (if j < 7 then -1 else 0) else 0
def pr_off (k i : Nat) : Nat := if 64 ≤ k ∧ k < 69 then 44 + 41 * (k - 64) + i else ([25, 1, 0, 0, 18, 15, 0, 9, 0, 26, 0, 0, 0, 0, 0, 0, 0, 0, 0, 0, 2, 3, 4, 5, 10, 11, 12, 13, 16, 17, 19, 20, 21, 22, 23, 24, 0, 0, 0, 0, 27, 28, 29, 30, 31, 32, 33, 34, 35, 36, 37, 38, 39, 40, 41, 42, 248, 249, 250, 251, 252, 254, 255, 256, 0, 0, 0, 0, 0, 0, 14, 253, 0, 0, 0, 0, 0, 0, 0, 0, 6, 7, 8, 0, 43, 84, 125, 166, 207] : List Nat).getD k 0
def pr_ad0 (z : Nat) : pr_Ad := fun k i _ => z + pr_off k i
def pr_FF (cs : Nat → ClassId) (z : Nat) : Nat → va_E := fun q => if q < 25 then kF_X8_init cs (z + 1) q else if q = 25 then .inr (9, [.int 0, .ref (z + 1 + 26 + 0), .ref (z + 1 + 26 + 1), .ref (z + 1 + 26 + 2), .int 0, .ref (z + 1 + 26 + 3), .ref (z + 1 + 26 + 4), .ref (z + 1 + 26 + 5), .ref (z + 1 + 26 + 6), .int (1 : Int32), .ref (z + 1 + 26 + 7), .ref (z + 1 + 26 + 8), .ref (z + 1 + 26 + 9), .int 0, .ref (z + 1 + 26 + 10), .ref (z + 1 + 26 + 11), .ref (z + 1 + 26 + 12), .ref (z + 1 + 26 + 13), .ref (z + 1 + 26 + 14), .ref (z + 1 + 26 + 15), .ref (z + 1 + 26 + 16), .ref (z + 1 + 26 + 57), .ref (z + 1 + 26 + 98), .ref (z + 1 + 26 + 139), .ref (z + 1 + 26 + 180), .int 0, .ref (z + 1 + 26 + 221), .ref (z + 1 + 26 + 222), .ref (z + 1 + 26 + 223), .ref (z + 1 + 26 + 224), .ref (z + 1 + 26 + 225), .ref (z + 1 + 26 + 226), .int 0, .int (5 : Int32), .int 0, .int 0, .int 0, .ref (z + 1 + 26 + 227), .ref (z + 1 + 26 + 228), .ref (z + 1 + 26 + 229), .int 0, .int 0]) else kF_X9_init cs (z + 1 + 26) (q - 26)
def pr_GG (cs : Nat → ClassId) (z n : Nat) : va_E := if n = 0 then .inr (8, [.ref (z + 1 + 0), .ref (z + 1 + 4), .ref (z + 1 + 5), .ref (z + 1 + 6), .ref (z + 1 + 7), .ref (z + 1 + 8), .ref (z + 1 + 14), .ref (z + 1 + 17), .int 0, .int (1 : Int32), .int 0, .int 0, .int 0, .int 0, .int 0, .int 0, .int (5 : Int32)]) else pr_FF cs z (n - 1)
def pr_inv (n : Nat) : Nat × Nat × Nat := if 43 ≤ n ∧ n < 248 then (if (n - 43) % 41 = 0 then (84 + (n - 43) / 41, 0, 0) else (64 + (n - 43) / 41, (n - 43) % 41 - 1, 0)) else (([8, 1, 20, 21, 22, 23, 80, 81, 82, 7, 24, 25, 26, 27, 70, 5, 28, 29, 4, 30, 31, 32, 33, 34, 35, 0, 9, 40, 41, 42, 43, 44, 45, 46, 47, 48, 49, 50, 51, 52, 53, 54, 55, 56, 57, 58, 59, 60, 71, 61, 62, 63] : List Nat).getD (if n < 43 then n else n - 205) 0, 0, 0)
theorem pr_tc0 : ((0 : Int32)).toNatClampNeg = 0 ∧ ((1 : Int32)).toNatClampNeg = 1 ∧ ((2 : Int32)).toNatClampNeg = 2 ∧ ((3 : Int32)).toNatClampNeg = 3 ∧ ((4 : Int32)).toNatClampNeg = 4 ∧ ((5 : Int32)).toNatClampNeg = 5 ∧ ((6 : Int32)).toNatClampNeg = 6 := by decide
theorem pr_ch5 : (upd (upd (upd (upd (upd (fun _ => 0) ((0 : Int32)).toNatClampNeg (-1 : Int32)) ((1 : Int32)).toNatClampNeg (-1 : Int32)) ((2 : Int32)).toNatClampNeg (-1 : Int32)) ((3 : Int32)).toNatClampNeg (-1 : Int32)) ((4 : Int32)).toNatClampNeg (-1 : Int32)) = (fun j => if j < 5 then (-1 : Int32) else 0) := by
  obtain ⟨h0, h1, h2, h3, h4, h5, h6⟩ := pr_tc0
  funext j
  simp only [h0, h1, h2, h3, h4]
  rcases j with _ | _ | _ | _ | _ | j
  · rfl
  · rfl
  · rfl
  · rfl
  · rfl
  · simp [upd]
theorem pr_ch7 : (upd (upd (upd (upd (upd (upd (upd (fun _ => 0) ((0 : Int32)).toNatClampNeg (-1 : Int32)) ((1 : Int32)).toNatClampNeg (-1 : Int32)) ((2 : Int32)).toNatClampNeg (-1 : Int32)) ((3 : Int32)).toNatClampNeg (-1 : Int32)) ((4 : Int32)).toNatClampNeg (-1 : Int32)) ((5 : Int32)).toNatClampNeg (-1 : Int32)) ((6 : Int32)).toNatClampNeg (-1 : Int32)) = (fun j => if j < 7 then (-1 : Int32) else 0) := by
  obtain ⟨h0, h1, h2, h3, h4, h5, h6⟩ := pr_tc0
  funext j
  simp only [h0, h1, h2, h3, h4, h5, h6]
  rcases j with _ | _ | _ | _ | _ | _ | _ | j
  · rfl
  · rfl
  · rfl
  · rfl
  · rfl
  · rfl
  · rfl
  · simp [upd]
theorem pr_h80 {z : Nat} : va_up (fun _ => none) ((0 : Int32)).toNatClampNeg (some (z + 1 + 24)) = pr_rr (pr_ad0 z) pr_cnt0 80 0 := by
  funext n
  rw [pr_tc0.1]
  rcases n with _ | n
  · rfl
  · simp [va_up, pr_rr, pr_rc, pr_cnt0]
theorem pr_h81 {z : Nat} : (fun _ => none) = pr_rr (pr_ad0 z) pr_cnt0 81 0 := by
  funext n
  simp [pr_rr, pr_rc, pr_cnt0]
theorem pr_h82 {z : Nat} : (fun _ => none) = pr_rr (pr_ad0 z) pr_cnt0 82 0 := by
  funext n
  simp [pr_rr, pr_rc, pr_cnt0]
theorem pr_h84 {z : Nat} : (fun i => if i < 40 then some (z + 1 + 26 + 16 + 1 + i) else none) = pr_rr (pr_ad0 z) pr_cnt0 84 0 := by
  funext n
  unfold pr_rr pr_rc pr_ek pr_ad0 pr_off
  by_cases h : n < 40
  · simp [h]
    omega
  · simp [h]
theorem pr_h85 {z : Nat} : (fun i => if i < 40 then some (z + 1 + 26 + 57 + 1 + i) else none) = pr_rr (pr_ad0 z) pr_cnt0 85 0 := by
  funext n
  unfold pr_rr pr_rc pr_ek pr_ad0 pr_off
  by_cases h : n < 40
  · simp [h]
    omega
  · simp [h]
theorem pr_h86 {z : Nat} : (fun i => if i < 40 then some (z + 1 + 26 + 98 + 1 + i) else none) = pr_rr (pr_ad0 z) pr_cnt0 86 0 := by
  funext n
  unfold pr_rr pr_rc pr_ek pr_ad0 pr_off
  by_cases h : n < 40
  · simp [h]
    omega
  · simp [h]
theorem pr_h87 {z : Nat} : (fun i => if i < 40 then some (z + 1 + 26 + 139 + 1 + i) else none) = pr_rr (pr_ad0 z) pr_cnt0 87 0 := by
  funext n
  unfold pr_rr pr_rc pr_ek pr_ad0 pr_off
  by_cases h : n < 40
  · simp [h]
    omega
  · simp [h]
theorem pr_h88 {z : Nat} : (fun i => if i < 40 then some (z + 1 + 26 + 180 + 1 + i) else none) = pr_rr (pr_ad0 z) pr_cnt0 88 0 := by
  funext n
  unfold pr_rr pr_rc pr_ek pr_ad0 pr_off
  by_cases h : n < 40
  · simp [h]
    omega
  · simp [h]
set_option maxRecDepth 100000 in
theorem in_k0 {cs : Nat → ClassId} {z : Nat} : pr_ct cs (pr_ad0 z) pr_cnt0 pr_s0 0 0 0 = pr_GG cs z 25 := rfl
set_option maxRecDepth 100000 in
theorem in_k1 {cs : Nat → ClassId} {z : Nat} : pr_ct cs (pr_ad0 z) pr_cnt0 pr_s0 1 0 0 = pr_GG cs z 1 := rfl
set_option maxRecDepth 100000 in
theorem in_k4 {cs : Nat → ClassId} {z : Nat} : pr_ct cs (pr_ad0 z) pr_cnt0 pr_s0 4 0 0 = pr_GG cs z 18 := rfl
set_option maxRecDepth 100000 in
theorem in_k5 {cs : Nat → ClassId} {z : Nat} : pr_ct cs (pr_ad0 z) pr_cnt0 pr_s0 5 0 0 = pr_GG cs z 15 := rfl
set_option maxRecDepth 100000 in
theorem in_k7 {cs : Nat → ClassId} {z : Nat} : pr_ct cs (pr_ad0 z) pr_cnt0 pr_s0 7 0 0 = pr_GG cs z 9 := rfl
set_option maxRecDepth 100000 in
theorem in_k8 {cs : Nat → ClassId} {z : Nat} : pr_ct cs (pr_ad0 z) pr_cnt0 pr_s0 8 0 0 = pr_GG cs z 0 := rfl
set_option maxRecDepth 100000 in
theorem in_k9 {cs : Nat → ClassId} {z : Nat} : pr_ct cs (pr_ad0 z) pr_cnt0 pr_s0 9 0 0 = pr_GG cs z 26 := rfl
set_option maxRecDepth 100000 in
theorem in_k20 {cs : Nat → ClassId} {z : Nat} : pr_ct cs (pr_ad0 z) pr_cnt0 pr_s0 20 0 0 = pr_GG cs z 2 := rfl
set_option maxRecDepth 100000 in
theorem in_k21 {cs : Nat → ClassId} {z : Nat} : pr_ct cs (pr_ad0 z) pr_cnt0 pr_s0 21 0 0 = pr_GG cs z 3 := rfl
set_option maxRecDepth 100000 in
theorem in_k22 {cs : Nat → ClassId} {z : Nat} : pr_ct cs (pr_ad0 z) pr_cnt0 pr_s0 22 0 0 = pr_GG cs z 4 := rfl
set_option maxRecDepth 100000 in
theorem in_k23 {cs : Nat → ClassId} {z : Nat} : pr_ct cs (pr_ad0 z) pr_cnt0 pr_s0 23 0 0 = pr_GG cs z 5 := rfl
set_option maxRecDepth 100000 in
theorem in_k24 {cs : Nat → ClassId} {z : Nat} : pr_ct cs (pr_ad0 z) pr_cnt0 pr_s0 24 0 0 = pr_GG cs z 10 := rfl
set_option maxRecDepth 100000 in
theorem in_k25 {cs : Nat → ClassId} {z : Nat} : pr_ct cs (pr_ad0 z) pr_cnt0 pr_s0 25 0 0 = pr_GG cs z 11 := rfl
set_option maxRecDepth 100000 in
theorem in_k26 {cs : Nat → ClassId} {z : Nat} : pr_ct cs (pr_ad0 z) pr_cnt0 pr_s0 26 0 0 = pr_GG cs z 12 := rfl
set_option maxRecDepth 100000 in
theorem in_k27 {cs : Nat → ClassId} {z : Nat} : pr_ct cs (pr_ad0 z) pr_cnt0 pr_s0 27 0 0 = pr_GG cs z 13 := rfl
set_option maxRecDepth 100000 in
theorem in_k28 {cs : Nat → ClassId} {z : Nat} : pr_ct cs (pr_ad0 z) pr_cnt0 pr_s0 28 0 0 = pr_GG cs z 16 := by
  show (Sum.inl (cs 0, 5, Sum.inl (pr_s0 1028 0)) : va_E) = Sum.inl (cs 0, 5, Sum.inl (upd (upd (upd (upd (upd (fun _ => 0) ((0 : Int32)).toNatClampNeg (-1 : Int32)) ((1 : Int32)).toNatClampNeg (-1 : Int32)) ((2 : Int32)).toNatClampNeg (-1 : Int32)) ((3 : Int32)).toNatClampNeg (-1 : Int32)) ((4 : Int32)).toNatClampNeg (-1 : Int32)))
  rw [pr_ch5]
  rfl
set_option maxRecDepth 100000 in
theorem in_k29 {cs : Nat → ClassId} {z : Nat} : pr_ct cs (pr_ad0 z) pr_cnt0 pr_s0 29 0 0 = pr_GG cs z 17 := by
  show (Sum.inl (cs 0, 5, Sum.inl (pr_s0 1029 0)) : va_E) = Sum.inl (cs 0, 5, Sum.inl (upd (upd (upd (upd (upd (fun _ => 0) ((0 : Int32)).toNatClampNeg (-1 : Int32)) ((1 : Int32)).toNatClampNeg (-1 : Int32)) ((2 : Int32)).toNatClampNeg (-1 : Int32)) ((3 : Int32)).toNatClampNeg (-1 : Int32)) ((4 : Int32)).toNatClampNeg (-1 : Int32)))
  rw [pr_ch5]
  rfl
set_option maxRecDepth 100000 in
theorem in_k30 {cs : Nat → ClassId} {z : Nat} : pr_ct cs (pr_ad0 z) pr_cnt0 pr_s0 30 0 0 = pr_GG cs z 19 := rfl
set_option maxRecDepth 100000 in
theorem in_k31 {cs : Nat → ClassId} {z : Nat} : pr_ct cs (pr_ad0 z) pr_cnt0 pr_s0 31 0 0 = pr_GG cs z 20 := rfl
set_option maxRecDepth 100000 in
theorem in_k32 {cs : Nat → ClassId} {z : Nat} : pr_ct cs (pr_ad0 z) pr_cnt0 pr_s0 32 0 0 = pr_GG cs z 21 := rfl
set_option maxRecDepth 100000 in
theorem in_k33 {cs : Nat → ClassId} {z : Nat} : pr_ct cs (pr_ad0 z) pr_cnt0 pr_s0 33 0 0 = pr_GG cs z 22 := rfl
set_option maxRecDepth 100000 in
theorem in_k34 {cs : Nat → ClassId} {z : Nat} : pr_ct cs (pr_ad0 z) pr_cnt0 pr_s0 34 0 0 = pr_GG cs z 23 := rfl
set_option maxRecDepth 100000 in
theorem in_k35 {cs : Nat → ClassId} {z : Nat} : pr_ct cs (pr_ad0 z) pr_cnt0 pr_s0 35 0 0 = pr_GG cs z 24 := rfl
set_option maxRecDepth 100000 in
theorem in_k40 {cs : Nat → ClassId} {z : Nat} : pr_ct cs (pr_ad0 z) pr_cnt0 pr_s0 40 0 0 = pr_GG cs z 27 := rfl
set_option maxRecDepth 100000 in
theorem in_k41 {cs : Nat → ClassId} {z : Nat} : pr_ct cs (pr_ad0 z) pr_cnt0 pr_s0 41 0 0 = pr_GG cs z 28 := rfl
set_option maxRecDepth 100000 in
theorem in_k42 {cs : Nat → ClassId} {z : Nat} : pr_ct cs (pr_ad0 z) pr_cnt0 pr_s0 42 0 0 = pr_GG cs z 29 := rfl
set_option maxRecDepth 100000 in
theorem in_k43 {cs : Nat → ClassId} {z : Nat} : pr_ct cs (pr_ad0 z) pr_cnt0 pr_s0 43 0 0 = pr_GG cs z 30 := rfl
set_option maxRecDepth 100000 in
theorem in_k44 {cs : Nat → ClassId} {z : Nat} : pr_ct cs (pr_ad0 z) pr_cnt0 pr_s0 44 0 0 = pr_GG cs z 31 := by
  show (Sum.inl (cs 0, 7, Sum.inl (pr_s0 1044 0)) : va_E) = Sum.inl (cs 0, 7, Sum.inl (upd (upd (upd (upd (upd (upd (upd (fun _ => 0) ((0 : Int32)).toNatClampNeg (-1 : Int32)) ((1 : Int32)).toNatClampNeg (-1 : Int32)) ((2 : Int32)).toNatClampNeg (-1 : Int32)) ((3 : Int32)).toNatClampNeg (-1 : Int32)) ((4 : Int32)).toNatClampNeg (-1 : Int32)) ((5 : Int32)).toNatClampNeg (-1 : Int32)) ((6 : Int32)).toNatClampNeg (-1 : Int32)))
  rw [pr_ch7]
  rfl
set_option maxRecDepth 100000 in
theorem in_k45 {cs : Nat → ClassId} {z : Nat} : pr_ct cs (pr_ad0 z) pr_cnt0 pr_s0 45 0 0 = pr_GG cs z 32 := rfl
set_option maxRecDepth 100000 in
theorem in_k46 {cs : Nat → ClassId} {z : Nat} : pr_ct cs (pr_ad0 z) pr_cnt0 pr_s0 46 0 0 = pr_GG cs z 33 := by
  show (Sum.inl (cs 0, 7, Sum.inl (pr_s0 1046 0)) : va_E) = Sum.inl (cs 0, 7, Sum.inl (upd (upd (upd (upd (upd (upd (upd (fun _ => 0) ((0 : Int32)).toNatClampNeg (-1 : Int32)) ((1 : Int32)).toNatClampNeg (-1 : Int32)) ((2 : Int32)).toNatClampNeg (-1 : Int32)) ((3 : Int32)).toNatClampNeg (-1 : Int32)) ((4 : Int32)).toNatClampNeg (-1 : Int32)) ((5 : Int32)).toNatClampNeg (-1 : Int32)) ((6 : Int32)).toNatClampNeg (-1 : Int32)))
  rw [pr_ch7]
  rfl
set_option maxRecDepth 100000 in
theorem in_k47 {cs : Nat → ClassId} {z : Nat} : pr_ct cs (pr_ad0 z) pr_cnt0 pr_s0 47 0 0 = pr_GG cs z 34 := rfl
set_option maxRecDepth 100000 in
theorem in_k48 {cs : Nat → ClassId} {z : Nat} : pr_ct cs (pr_ad0 z) pr_cnt0 pr_s0 48 0 0 = pr_GG cs z 35 := rfl
set_option maxRecDepth 100000 in
theorem in_k49 {cs : Nat → ClassId} {z : Nat} : pr_ct cs (pr_ad0 z) pr_cnt0 pr_s0 49 0 0 = pr_GG cs z 36 := rfl
set_option maxRecDepth 100000 in
theorem in_k50 {cs : Nat → ClassId} {z : Nat} : pr_ct cs (pr_ad0 z) pr_cnt0 pr_s0 50 0 0 = pr_GG cs z 37 := rfl
set_option maxRecDepth 100000 in
theorem in_k51 {cs : Nat → ClassId} {z : Nat} : pr_ct cs (pr_ad0 z) pr_cnt0 pr_s0 51 0 0 = pr_GG cs z 38 := rfl
set_option maxRecDepth 100000 in
theorem in_k52 {cs : Nat → ClassId} {z : Nat} : pr_ct cs (pr_ad0 z) pr_cnt0 pr_s0 52 0 0 = pr_GG cs z 39 := rfl
set_option maxRecDepth 100000 in
theorem in_k53 {cs : Nat → ClassId} {z : Nat} : pr_ct cs (pr_ad0 z) pr_cnt0 pr_s0 53 0 0 = pr_GG cs z 40 := rfl
set_option maxRecDepth 100000 in
theorem in_k54 {cs : Nat → ClassId} {z : Nat} : pr_ct cs (pr_ad0 z) pr_cnt0 pr_s0 54 0 0 = pr_GG cs z 41 := rfl
set_option maxRecDepth 100000 in
theorem in_k55 {cs : Nat → ClassId} {z : Nat} : pr_ct cs (pr_ad0 z) pr_cnt0 pr_s0 55 0 0 = pr_GG cs z 42 := rfl
set_option maxRecDepth 100000 in
theorem in_k56 {cs : Nat → ClassId} {z : Nat} : pr_ct cs (pr_ad0 z) pr_cnt0 pr_s0 56 0 0 = pr_GG cs z 248 := by
  show (Sum.inl (cs 0, 5, Sum.inl (pr_s0 1056 0)) : va_E) = Sum.inl (cs 0, 5, Sum.inl (upd (upd (upd (upd (upd (fun _ => 0) ((0 : Int32)).toNatClampNeg (-1 : Int32)) ((1 : Int32)).toNatClampNeg (-1 : Int32)) ((2 : Int32)).toNatClampNeg (-1 : Int32)) ((3 : Int32)).toNatClampNeg (-1 : Int32)) ((4 : Int32)).toNatClampNeg (-1 : Int32)))
  rw [pr_ch5]
  rfl
set_option maxRecDepth 100000 in
theorem in_k57 {cs : Nat → ClassId} {z : Nat} : pr_ct cs (pr_ad0 z) pr_cnt0 pr_s0 57 0 0 = pr_GG cs z 249 := rfl
set_option maxRecDepth 100000 in
theorem in_k58 {cs : Nat → ClassId} {z : Nat} : pr_ct cs (pr_ad0 z) pr_cnt0 pr_s0 58 0 0 = pr_GG cs z 250 := rfl
set_option maxRecDepth 100000 in
theorem in_k59 {cs : Nat → ClassId} {z : Nat} : pr_ct cs (pr_ad0 z) pr_cnt0 pr_s0 59 0 0 = pr_GG cs z 251 := rfl
set_option maxRecDepth 100000 in
theorem in_k60 {cs : Nat → ClassId} {z : Nat} : pr_ct cs (pr_ad0 z) pr_cnt0 pr_s0 60 0 0 = pr_GG cs z 252 := rfl
set_option maxRecDepth 100000 in
theorem in_k61 {cs : Nat → ClassId} {z : Nat} : pr_ct cs (pr_ad0 z) pr_cnt0 pr_s0 61 0 0 = pr_GG cs z 254 := rfl
set_option maxRecDepth 100000 in
theorem in_k62 {cs : Nat → ClassId} {z : Nat} : pr_ct cs (pr_ad0 z) pr_cnt0 pr_s0 62 0 0 = pr_GG cs z 255 := rfl
set_option maxRecDepth 100000 in
theorem in_k63 {cs : Nat → ClassId} {z : Nat} : pr_ct cs (pr_ad0 z) pr_cnt0 pr_s0 63 0 0 = pr_GG cs z 256 := rfl
set_option maxRecDepth 100000 in
theorem in_k70 {cs : Nat → ClassId} {z : Nat} : pr_ct cs (pr_ad0 z) pr_cnt0 pr_s0 70 0 0 = pr_GG cs z 14 := rfl
set_option maxRecDepth 100000 in
theorem in_k71 {cs : Nat → ClassId} {z : Nat} : pr_ct cs (pr_ad0 z) pr_cnt0 pr_s0 71 0 0 = pr_GG cs z 253 := rfl
set_option maxRecDepth 100000 in
theorem in_k80 {cs : Nat → ClassId} {z : Nat} : pr_ct cs (pr_ad0 z) pr_cnt0 pr_s0 80 0 0 = pr_GG cs z 6 := by
  show (Sum.inl (cs 2, 7, Sum.inr (Sum.inr (Sum.inr (Sum.inr (pr_rr (pr_ad0 z) pr_cnt0 80 0))))) : va_E) = Sum.inl (cs 2, 7, Sum.inr (Sum.inr (Sum.inr (Sum.inr (va_up (fun _ => none) ((0 : Int32)).toNatClampNeg (some (z + 1 + 24)))))))
  rw [← pr_h80]
set_option maxRecDepth 100000 in
theorem in_k81 {cs : Nat → ClassId} {z : Nat} : pr_ct cs (pr_ad0 z) pr_cnt0 pr_s0 81 0 0 = pr_GG cs z 7 := by
  show (Sum.inl (cs 3, 20, Sum.inr (Sum.inr (Sum.inr (Sum.inr (pr_rr (pr_ad0 z) pr_cnt0 81 0))))) : va_E) = Sum.inl (cs 3, 20, Sum.inr (Sum.inr (Sum.inr (Sum.inr (fun _ => none)))))
  rw [← pr_h81]
set_option maxRecDepth 100000 in
theorem in_k82 {cs : Nat → ClassId} {z : Nat} : pr_ct cs (pr_ad0 z) pr_cnt0 pr_s0 82 0 0 = pr_GG cs z 8 := by
  show (Sum.inl (cs 4, 40, Sum.inr (Sum.inr (Sum.inr (Sum.inr (pr_rr (pr_ad0 z) pr_cnt0 82 0))))) : va_E) = Sum.inl (cs 4, 40, Sum.inr (Sum.inr (Sum.inr (Sum.inr (fun _ => none)))))
  rw [← pr_h82]
set_option maxRecDepth 100000 in
theorem in_k84 {cs : Nat → ClassId} {z : Nat} : pr_ct cs (pr_ad0 z) pr_cnt0 pr_s0 84 0 0 = pr_GG cs z 43 := by
  show (Sum.inl (cs 6, 40, Sum.inr (Sum.inr (Sum.inr (Sum.inr (pr_rr (pr_ad0 z) pr_cnt0 84 0))))) : va_E) = Sum.inl (cs 6, 40, Sum.inr (Sum.inr (Sum.inr (Sum.inr (fun i => if i < 40 then some (z + 1 + 26 + 16 + 1 + i) else none)))))
  rw [← pr_h84]
set_option maxRecDepth 100000 in
theorem in_k85 {cs : Nat → ClassId} {z : Nat} : pr_ct cs (pr_ad0 z) pr_cnt0 pr_s0 85 0 0 = pr_GG cs z 84 := by
  show (Sum.inl (cs 6, 40, Sum.inr (Sum.inr (Sum.inr (Sum.inr (pr_rr (pr_ad0 z) pr_cnt0 85 0))))) : va_E) = Sum.inl (cs 6, 40, Sum.inr (Sum.inr (Sum.inr (Sum.inr (fun i => if i < 40 then some (z + 1 + 26 + 57 + 1 + i) else none)))))
  rw [← pr_h85]
set_option maxRecDepth 100000 in
theorem in_k86 {cs : Nat → ClassId} {z : Nat} : pr_ct cs (pr_ad0 z) pr_cnt0 pr_s0 86 0 0 = pr_GG cs z 125 := by
  show (Sum.inl (cs 6, 40, Sum.inr (Sum.inr (Sum.inr (Sum.inr (pr_rr (pr_ad0 z) pr_cnt0 86 0))))) : va_E) = Sum.inl (cs 6, 40, Sum.inr (Sum.inr (Sum.inr (Sum.inr (fun i => if i < 40 then some (z + 1 + 26 + 98 + 1 + i) else none)))))
  rw [← pr_h86]
set_option maxRecDepth 100000 in
theorem in_k87 {cs : Nat → ClassId} {z : Nat} : pr_ct cs (pr_ad0 z) pr_cnt0 pr_s0 87 0 0 = pr_GG cs z 166 := by
  show (Sum.inl (cs 6, 40, Sum.inr (Sum.inr (Sum.inr (Sum.inr (pr_rr (pr_ad0 z) pr_cnt0 87 0))))) : va_E) = Sum.inl (cs 6, 40, Sum.inr (Sum.inr (Sum.inr (Sum.inr (fun i => if i < 40 then some (z + 1 + 26 + 139 + 1 + i) else none)))))
  rw [← pr_h87]
set_option maxRecDepth 100000 in
theorem in_k88 {cs : Nat → ClassId} {z : Nat} : pr_ct cs (pr_ad0 z) pr_cnt0 pr_s0 88 0 0 = pr_GG cs z 207 := by
  show (Sum.inl (cs 6, 40, Sum.inr (Sum.inr (Sum.inr (Sum.inr (pr_rr (pr_ad0 z) pr_cnt0 88 0))))) : va_E) = Sum.inl (cs 6, 40, Sum.inr (Sum.inr (Sum.inr (Sum.inr (fun i => if i < 40 then some (z + 1 + 26 + 180 + 1 + i) else none)))))
  rw [← pr_h88]
set_option maxRecDepth 100000 in
theorem in_r64 {cs : Nat → ClassId} {z i : Nat} (h : i < 40) : pr_GG cs z (44 + i) = .inl (cs 0, 5, .inl (fun _ => 0)) := by
  rcases (show i = 0 ∨ i = 1 ∨ i = 2 ∨ i = 3 ∨ i = 4 ∨ i = 5 ∨ i = 6 ∨ i = 7 ∨ i = 8 ∨ i = 9 ∨ i = 10 ∨ i = 11 ∨ i = 12 ∨ i = 13 ∨ i = 14 ∨ i = 15 ∨ i = 16 ∨ i = 17 ∨ i = 18 ∨ i = 19 ∨ i = 20 ∨ i = 21 ∨ i = 22 ∨ i = 23 ∨ i = 24 ∨ i = 25 ∨ i = 26 ∨ i = 27 ∨ i = 28 ∨ i = 29 ∨ i = 30 ∨ i = 31 ∨ i = 32 ∨ i = 33 ∨ i = 34 ∨ i = 35 ∨ i = 36 ∨ i = 37 ∨ i = 38 ∨ i = 39 by omega) with rfl | rfl | rfl | rfl | rfl | rfl | rfl | rfl | rfl | rfl | rfl | rfl | rfl | rfl | rfl | rfl | rfl | rfl | rfl | rfl | rfl | rfl | rfl | rfl | rfl | rfl | rfl | rfl | rfl | rfl | rfl | rfl | rfl | rfl | rfl | rfl | rfl | rfl | rfl | rfl <;> rfl
set_option maxRecDepth 100000 in
theorem in_r65 {cs : Nat → ClassId} {z i : Nat} (h : i < 40) : pr_GG cs z (85 + i) = .inl (cs 0, 5, .inl (fun _ => 0)) := by
  rcases (show i = 0 ∨ i = 1 ∨ i = 2 ∨ i = 3 ∨ i = 4 ∨ i = 5 ∨ i = 6 ∨ i = 7 ∨ i = 8 ∨ i = 9 ∨ i = 10 ∨ i = 11 ∨ i = 12 ∨ i = 13 ∨ i = 14 ∨ i = 15 ∨ i = 16 ∨ i = 17 ∨ i = 18 ∨ i = 19 ∨ i = 20 ∨ i = 21 ∨ i = 22 ∨ i = 23 ∨ i = 24 ∨ i = 25 ∨ i = 26 ∨ i = 27 ∨ i = 28 ∨ i = 29 ∨ i = 30 ∨ i = 31 ∨ i = 32 ∨ i = 33 ∨ i = 34 ∨ i = 35 ∨ i = 36 ∨ i = 37 ∨ i = 38 ∨ i = 39 by omega) with rfl | rfl | rfl | rfl | rfl | rfl | rfl | rfl | rfl | rfl | rfl | rfl | rfl | rfl | rfl | rfl | rfl | rfl | rfl | rfl | rfl | rfl | rfl | rfl | rfl | rfl | rfl | rfl | rfl | rfl | rfl | rfl | rfl | rfl | rfl | rfl | rfl | rfl | rfl | rfl <;> rfl
set_option maxRecDepth 100000 in
theorem in_r66 {cs : Nat → ClassId} {z i : Nat} (h : i < 40) : pr_GG cs z (126 + i) = .inl (cs 0, 5, .inl (fun _ => 0)) := by
  rcases (show i = 0 ∨ i = 1 ∨ i = 2 ∨ i = 3 ∨ i = 4 ∨ i = 5 ∨ i = 6 ∨ i = 7 ∨ i = 8 ∨ i = 9 ∨ i = 10 ∨ i = 11 ∨ i = 12 ∨ i = 13 ∨ i = 14 ∨ i = 15 ∨ i = 16 ∨ i = 17 ∨ i = 18 ∨ i = 19 ∨ i = 20 ∨ i = 21 ∨ i = 22 ∨ i = 23 ∨ i = 24 ∨ i = 25 ∨ i = 26 ∨ i = 27 ∨ i = 28 ∨ i = 29 ∨ i = 30 ∨ i = 31 ∨ i = 32 ∨ i = 33 ∨ i = 34 ∨ i = 35 ∨ i = 36 ∨ i = 37 ∨ i = 38 ∨ i = 39 by omega) with rfl | rfl | rfl | rfl | rfl | rfl | rfl | rfl | rfl | rfl | rfl | rfl | rfl | rfl | rfl | rfl | rfl | rfl | rfl | rfl | rfl | rfl | rfl | rfl | rfl | rfl | rfl | rfl | rfl | rfl | rfl | rfl | rfl | rfl | rfl | rfl | rfl | rfl | rfl | rfl <;> rfl
set_option maxRecDepth 100000 in
theorem in_r67 {cs : Nat → ClassId} {z i : Nat} (h : i < 40) : pr_GG cs z (167 + i) = .inl (cs 0, 5, .inl (fun _ => 0)) := by
  rcases (show i = 0 ∨ i = 1 ∨ i = 2 ∨ i = 3 ∨ i = 4 ∨ i = 5 ∨ i = 6 ∨ i = 7 ∨ i = 8 ∨ i = 9 ∨ i = 10 ∨ i = 11 ∨ i = 12 ∨ i = 13 ∨ i = 14 ∨ i = 15 ∨ i = 16 ∨ i = 17 ∨ i = 18 ∨ i = 19 ∨ i = 20 ∨ i = 21 ∨ i = 22 ∨ i = 23 ∨ i = 24 ∨ i = 25 ∨ i = 26 ∨ i = 27 ∨ i = 28 ∨ i = 29 ∨ i = 30 ∨ i = 31 ∨ i = 32 ∨ i = 33 ∨ i = 34 ∨ i = 35 ∨ i = 36 ∨ i = 37 ∨ i = 38 ∨ i = 39 by omega) with rfl | rfl | rfl | rfl | rfl | rfl | rfl | rfl | rfl | rfl | rfl | rfl | rfl | rfl | rfl | rfl | rfl | rfl | rfl | rfl | rfl | rfl | rfl | rfl | rfl | rfl | rfl | rfl | rfl | rfl | rfl | rfl | rfl | rfl | rfl | rfl | rfl | rfl | rfl | rfl <;> rfl
set_option maxRecDepth 100000 in
theorem in_r68 {cs : Nat → ClassId} {z i : Nat} (h : i < 40) : pr_GG cs z (208 + i) = .inl (cs 0, 5, .inl (fun _ => 0)) := by
  rcases (show i = 0 ∨ i = 1 ∨ i = 2 ∨ i = 3 ∨ i = 4 ∨ i = 5 ∨ i = 6 ∨ i = 7 ∨ i = 8 ∨ i = 9 ∨ i = 10 ∨ i = 11 ∨ i = 12 ∨ i = 13 ∨ i = 14 ∨ i = 15 ∨ i = 16 ∨ i = 17 ∨ i = 18 ∨ i = 19 ∨ i = 20 ∨ i = 21 ∨ i = 22 ∨ i = 23 ∨ i = 24 ∨ i = 25 ∨ i = 26 ∨ i = 27 ∨ i = 28 ∨ i = 29 ∨ i = 30 ∨ i = 31 ∨ i = 32 ∨ i = 33 ∨ i = 34 ∨ i = 35 ∨ i = 36 ∨ i = 37 ∨ i = 38 ∨ i = 39 by omega) with rfl | rfl | rfl | rfl | rfl | rfl | rfl | rfl | rfl | rfl | rfl | rfl | rfl | rfl | rfl | rfl | rfl | rfl | rfl | rfl | rfl | rfl | rfl | rfl | rfl | rfl | rfl | rfl | rfl | rfl | rfl | rfl | rfl | rfl | rfl | rfl | rfl | rfl | rfl | rfl <;> rfl
theorem in_loc {cs : Nat → ClassId} {z : Nat} : ∀ k i j, pr_lv pr_cnt0 k i j → ∃ n, n < 257 ∧ pr_ad0 z k i j = z + n ∧ pr_ct cs (pr_ad0 z) pr_cnt0 pr_s0 k i j = pr_GG cs z n ∧ pr_inv n = (k, i, j) := by
  intro k i j h
  have hk := h.1
  unfold pr_ok at hk
  by_cases h2 : k = 2
  · subst h2
    have := pr_live2.mp h
    simp [pr_cnt0] at this
  by_cases h3 : k = 3
  · subst h3
    have := pr_live3.mp h
    simp [pr_cnt0] at this
  by_cases h83 : k = 83
  · subst h83
    have := pr_live83.mp h
    simp [pr_cnt0] at this
  by_cases h6 : k = 6
  · subst h6
    have := pr_live6.mp h
    simp [pr_cnt0] at this
  by_cases h0 : k = 0
  · subst h0
    obtain ⟨h1, h2⟩ := pr_live0.mp h
    have h1 : i < 1 := h1
    obtain rfl : i = 0 := by omega
    subst h2
    exact ⟨25, by omega, rfl, in_k0, rfl⟩
  by_cases hr : 64 ≤ k ∧ k < 69
  · have h7 := h.2
    rw [if_neg h0, if_neg h6, if_neg (by omega), if_neg h2, if_pos hr] at h7
    obtain ⟨hi, rfl⟩ := h7
    rcases (show k = 64 ∨ k = 65 ∨ k = 66 ∨ k = 67 ∨ k = 68 by omega) with rfl | rfl | rfl | rfl | rfl
    · exact ⟨44 + i, by omega, rfl, (pr_ctI (by omega) (by omega)).trans (in_r64 hi).symm, by
        unfold pr_inv
        rw [if_pos (by omega), if_neg (by omega), show (44 + i - 43) / 41 = 0 by omega, show (44 + i - 43) % 41 - 1 = i by omega]⟩
    · exact ⟨85 + i, by omega, rfl, (pr_ctI (by omega) (by omega)).trans (in_r65 hi).symm, by
        unfold pr_inv
        rw [if_pos (by omega), if_neg (by omega), show (85 + i - 43) / 41 = 1 by omega, show (85 + i - 43) % 41 - 1 = i by omega]⟩
    · exact ⟨126 + i, by omega, rfl, (pr_ctI (by omega) (by omega)).trans (in_r66 hi).symm, by
        unfold pr_inv
        rw [if_pos (by omega), if_neg (by omega), show (126 + i - 43) / 41 = 2 by omega, show (126 + i - 43) % 41 - 1 = i by omega]⟩
    · exact ⟨167 + i, by omega, rfl, (pr_ctI (by omega) (by omega)).trans (in_r67 hi).symm, by
        unfold pr_inv
        rw [if_pos (by omega), if_neg (by omega), show (167 + i - 43) / 41 = 3 by omega, show (167 + i - 43) % 41 - 1 = i by omega]⟩
    · exact ⟨208 + i, by omega, rfl, (pr_ctI (by omega) (by omega)).trans (in_r68 hi).symm, by
        unfold pr_inv
        rw [if_pos (by omega), if_neg (by omega), show (208 + i - 43) / 41 = 4 by omega, show (208 + i - 43) % 41 - 1 = i by omega]⟩
  have h7 := h.2
  rw [if_neg h0, if_neg h6, if_neg (by omega), if_neg h2, if_neg hr] at h7
  obtain ⟨rfl, rfl⟩ := h7
  rcases (show k = 1 ∨ k = 4 ∨ k = 5 ∨ k = 7 ∨ k = 8 ∨ k = 9 ∨ k = 20 ∨ k = 21 ∨ k = 22 ∨ k = 23 ∨ k = 24 ∨ k = 25 ∨ k = 26 ∨ k = 27 ∨ k = 28 ∨ k = 29 ∨ k = 30 ∨ k = 31 ∨ k = 32 ∨ k = 33 ∨ k = 34 ∨ k = 35 ∨ k = 40 ∨ k = 41 ∨ k = 42 ∨ k = 43 ∨ k = 44 ∨ k = 45 ∨ k = 46 ∨ k = 47 ∨ k = 48 ∨ k = 49 ∨ k = 50 ∨ k = 51 ∨ k = 52 ∨ k = 53 ∨ k = 54 ∨ k = 55 ∨ k = 56 ∨ k = 57 ∨ k = 58 ∨ k = 59 ∨ k = 60 ∨ k = 61 ∨ k = 62 ∨ k = 63 ∨ k = 70 ∨ k = 71 ∨ k = 80 ∨ k = 81 ∨ k = 82 ∨ k = 84 ∨ k = 85 ∨ k = 86 ∨ k = 87 ∨ k = 88 by omega) with rfl | rfl | rfl | rfl | rfl | rfl | rfl | rfl | rfl | rfl | rfl | rfl | rfl | rfl | rfl | rfl | rfl | rfl | rfl | rfl | rfl | rfl | rfl | rfl | rfl | rfl | rfl | rfl | rfl | rfl | rfl | rfl | rfl | rfl | rfl | rfl | rfl | rfl | rfl | rfl | rfl | rfl | rfl | rfl | rfl | rfl | rfl | rfl | rfl | rfl | rfl | rfl | rfl | rfl | rfl | rfl
  · exact ⟨1, by omega, rfl, in_k1, rfl⟩
  · exact ⟨18, by omega, rfl, in_k4, rfl⟩
  · exact ⟨15, by omega, rfl, in_k5, rfl⟩
  · exact ⟨9, by omega, rfl, in_k7, rfl⟩
  · exact ⟨0, by omega, rfl, in_k8, rfl⟩
  · exact ⟨26, by omega, rfl, in_k9, rfl⟩
  · exact ⟨2, by omega, rfl, in_k20, rfl⟩
  · exact ⟨3, by omega, rfl, in_k21, rfl⟩
  · exact ⟨4, by omega, rfl, in_k22, rfl⟩
  · exact ⟨5, by omega, rfl, in_k23, rfl⟩
  · exact ⟨10, by omega, rfl, in_k24, rfl⟩
  · exact ⟨11, by omega, rfl, in_k25, rfl⟩
  · exact ⟨12, by omega, rfl, in_k26, rfl⟩
  · exact ⟨13, by omega, rfl, in_k27, rfl⟩
  · exact ⟨16, by omega, rfl, in_k28, rfl⟩
  · exact ⟨17, by omega, rfl, in_k29, rfl⟩
  · exact ⟨19, by omega, rfl, in_k30, rfl⟩
  · exact ⟨20, by omega, rfl, in_k31, rfl⟩
  · exact ⟨21, by omega, rfl, in_k32, rfl⟩
  · exact ⟨22, by omega, rfl, in_k33, rfl⟩
  · exact ⟨23, by omega, rfl, in_k34, rfl⟩
  · exact ⟨24, by omega, rfl, in_k35, rfl⟩
  · exact ⟨27, by omega, rfl, in_k40, rfl⟩
  · exact ⟨28, by omega, rfl, in_k41, rfl⟩
  · exact ⟨29, by omega, rfl, in_k42, rfl⟩
  · exact ⟨30, by omega, rfl, in_k43, rfl⟩
  · exact ⟨31, by omega, rfl, in_k44, rfl⟩
  · exact ⟨32, by omega, rfl, in_k45, rfl⟩
  · exact ⟨33, by omega, rfl, in_k46, rfl⟩
  · exact ⟨34, by omega, rfl, in_k47, rfl⟩
  · exact ⟨35, by omega, rfl, in_k48, rfl⟩
  · exact ⟨36, by omega, rfl, in_k49, rfl⟩
  · exact ⟨37, by omega, rfl, in_k50, rfl⟩
  · exact ⟨38, by omega, rfl, in_k51, rfl⟩
  · exact ⟨39, by omega, rfl, in_k52, rfl⟩
  · exact ⟨40, by omega, rfl, in_k53, rfl⟩
  · exact ⟨41, by omega, rfl, in_k54, rfl⟩
  · exact ⟨42, by omega, rfl, in_k55, rfl⟩
  · exact ⟨248, by omega, rfl, in_k56, rfl⟩
  · exact ⟨249, by omega, rfl, in_k57, rfl⟩
  · exact ⟨250, by omega, rfl, in_k58, rfl⟩
  · exact ⟨251, by omega, rfl, in_k59, rfl⟩
  · exact ⟨252, by omega, rfl, in_k60, rfl⟩
  · exact ⟨254, by omega, rfl, in_k61, rfl⟩
  · exact ⟨255, by omega, rfl, in_k62, rfl⟩
  · exact ⟨256, by omega, rfl, in_k63, rfl⟩
  · exact ⟨14, by omega, rfl, in_k70, rfl⟩
  · exact ⟨253, by omega, rfl, in_k71, rfl⟩
  · exact ⟨6, by omega, rfl, in_k80, rfl⟩
  · exact ⟨7, by omega, rfl, in_k81, rfl⟩
  · exact ⟨8, by omega, rfl, in_k82, rfl⟩
  · exact ⟨43, by omega, rfl, in_k84, rfl⟩
  · exact ⟨84, by omega, rfl, in_k85, rfl⟩
  · exact ⟨125, by omega, rfl, in_k86, rfl⟩
  · exact ⟨166, by omega, rfl, in_k87, rfl⟩
  · exact ⟨207, by omega, rfl, in_k88, rfl⟩
theorem in_R {D : va_G} {cs : Nat → ClassId} {z : Nat} {H : Heap} (hG : pr_G D (z + 1) z 8 256 (pr_FF cs z) [.ref (z + 1 + 0), .ref (z + 1 + 4), .ref (z + 1 + 5), .ref (z + 1 + 6), .ref (z + 1 + 7), .ref (z + 1 + 8), .ref (z + 1 + 14), .ref (z + 1 + 17), .int 0, .int (1 : Int32), .int 0, .int 0, .int 0, .int 0, .int 0, .int 0, .int (5 : Int32)] H) : pr_R D cs (fun q : Nat => z ≤ q) (pr_ad0 z) pr_cnt0 pr_s0 H := by
  refine ⟨fun k i j h => ?_, fun k i j k' i' j' h h' he => ?_⟩
  · obtain ⟨n, hn, e1, e2, -⟩ := in_loc (cs := cs) (z := z) k i j h
    rw [e1, e2]
    refine ⟨?_, Nat.le_add_right z n⟩
    unfold pr_GG
    by_cases h0 : n = 0
    · rw [if_pos h0, h0]
      exact hG.2.2.2
    · rw [if_neg h0]
      have := hG.2.2.1 (n - 1) (by omega)
      rwa [show z + 1 + (n - 1) = z + n by omega] at this
  · obtain ⟨n, hn, e1, -, e3⟩ := in_loc (cs := cs) (z := z) k i j h
    obtain ⟨n', hn', e1', -, e3'⟩ := in_loc (cs := cs) (z := z) k' i' j' h'
    rw [e1, e1'] at he
    obtain rfl : n = n' := by omega
    have := e3.symm.trans e3'
    simpa using this
