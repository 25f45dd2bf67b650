section
-- ===== PART A: goes FIRST, ahead of the names: the tables' words, and 'selects' of the private methods out of them =====
/-- a private method of a class that the tables say can be made, by its rows of tables_1 -/
def lw_okq (q : MethodName × Nat) : Prop := (q.1.cls ≠ "java/lang/invoke/MethodHandle" ∧ q.1.cls ≠ "java/lang/invoke/VarHandle") ∧ Cond.instantiable q.1.cls q.2 ∈ tables_1 ∧ Cond.privateMethod q.1 ∈ tables_1 ∧ Cond.instanceMethod q.1 ∈ tables_1
theorem lw_p0 : lw_okq (⟨"PortraitRooms", "sitterAt", "(I)LPortraitRooms$Sitter;"⟩, 17) := ⟨⟨by decide +kernel, by decide +kernel⟩, List.mem_of_getElem? (i := 14) (by decide +kernel), List.mem_of_getElem? (i := 238) (by decide +kernel), List.mem_of_getElem? (i := 239) (by decide +kernel)⟩
theorem lw_p1 : lw_okq (⟨"PortraitRooms", "pictureAt", "(I)LPortraitRooms$Picture;"⟩, 17) := ⟨⟨by decide +kernel, by decide +kernel⟩, List.mem_of_getElem? (i := 14) (by decide +kernel), List.mem_of_getElem? (i := 342) (by decide +kernel), List.mem_of_getElem? (i := 343) (by decide +kernel)⟩
theorem lw_p2 : lw_okq (⟨"PortraitRooms", "isNowOrLater", "(I)Z"⟩, 17) := ⟨⟨by decide +kernel, by decide +kernel⟩, List.mem_of_getElem? (i := 14) (by decide +kernel), List.mem_of_getElem? (i := 350) (by decide +kernel), List.mem_of_getElem? (i := 351) (by decide +kernel)⟩
theorem lw_p3 : lw_okq (⟨"PortraitRooms", "standsAgainst", "(III)I"⟩, 17) := ⟨⟨by decide +kernel, by decide +kernel⟩, List.mem_of_getElem? (i := 14) (by decide +kernel), List.mem_of_getElem? (i := 386) (by decide +kernel), List.mem_of_getElem? (i := 387) (by decide +kernel)⟩
theorem lw_p4 : lw_okq (⟨"PortraitRooms", "partAt", "(II)LPortraitRooms$Part;"⟩, 17) := ⟨⟨by decide +kernel, by decide +kernel⟩, List.mem_of_getElem? (i := 14) (by decide +kernel), List.mem_of_getElem? (i := 390) (by decide +kernel), List.mem_of_getElem? (i := 391) (by decide +kernel)⟩
theorem lw_p5 : lw_okq (⟨"PortraitRooms", "handAt", "(I)LPortraitRooms$Hand;"⟩, 17) := ⟨⟨by decide +kernel, by decide +kernel⟩, List.mem_of_getElem? (i := 14) (by decide +kernel), List.mem_of_getElem? (i := 394) (by decide +kernel), List.mem_of_getElem? (i := 395) (by decide +kernel)⟩
theorem lw_p6 : lw_okq (⟨"PortraitRooms", "addLayer", "(III)V"⟩, 17) := ⟨⟨by decide +kernel, by decide +kernel⟩, List.mem_of_getElem? (i := 14) (by decide +kernel), List.mem_of_getElem? (i := 415) (by decide +kernel), List.mem_of_getElem? (i := 416) (by decide +kernel)⟩
theorem lw_p7 : lw_okq (⟨"PortraitRooms", "finish", "(LPortraitRooms$Picture;)V"⟩, 17) := ⟨⟨by decide +kernel, by decide +kernel⟩, List.mem_of_getElem? (i := 14) (by decide +kernel), List.mem_of_getElem? (i := 432) (by decide +kernel), List.mem_of_getElem? (i := 433) (by decide +kernel)⟩
theorem lw_p8 : lw_okq (⟨"PortraitRooms", "makePlan", "(I)Z"⟩, 17) := ⟨⟨by decide +kernel, by decide +kernel⟩, List.mem_of_getElem? (i := 14) (by decide +kernel), List.mem_of_getElem? (i := 444) (by decide +kernel), List.mem_of_getElem? (i := 445) (by decide +kernel)⟩
theorem lw_p9 : lw_okq (⟨"PortraitRooms", "hoursFor", "(II)I"⟩, 17) := ⟨⟨by decide +kernel, by decide +kernel⟩, List.mem_of_getElem? (i := 14) (by decide +kernel), List.mem_of_getElem? (i := 457) (by decide +kernel), List.mem_of_getElem? (i := 458) (by decide +kernel)⟩
theorem lw_p10 : lw_okq (⟨"PortraitRooms", "nearestTraced", "(II)I"⟩, 17) := ⟨⟨by decide +kernel, by decide +kernel⟩, List.mem_of_getElem? (i := 14) (by decide +kernel), List.mem_of_getElem? (i := 493) (by decide +kernel), List.mem_of_getElem? (i := 494) (by decide +kernel)⟩
theorem lw_p11 : lw_okq (⟨"PortraitRooms", "traceDistance", "(II)I"⟩, 17) := ⟨⟨by decide +kernel, by decide +kernel⟩, List.mem_of_getElem? (i := 14) (by decide +kernel), List.mem_of_getElem? (i := 497) (by decide +kernel), List.mem_of_getElem? (i := 498) (by decide +kernel)⟩
theorem lw_p12 : lw_okq (⟨"PortraitRooms", "nearestHand", "(II)I"⟩, 17) := ⟨⟨by decide +kernel, by decide +kernel⟩, List.mem_of_getElem? (i := 14) (by decide +kernel), List.mem_of_getElem? (i := 527) (by decide +kernel), List.mem_of_getElem? (i := 528) (by decide +kernel)⟩
theorem lw_p13 : lw_okq (⟨"PortraitRooms", "habitDistance", "(II)I"⟩, 17) := ⟨⟨by decide +kernel, by decide +kernel⟩, List.mem_of_getElem? (i := 14) (by decide +kernel), List.mem_of_getElem? (i := 531) (by decide +kernel), List.mem_of_getElem? (i := 532) (by decide +kernel)⟩
theorem lw_p14 : lw_okq (⟨"PortraitRoomsModel", "isSitter", "(I)Z"⟩, 42) := ⟨⟨by decide +kernel, by decide +kernel⟩, List.mem_of_getElem? (i := 551) (by decide +kernel), List.mem_of_getElem? (i := 709) (by decide +kernel), List.mem_of_getElem? (i := 710) (by decide +kernel)⟩
theorem lw_p15 : lw_okq (⟨"PortraitRoomsModel", "listed", "(II)I"⟩, 42) := ⟨⟨by decide +kernel, by decide +kernel⟩, List.mem_of_getElem? (i := 551) (by decide +kernel), List.mem_of_getElem? (i := 714) (by decide +kernel), List.mem_of_getElem? (i := 715) (by decide +kernel)⟩
def lw_privs_1 : List (MethodName × Nat) := [(⟨"PortraitRooms", "sitterAt", "(I)LPortraitRooms$Sitter;"⟩, 17), (⟨"PortraitRooms", "pictureAt", "(I)LPortraitRooms$Picture;"⟩, 17), (⟨"PortraitRooms", "isNowOrLater", "(I)Z"⟩, 17), (⟨"PortraitRooms", "standsAgainst", "(III)I"⟩, 17), (⟨"PortraitRooms", "partAt", "(II)LPortraitRooms$Part;"⟩, 17), (⟨"PortraitRooms", "handAt", "(I)LPortraitRooms$Hand;"⟩, 17), (⟨"PortraitRooms", "addLayer", "(III)V"⟩, 17), (⟨"PortraitRooms", "finish", "(LPortraitRooms$Picture;)V"⟩, 17), (⟨"PortraitRooms", "makePlan", "(I)Z"⟩, 17), (⟨"PortraitRooms", "hoursFor", "(II)I"⟩, 17), (⟨"PortraitRooms", "nearestTraced", "(II)I"⟩, 17), (⟨"PortraitRooms", "traceDistance", "(II)I"⟩, 17), (⟨"PortraitRooms", "nearestHand", "(II)I"⟩, 17), (⟨"PortraitRooms", "habitDistance", "(II)I"⟩, 17), (⟨"PortraitRoomsModel", "isSitter", "(I)Z"⟩, 42), (⟨"PortraitRoomsModel", "listed", "(II)I"⟩, 42)]
theorem lw_r1 : ∀ q ∈ lw_privs_1, lw_okq q := List.forall_mem_cons.mpr ⟨lw_p0, List.forall_mem_cons.mpr ⟨lw_p1, List.forall_mem_cons.mpr ⟨lw_p2, List.forall_mem_cons.mpr ⟨lw_p3, List.forall_mem_cons.mpr ⟨lw_p4, List.forall_mem_cons.mpr ⟨lw_p5, List.forall_mem_cons.mpr ⟨lw_p6, List.forall_mem_cons.mpr ⟨lw_p7, List.forall_mem_cons.mpr ⟨lw_p8, List.forall_mem_cons.mpr ⟨lw_p9, List.forall_mem_cons.mpr ⟨lw_p10, List.forall_mem_cons.mpr ⟨lw_p11, List.forall_mem_cons.mpr ⟨lw_p12, List.forall_mem_cons.mpr ⟨lw_p13, List.forall_mem_cons.mpr ⟨lw_p14, List.forall_mem_cons.mpr ⟨lw_p15, fun _ h => absurd h List.not_mem_nil⟩⟩⟩⟩⟩⟩⟩⟩⟩⟩⟩⟩⟩⟩⟩⟩
theorem lw_p16 : lw_okq (⟨"PortraitRoomsModel", "isPicture", "(I)Z"⟩, 42) := ⟨⟨by decide +kernel, by decide +kernel⟩, List.mem_of_getElem? (i := 551) (by decide +kernel), List.mem_of_getElem? (i := 735) (by decide +kernel), List.mem_of_getElem? (i := 736) (by decide +kernel)⟩
theorem lw_p17 : lw_okq (⟨"PortraitRoomsModel", "couldBe", "(III)Z"⟩, 42) := ⟨⟨by decide +kernel, by decide +kernel⟩, List.mem_of_getElem? (i := 551) (by decide +kernel), List.mem_of_getElem? (i := 739) (by decide +kernel), List.mem_of_getElem? (i := 740) (by decide +kernel)⟩
theorem lw_p18 : lw_okq (⟨"PortraitRoomsModel", "isFree", "(II)Z"⟩, 42) := ⟨⟨by decide +kernel, by decide +kernel⟩, List.mem_of_getElem? (i := 551) (by decide +kernel), List.mem_of_getElem? (i := 743) (by decide +kernel), List.mem_of_getElem? (i := 744) (by decide +kernel)⟩
theorem lw_p19 : lw_okq (⟨"PortraitRoomsModel", "sits", "(II)Z"⟩, 42) := ⟨⟨by decide +kernel, by decide +kernel⟩, List.mem_of_getElem? (i := 551) (by decide +kernel), List.mem_of_getElem? (i := 747) (by decide +kernel), List.mem_of_getElem? (i := 748) (by decide +kernel)⟩
theorem lw_p20 : lw_okq (⟨"PortraitRoomsModel", "unused", "(II)I"⟩, 42) := ⟨⟨by decide +kernel, by decide +kernel⟩, List.mem_of_getElem? (i := 551) (by decide +kernel), List.mem_of_getElem? (i := 755) (by decide +kernel), List.mem_of_getElem? (i := 756) (by decide +kernel)⟩
theorem lw_p21 : lw_okq (⟨"PortraitRoomsModel", "isHand", "(I)Z"⟩, 42) := ⟨⟨by decide +kernel, by decide +kernel⟩, List.mem_of_getElem? (i := 551) (by decide +kernel), List.mem_of_getElem? (i := 763) (by decide +kernel), List.mem_of_getElem? (i := 764) (by decide +kernel)⟩
theorem lw_p22 : lw_okq (⟨"PortraitRoomsModel", "against", "(III)I"⟩, 42) := ⟨⟨by decide +kernel, by decide +kernel⟩, List.mem_of_getElem? (i := 551) (by decide +kernel), List.mem_of_getElem? (i := 767) (by decide +kernel), List.mem_of_getElem? (i := 768) (by decide +kernel)⟩
theorem lw_p23 : lw_okq (⟨"PortraitRoomsModel", "isWet", "(II)Z"⟩, 42) := ⟨⟨by decide +kernel, by decide +kernel⟩, List.mem_of_getElem? (i := 551) (by decide +kernel), List.mem_of_getElem? (i := 771) (by decide +kernel), List.mem_of_getElem? (i := 772) (by decide +kernel)⟩
theorem lw_p24 : lw_okq (⟨"PortraitRoomsModel", "isDone", "(I)Z"⟩, 42) := ⟨⟨by decide +kernel, by decide +kernel⟩, List.mem_of_getElem? (i := 551) (by decide +kernel), List.mem_of_getElem? (i := 775) (by decide +kernel), List.mem_of_getElem? (i := 776) (by decide +kernel)⟩
theorem lw_p25 : lw_okq (⟨"PortraitRoomsModel", "plans", "(I)Z"⟩, 42) := ⟨⟨by decide +kernel, by decide +kernel⟩, List.mem_of_getElem? (i := 551) (by decide +kernel), List.mem_of_getElem? (i := 787) (by decide +kernel), List.mem_of_getElem? (i := 788) (by decide +kernel)⟩
theorem lw_p26 : lw_okq (⟨"PortraitRoomsModel", "tries", "(IIII)V"⟩, 42) := ⟨⟨by decide +kernel, by decide +kernel⟩, List.mem_of_getElem? (i := 551) (by decide +kernel), List.mem_of_getElem? (i := 791) (by decide +kernel), List.mem_of_getElem? (i := 792) (by decide +kernel)⟩
theorem lw_p27 : lw_okq (⟨"PortraitRoomsModel", "differ", "(II)I"⟩, 42) := ⟨⟨by decide +kernel, by decide +kernel⟩, List.mem_of_getElem? (i := 551) (by decide +kernel), List.mem_of_getElem? (i := 808) (by decide +kernel), List.mem_of_getElem? (i := 809) (by decide +kernel)⟩
def lw_privs_2 : List (MethodName × Nat) := [(⟨"PortraitRoomsModel", "isPicture", "(I)Z"⟩, 42), (⟨"PortraitRoomsModel", "couldBe", "(III)Z"⟩, 42), (⟨"PortraitRoomsModel", "isFree", "(II)Z"⟩, 42), (⟨"PortraitRoomsModel", "sits", "(II)Z"⟩, 42), (⟨"PortraitRoomsModel", "unused", "(II)I"⟩, 42), (⟨"PortraitRoomsModel", "isHand", "(I)Z"⟩, 42), (⟨"PortraitRoomsModel", "against", "(III)I"⟩, 42), (⟨"PortraitRoomsModel", "isWet", "(II)Z"⟩, 42), (⟨"PortraitRoomsModel", "isDone", "(I)Z"⟩, 42), (⟨"PortraitRoomsModel", "plans", "(I)Z"⟩, 42), (⟨"PortraitRoomsModel", "tries", "(IIII)V"⟩, 42), (⟨"PortraitRoomsModel", "differ", "(II)I"⟩, 42)]
theorem lw_r2 : ∀ q ∈ lw_privs_2, lw_okq q := List.forall_mem_cons.mpr ⟨lw_p16, List.forall_mem_cons.mpr ⟨lw_p17, List.forall_mem_cons.mpr ⟨lw_p18, List.forall_mem_cons.mpr ⟨lw_p19, List.forall_mem_cons.mpr ⟨lw_p20, List.forall_mem_cons.mpr ⟨lw_p21, List.forall_mem_cons.mpr ⟨lw_p22, List.forall_mem_cons.mpr ⟨lw_p23, List.forall_mem_cons.mpr ⟨lw_p24, List.forall_mem_cons.mpr ⟨lw_p25, List.forall_mem_cons.mpr ⟨lw_p26, List.forall_mem_cons.mpr ⟨lw_p27, fun _ h => absurd h List.not_mem_nil⟩⟩⟩⟩⟩⟩⟩⟩⟩⟩⟩⟩
def lw_privs : List (MethodName × Nat) := lw_privs_1 ++ (lw_privs_2)
def lw_tbl : List Cond := k2_sels lw_privs ++ tables_1
theorem lw_privs_ok : ∀ q ∈ lw_privs, lw_okq q := by
  show ∀ q ∈ lw_privs_1 ++ (lw_privs_2), lw_okq q
  exact List.forall_mem_append.mpr ⟨lw_r1, lw_r2⟩
/-! THE CLAIM OUT OF ONE WALK OF THE LAW'S BODY. Your part is whole_start (and what it stands on); all else here is the same for every law, but numbers. -/
def R_law : String := "PortraitRoomsLaw"
def lw_P (b : Addr) (xs : List Int32) (args : Array Value) (s : State) : Prop := args = #[.ref b] ∧ s.IntsAt b xs ∧ xs.length ≤ 2560 ∧ (Jvm.Cond.and given_1 narrow_1).before args s = true
def lw_Q (_ : Array Value) (s : State) (o : Outcome) (t : State) : Prop := o = .returned (some (.int 1)) ∧ Framed s o t [] 600000 7302250
def lw_Z (below : List Frame) (a : Array Value) (s : State) : State → Prop := fun t => ∃ o, t.status = .running ∧ Ended t below o ∧ lw_Q a s o t
/-- the law's own end, with 1 on the stack, nothing written that was there before, its room as the claim has it -/
theorem lw_ret {p : Program} {l : Launch} {e : Env} {s : State} {m : MethodId} {below : List Frame} {meth : Method} {c : Code} {b : Nat} (hx : p.tables.exec = Jvm.exec) (hb : c.code = code) (hr : meth.sig.returnType = ret) (hlocks : meth.locks = false) {pc : Nat} {H : Heap} {ls : Array Slot} (hdg : decode code pc = .ok (.ireturn, 1)) : W p l e room_1 s m #[Value.ref b] below meth c H [] 600000 7302250 (lw_Z below #[Value.ref b] s) (F0 m pc ls [.int 1]) := by
  intro T hT X
  obtain ⟨fs, hret, hrun, hended, hW, hframe⟩ := X.leave (v := some (.int 1)) (hlocks := hlocks) (fun h => by rw [hr] at h; cases h)
  have hmeth' : T.vm.method? m = some meth := X.method'
  refine ⟨T.setFrames fs, ?_, .returned (some (.int 1)), hrun, hended, rfl, ⟨_, rfl⟩, hW, hframe⟩
  jvm_step X.here [X.here.top, hx, hb, hdg, hmeth', hr, ret, narrow_b1]
  (try refine ⟨rfl, ?_⟩); (try refine ⟨rfl, ?_⟩)
  first | (intro acts; rw [hret _ acts rfl rfl rfl]) | rw [hret _ _ rfl rfl rfl]
  exact Steps.refl _
/-- what holds at the law's entry: the machine, the code, the tables' words (any of lw_tbl by 'hts w (by decide +kernel)'), the script of L ints xs at the cell b, what the Statement gives of the start (any of its parts by flat_of_before) -/
def lw_At (p : Program) (s : State) (m : MethodId) (meth : Method) (c : Code) (b L : Nat) (xs : Nat → Int32) : Prop :=
  p.tables.exec = Jvm.exec ∧ c.code = code ∧ meth.sig.returnType = ret ∧ c.maxLocals = 4 ∧ s.vm.findClass R_law = some m.cls ∧ (∀ w ∈ lw_tbl, w.before #[Value.ref b] s = true) ∧ va_X b L xs s s.heap ∧ b < s.heap.size ∧ meth.locks = false ∧ (Jvm.Cond.and given_1 narrow_1).before #[Value.ref b] s = true
end
section
/-- the class of arrays of arrays, in the tables (the printed names speak of it, the kit has no such row) -/
def va_AOA (ty : FieldType) (s : State) : Prop := ∀ B : Array Value, (Cond.arrayOver (.array ty)).before B s = true
theorem va_AOA.use {ty : FieldType} {s : State} {B : Array Value} (h : va_AOA ty s) : (Cond.arrayOver (.array ty)).before B s = true := h B
/-! ===== BEGIN words of one list among another's, by their places ===== -/
theorem goodIn_r {big : List Cond} (ws : List Cond) (ps : List Nat) (hp : ws = ps.filterMap (fun i => big[i]?)) (h : ws.all goodWord = true) : GoodIn big ws := by
  intro w hw
  have h1 := List.all_eq_true.mp h w hw
  rw [hp] at hw
  obtain ⟨i, -, hi⟩ := List.mem_filterMap.mp hw
  have hm : w ∈ big := by first | exact List.mem_of_getElem? hi | exact List.getElem?_mem hi
  exact ⟨hm, good_of_word h1⟩
theorem goodIn_app {big a b : List Cond} (ha : GoodIn big a) (hb : GoodIn big b) : GoodIn big (a ++ b) := fun w h => (List.mem_append.mp h).elim (ha w) (hb w)
theorem goodIn_ca {big a b : List Cond} {c : Cond} (ha : GoodIn big (c :: a)) (hb : GoodIn big b) : GoodIn big (c :: (a ++ b)) := fun w h => (List.mem_cons.mp h).elim (fun e => ha w (List.mem_cons.mpr (Or.inl e))) (fun h => (List.mem_append.mp h).elim (fun h => ha w (List.mem_cons.mpr (Or.inr h))) (hb w))
theorem goodIn_sub {big ws : List Cond} (hm : ∀ w ∈ ws, w ∈ big) (h : ws.all goodWord = true) : GoodIn big ws := fun w hw => ⟨hm w hw, good_of_word (List.all_eq_true.mp h w hw)⟩
/-! ===== END ===== -/

/-! ===== BEGIN new T[n][m]: the outer array a place, the inner ones among the pooled ===== -/
/-- f, but v at every address of l -/
def vr_up {α : Type} (f : Nat → α) (l : List Nat) (v : α) : Nat → α := fun a => if a ∈ l then v else f a
theorem vr_up_in {α : Type} {f : Nat → α} {l : List Nat} {v : α} {a : Nat} (h : a ∈ l) : vr_up f l v a = v := if_pos h
theorem vr_up_ne {α : Type} {f : Nat → α} {l : List Nat} {v : α} {a : Nat} (h : a ∉ l) : vr_up f l v a = f a := if_neg h
theorem vr_rows {L l : List Nat} {f : Nat → va_E} {e : va_E} (h : ∀ a, a ∈ l → a ∉ L) : va_pl L f ++ l.map (fun a => (a, e)) = va_pl (L ++ l) (vr_up f l e) := by
  unfold va_pl
  rw [List.map_append]
  congr 1
  · apply List.map_congr_left
    intro a ha
    rw [vr_up_ne (fun q => h a q ha)]
  · apply List.map_congr_left
    intro a ha
    rw [vr_up_in ha]
theorem vr_lay {X rows : va_W} {x : Nat × va_E} {pl : va_W} {D : va_G} {cl : List vw_C} {H : Heap} (hP : va_P D cl (((X ++ pl) ++ [x]) ++ rows) H) : va_P D cl ((X ++ [x]) ++ (pl ++ rows)) H := by
  rw [List.append_assoc (X ++ pl)] at hP
  have h := va_P.swap hP
  rw [← List.append_assoc X] at h
  have h2 := va_P.swap h
  rw [List.append_assoc (X ++ [x])] at h2
  exact h2
theorem vr_layD {X rows : va_W} {x : Nat × va_E} {pl : va_W} {A : Nat → Prop} (hD : va_D A (((X ++ pl) ++ [x]) ++ rows)) : va_D A ((X ++ [x]) ++ (pl ++ rows)) := by
  rw [List.append_assoc (X ++ pl)] at hD
  have h := va_D.swap hD
  rw [← List.append_assoc X] at h
  have h2 := va_D.swap h
  rw [List.append_assoc (X ++ [x])] at h2
  exact h2
theorem vr_outer (c : ClassId) (N h0 : Nat) : ∀ i : Nat, Jvm.Free.Multi.outerC c N h0 i = arrV c N (fun j => va_rf (if j < i then some (h0 + 1 + j) else none))
  | 0 => by
    show ({ cls := c, slots := Array.replicate N .null, vm := .none } : Cell) = _
    rw [arrV_new]
    refine congrArg (arrV c N) (funext fun j => ?_)
    simp [va_rf]
  | i + 1 => by
    show (Jvm.Free.Multi.outerC c N h0 i).setSlot i (.ref (h0 + 1 + i)) = _
    rw [vr_outer c N h0 i, arrV_store]
    refine congrArg (arrV c N) (funext fun j => ?_)
    by_cases e : j = i
    · subst e
      simp [updV, va_rf]
    · by_cases h : j < i
      · simp [updV, e, h, Nat.lt_succ_of_lt h]
      · simp [updV, e, h, show ¬ j < i + 1 by omega]
section VGM
variable {p : Program} {l : Launch} {e : Env} {R : Room} {s : State} {m : MethodId} {args : Array Value} {below : List Frame} {meth : Method} {c : Code} {H : Heap} {locs : List Loc} {cells slots : Nat} {Q : State → Prop}
variable {cc : ByteArray} {pc : Nat} {ls : Array Slot} {rest : List Value} {D : va_G} {cl : List vw_C} {A : Nat → Prop} {a : Nat} {tys : List (ClassId × FieldType)} {ws : va_W} {H0 : Heap}
theorem va_mna {X : va_W} {L : List Nat} {f : Nat → va_E} {cc : ByteArray} (hexec : p.tables.exec = Jvm.exec) (hb : c.code = cc) {own : String} {index : Nat} {ty : FieldType} {cy : ClassId} (hown : s.vm.findClass own = some m.cls) (hclink : (Cond.classLink own index ("[" ++ (FieldType.array ty).toString)).before args s = true) (hover : va_AOA ty s) (harr : (Cond.arrayClass ty).before args s = true) (hcy : s.vm.findClass (FieldType.array ty).toString = some cy)
    (hK : va_K D cl tys s) (hP : va_P D cl (X ++ va_pl L f) H) (hD : va_D A (X ++ va_pl L f)) (hS : va_S A H0 H locs) (hA : ∀ q, H0.size ≤ q → A q) {n k : Int32} {N' K' : Nat} {z : vp_A} (hn : ¬ n < 0) (hk : ¬ k < 0) (hN : n.toNatClampNeg = N') (hM : k.toNatClampNeg = K')
    (hb1 : N' * 4 ≤ 536870912) (hb2 : K' * componentBytes ty ≤ 536870912) (hb3 : K' ≤ 536870912) (hdf : fits ty (defaultValue ty) = true) (hdd : (defaultValue ty).isDefault = true) (hcells : cells + (1 + N') ≤ R.cells) (hslots : slots + (N' + N' * K') ≤ R.slots) (hz : ∀ c : ClassId, Jvm.Free.Multi.innerC c K' (defaultValue ty) = vp_cell c z) (hdg : decode cc pc = .ok (.multianewarray index 2, 4))
    (kk : ∀ (q : Nat) (r : Nat → Nat) (cA : ClassId) (H1 : Heap), (∀ i j : Nat, i < N' → j < N' → r i = r j → i = j) → (∀ i : Nat, i < N' → r i ∉ L) → va_K D cl (tys ++ [(cA, .array ty)]) s →
      va_P D cl ((X ++ [(q, .inl (cA, N', .inr (.inr (.inr (.inr (fun i => if i < N' then some (r i) else none))))))]) ++ va_pl (L ++ (List.range N').map r) (vr_up f ((List.range N').map r) (.inl (cy, z)))) H1 → va_D A ((X ++ [(q, .inl (cA, N', .inr (.inr (.inr (.inr (fun i => if i < N' then some (r i) else none))))))]) ++ va_pl (L ++ (List.range N').map r) (vr_up f ((List.range N').map r) (.inl (cy, z)))) → va_S A H0 H1 locs →
      W p l e R s m args below meth c H1 locs (cells + 1 + N') (slots + N' + N' * K') Q (F0 m (pc + 4) ls (.ref q :: rest))) : W p l e R s m args below meth c H locs cells slots Q (F0 m pc ls (.int k :: .int n :: rest)) := by
  subst hN
  subst hM
  intro T hT Xs
  obtain ⟨vm₁, cA, comp, -, fA, fC, hO, -, X', step⟩ := Jvm.Stand.multianewarray2F Xs hexec hown hclink (va_AOA.use hover) harr (g := F0 m pc ls (.int k :: .int n :: rest)) rfl (by rw [hb]; exact hdg) rfl hn hk hb1 hb2 hb3 hdf hdd hcells hslots
  have ec : some cy = some comp := hcy.symm.trans fC
  cases ec
  generalize hF : Jvm.Free.Multi.fill (T.setVm vm₁) cA cy n.toNatClampNeg k.toNatClampNeg (defaultValue ty) n.toNatClampNeg = F at X' step
  have hTh : (T.setVm vm₁).heap = H := hT
  obtain ⟨f1, f2, -, -⟩ := Jvm.Free.Multi.fill_facts (T.setVm vm₁) cA cy n.toNatClampNeg k.toNatClampNeg (defaultValue ty) n.toNatClampNeg
  rw [hF, hTh] at f1 f2
  have hold : ∀ x : Nat, x < H.size → F.heap[x]? = H[x]? := fun x hx => by
    have := Jvm.Free.Multi.fill_old (T.setVm vm₁) cA cy n.toNatClampNeg k.toNatClampNeg (defaultValue ty) (a := x) (by rw [hTh]; exact hx) n.toNatClampNeg
    rw [hF, hTh] at this
    exact this
  have hrow : ∀ j : Nat, j < n.toNatClampNeg → F.heap[H.size + 1 + j]? = some (vp_cell cy z) := fun j hj => by
    have := Jvm.Free.Multi.fill_inner (T.setVm vm₁) cA cy n.toNatClampNeg k.toNatClampNeg (defaultValue ty) n.toNatClampNeg j hj
    rw [hF, hTh, hz] at this
    exact this
  have hout : Jvm.Free.Multi.outerC cA n.toNatClampNeg H.size n.toNatClampNeg = vp_cell cA (n.toNatClampNeg, .inr (.inr (.inr (.inr (fun i => if i < n.toNatClampNeg then some (H.size + 1 + i) else none))))) := by
    rw [vp_cell_q]
    exact vr_outer cA n.toNatClampNeg H.size n.toNatClampNeg
  rw [hout] at f2
  have hlt : ∀ a, a ∈ L → a < H.size := fun a ha => by
    obtain ⟨k9, hk9⟩ := va_pl_get (X := X) (f := f) ha
    exact (hP k9 _ hk9).lt
  have hnl : ∀ i : Nat, i < n.toNatClampNeg → H.size + 1 + i ∉ L := fun i _ h => by
    have := hlt _ h
    omega
  have hnm : ∀ a, a ∈ (List.range n.toNatClampNeg).map (fun i => H.size + 1 + i) → a ∉ L := fun a ha h => by
    obtain ⟨i, -, rfl⟩ := List.mem_map.mp ha
    have := hlt _ h
    omega
  have hP0 : va_P D cl (X ++ va_pl L f) F.heap := hP.kept (fun k9 x hx => hold x.1 ((hP k9 x hx).lt))
  have hP1 : va_P D cl ((X ++ va_pl L f) ++ [(H.size, .inl (cA, n.toNatClampNeg, .inr (.inr (.inr (.inr (fun i => if i < n.toNatClampNeg then some (H.size + 1 + i) else none))))))]) F.heap := hP0.app (fun k9 x hx => by
    have h0 : k9 < 1 := (List.getElem?_eq_some_iff.mp hx).1
    rw [show k9 = 0 by omega] at hx
    cases hx
    exact f2)
  have hP2 : va_P D cl (((X ++ va_pl L f) ++ [(H.size, .inl (cA, n.toNatClampNeg, .inr (.inr (.inr (.inr (fun i => if i < n.toNatClampNeg then some (H.size + 1 + i) else none))))))]) ++ ((List.range n.toNatClampNeg).map (fun i => H.size + 1 + i)).map (fun a => (a, .inl (cy, z)))) F.heap := hP1.app (fun k9 x hx => by
    obtain ⟨a, ha, rfl⟩ := List.mem_map.mp (List.mem_of_getElem? hx)
    obtain ⟨i, hi, rfl⟩ := List.mem_map.mp ha
    exact hrow i (List.mem_range.mp hi))
  have hD2 : va_D A (((X ++ va_pl L f) ++ [(H.size, .inl (cA, n.toNatClampNeg, .inr (.inr (.inr (.inr (fun i => if i < n.toNatClampNeg then some (H.size + 1 + i) else none))))))]) ++ ((List.range n.toNatClampNeg).map (fun i => H.size + 1 + i)).map (fun a => (a, .inl (cy, z)))) := by
    have hD1 := hD.push (e := .inl (cA, n.toNatClampNeg, .inr (.inr (.inr (.inr (fun i => if i < n.toNatClampNeg then some (H.size + 1 + i) else none)))))) hP rfl (hA _ hS.1)
    generalize hW1 : (X ++ va_pl L f) ++ [(H.size, .inl (cA, n.toNatClampNeg, .inr (.inr (.inr (.inr (fun i => if i < n.toNatClampNeg then some (H.size + 1 + i) else none))))))] = W1 at hD1 hP1 ⊢
    have hle : ∀ (k9 : Nat) (x : Nat × va_E), W1[k9]? = some x → x.1 ≤ H.size := fun k9 x hx => by
      rw [← hW1] at hx
      by_cases hl : k9 < (X ++ va_pl L f).length
      · rw [List.getElem?_append_left hl] at hx
        exact Nat.le_of_lt ((hP k9 x hx).lt)
      · rw [List.getElem?_append_right (by omega)] at hx
        have h0 : k9 - (X ++ va_pl L f).length < 1 := (List.getElem?_eq_some_iff.mp hx).1
        rw [show k9 - (X ++ va_pl L f).length = 0 by omega] at hx
        cases hx
        exact Nat.le_refl _
    have hr : ∀ (k9 : Nat) (x : Nat × va_E), (((List.range n.toNatClampNeg).map (fun i => H.size + 1 + i)).map (fun a => ((a, .inl (cy, z)) : Nat × va_E)))[k9]? = some x → x.1 = H.size + 1 + k9 := fun k9 x hx => by
      rw [List.getElem?_map, List.getElem?_map] at hx
      by_cases h9 : k9 < n.toNatClampNeg
      · rw [List.getElem?_range h9] at hx
        cases hx
        rfl
      · have hn0 : (List.range n.toNatClampNeg)[k9]? = none := List.getElem?_eq_none (by rw [List.length_range]; omega)
        rw [hn0] at hx
        cases hx
    refine ⟨fun i j x y hi hj hxy => ?_, fun k9 x hx => ?_⟩
    · by_cases h1 : i < W1.length <;> by_cases h2 : j < W1.length
      · rw [List.getElem?_append_left h1] at hi
        rw [List.getElem?_append_left h2] at hj
        exact hD1.1 i j x y hi hj hxy
      · rw [List.getElem?_append_left h1] at hi
        rw [List.getElem?_append_right (by omega)] at hj
        have := hle _ _ hi
        have := hr _ _ hj
        omega
      · rw [List.getElem?_append_right (by omega)] at hi
        rw [List.getElem?_append_left h2] at hj
        have := hle _ _ hj
        have := hr _ _ hi
        omega
      · rw [List.getElem?_append_right (by omega)] at hi hj
        have := hr _ _ hi
        have := hr _ _ hj
        omega
    · by_cases h1 : k9 < W1.length
      · rw [List.getElem?_append_left h1] at hx
        exact hD1.2 k9 x hx
      · rw [List.getElem?_append_right (by omega)] at hx
        have := hr _ _ hx
        exact hA _ (by have := hS.1; omega)
  have hAr : ArrOfT s cA (.array ty) := fun N9 z9 => by
    obtain ⟨-, k9, hk9, cm9, hkk9⟩ := (hO 0 0 0).1
    exact ⟨(fun q hq => by cases hq), k9, hk9, cm9, hkk9⟩
  have hK2 : va_K D cl (tys ++ [(cA, .array ty)]) s := ⟨hK.1, fun k9 x hx => by
    by_cases hl : k9 < tys.length
    · rw [List.getElem?_append_left hl] at hx
      exact hK.2 k9 x hx
    · rw [List.getElem?_append_right (by omega)] at hx
      have h0 : k9 - tys.length < 1 := (List.getElem?_eq_some_iff.mp hx).1
      rw [show k9 - tys.length = 0 by omega] at hx
      cases hx
      exact ⟨hAr, fA⟩⟩
  obtain ⟨t, a1, b1⟩ := kk H.size (fun i => H.size + 1 + i) cA F.heap (fun i j _ _ h => by have h9 : H.size + 1 + i = H.size + 1 + j := h; omega) hnl hK2 (by rw [← vr_rows hnm]; exact vr_lay hP2) (by rw [← vr_rows hnm]; exact vr_layD hD2) ⟨by rw [f1]; have := hS.1; omega, fun x h1 h2 => (hold x (Nat.lt_of_lt_of_le h1 hS.1)).trans (hS.2.1 x h1 h2), hS.2.2⟩ F rfl X'
  refine ⟨t, step t ?_, b1⟩
  have e : T.heap.size = H.size := by rw [hT]
  rw [e]
  exact a1
end VGM
/-! ===== END ===== -/
end
section
/-! ===== BEGIN printed: names, fields, word lists, decode rows ===== -/
def RX0 : String := "PortraitRooms$Hand"
def TX0 : u_T := fun k => match k with
  | 0 => ("PortraitRooms$Hand", "habits", "I", false)
  | 1 => ("PortraitRooms$Hand", "latestDay", "I", false)
  | _ => ("PortraitRooms$Hand", "layersThen", "I", false)
def tyX0 : Nat → FieldType := fun k => match k with
  | 0 => .int
  | 1 => .int
  | _ => .int
abbrev wsX00 : List Cond := u_ws RX0 TX0 3
theorem nmX0 : ∀ a, a < 3 → ∀ b, b < 3 → a ≠ b → (TX0 a).2.1 ≠ (TX0 b).2.1 := by decide +kernel
theorem tyX0_ok : ∀ k, k < 3 → parseFieldDescriptor (TX0 k).2.2.1 = some (tyX0 k) := by decide +kernel
abbrev cX0_init : ByteArray := prog_2_method_1_code
def yX0_init : MethodName := ⟨RX0, "<init>", "()V"⟩
abbrev cX0_layersOn : ByteArray := prog_2_method_2_code
def yX0_layersOn : MethodName := ⟨RX0, "layersOn", "(I)I"⟩
abbrev cX0_addLayerOn : ByteArray := prog_2_method_3_code
def yX0_addLayerOn : MethodName := ⟨RX0, "addLayerOn", "(I)V"⟩
def RX1 : String := "PortraitRooms$Lists"
def TX1 : u_T := fun k => match k with
  | 0 => ("PortraitRooms$Lists", "years", "[I", true)
  | 1 => ("PortraitRooms$Lists", "sizes", "[I", true)
  | 2 => ("PortraitRooms$Lists", "prices", "[I", true)
  | _ => ("PortraitRooms$Lists", "known", "I", false)
def tyX1 : Nat → FieldType := fun k => match k with
  | 0 => .array .int
  | 1 => .array .int
  | 2 => .array .int
  | _ => .int
abbrev wsX10 : List Cond := u_ws RX1 TX1 4
theorem nmX1 : ∀ a, a < 4 → ∀ b, b < 4 → a ≠ b → (TX1 a).2.1 ≠ (TX1 b).2.1 := by decide +kernel
theorem tyX1_ok : ∀ k, k < 4 → parseFieldDescriptor (TX1 k).2.2.1 = some (tyX1 k) := by decide +kernel
abbrev cX1_init : ByteArray := prog_3_method_1_code
def yX1_init : MethodName := ⟨RX1, "<init>", "()V"⟩
abbrev cX1_add : ByteArray := prog_3_method_2_code
def yX1_add : MethodName := ⟨RX1, "add", "(III)Z"⟩
abbrev cX1_priceIn : ByteArray := prog_3_method_3_code
def yX1_priceIn : MethodName := ⟨RX1, "priceIn", "(II)I"⟩
def RX2 : String := "PortraitRooms$Part"
def TX2 : u_T := fun k => match k with
  | 0 => ("PortraitRooms$Part", "wanted", "I", true)
  | 1 => ("PortraitRooms$Part", "painted", "I", false)
  | 2 => ("PortraitRooms$Part", "latestDay", "I", false)
  | 3 => ("PortraitRooms$Part", "latestHand", "I", false)
  | _ => ("PortraitRooms$Part", "strokes", "I", false)
def tyX2 : Nat → FieldType := fun k => match k with
  | 0 => .int
  | 1 => .int
  | 2 => .int
  | 3 => .int
  | _ => .int
abbrev wsX20 : List Cond := u_ws RX2 TX2 5
theorem nmX2 : ∀ a, a < 5 → ∀ b, b < 5 → a ≠ b → (TX2 a).2.1 ≠ (TX2 b).2.1 := by decide +kernel
theorem tyX2_ok : ∀ k, k < 5 → parseFieldDescriptor (TX2 k).2.2.1 = some (tyX2 k) := by decide +kernel
abbrev cX2_init : ByteArray := prog_4_method_1_code
def yX2_init : MethodName := ⟨RX2, "<init>", "(I)V"⟩
abbrev cX2_wantsMore : ByteArray := prog_4_method_2_code
def yX2_wantsMore : MethodName := ⟨RX2, "wantsMore", "()Z"⟩
abbrev cX2_isWet : ByteArray := prog_4_method_3_code
def yX2_isWet : MethodName := ⟨RX2, "isWet", "(II)Z"⟩
def RX3 : String := "PortraitRooms$Picture"
def TX3 : u_T := fun k => match k with
  | 0 => ("PortraitRooms$Picture", "sitter", "I", true)
  | 1 => ("PortraitRooms$Picture", "robe", "I", true)
  | 2 => ("PortraitRooms$Picture", "price", "I", true)
  | 3 => ("PortraitRooms$Picture", "cameOn", "I", true)
  | 4 => ("PortraitRooms$Picture", "parts", "[LPortraitRooms$Part;", true)
  | 5 => ("PortraitRooms$Picture", "doneOn", "I", false)
  | 6 => ("PortraitRooms$Picture", "layersLeft", "I", false)
  | 7 => ("PortraitRooms$Picture", "sittingsBooked", "I", false)
  | 8 => ("PortraitRooms$Picture", "sittingsUsed", "I", false)
  | _ => ("PortraitRooms$Picture", "traces", "I", false)
def tyX3 : Nat → FieldType := fun k => match k with
  | 0 => .int
  | 1 => .int
  | 2 => .int
  | 3 => .int
  | 4 => .array (.object "PortraitRooms$Part")
  | 5 => .int
  | 6 => .int
  | 7 => .int
  | 8 => .int
  | _ => .int
abbrev wsX30 : List Cond := u_ws RX3 TX3 10
theorem nmX3 : ∀ a, a < 10 → ∀ b, b < 10 → a ≠ b → (TX3 a).2.1 ≠ (TX3 b).2.1 := by decide +kernel
theorem tyX3_ok : ∀ k, k < 10 → parseFieldDescriptor (TX3 k).2.2.1 = some (tyX3 k) := by decide +kernel
abbrev cX3_init : ByteArray := prog_5_method_1_code
def yX3_init : MethodName := ⟨RX3, "<init>", "(IIIII)V"⟩
abbrev cX3_isDone : ByteArray := prog_5_method_2_code
def yX3_isDone : MethodName := ⟨RX3, "isDone", "()Z"⟩
abbrev cX3_wantsHead : ByteArray := prog_5_method_3_code
def yX3_wantsHead : MethodName := ⟨RX3, "wantsHead", "()Z"⟩
def RX4 : String := "PortraitRooms$Plan"
def TX4 : u_T := fun k => match k with
  | 0 => ("PortraitRooms$Plan", "pictures", "[I", true)
  | 1 => ("PortraitRooms$Plan", "sitters", "[I", true)
  | 2 => ("PortraitRooms$Plan", "openHours", "[I", true)
  | 3 => ("PortraitRooms$Plan", "weights", "[I", true)
  | 4 => ("PortraitRooms$Plan", "tried", "[I", true)
  | 5 => ("PortraitRooms$Plan", "best", "[I", true)
  | 6 => ("PortraitRooms$Plan", "size", "I", false)
  | 7 => ("PortraitRooms$Plan", "allWeights", "I", false)
  | _ => ("PortraitRooms$Plan", "bestSum", "I", false)
def tyX4 : Nat → FieldType := fun k => match k with
  | 0 => .array .int
  | 1 => .array .int
  | 2 => .array .int
  | 3 => .array .int
  | 4 => .array .int
  | 5 => .array .int
  | 6 => .int
  | 7 => .int
  | _ => .int
abbrev wsX40 : List Cond := u_ws RX4 TX4 9
theorem nmX4 : ∀ a, a < 9 → ∀ b, b < 9 → a ≠ b → (TX4 a).2.1 ≠ (TX4 b).2.1 := by decide +kernel
theorem tyX4_ok : ∀ k, k < 9 → parseFieldDescriptor (TX4 k).2.2.1 = some (tyX4 k) := by decide +kernel
abbrev cX4_init : ByteArray := prog_6_method_1_code
def yX4_init : MethodName := ⟨RX4, "<init>", "()V"⟩
abbrev cX4_clear : ByteArray := prog_6_method_2_code
def yX4_clear : MethodName := ⟨RX4, "clear", "()V"⟩
abbrev cX4_add : ByteArray := prog_6_method_3_code
def yX4_add : MethodName := ⟨RX4, "add", "(IIII)Z"⟩
abbrev cX4_sitterIsPlaced : ByteArray := prog_6_method_4_code
def yX4_sitterIsPlaced : MethodName := ⟨RX4, "sitterIsPlaced", "(I)Z"⟩
abbrev cX4_keep : ByteArray := prog_6_method_5_code
def yX4_keep : MethodName := ⟨RX4, "keep", "(I)V"⟩
abbrev cX4_hourOf : ByteArray := prog_6_method_6_code
def yX4_hourOf : MethodName := ⟨RX4, "hourOf", "(I)I"⟩
def RX5 : String := "PortraitRooms$Robes"
def TX5 : u_T := fun k => match k with
  | 0 => ("PortraitRooms$Robes", "pictures", "[I", true)
  | _ => ("PortraitRooms$Robes", "days", "[I", true)
def tyX5 : Nat → FieldType := fun k => match k with
  | 0 => .array .int
  | _ => .array .int
abbrev wsX50 : List Cond := u_ws RX5 TX5 2
theorem nmX5 : ∀ a, a < 2 → ∀ b, b < 2 → a ≠ b → (TX5 a).2.1 ≠ (TX5 b).2.1 := by decide +kernel
theorem tyX5_ok : ∀ k, k < 2 → parseFieldDescriptor (TX5 k).2.2.1 = some (tyX5 k) := by decide +kernel
abbrev cX5_init : ByteArray := prog_7_method_1_code
def yX5_init : MethodName := ⟨RX5, "<init>", "()V"⟩
abbrev cX5_isAway : ByteArray := prog_7_method_2_code
def yX5_isAway : MethodName := ⟨RX5, "isAway", "(III)Z"⟩
abbrev cX5_take : ByteArray := prog_7_method_3_code
def yX5_take : MethodName := ⟨RX5, "take", "(III)V"⟩
def RX6 : String := "PortraitRooms$Sitter"
def TX6 : u_T := fun k => match k with
  | 0 => ("PortraitRooms$Sitter", "first", "I", true)
  | 1 => ("PortraitRooms$Sitter", "last", "I", true)
  | _ => ("PortraitRooms$Sitter", "owes", "I", false)
def tyX6 : Nat → FieldType := fun k => match k with
  | 0 => .int
  | 1 => .int
  | _ => .int
abbrev wsX60 : List Cond := u_ws RX6 TX6 3
theorem nmX6 : ∀ a, a < 3 → ∀ b, b < 3 → a ≠ b → (TX6 a).2.1 ≠ (TX6 b).2.1 := by decide +kernel
theorem tyX6_ok : ∀ k, k < 3 → parseFieldDescriptor (TX6 k).2.2.1 = some (tyX6 k) := by decide +kernel
abbrev cX6_init : ByteArray := prog_8_method_1_code
def yX6_init : MethodName := ⟨RX6, "<init>", "(II)V"⟩
abbrev cX6_canCome : ByteArray := prog_8_method_2_code
def yX6_canCome : MethodName := ⟨RX6, "canCome", "(I)Z"⟩
def RX7 : String := "PortraitRooms$Sittings"
def TX7 : u_T := fun k => match k with
  | 0 => ("PortraitRooms$Sittings", "pictures", "[I", true)
  | 1 => ("PortraitRooms$Sittings", "sitters", "[I", true)
  | 2 => ("PortraitRooms$Sittings", "days", "[I", true)
  | 3 => ("PortraitRooms$Sittings", "hours", "[I", true)
  | 4 => ("PortraitRooms$Sittings", "used", "[Z", true)
  | _ => ("PortraitRooms$Sittings", "there", "I", false)
def tyX7 : Nat → FieldType := fun k => match k with
  | 0 => .array .int
  | 1 => .array .int
  | 2 => .array .int
  | 3 => .array .int
  | 4 => .array .boolean
  | _ => .int
abbrev wsX70 : List Cond := u_ws RX7 TX7 6
theorem nmX7 : ∀ a, a < 6 → ∀ b, b < 6 → a ≠ b → (TX7 a).2.1 ≠ (TX7 b).2.1 := by decide +kernel
theorem tyX7_ok : ∀ k, k < 6 → parseFieldDescriptor (TX7 k).2.2.1 = some (tyX7 k) := by decide +kernel
abbrev cX7_init : ByteArray := prog_9_method_1_code
def yX7_init : MethodName := ⟨RX7, "<init>", "()V"⟩
abbrev cX7_add : ByteArray := prog_9_method_2_code
def yX7_add : MethodName := ⟨RX7, "add", "(IIII)Z"⟩
abbrev cX7_remove : ByteArray := prog_9_method_3_code
def yX7_remove : MethodName := ⟨RX7, "remove", "(I)V"⟩
abbrev cX7_use : ByteArray := prog_9_method_4_code
def yX7_use : MethodName := ⟨RX7, "use", "(I)V"⟩
abbrev cX7_unusedOf : ByteArray := prog_9_method_5_code
def yX7_unusedOf : MethodName := ⟨RX7, "unusedOf", "(II)I"⟩
abbrev cX7_isTaken : ByteArray := prog_9_method_6_code
def yX7_isTaken : MethodName := ⟨RX7, "isTaken", "(II)Z"⟩
abbrev cX7_hasSitter : ByteArray := prog_9_method_7_code
def yX7_hasSitter : MethodName := ⟨RX7, "hasSitter", "(II)Z"⟩
def RX8 : String := "PortraitRooms"
def TX8 : u_T := fun k => match k with
  | 0 => ("PortraitRooms", "lists", "LPortraitRooms$Lists;", true)
  | 1 => ("PortraitRooms", "dryDays", "[I", true)
  | 2 => ("PortraitRooms", "hands", "[LPortraitRooms$Hand;", true)
  | 3 => ("PortraitRooms", "sitters", "[LPortraitRooms$Sitter;", true)
  | 4 => ("PortraitRooms", "pictures", "[LPortraitRooms$Picture;", true)
  | 5 => ("PortraitRooms", "sittings", "LPortraitRooms$Sittings;", true)
  | 6 => ("PortraitRooms", "robes", "LPortraitRooms$Robes;", true)
  | 7 => ("PortraitRooms", "plan", "LPortraitRooms$Plan;", true)
  | 8 => ("PortraitRooms", "now", "I", false)
  | 9 => ("PortraitRooms", "handsHere", "I", false)
  | 10 => ("PortraitRooms", "sittersHere", "I", false)
  | 11 => ("PortraitRooms", "picturesHere", "I", false)
  | 12 => ("PortraitRooms", "picturesDone", "I", false)
  | 13 => ("PortraitRooms", "layersEver", "I", false)
  | 14 => ("PortraitRooms", "coinsPaid", "I", false)
  | 15 => ("PortraitRooms", "allPrices", "I", false)
  | _ => ("PortraitRooms", "marginNow", "I", false)
def tyX8 : Nat → FieldType := fun k => match k with
  | 0 => .object "PortraitRooms$Lists"
  | 1 => .array .int
  | 2 => .array (.object "PortraitRooms$Hand")
  | 3 => .array (.object "PortraitRooms$Sitter")
  | 4 => .array (.object "PortraitRooms$Picture")
  | 5 => .object "PortraitRooms$Sittings"
  | 6 => .object "PortraitRooms$Robes"
  | 7 => .object "PortraitRooms$Plan"
  | 8 => .int
  | 9 => .int
  | 10 => .int
  | 11 => .int
  | 12 => .int
  | 13 => .int
  | 14 => .int
  | 15 => .int
  | _ => .int
abbrev wsX80 : List Cond := u_ws RX8 TX8 17
theorem nmX8 : ∀ a, a < 17 → ∀ b, b < 17 → a ≠ b → (TX8 a).2.1 ≠ (TX8 b).2.1 := by decide +kernel
theorem tyX8_ok : ∀ k, k < 17 → parseFieldDescriptor (TX8 k).2.2.1 = some (tyX8 k) := by decide +kernel
abbrev cX8_init : ByteArray := prog_1_method_1_code
def yX8_init : MethodName := ⟨RX8, "<init>", "()V"⟩
abbrev cX8_list : ByteArray := prog_1_method_2_code
def yX8_list : MethodName := ⟨RX8, "list", "(III)Z"⟩
abbrev cX8_dry : ByteArray := prog_1_method_3_code
def yX8_dry : MethodName := ⟨RX8, "dry", "(II)Z"⟩
abbrev cX8_hand : ByteArray := prog_1_method_4_code
def yX8_hand : MethodName := ⟨RX8, "hand", "()I"⟩
abbrev cX8_sitter : ByteArray := prog_1_method_5_code
def yX8_sitter : MethodName := ⟨RX8, "sitter", "(II)I"⟩
abbrev cX8_picture : ByteArray := prog_1_method_6_code
def yX8_picture : MethodName := ⟨RX8, "picture", "(IIII)I"⟩
abbrev cX8_go : ByteArray := prog_1_method_7_code
def yX8_go : MethodName := ⟨RX8, "go", "(I)I"⟩
abbrev cX8_light : ByteArray := prog_1_method_8_code
def yX8_light : MethodName := ⟨RX8, "light", "(I)I"⟩
abbrev cX8_book : ByteArray := prog_1_method_9_code
def yX8_book : MethodName := ⟨RX8, "book", "(III)Z"⟩
abbrev cX8_unbook : ByteArray := prog_1_method_10_code
def yX8_unbook : MethodName := ⟨RX8, "unbook", "(II)Z"⟩
abbrev cX8_paint : ByteArray := prog_1_method_11_code
def yX8_paint : MethodName := ⟨RX8, "paint", "(III)I"⟩
abbrev cX8_pay : ByteArray := prog_1_method_12_code
def yX8_pay : MethodName := ⟨RX8, "pay", "(II)I"⟩
abbrev cX8_planned : ByteArray := prog_1_method_13_code
def yX8_planned : MethodName := ⟨RX8, "planned", "(II)I"⟩
abbrev cX8_worth : ByteArray := prog_1_method_14_code
def yX8_worth : MethodName := ⟨RX8, "worth", "(I)I"⟩
abbrev cX8_trace : ByteArray := prog_1_method_15_code
def yX8_trace : MethodName := ⟨RX8, "trace", "(II)Z"⟩
abbrev cX8_from : ByteArray := prog_1_method_16_code
def yX8_from : MethodName := ⟨RX8, "from", "(I)I"⟩
abbrev cX8_doubt : ByteArray := prog_1_method_17_code
def yX8_doubt : MethodName := ⟨RX8, "doubt", "(I)Z"⟩
abbrev cX8_habit : ByteArray := prog_1_method_18_code
def yX8_habit : MethodName := ⟨RX8, "habit", "(II)Z"⟩
abbrev cX8_margin : ByteArray := prog_1_method_19_code
def yX8_margin : MethodName := ⟨RX8, "margin", "(I)Z"⟩
abbrev cX8_strokes : ByteArray := prog_1_method_20_code
def yX8_strokes : MethodName := ⟨RX8, "strokes", "(III)Z"⟩
abbrev cX8_whose : ByteArray := prog_1_method_21_code
def yX8_whose : MethodName := ⟨RX8, "whose", "(II)I"⟩
abbrev cX8_told : ByteArray := prog_1_method_22_code
def yX8_told : MethodName := ⟨RX8, "told", "(II)I"⟩
abbrev cX8_part : ByteArray := prog_1_method_23_code
def yX8_part : MethodName := ⟨RX8, "part", "(III)I"⟩
abbrev cX8_due : ByteArray := prog_1_method_24_code
def yX8_due : MethodName := ⟨RX8, "due", "(I)I"⟩
abbrev cX8_count : ByteArray := prog_1_method_25_code
def yX8_count : MethodName := ⟨RX8, "count", "(I)I"⟩
abbrev cX8_within : ByteArray := prog_1_method_26_code
def yX8_within : MethodName := ⟨RX8, "within", "(II)Z"⟩
abbrev cX8_lightHours : ByteArray := prog_1_method_27_code
def yX8_lightHours : MethodName := ⟨RX8, "lightHours", "(I)I"⟩
abbrev cX8_layersCanBe : ByteArray := prog_1_method_28_code
def yX8_layersCanBe : MethodName := ⟨RX8, "layersCanBe", "(I)Z"⟩
abbrev cX8_isNowOrLater : ByteArray := prog_1_method_29_code
def yX8_isNowOrLater : MethodName := ⟨RX8, "isNowOrLater", "(I)Z"⟩
abbrev cX8_handAt : ByteArray := prog_1_method_30_code
def yX8_handAt : MethodName := ⟨RX8, "handAt", "(I)LPortraitRooms$Hand;"⟩
abbrev cX8_sitterAt : ByteArray := prog_1_method_31_code
def yX8_sitterAt : MethodName := ⟨RX8, "sitterAt", "(I)LPortraitRooms$Sitter;"⟩
abbrev cX8_pictureAt : ByteArray := prog_1_method_32_code
def yX8_pictureAt : MethodName := ⟨RX8, "pictureAt", "(I)LPortraitRooms$Picture;"⟩
abbrev cX8_partAt : ByteArray := prog_1_method_33_code
def yX8_partAt : MethodName := ⟨RX8, "partAt", "(II)LPortraitRooms$Part;"⟩
abbrev cX8_standsAgainst : ByteArray := prog_1_method_34_code
def yX8_standsAgainst : MethodName := ⟨RX8, "standsAgainst", "(III)I"⟩
abbrev cX8_addLayer : ByteArray := prog_1_method_35_code
def yX8_addLayer : MethodName := ⟨RX8, "addLayer", "(III)V"⟩
abbrev cX8_finish : ByteArray := prog_1_method_36_code
def yX8_finish : MethodName := ⟨RX8, "finish", "(LPortraitRooms$Picture;)V"⟩
abbrev cX8_makePlan : ByteArray := prog_1_method_37_code
def yX8_makePlan : MethodName := ⟨RX8, "makePlan", "(I)Z"⟩
abbrev cX8_hoursFor : ByteArray := prog_1_method_38_code
def yX8_hoursFor : MethodName := ⟨RX8, "hoursFor", "(II)I"⟩
abbrev cX8_search : ByteArray := prog_1_method_39_code
def yX8_search : MethodName := ⟨RX8, "search", "(LPortraitRooms$Plan;IIII)V"⟩
abbrev cX8_nearestTraced : ByteArray := prog_1_method_40_code
def yX8_nearestTraced : MethodName := ⟨RX8, "nearestTraced", "(II)I"⟩
abbrev cX8_traceDistance : ByteArray := prog_1_method_41_code
def yX8_traceDistance : MethodName := ⟨RX8, "traceDistance", "(II)I"⟩
abbrev cX8_nearestHand : ByteArray := prog_1_method_42_code
def yX8_nearestHand : MethodName := ⟨RX8, "nearestHand", "(II)I"⟩
abbrev cX8_habitDistance : ByteArray := prog_1_method_43_code
def yX8_habitDistance : MethodName := ⟨RX8, "habitDistance", "(II)I"⟩
def RX9 : String := "PortraitRoomsModel"
def TX9 : u_T := fun k => match k with
  | 0 => ("PortraitRoomsModel", "now", "I", false)
  | 1 => ("PortraitRoomsModel", "listYear", "[I", true)
  | 2 => ("PortraitRoomsModel", "listSize", "[I", true)
  | 3 => ("PortraitRoomsModel", "listPrice", "[I", true)
  | 4 => ("PortraitRoomsModel", "lists", "I", false)
  | 5 => ("PortraitRoomsModel", "dry", "[I", true)
  | 6 => ("PortraitRoomsModel", "handDay", "[I", true)
  | 7 => ("PortraitRoomsModel", "handMany", "[I", true)
  | 8 => ("PortraitRoomsModel", "habits", "[I", true)
  | 9 => ("PortraitRoomsModel", "hands", "I", false)
  | 10 => ("PortraitRoomsModel", "from", "[I", true)
  | 11 => ("PortraitRoomsModel", "to", "[I", true)
  | 12 => ("PortraitRoomsModel", "dues", "[I", true)
  | 13 => ("PortraitRoomsModel", "sitters", "I", false)
  | 14 => ("PortraitRoomsModel", "sitter", "[I", true)
  | 15 => ("PortraitRoomsModel", "price", "[I", true)
  | 16 => ("PortraitRoomsModel", "came", "[I", true)
  | 17 => ("PortraitRoomsModel", "doneOn", "[I", true)
  | 18 => ("PortraitRoomsModel", "robe", "[I", true)
  | 19 => ("PortraitRoomsModel", "traces", "[I", true)
  | 20 => ("PortraitRoomsModel", "wants", "[[I", true)
  | 21 => ("PortraitRoomsModel", "has", "[[I", true)
  | 22 => ("PortraitRoomsModel", "latest", "[[I", true)
  | 23 => ("PortraitRoomsModel", "byHand", "[[I", true)
  | 24 => ("PortraitRoomsModel", "strokes", "[[I", true)
  | 25 => ("PortraitRoomsModel", "pictures", "I", false)
  | 26 => ("PortraitRoomsModel", "robeDay", "[I", true)
  | 27 => ("PortraitRoomsModel", "robeFor", "[I", true)
  | 28 => ("PortraitRoomsModel", "sitOf", "[I", true)
  | 29 => ("PortraitRoomsModel", "sitDay", "[I", true)
  | 30 => ("PortraitRoomsModel", "sitHour", "[I", true)
  | 31 => ("PortraitRoomsModel", "isUsed", "[Z", true)
  | 32 => ("PortraitRoomsModel", "sittings", "I", false)
  | 33 => ("PortraitRoomsModel", "margin", "I", false)
  | 34 => ("PortraitRoomsModel", "layersEver", "I", false)
  | 35 => ("PortraitRoomsModel", "paid", "I", false)
  | 36 => ("PortraitRoomsModel", "prices", "I", false)
  | 37 => ("PortraitRoomsModel", "asked", "[I", true)
  | 38 => ("PortraitRoomsModel", "line", "[I", true)
  | 39 => ("PortraitRoomsModel", "bestLine", "[I", true)
  | 40 => ("PortraitRoomsModel", "askedMany", "I", false)
  | _ => ("PortraitRoomsModel", "bestSum", "I", false)
def tyX9 : Nat → FieldType := fun k => match k with
  | 0 => .int
  | 1 => .array .int
  | 2 => .array .int
  | 3 => .array .int
  | 4 => .int
  | 5 => .array .int
  | 6 => .array .int
  | 7 => .array .int
  | 8 => .array .int
  | 9 => .int
  | 10 => .array .int
  | 11 => .array .int
  | 12 => .array .int
  | 13 => .int
  | 14 => .array .int
  | 15 => .array .int
  | 16 => .array .int
  | 17 => .array .int
  | 18 => .array .int
  | 19 => .array .int
  | 20 => .array (.array .int)
  | 21 => .array (.array .int)
  | 22 => .array (.array .int)
  | 23 => .array (.array .int)
  | 24 => .array (.array .int)
  | 25 => .int
  | 26 => .array .int
  | 27 => .array .int
  | 28 => .array .int
  | 29 => .array .int
  | 30 => .array .int
  | 31 => .array .boolean
  | 32 => .int
  | 33 => .int
  | 34 => .int
  | 35 => .int
  | 36 => .int
  | 37 => .array .int
  | 38 => .array .int
  | 39 => .array .int
  | 40 => .int
  | _ => .int
abbrev wsX90 : List Cond := u_ws RX9 TX9 42
theorem nmX9 : ∀ a, a < 42 → ∀ b, b < 42 → a ≠ b → (TX9 a).2.1 ≠ (TX9 b).2.1 := by decide +kernel
theorem tyX9_ok : ∀ k, k < 42 → parseFieldDescriptor (TX9 k).2.2.1 = some (tyX9 k) := by decide +kernel
abbrev cX9_init : ByteArray := prog_11_method_1_code
def yX9_init : MethodName := ⟨RX9, "<init>", "()V"⟩
abbrev cX9_in : ByteArray := prog_11_method_2_code
def yX9_in : MethodName := ⟨RX9, "in", "(III)Z"⟩
abbrev cX9_isPicture : ByteArray := prog_11_method_3_code
def yX9_isPicture : MethodName := ⟨RX9, "isPicture", "(I)Z"⟩
abbrev cX9_isSitter : ByteArray := prog_11_method_4_code
def yX9_isSitter : MethodName := ⟨RX9, "isSitter", "(I)Z"⟩
abbrev cX9_isHand : ByteArray := prog_11_method_5_code
def yX9_isHand : MethodName := ⟨RX9, "isHand", "(I)Z"⟩
abbrev cX9_list : ByteArray := prog_11_method_6_code
def yX9_list : MethodName := ⟨RX9, "list", "(III)Z"⟩
abbrev cX9_listed : ByteArray := prog_11_method_7_code
def yX9_listed : MethodName := ⟨RX9, "listed", "(II)I"⟩
abbrev cX9_dry : ByteArray := prog_11_method_8_code
def yX9_dry : MethodName := ⟨RX9, "dry", "(II)Z"⟩
abbrev cX9_hand : ByteArray := prog_11_method_9_code
def yX9_hand : MethodName := ⟨RX9, "hand", "()I"⟩
abbrev cX9_sitter : ByteArray := prog_11_method_10_code
def yX9_sitter : MethodName := ⟨RX9, "sitter", "(II)I"⟩
abbrev cX9_picture : ByteArray := prog_11_method_11_code
def yX9_picture : MethodName := ⟨RX9, "picture", "(IIII)I"⟩
abbrev cX9_go : ByteArray := prog_11_method_12_code
def yX9_go : MethodName := ⟨RX9, "go", "(I)I"⟩
abbrev cX9_lightOf : ByteArray := prog_11_method_13_code
def yX9_lightOf : MethodName := ⟨RX9, "lightOf", "(I)I"⟩
abbrev cX9_light : ByteArray := prog_11_method_14_code
def yX9_light : MethodName := ⟨RX9, "light", "(I)I"⟩
abbrev cX9_isFree : ByteArray := prog_11_method_15_code
def yX9_isFree : MethodName := ⟨RX9, "isFree", "(II)Z"⟩
abbrev cX9_sits : ByteArray := prog_11_method_16_code
def yX9_sits : MethodName := ⟨RX9, "sits", "(II)Z"⟩
abbrev cX9_couldBe : ByteArray := prog_11_method_17_code
def yX9_couldBe : MethodName := ⟨RX9, "couldBe", "(III)Z"⟩
abbrev cX9_book : ByteArray := prog_11_method_18_code
def yX9_book : MethodName := ⟨RX9, "book", "(III)Z"⟩
abbrev cX9_unused : ByteArray := prog_11_method_19_code
def yX9_unused : MethodName := ⟨RX9, "unused", "(II)I"⟩
abbrev cX9_unbook : ByteArray := prog_11_method_20_code
def yX9_unbook : MethodName := ⟨RX9, "unbook", "(II)Z"⟩
abbrev cX9_isWet : ByteArray := prog_11_method_21_code
def yX9_isWet : MethodName := ⟨RX9, "isWet", "(II)Z"⟩
abbrev cX9_against : ByteArray := prog_11_method_22_code
def yX9_against : MethodName := ⟨RX9, "against", "(III)I"⟩
abbrev cX9_isDone : ByteArray := prog_11_method_23_code
def yX9_isDone : MethodName := ⟨RX9, "isDone", "(I)Z"⟩
abbrev cX9_paint : ByteArray := prog_11_method_24_code
def yX9_paint : MethodName := ⟨RX9, "paint", "(III)I"⟩
abbrev cX9_pay : ByteArray := prog_11_method_25_code
def yX9_pay : MethodName := ⟨RX9, "pay", "(II)I"⟩
abbrev cX9_tries : ByteArray := prog_11_method_26_code
def yX9_tries : MethodName := ⟨RX9, "tries", "(IIII)V"⟩
abbrev cX9_plans : ByteArray := prog_11_method_27_code
def yX9_plans : MethodName := ⟨RX9, "plans", "(I)Z"⟩
abbrev cX9_planned : ByteArray := prog_11_method_28_code
def yX9_planned : MethodName := ⟨RX9, "planned", "(II)I"⟩
abbrev cX9_worth : ByteArray := prog_11_method_29_code
def yX9_worth : MethodName := ⟨RX9, "worth", "(I)I"⟩
abbrev cX9_trace : ByteArray := prog_11_method_30_code
def yX9_trace : MethodName := ⟨RX9, "trace", "(II)Z"⟩
abbrev cX9_differ : ByteArray := prog_11_method_31_code
def yX9_differ : MethodName := ⟨RX9, "differ", "(II)I"⟩
abbrev cX9_from : ByteArray := prog_11_method_32_code
def yX9_from : MethodName := ⟨RX9, "from", "(I)I"⟩
abbrev cX9_doubt : ByteArray := prog_11_method_33_code
def yX9_doubt : MethodName := ⟨RX9, "doubt", "(I)Z"⟩
abbrev cX9_habit : ByteArray := prog_11_method_34_code
def yX9_habit : MethodName := ⟨RX9, "habit", "(II)Z"⟩
abbrev cX9_margin : ByteArray := prog_11_method_35_code
def yX9_margin : MethodName := ⟨RX9, "margin", "(I)Z"⟩
abbrev cX9_strokes : ByteArray := prog_11_method_36_code
def yX9_strokes : MethodName := ⟨RX9, "strokes", "(III)Z"⟩
abbrev cX9_squares : ByteArray := prog_11_method_37_code
def yX9_squares : MethodName := ⟨RX9, "squares", "(II)I"⟩
abbrev cX9_whose : ByteArray := prog_11_method_38_code
def yX9_whose : MethodName := ⟨RX9, "whose", "(II)I"⟩
abbrev cX9_told : ByteArray := prog_11_method_39_code
def yX9_told : MethodName := ⟨RX9, "told", "(II)I"⟩
abbrev cX9_part : ByteArray := prog_11_method_40_code
def yX9_part : MethodName := ⟨RX9, "part", "(III)I"⟩
abbrev cX9_due : ByteArray := prog_11_method_41_code
def yX9_due : MethodName := ⟨RX9, "due", "(I)I"⟩
abbrev cX9_count : ByteArray := prog_11_method_42_code
def yX9_count : MethodName := ⟨RX9, "count", "(I)I"⟩
def RJ6 : String := "java/lang/Integer"
def TJ6 : u_T := fun k => match k with
  | _ => ("", "", "", false)
def tyJ6 : Nat → FieldType := fun k => match k with
  | _ => .int
abbrev wsJ60 : List Cond := u_ws RJ6 TJ6 0
theorem nmJ6 : ∀ a, a < 0 → ∀ b, b < 0 → a ≠ b → (TJ6 a).2.1 ≠ (TJ6 b).2.1 := by decide +kernel
theorem tyJ6_ok : ∀ k, k < 0 → parseFieldDescriptor (TJ6 k).2.2.1 = some (tyJ6 k) := by decide +kernel
abbrev cJ6_bitCount_0f7a4 : ByteArray := prog_12_method_49_code
def yJ6_bitCount_0f7a4 : MethodName := ⟨RJ6, "bitCount", "(I)I"⟩
def RJ9 : String := "java/lang/Math"
def TJ9 : u_T := fun k => match k with
  | _ => ("", "", "", false)
def tyJ9 : Nat → FieldType := fun k => match k with
  | _ => .int
abbrev wsJ90 : List Cond := u_ws RJ9 TJ9 0
theorem nmJ9 : ∀ a, a < 0 → ∀ b, b < 0 → a ≠ b → (TJ9 a).2.1 ≠ (TJ9 b).2.1 := by decide +kernel
theorem tyJ9_ok : ∀ k, k < 0 → parseFieldDescriptor (TJ9 k).2.2.1 = some (tyJ9 k) := by decide +kernel
abbrev cJ9_abs_0f7a4 : ByteArray := prog_13_method_59_code
def yJ9_abs_0f7a4 : MethodName := ⟨RJ9, "abs", "(I)I"⟩
abbrev cJ9_min_7cf53 : ByteArray := prog_13_method_69_code
def yJ9_min_7cf53 : MethodName := ⟨RJ9, "min", "(II)I"⟩
def RL : String := "PortraitRoomsLaw"
abbrev cL_law : ByteArray := code
def yL_law : MethodName := ⟨RL, "law", "([I)Z"⟩
def wsX0_init : List Cond := .code yX0_init cX0_init 1 none :: ([.methodLink RX0 3 objectInit, .instanceMethod objectInit, .code objectInit ⟨#[0xb1]⟩ 1 none, .fieldLink RX0 9 "PortraitRooms$Hand" "habits" "I", .fieldLink RX0 15 "PortraitRooms$Hand" "latestDay" "I"] ++ wsX00)
def wsX0_layersOn : List Cond := .code yX0_layersOn cX0_layersOn 2 (some .int) :: ([.fieldLink RX0 15 "PortraitRooms$Hand" "latestDay" "I", .fieldLink RX0 18 "PortraitRooms$Hand" "layersThen" "I"] ++ wsX00)
def wsX0_addLayerOn : List Cond := .code yX0_addLayerOn cX0_addLayerOn 2 none :: ([.fieldLink RX0 18 "PortraitRooms$Hand" "layersThen" "I", .fieldLink RX0 15 "PortraitRooms$Hand" "latestDay" "I", .methodLink RX0 21 yX0_layersOn, .instanceMethod yX0_layersOn, .selects RX0 yX0_layersOn yX0_layersOn, .initialized RX0, .code yX0_layersOn cX0_layersOn 2 (some .int)] ++ wsX00)
def wsX1_init : List Cond := .code yX1_init cX1_init 1 none :: ([.methodLink RX1 3 objectInit, .instanceMethod objectInit, .code objectInit ⟨#[0xb1]⟩ 1 none, .arrayClass .int, .fieldLink RX1 9 "PortraitRooms$Lists" "years" "[I", .fieldLink RX1 15 "PortraitRooms$Lists" "sizes" "[I", .fieldLink RX1 18 "PortraitRooms$Lists" "prices" "[I"] ++ wsX10)
def wsX1_add : List Cond := .code yX1_add cX1_add 4 (some .boolean) :: ([.fieldLink RX1 21 "PortraitRooms$Lists" "known" "I", .fieldLink RX1 9 "PortraitRooms$Lists" "years" "[I", .fieldLink RX1 15 "PortraitRooms$Lists" "sizes" "[I", .fieldLink RX1 18 "PortraitRooms$Lists" "prices" "[I"] ++ wsX10)
def wsX1_priceIn : List Cond := .code yX1_priceIn cX1_priceIn 6 (some .int) :: ([.fieldLink RX1 21 "PortraitRooms$Lists" "known" "I", .fieldLink RX1 15 "PortraitRooms$Lists" "sizes" "[I", .fieldLink RX1 9 "PortraitRooms$Lists" "years" "[I", .fieldLink RX1 18 "PortraitRooms$Lists" "prices" "[I"] ++ wsX10)
def wsX2_init : List Cond := .code yX2_init cX2_init 2 none :: ([.methodLink RX2 3 objectInit, .instanceMethod objectInit, .code objectInit ⟨#[0xb1]⟩ 1 none, .fieldLink RX2 9 "PortraitRooms$Part" "wanted" "I", .fieldLink RX2 15 "PortraitRooms$Part" "latestDay" "I", .fieldLink RX2 18 "PortraitRooms$Part" "latestHand" "I", .fieldLink RX2 21 "PortraitRooms$Part" "strokes" "I"] ++ wsX20)
def wsX2_wantsMore : List Cond := .code yX2_wantsMore cX2_wantsMore 1 (some .boolean) :: ([.fieldLink RX2 24 "PortraitRooms$Part" "painted" "I", .fieldLink RX2 9 "PortraitRooms$Part" "wanted" "I"] ++ wsX20)
def wsX2_isWet : List Cond := .code yX2_isWet cX2_isWet 3 (some .boolean) :: ([.fieldLink RX2 15 "PortraitRooms$Part" "latestDay" "I"] ++ wsX20)
def wsX3_init : List Cond := .code yX3_init cX3_init 8 none :: ([.methodLink RX3 3 objectInit, .instanceMethod objectInit, .code objectInit ⟨#[0xb1]⟩ 1 none, .fieldLink RX3 9 "PortraitRooms$Picture" "sitter" "I", .fieldLink RX3 15 "PortraitRooms$Picture" "robe" "I", .fieldLink RX3 18 "PortraitRooms$Picture" "price" "I", .fieldLink RX3 21 "PortraitRooms$Picture" "cameOn" "I", .classLink RX3 24 RX2, .fieldLink RX3 26 "PortraitRooms$Picture" "parts" "[LPortraitRooms$Part;", .instantiable RX2 5, .initialized RX2, .fieldLink RX3 33 "PortraitRooms$Picture" "layersLeft" "I", .fieldLink RX3 36 "PortraitRooms$Picture" "doneOn" "I", .fieldLink RX3 39 "PortraitRooms$Picture" "traces" "I", .methodLink RX3 30 yX2_init, .instanceMethod yX2_init, .code yX2_init cX2_init 2 none, .methodLink RX2 3 objectInit, .fieldLink RX2 9 "PortraitRooms$Part" "wanted" "I", .fieldLink RX2 15 "PortraitRooms$Part" "latestDay" "I", .fieldLink RX2 18 "PortraitRooms$Part" "latestHand" "I", .fieldLink RX2 21 "PortraitRooms$Part" "strokes" "I"] ++ wsX30 ++ wsX20)
def wsX3_isDone : List Cond := .code yX3_isDone cX3_isDone 1 (some .boolean) :: ([.fieldLink RX3 36 "PortraitRooms$Picture" "doneOn" "I"] ++ wsX30)
def wsX3_wantsHead : List Cond := .code yX3_wantsHead cX3_wantsHead 2 (some .boolean) :: ([.fieldLink RX3 26 "PortraitRooms$Picture" "parts" "[LPortraitRooms$Part;", .methodLink RX3 42 yX2_wantsMore, .instanceMethod yX2_wantsMore, .selects RX2 yX2_wantsMore yX2_wantsMore, .initialized RX2, .code yX2_wantsMore cX2_wantsMore 1 (some .boolean), .fieldLink RX2 24 "PortraitRooms$Part" "painted" "I", .fieldLink RX2 9 "PortraitRooms$Part" "wanted" "I"] ++ wsX30 ++ wsX20)
def wsX4_init : List Cond := .code yX4_init cX4_init 1 none :: ([.methodLink RX4 3 objectInit, .instanceMethod objectInit, .code objectInit ⟨#[0xb1]⟩ 1 none, .arrayClass .int, .fieldLink RX4 9 "PortraitRooms$Plan" "pictures" "[I", .fieldLink RX4 15 "PortraitRooms$Plan" "sitters" "[I", .fieldLink RX4 18 "PortraitRooms$Plan" "openHours" "[I", .fieldLink RX4 21 "PortraitRooms$Plan" "weights" "[I", .fieldLink RX4 24 "PortraitRooms$Plan" "tried" "[I", .fieldLink RX4 27 "PortraitRooms$Plan" "best" "[I"] ++ wsX40)
def wsX4_clear : List Cond := .code yX4_clear cX4_clear 1 none :: ([.fieldLink RX4 30 "PortraitRooms$Plan" "size" "I", .fieldLink RX4 34 "PortraitRooms$Plan" "allWeights" "I", .fieldLink RX4 37 "PortraitRooms$Plan" "bestSum" "I"] ++ wsX40)
def wsX4_add : List Cond := .code yX4_add cX4_add 5 (some .boolean) :: ([.fieldLink RX4 30 "PortraitRooms$Plan" "size" "I", .fieldLink RX4 9 "PortraitRooms$Plan" "pictures" "[I", .fieldLink RX4 15 "PortraitRooms$Plan" "sitters" "[I", .fieldLink RX4 18 "PortraitRooms$Plan" "openHours" "[I", .fieldLink RX4 21 "PortraitRooms$Plan" "weights" "[I", .fieldLink RX4 34 "PortraitRooms$Plan" "allWeights" "I"] ++ wsX40)
def wsX4_sitterIsPlaced : List Cond := .code yX4_sitterIsPlaced cX4_sitterIsPlaced 3 (some .boolean) :: ([.fieldLink RX4 15 "PortraitRooms$Plan" "sitters" "[I", .fieldLink RX4 24 "PortraitRooms$Plan" "tried" "[I"] ++ wsX40)
def wsX4_keep : List Cond := .code yX4_keep cX4_keep 3 none :: ([.fieldLink RX4 37 "PortraitRooms$Plan" "bestSum" "I", .fieldLink RX4 30 "PortraitRooms$Plan" "size" "I", .fieldLink RX4 27 "PortraitRooms$Plan" "best" "[I", .fieldLink RX4 24 "PortraitRooms$Plan" "tried" "[I"] ++ wsX40)
def wsX4_hourOf : List Cond := .code yX4_hourOf cX4_hourOf 3 (some .int) :: ([.fieldLink RX4 30 "PortraitRooms$Plan" "size" "I", .fieldLink RX4 9 "PortraitRooms$Plan" "pictures" "[I", .fieldLink RX4 27 "PortraitRooms$Plan" "best" "[I"] ++ wsX40)
def wsX5_init : List Cond := .code yX5_init cX5_init 2 none :: ([.methodLink RX5 3 objectInit, .instanceMethod objectInit, .code objectInit ⟨#[0xb1]⟩ 1 none, .arrayClass .int, .fieldLink RX5 9 "PortraitRooms$Robes" "pictures" "[I", .fieldLink RX5 15 "PortraitRooms$Robes" "days" "[I"] ++ wsX50)
def wsX8_within : List Cond := .code yX8_within cX8_within 2 (some .boolean) :: ([])
def wsX5_isAway : List Cond := .code yX5_isAway cX5_isAway 4 (some .boolean) :: ([.fieldLink RX5 15 "PortraitRooms$Robes" "days" "[I", .fieldLink RX5 9 "PortraitRooms$Robes" "pictures" "[I", .static yX8_within, .initialized RX8, .code yX8_within cX8_within 2 (some .boolean)] ++ wsX50)
def wsX5_take : List Cond := .code yX5_take cX5_take 4 none :: ([.fieldLink RX5 9 "PortraitRooms$Robes" "pictures" "[I", .fieldLink RX5 15 "PortraitRooms$Robes" "days" "[I", .static yX8_within, .initialized RX8, .code yX8_within cX8_within 2 (some .boolean)] ++ wsX50)
def wsX6_init : List Cond := .code yX6_init cX6_init 3 none :: ([.methodLink RX6 1 objectInit, .instanceMethod objectInit, .code objectInit ⟨#[0xb1]⟩ 1 none, .fieldLink RX6 7 "PortraitRooms$Sitter" "first" "I", .fieldLink RX6 13 "PortraitRooms$Sitter" "last" "I"] ++ wsX60)
def wsX6_canCome : List Cond := .code yX6_canCome cX6_canCome 2 (some .boolean) :: ([.fieldLink RX6 7 "PortraitRooms$Sitter" "first" "I", .fieldLink RX6 13 "PortraitRooms$Sitter" "last" "I"] ++ wsX60)
def wsX7_init : List Cond := .code yX7_init cX7_init 1 none :: ([.methodLink RX7 3 objectInit, .instanceMethod objectInit, .code objectInit ⟨#[0xb1]⟩ 1 none, .arrayClass .int, .fieldLink RX7 9 "PortraitRooms$Sittings" "pictures" "[I", .fieldLink RX7 15 "PortraitRooms$Sittings" "sitters" "[I", .fieldLink RX7 18 "PortraitRooms$Sittings" "days" "[I", .fieldLink RX7 21 "PortraitRooms$Sittings" "hours" "[I", .arrayClass .boolean, .fieldLink RX7 24 "PortraitRooms$Sittings" "used" "[Z"] ++ wsX70)
def wsX7_add : List Cond := .code yX7_add cX7_add 5 (some .boolean) :: ([.fieldLink RX7 28 "PortraitRooms$Sittings" "there" "I", .fieldLink RX7 9 "PortraitRooms$Sittings" "pictures" "[I", .fieldLink RX7 15 "PortraitRooms$Sittings" "sitters" "[I", .fieldLink RX7 18 "PortraitRooms$Sittings" "days" "[I", .fieldLink RX7 21 "PortraitRooms$Sittings" "hours" "[I", .fieldLink RX7 24 "PortraitRooms$Sittings" "used" "[Z"] ++ wsX70)
def wsX7_remove : List Cond := .code yX7_remove cX7_remove 2 none :: ([.fieldLink RX7 28 "PortraitRooms$Sittings" "there" "I", .fieldLink RX7 9 "PortraitRooms$Sittings" "pictures" "[I", .fieldLink RX7 15 "PortraitRooms$Sittings" "sitters" "[I", .fieldLink RX7 18 "PortraitRooms$Sittings" "days" "[I", .fieldLink RX7 21 "PortraitRooms$Sittings" "hours" "[I", .fieldLink RX7 24 "PortraitRooms$Sittings" "used" "[Z"] ++ wsX70)
def wsX7_use : List Cond := .code yX7_use cX7_use 2 none :: ([.fieldLink RX7 28 "PortraitRooms$Sittings" "there" "I", .fieldLink RX7 24 "PortraitRooms$Sittings" "used" "[Z"] ++ wsX70)
def wsX7_unusedOf : List Cond := .code yX7_unusedOf cX7_unusedOf 4 (some .int) :: ([.fieldLink RX7 28 "PortraitRooms$Sittings" "there" "I", .fieldLink RX7 9 "PortraitRooms$Sittings" "pictures" "[I", .fieldLink RX7 18 "PortraitRooms$Sittings" "days" "[I", .fieldLink RX7 24 "PortraitRooms$Sittings" "used" "[Z"] ++ wsX70)
def wsX7_isTaken : List Cond := .code yX7_isTaken cX7_isTaken 4 (some .boolean) :: ([.fieldLink RX7 28 "PortraitRooms$Sittings" "there" "I", .fieldLink RX7 18 "PortraitRooms$Sittings" "days" "[I", .fieldLink RX7 21 "PortraitRooms$Sittings" "hours" "[I"] ++ wsX70)
def wsX7_hasSitter : List Cond := .code yX7_hasSitter cX7_hasSitter 4 (some .boolean) :: ([.fieldLink RX7 28 "PortraitRooms$Sittings" "there" "I", .fieldLink RX7 18 "PortraitRooms$Sittings" "days" "[I", .fieldLink RX7 15 "PortraitRooms$Sittings" "sitters" "[I"] ++ wsX70)
def wsX8_init_r1 : List Cond := [Cond.methodLink RX8 3 objectInit, Cond.instanceMethod objectInit, Cond.code objectInit ⟨#[0xb1]⟩ 1 none, Cond.classLink RX8 9 RX1, Cond.instantiable RX1 4, Cond.initialized RX1, Cond.fieldLink RX8 12 "PortraitRooms" "lists" "LPortraitRooms$Lists;", Cond.arrayClass .int, Cond.fieldLink RX8 16 "PortraitRooms" "dryDays" "[I", Cond.classLink RX8 20 RX0, Cond.fieldLink RX8 22 "PortraitRooms" "hands" "[LPortraitRooms$Hand;", Cond.classLink RX8 26 RX6, Cond.fieldLink RX8 28 "PortraitRooms" "sitters" "[LPortraitRooms$Sitter;", Cond.classLink RX8 32 RX3, Cond.fieldLink RX8 34 "PortraitRooms" "pictures" "[LPortraitRooms$Picture;", Cond.classLink RX8 38 RX7, Cond.instantiable RX7 6, Cond.initialized RX7, Cond.fieldLink RX8 41 "PortraitRooms" "sittings" "LPortraitRooms$Sittings;", Cond.classLink RX8 45 RX5, Cond.instantiable RX5 2, Cond.initialized RX5, Cond.fieldLink RX8 48 "PortraitRooms" "robes" "LPortraitRooms$Robes;", Cond.classLink RX8 52 RX4]
def wsX8_init_r2 : List Cond := [Cond.instantiable RX4 9, Cond.initialized RX4, Cond.fieldLink RX8 55 "PortraitRooms" "plan" "LPortraitRooms$Plan;", Cond.instantiable RX0 3, Cond.initialized RX0, Cond.fieldLink RX8 60 "PortraitRooms" "handsHere" "I", Cond.fieldLink RX8 64 "PortraitRooms" "marginNow" "I", Cond.methodLink RX8 11 yX1_init, Cond.instanceMethod yX1_init, Cond.code yX1_init cX1_init 1 none, Cond.methodLink RX1 3 objectInit, Cond.fieldLink RX1 9 "PortraitRooms$Lists" "years" "[I", Cond.fieldLink RX1 15 "PortraitRooms$Lists" "sizes" "[I", Cond.fieldLink RX1 18 "PortraitRooms$Lists" "prices" "[I", Cond.methodLink RX8 40 yX7_init, Cond.instanceMethod yX7_init, Cond.code yX7_init cX7_init 1 none, Cond.methodLink RX7 3 objectInit, Cond.fieldLink RX7 9 "PortraitRooms$Sittings" "pictures" "[I", Cond.fieldLink RX7 15 "PortraitRooms$Sittings" "sitters" "[I", Cond.fieldLink RX7 18 "PortraitRooms$Sittings" "days" "[I", Cond.fieldLink RX7 21 "PortraitRooms$Sittings" "hours" "[I", Cond.arrayClass .boolean, Cond.fieldLink RX7 24 "PortraitRooms$Sittings" "used" "[Z"]
def wsX8_init_r3 : List Cond := [Cond.methodLink RX8 47 yX5_init, Cond.instanceMethod yX5_init, Cond.code yX5_init cX5_init 2 none, Cond.methodLink RX5 3 objectInit, Cond.fieldLink RX5 9 "PortraitRooms$Robes" "pictures" "[I", Cond.fieldLink RX5 15 "PortraitRooms$Robes" "days" "[I", Cond.methodLink RX8 54 yX4_init, Cond.instanceMethod yX4_init, Cond.code yX4_init cX4_init 1 none, Cond.methodLink RX4 3 objectInit, Cond.fieldLink RX4 9 "PortraitRooms$Plan" "pictures" "[I", Cond.fieldLink RX4 15 "PortraitRooms$Plan" "sitters" "[I", Cond.fieldLink RX4 18 "PortraitRooms$Plan" "openHours" "[I", Cond.fieldLink RX4 21 "PortraitRooms$Plan" "weights" "[I", Cond.fieldLink RX4 24 "PortraitRooms$Plan" "tried" "[I", Cond.fieldLink RX4 27 "PortraitRooms$Plan" "best" "[I", Cond.methodLink RX8 59 yX0_init, Cond.instanceMethod yX0_init, Cond.code yX0_init cX0_init 1 none, Cond.methodLink RX0 3 objectInit, Cond.fieldLink RX0 9 "PortraitRooms$Hand" "habits" "I", Cond.fieldLink RX0 15 "PortraitRooms$Hand" "latestDay" "I"]
def wsX8_init : List Cond := .code yX8_init cX8_init 1 none :: ((wsX8_init_r1 ++ (wsX8_init_r2 ++ wsX8_init_r3)) ++ wsX10 ++ wsX80 ++ wsX70 ++ wsX50 ++ wsX40 ++ wsX00)
def wsX8_list : List Cond := .code yX8_list cX8_list 4 (some .boolean) :: ([.fieldLink RX8 12 "PortraitRooms" "lists" "LPortraitRooms$Lists;", .methodLink RX8 67 yX8_within, .static yX8_within, .initialized RX8, .code yX8_within cX8_within 2 (some .boolean), .methodLink RX8 71 yX1_add, .instanceMethod yX1_add, .selects RX1 yX1_add yX1_add, .initialized RX1, .code yX1_add cX1_add 4 (some .boolean), .fieldLink RX1 21 "PortraitRooms$Lists" "known" "I", .fieldLink RX1 9 "PortraitRooms$Lists" "years" "[I", .fieldLink RX1 15 "PortraitRooms$Lists" "sizes" "[I", .fieldLink RX1 18 "PortraitRooms$Lists" "prices" "[I"] ++ wsX80 ++ wsX10)
def wsX8_dry : List Cond := .code yX8_dry cX8_dry 3 (some .boolean) :: ([.fieldLink RX8 16 "PortraitRooms" "dryDays" "[I", .methodLink RX8 67 yX8_within, .static yX8_within, .initialized RX8, .code yX8_within cX8_within 2 (some .boolean)] ++ wsX80)
def wsX8_hand : List Cond := .code yX8_hand cX8_hand 1 (some .int) :: ([.fieldLink RX8 60 "PortraitRooms" "handsHere" "I", .fieldLink RX8 22 "PortraitRooms" "hands" "[LPortraitRooms$Hand;", .classLink RX8 20 RX0, .instantiable RX0 3, .initialized RX0, .methodLink RX8 59 yX0_init, .instanceMethod yX0_init, .code yX0_init cX0_init 1 none, .methodLink RX0 3 objectInit, .instanceMethod objectInit, .code objectInit ⟨#[0xb1]⟩ 1 none, .fieldLink RX0 9 "PortraitRooms$Hand" "habits" "I", .fieldLink RX0 15 "PortraitRooms$Hand" "latestDay" "I"] ++ wsX80 ++ wsX00)
def wsX8_sitter : List Cond := .code yX8_sitter cX8_sitter 3 (some .int) :: ([.fieldLink RX8 75 "PortraitRooms" "sittersHere" "I", .fieldLink RX8 28 "PortraitRooms" "sitters" "[LPortraitRooms$Sitter;", .classLink RX8 26 RX6, .instantiable RX6 3, .initialized RX6, .methodLink RX8 67 yX8_within, .static yX8_within, .initialized RX8, .code yX8_within cX8_within 2 (some .boolean), .methodLink RX8 78 yX6_init, .instanceMethod yX6_init, .code yX6_init cX6_init 3 none, .methodLink RX6 1 objectInit, .instanceMethod objectInit, .code objectInit ⟨#[0xb1]⟩ 1 none, .fieldLink RX6 7 "PortraitRooms$Sitter" "first" "I", .fieldLink RX6 13 "PortraitRooms$Sitter" "last" "I"] ++ wsX80 ++ wsX60)
def wsX8_sitterAt : List Cond := .code yX8_sitterAt cX8_sitterAt 2 (some (.object "PortraitRooms$Sitter")) :: ([.fieldLink RX8 75 "PortraitRooms" "sittersHere" "I", .fieldLink RX8 28 "PortraitRooms" "sitters" "[LPortraitRooms$Sitter;"] ++ wsX80)
def wsX8_layersCanBe : List Cond := .code yX8_layersCanBe cX8_layersCanBe 3 (some .boolean) :: ([])
def wsX8_picture_r1 : List Cond := [Cond.fieldLink RX8 89 "PortraitRooms" "picturesHere" "I", Cond.fieldLink RX8 12 "PortraitRooms" "lists" "LPortraitRooms$Lists;", Cond.fieldLink RX8 92 "PortraitRooms" "now" "I", Cond.fieldLink RX8 34 "PortraitRooms" "pictures" "[LPortraitRooms$Picture;", Cond.classLink RX8 32 RX3, Cond.instantiable RX3 10, Cond.initialized RX3, Cond.fieldLink RX8 102 "PortraitRooms" "allPrices" "I", Cond.fieldLink RX8 105 "PortraitRooms$Sitter" "owes" "I", Cond.methodLink RX8 81 yX8_sitterAt, Cond.instanceMethod yX8_sitterAt, Cond.selects RX8 yX8_sitterAt yX8_sitterAt, Cond.initialized RX8, Cond.code yX8_sitterAt cX8_sitterAt 2 (some (.object "PortraitRooms$Sitter")), Cond.fieldLink RX8 75 "PortraitRooms" "sittersHere" "I", Cond.fieldLink RX8 28 "PortraitRooms" "sitters" "[LPortraitRooms$Sitter;", Cond.methodLink RX8 67 yX8_within, Cond.static yX8_within, Cond.code yX8_within cX8_within 2 (some .boolean), Cond.methodLink RX8 85 yX8_layersCanBe, Cond.static yX8_layersCanBe, Cond.code yX8_layersCanBe cX8_layersCanBe 3 (some .boolean), Cond.methodLink RX8 95 yX1_priceIn, Cond.instanceMethod yX1_priceIn]
def wsX8_picture_r2 : List Cond := [Cond.selects RX1 yX1_priceIn yX1_priceIn, Cond.initialized RX1, Cond.code yX1_priceIn cX1_priceIn 6 (some .int), Cond.fieldLink RX1 21 "PortraitRooms$Lists" "known" "I", Cond.fieldLink RX1 15 "PortraitRooms$Lists" "sizes" "[I", Cond.fieldLink RX1 9 "PortraitRooms$Lists" "years" "[I", Cond.fieldLink RX1 18 "PortraitRooms$Lists" "prices" "[I", Cond.methodLink RX8 99 yX3_init, Cond.instanceMethod yX3_init, Cond.code yX3_init cX3_init 8 none, Cond.methodLink RX3 3 objectInit, Cond.instanceMethod objectInit, Cond.code objectInit ⟨#[0xb1]⟩ 1 none, Cond.fieldLink RX3 9 "PortraitRooms$Picture" "sitter" "I", Cond.fieldLink RX3 15 "PortraitRooms$Picture" "robe" "I", Cond.fieldLink RX3 18 "PortraitRooms$Picture" "price" "I", Cond.fieldLink RX3 21 "PortraitRooms$Picture" "cameOn" "I", Cond.classLink RX3 24 RX2, Cond.fieldLink RX3 26 "PortraitRooms$Picture" "parts" "[LPortraitRooms$Part;", Cond.instantiable RX2 5, Cond.initialized RX2, Cond.fieldLink RX3 33 "PortraitRooms$Picture" "layersLeft" "I", Cond.fieldLink RX3 36 "PortraitRooms$Picture" "doneOn" "I", Cond.fieldLink RX3 39 "PortraitRooms$Picture" "traces" "I"]
def wsX8_picture_r3 : List Cond := [Cond.methodLink RX3 30 yX2_init, Cond.instanceMethod yX2_init, Cond.code yX2_init cX2_init 2 none, Cond.methodLink RX2 3 objectInit, Cond.fieldLink RX2 9 "PortraitRooms$Part" "wanted" "I", Cond.fieldLink RX2 15 "PortraitRooms$Part" "latestDay" "I", Cond.fieldLink RX2 18 "PortraitRooms$Part" "latestHand" "I", Cond.fieldLink RX2 21 "PortraitRooms$Part" "strokes" "I"]
def wsX8_picture : List Cond := .code yX8_picture cX8_picture 8 (some .int) :: ((wsX8_picture_r1 ++ (wsX8_picture_r2 ++ wsX8_picture_r3)) ++ wsX80 ++ wsX30 ++ wsX60 ++ wsX10 ++ wsX20)
def wsX8_go : List Cond := .code yX8_go cX8_go 2 (some .int) :: ([.fieldLink RX8 92 "PortraitRooms" "now" "I", .methodLink RX8 108 Lib.Math.min.name, .static Lib.Math.min.name, .initialized "java/lang/Math", .code Lib.Math.min.name Lib.Math.min.code 2 (some .int), .methodLink RX8 67 yX8_within, .static yX8_within, .initialized RX8, .code yX8_within cX8_within 2 (some .boolean)] ++ wsX80)
def wsX8_lightHours : List Cond := .code yX8_lightHours cX8_lightHours 1 (some .int) :: ([.methodLink RX8 241 Lib.Math.abs.name, .static Lib.Math.abs.name, .initialized "java/lang/Math", .code Lib.Math.abs.name Lib.Math.abs.code 1 (some .int)])
def wsX8_light : List Cond := .code yX8_light cX8_light 2 (some .int) :: ([.methodLink RX8 67 yX8_within, .static yX8_within, .initialized RX8, .code yX8_within cX8_within 2 (some .boolean), .methodLink RX8 113 yX8_lightHours, .static yX8_lightHours, .code yX8_lightHours cX8_lightHours 1 (some .int), .methodLink RX8 241 Lib.Math.abs.name, .static Lib.Math.abs.name, .initialized "java/lang/Math", .code Lib.Math.abs.name Lib.Math.abs.code 1 (some .int)])
def wsX8_pictureAt : List Cond := .code yX8_pictureAt cX8_pictureAt 2 (some (.object "PortraitRooms$Picture")) :: ([.fieldLink RX8 89 "PortraitRooms" "picturesHere" "I", .fieldLink RX8 34 "PortraitRooms" "pictures" "[LPortraitRooms$Picture;"] ++ wsX80)
def wsX8_isNowOrLater : List Cond := .code yX8_isNowOrLater cX8_isNowOrLater 2 (some .boolean) :: ([.fieldLink RX8 92 "PortraitRooms" "now" "I"] ++ wsX80)
def wsX8_book_r1 : List Cond := [Cond.fieldLink RX8 128 "PortraitRooms$Picture" "sitter" "I", Cond.fieldLink RX8 41 "PortraitRooms" "sittings" "LPortraitRooms$Sittings;", Cond.fieldLink RX8 143 "PortraitRooms$Picture" "sittingsBooked" "I", Cond.methodLink RX8 117 yX8_pictureAt, Cond.instanceMethod yX8_pictureAt, Cond.selects RX8 yX8_pictureAt yX8_pictureAt, Cond.initialized RX8, Cond.code yX8_pictureAt cX8_pictureAt 2 (some (.object "PortraitRooms$Picture")), Cond.fieldLink RX8 89 "PortraitRooms" "picturesHere" "I", Cond.fieldLink RX8 34 "PortraitRooms" "pictures" "[LPortraitRooms$Picture;", Cond.methodLink RX8 121 yX3_isDone, Cond.instanceMethod yX3_isDone, Cond.selects RX3 yX3_isDone yX3_isDone, Cond.initialized RX3, Cond.code yX3_isDone cX3_isDone 1 (some .boolean), Cond.fieldLink RX3 36 "PortraitRooms$Picture" "doneOn" "I", Cond.methodLink RX8 125 yX8_isNowOrLater, Cond.instanceMethod yX8_isNowOrLater, Cond.selects RX8 yX8_isNowOrLater yX8_isNowOrLater, Cond.code yX8_isNowOrLater cX8_isNowOrLater 2 (some .boolean), Cond.fieldLink RX8 92 "PortraitRooms" "now" "I", Cond.methodLink RX8 81 yX8_sitterAt, Cond.instanceMethod yX8_sitterAt, Cond.selects RX8 yX8_sitterAt yX8_sitterAt]
def wsX8_book_r2 : List Cond := [Cond.code yX8_sitterAt cX8_sitterAt 2 (some (.object "PortraitRooms$Sitter")), Cond.fieldLink RX8 75 "PortraitRooms" "sittersHere" "I", Cond.fieldLink RX8 28 "PortraitRooms" "sitters" "[LPortraitRooms$Sitter;", Cond.methodLink RX8 113 yX8_lightHours, Cond.static yX8_lightHours, Cond.code yX8_lightHours cX8_lightHours 1 (some .int), Cond.methodLink RX8 241 Lib.Math.abs.name, Cond.static Lib.Math.abs.name, Cond.initialized "java/lang/Math", Cond.code Lib.Math.abs.name Lib.Math.abs.code 1 (some .int), Cond.methodLink RX8 67 yX8_within, Cond.static yX8_within, Cond.code yX8_within cX8_within 2 (some .boolean), Cond.methodLink RX8 131 yX6_canCome, Cond.instanceMethod yX6_canCome, Cond.selects RX6 yX6_canCome yX6_canCome, Cond.initialized RX6, Cond.code yX6_canCome cX6_canCome 2 (some .boolean), Cond.fieldLink RX6 7 "PortraitRooms$Sitter" "first" "I", Cond.fieldLink RX6 13 "PortraitRooms$Sitter" "last" "I", Cond.methodLink RX8 134 yX7_isTaken, Cond.instanceMethod yX7_isTaken, Cond.selects RX7 yX7_isTaken yX7_isTaken, Cond.initialized RX7]
def wsX8_book_r3 : List Cond := [Cond.code yX7_isTaken cX7_isTaken 4 (some .boolean), Cond.fieldLink RX7 28 "PortraitRooms$Sittings" "there" "I", Cond.fieldLink RX7 18 "PortraitRooms$Sittings" "days" "[I", Cond.fieldLink RX7 21 "PortraitRooms$Sittings" "hours" "[I", Cond.methodLink RX8 137 yX7_hasSitter, Cond.instanceMethod yX7_hasSitter, Cond.selects RX7 yX7_hasSitter yX7_hasSitter, Cond.code yX7_hasSitter cX7_hasSitter 4 (some .boolean), Cond.fieldLink RX7 15 "PortraitRooms$Sittings" "sitters" "[I", Cond.methodLink RX8 140 yX7_add, Cond.instanceMethod yX7_add, Cond.selects RX7 yX7_add yX7_add, Cond.code yX7_add cX7_add 5 (some .boolean), Cond.fieldLink RX7 9 "PortraitRooms$Sittings" "pictures" "[I", Cond.fieldLink RX7 24 "PortraitRooms$Sittings" "used" "[Z"]
def wsX8_book : List Cond := .code yX8_book cX8_book 6 (some .boolean) :: ((wsX8_book_r1 ++ (wsX8_book_r2 ++ wsX8_book_r3)) ++ wsX30 ++ wsX80 ++ wsX60 ++ wsX70)
def wsX8_unbook_r1 : List Cond := [Cond.fieldLink RX8 41 "PortraitRooms" "sittings" "LPortraitRooms$Sittings;", Cond.fieldLink RX8 143 "PortraitRooms$Picture" "sittingsBooked" "I", Cond.methodLink RX8 117 yX8_pictureAt, Cond.instanceMethod yX8_pictureAt, Cond.selects RX8 yX8_pictureAt yX8_pictureAt, Cond.initialized RX8, Cond.code yX8_pictureAt cX8_pictureAt 2 (some (.object "PortraitRooms$Picture")), Cond.fieldLink RX8 89 "PortraitRooms" "picturesHere" "I", Cond.fieldLink RX8 34 "PortraitRooms" "pictures" "[LPortraitRooms$Picture;", Cond.methodLink RX8 125 yX8_isNowOrLater, Cond.instanceMethod yX8_isNowOrLater, Cond.selects RX8 yX8_isNowOrLater yX8_isNowOrLater, Cond.code yX8_isNowOrLater cX8_isNowOrLater 2 (some .boolean), Cond.fieldLink RX8 92 "PortraitRooms" "now" "I", Cond.methodLink RX8 146 yX7_unusedOf, Cond.instanceMethod yX7_unusedOf, Cond.selects RX7 yX7_unusedOf yX7_unusedOf, Cond.initialized RX7, Cond.code yX7_unusedOf cX7_unusedOf 4 (some .int), Cond.fieldLink RX7 28 "PortraitRooms$Sittings" "there" "I", Cond.fieldLink RX7 9 "PortraitRooms$Sittings" "pictures" "[I", Cond.fieldLink RX7 18 "PortraitRooms$Sittings" "days" "[I", Cond.fieldLink RX7 24 "PortraitRooms$Sittings" "used" "[Z", Cond.methodLink RX8 149 yX7_remove]
def wsX8_unbook_r2 : List Cond := [Cond.instanceMethod yX7_remove, Cond.selects RX7 yX7_remove yX7_remove, Cond.code yX7_remove cX7_remove 2 none, Cond.fieldLink RX7 15 "PortraitRooms$Sittings" "sitters" "[I", Cond.fieldLink RX7 21 "PortraitRooms$Sittings" "hours" "[I"]
def wsX8_unbook : List Cond := .code yX8_unbook cX8_unbook 5 (some .boolean) :: ((wsX8_unbook_r1 ++ wsX8_unbook_r2) ++ wsX80 ++ wsX30 ++ wsX70)
def wsX8_partAt : List Cond := .code yX8_partAt cX8_partAt 4 (some (.object "PortraitRooms$Part")) :: ([.fieldLink RX8 244 "PortraitRooms$Picture" "parts" "[LPortraitRooms$Part;", .methodLink RX8 117 yX8_pictureAt, .instanceMethod yX8_pictureAt, .selects RX8 yX8_pictureAt yX8_pictureAt, .initialized RX8, .code yX8_pictureAt cX8_pictureAt 2 (some (.object "PortraitRooms$Picture")), .fieldLink RX8 89 "PortraitRooms" "picturesHere" "I", .fieldLink RX8 34 "PortraitRooms" "pictures" "[LPortraitRooms$Picture;", .methodLink RX8 67 yX8_within, .static yX8_within, .code yX8_within cX8_within 2 (some .boolean)] ++ wsX30 ++ wsX80)
def wsX8_handAt : List Cond := .code yX8_handAt cX8_handAt 2 (some (.object "PortraitRooms$Hand")) :: ([.fieldLink RX8 60 "PortraitRooms" "handsHere" "I", .fieldLink RX8 22 "PortraitRooms" "hands" "[LPortraitRooms$Hand;"] ++ wsX80)
def wsX8_standsAgainst_r1 : List Cond := [Cond.fieldLink RX8 92 "PortraitRooms" "now" "I", Cond.fieldLink RX8 16 "PortraitRooms" "dryDays" "[I", Cond.fieldLink RX8 41 "PortraitRooms" "sittings" "LPortraitRooms$Sittings;", Cond.fieldLink RX8 48 "PortraitRooms" "robes" "LPortraitRooms$Robes;", Cond.fieldLink RX8 254 "PortraitRooms$Picture" "robe" "I", Cond.methodLink RX8 117 yX8_pictureAt, Cond.instanceMethod yX8_pictureAt, Cond.selects RX8 yX8_pictureAt yX8_pictureAt, Cond.initialized RX8, Cond.code yX8_pictureAt cX8_pictureAt 2 (some (.object "PortraitRooms$Picture")), Cond.fieldLink RX8 89 "PortraitRooms" "picturesHere" "I", Cond.fieldLink RX8 34 "PortraitRooms" "pictures" "[LPortraitRooms$Picture;", Cond.methodLink RX8 190 yX8_partAt, Cond.instanceMethod yX8_partAt, Cond.selects RX8 yX8_partAt yX8_partAt, Cond.code yX8_partAt cX8_partAt 4 (some (.object "PortraitRooms$Part")), Cond.fieldLink RX8 244 "PortraitRooms$Picture" "parts" "[LPortraitRooms$Part;", Cond.methodLink RX8 67 yX8_within, Cond.static yX8_within, Cond.code yX8_within cX8_within 2 (some .boolean), Cond.methodLink RX8 183 yX8_handAt, Cond.instanceMethod yX8_handAt, Cond.selects RX8 yX8_handAt yX8_handAt, Cond.code yX8_handAt cX8_handAt 2 (some (.object "PortraitRooms$Hand"))]
def wsX8_standsAgainst_r2 : List Cond := [Cond.fieldLink RX8 60 "PortraitRooms" "handsHere" "I", Cond.fieldLink RX8 22 "PortraitRooms" "hands" "[LPortraitRooms$Hand;", Cond.methodLink RX8 248 yX2_wantsMore, Cond.instanceMethod yX2_wantsMore, Cond.selects RX2 yX2_wantsMore yX2_wantsMore, Cond.initialized RX2, Cond.code yX2_wantsMore cX2_wantsMore 1 (some .boolean), Cond.fieldLink RX2 24 "PortraitRooms$Part" "painted" "I", Cond.fieldLink RX2 9 "PortraitRooms$Part" "wanted" "I", Cond.methodLink RX8 229 yX2_isWet, Cond.instanceMethod yX2_isWet, Cond.selects RX2 yX2_isWet yX2_isWet, Cond.code yX2_isWet cX2_isWet 3 (some .boolean), Cond.fieldLink RX2 15 "PortraitRooms$Part" "latestDay" "I", Cond.methodLink RX8 251 yX0_layersOn, Cond.instanceMethod yX0_layersOn, Cond.selects RX0 yX0_layersOn yX0_layersOn, Cond.initialized RX0, Cond.code yX0_layersOn cX0_layersOn 2 (some .int), Cond.fieldLink RX0 15 "PortraitRooms$Hand" "latestDay" "I", Cond.fieldLink RX0 18 "PortraitRooms$Hand" "layersThen" "I", Cond.methodLink RX8 146 yX7_unusedOf, Cond.instanceMethod yX7_unusedOf, Cond.selects RX7 yX7_unusedOf yX7_unusedOf]
def wsX8_standsAgainst_r3 : List Cond := [Cond.initialized RX7, Cond.code yX7_unusedOf cX7_unusedOf 4 (some .int), Cond.fieldLink RX7 28 "PortraitRooms$Sittings" "there" "I", Cond.fieldLink RX7 9 "PortraitRooms$Sittings" "pictures" "[I", Cond.fieldLink RX7 18 "PortraitRooms$Sittings" "days" "[I", Cond.fieldLink RX7 24 "PortraitRooms$Sittings" "used" "[Z", Cond.methodLink RX8 257 yX5_isAway, Cond.instanceMethod yX5_isAway, Cond.selects RX5 yX5_isAway yX5_isAway, Cond.initialized RX5, Cond.code yX5_isAway cX5_isAway 4 (some .boolean), Cond.fieldLink RX5 15 "PortraitRooms$Robes" "days" "[I", Cond.fieldLink RX5 9 "PortraitRooms$Robes" "pictures" "[I"]
def wsX8_standsAgainst : List Cond := .code yX8_standsAgainst cX8_standsAgainst 7 (some .int) :: ((wsX8_standsAgainst_r1 ++ (wsX8_standsAgainst_r2 ++ wsX8_standsAgainst_r3)) ++ wsX80 ++ wsX30 ++ wsX20 ++ wsX00 ++ wsX70 ++ wsX50)
def wsX8_finish : List Cond := .code yX8_finish cX8_finish 3 none :: ([.fieldLink RX8 92 "PortraitRooms" "now" "I", .fieldLink RX8 211 "PortraitRooms$Picture" "doneOn" "I", .fieldLink RX8 232 "PortraitRooms" "picturesDone" "I", .fieldLink RX8 128 "PortraitRooms$Picture" "sitter" "I", .fieldLink RX8 105 "PortraitRooms$Sitter" "owes" "I", .fieldLink RX8 205 "PortraitRooms$Picture" "price" "I", .methodLink RX8 81 yX8_sitterAt, .instanceMethod yX8_sitterAt, .selects RX8 yX8_sitterAt yX8_sitterAt, .initialized RX8, .code yX8_sitterAt cX8_sitterAt 2 (some (.object "PortraitRooms$Sitter")), .fieldLink RX8 75 "PortraitRooms" "sittersHere" "I", .fieldLink RX8 28 "PortraitRooms" "sitters" "[LPortraitRooms$Sitter;"] ++ wsX80 ++ wsX30 ++ wsX60)
def wsX8_addLayer_r1 : List Cond := [Cond.fieldLink RX8 217 "PortraitRooms$Part" "painted" "I", Cond.fieldLink RX8 92 "PortraitRooms" "now" "I", Cond.fieldLink RX8 223 "PortraitRooms$Part" "latestDay" "I", Cond.fieldLink RX8 226 "PortraitRooms$Part" "latestHand" "I", Cond.fieldLink RX8 238 "PortraitRooms" "layersEver" "I", Cond.fieldLink RX8 41 "PortraitRooms" "sittings" "LPortraitRooms$Sittings;", Cond.fieldLink RX8 214 "PortraitRooms$Picture" "sittingsUsed" "I", Cond.fieldLink RX8 48 "PortraitRooms" "robes" "LPortraitRooms$Robes;", Cond.fieldLink RX8 254 "PortraitRooms$Picture" "robe" "I", Cond.fieldLink RX8 269 "PortraitRooms$Picture" "layersLeft" "I", Cond.methodLink RX8 117 yX8_pictureAt, Cond.instanceMethod yX8_pictureAt, Cond.selects RX8 yX8_pictureAt yX8_pictureAt, Cond.initialized RX8, Cond.code yX8_pictureAt cX8_pictureAt 2 (some (.object "PortraitRooms$Picture")), Cond.fieldLink RX8 89 "PortraitRooms" "picturesHere" "I", Cond.fieldLink RX8 34 "PortraitRooms" "pictures" "[LPortraitRooms$Picture;", Cond.methodLink RX8 190 yX8_partAt, Cond.instanceMethod yX8_partAt, Cond.selects RX8 yX8_partAt yX8_partAt, Cond.code yX8_partAt cX8_partAt 4 (some (.object "PortraitRooms$Part")), Cond.fieldLink RX8 244 "PortraitRooms$Picture" "parts" "[LPortraitRooms$Part;", Cond.methodLink RX8 67 yX8_within, Cond.static yX8_within]
def wsX8_addLayer_r2 : List Cond := [Cond.code yX8_within cX8_within 2 (some .boolean), Cond.methodLink RX8 183 yX8_handAt, Cond.instanceMethod yX8_handAt, Cond.selects RX8 yX8_handAt yX8_handAt, Cond.code yX8_handAt cX8_handAt 2 (some (.object "PortraitRooms$Hand")), Cond.fieldLink RX8 60 "PortraitRooms" "handsHere" "I", Cond.fieldLink RX8 22 "PortraitRooms" "hands" "[LPortraitRooms$Hand;", Cond.methodLink RX8 260 yX0_addLayerOn, Cond.instanceMethod yX0_addLayerOn, Cond.selects RX0 yX0_addLayerOn yX0_addLayerOn, Cond.initialized RX0, Cond.code yX0_addLayerOn cX0_addLayerOn 2 none, Cond.fieldLink RX0 18 "PortraitRooms$Hand" "layersThen" "I", Cond.fieldLink RX0 15 "PortraitRooms$Hand" "latestDay" "I", Cond.methodLink RX0 21 yX0_layersOn, Cond.instanceMethod yX0_layersOn, Cond.selects RX0 yX0_layersOn yX0_layersOn, Cond.code yX0_layersOn cX0_layersOn 2 (some .int), Cond.methodLink RX8 146 yX7_unusedOf, Cond.instanceMethod yX7_unusedOf, Cond.selects RX7 yX7_unusedOf yX7_unusedOf, Cond.initialized RX7, Cond.code yX7_unusedOf cX7_unusedOf 4 (some .int), Cond.fieldLink RX7 28 "PortraitRooms$Sittings" "there" "I"]
def wsX8_addLayer_r3 : List Cond := [Cond.fieldLink RX7 9 "PortraitRooms$Sittings" "pictures" "[I", Cond.fieldLink RX7 18 "PortraitRooms$Sittings" "days" "[I", Cond.fieldLink RX7 24 "PortraitRooms$Sittings" "used" "[Z", Cond.methodLink RX8 263 yX7_use, Cond.instanceMethod yX7_use, Cond.selects RX7 yX7_use yX7_use, Cond.code yX7_use cX7_use 2 none, Cond.methodLink RX8 266 yX5_take, Cond.instanceMethod yX5_take, Cond.selects RX5 yX5_take yX5_take, Cond.initialized RX5, Cond.code yX5_take cX5_take 4 none, Cond.fieldLink RX5 9 "PortraitRooms$Robes" "pictures" "[I", Cond.fieldLink RX5 15 "PortraitRooms$Robes" "days" "[I", Cond.methodLink RX8 272 yX8_finish, Cond.instanceMethod yX8_finish, Cond.selects RX8 yX8_finish yX8_finish, Cond.code yX8_finish cX8_finish 3 none, Cond.fieldLink RX8 211 "PortraitRooms$Picture" "doneOn" "I", Cond.fieldLink RX8 232 "PortraitRooms" "picturesDone" "I", Cond.fieldLink RX8 128 "PortraitRooms$Picture" "sitter" "I", Cond.fieldLink RX8 105 "PortraitRooms$Sitter" "owes" "I", Cond.fieldLink RX8 205 "PortraitRooms$Picture" "price" "I", Cond.methodLink RX8 81 yX8_sitterAt]
def wsX8_addLayer_r4 : List Cond := [Cond.instanceMethod yX8_sitterAt, Cond.selects RX8 yX8_sitterAt yX8_sitterAt, Cond.code yX8_sitterAt cX8_sitterAt 2 (some (.object "PortraitRooms$Sitter")), Cond.fieldLink RX8 75 "PortraitRooms" "sittersHere" "I", Cond.fieldLink RX8 28 "PortraitRooms" "sitters" "[LPortraitRooms$Sitter;"]
def wsX8_addLayer : List Cond := .code yX8_addLayer cX8_addLayer 7 none :: ((wsX8_addLayer_r1 ++ (wsX8_addLayer_r2 ++ (wsX8_addLayer_r3 ++ wsX8_addLayer_r4))) ++ wsX20 ++ wsX80 ++ wsX30 ++ wsX00 ++ wsX70 ++ wsX50 ++ wsX60)
def wsX8_paint_r1 : List Cond := [Cond.methodLink RX8 153 yX8_standsAgainst, Cond.instanceMethod yX8_standsAgainst, Cond.selects RX8 yX8_standsAgainst yX8_standsAgainst, Cond.initialized RX8, Cond.code yX8_standsAgainst cX8_standsAgainst 7 (some .int), Cond.fieldLink RX8 92 "PortraitRooms" "now" "I", Cond.fieldLink RX8 16 "PortraitRooms" "dryDays" "[I", Cond.fieldLink RX8 41 "PortraitRooms" "sittings" "LPortraitRooms$Sittings;", Cond.fieldLink RX8 48 "PortraitRooms" "robes" "LPortraitRooms$Robes;", Cond.fieldLink RX8 254 "PortraitRooms$Picture" "robe" "I", Cond.methodLink RX8 117 yX8_pictureAt, Cond.instanceMethod yX8_pictureAt, Cond.selects RX8 yX8_pictureAt yX8_pictureAt, Cond.code yX8_pictureAt cX8_pictureAt 2 (some (.object "PortraitRooms$Picture")), Cond.fieldLink RX8 89 "PortraitRooms" "picturesHere" "I", Cond.fieldLink RX8 34 "PortraitRooms" "pictures" "[LPortraitRooms$Picture;", Cond.methodLink RX8 190 yX8_partAt, Cond.instanceMethod yX8_partAt, Cond.selects RX8 yX8_partAt yX8_partAt, Cond.code yX8_partAt cX8_partAt 4 (some (.object "PortraitRooms$Part")), Cond.fieldLink RX8 244 "PortraitRooms$Picture" "parts" "[LPortraitRooms$Part;", Cond.methodLink RX8 67 yX8_within, Cond.static yX8_within, Cond.code yX8_within cX8_within 2 (some .boolean)]
def wsX8_paint_r2 : List Cond := [Cond.methodLink RX8 183 yX8_handAt, Cond.instanceMethod yX8_handAt, Cond.selects RX8 yX8_handAt yX8_handAt, Cond.code yX8_handAt cX8_handAt 2 (some (.object "PortraitRooms$Hand")), Cond.fieldLink RX8 60 "PortraitRooms" "handsHere" "I", Cond.fieldLink RX8 22 "PortraitRooms" "hands" "[LPortraitRooms$Hand;", Cond.methodLink RX8 248 yX2_wantsMore, Cond.instanceMethod yX2_wantsMore, Cond.selects RX2 yX2_wantsMore yX2_wantsMore, Cond.initialized RX2, Cond.code yX2_wantsMore cX2_wantsMore 1 (some .boolean), Cond.fieldLink RX2 24 "PortraitRooms$Part" "painted" "I", Cond.fieldLink RX2 9 "PortraitRooms$Part" "wanted" "I", Cond.methodLink RX8 229 yX2_isWet, Cond.instanceMethod yX2_isWet, Cond.selects RX2 yX2_isWet yX2_isWet, Cond.code yX2_isWet cX2_isWet 3 (some .boolean), Cond.fieldLink RX2 15 "PortraitRooms$Part" "latestDay" "I", Cond.methodLink RX8 251 yX0_layersOn, Cond.instanceMethod yX0_layersOn, Cond.selects RX0 yX0_layersOn yX0_layersOn, Cond.initialized RX0, Cond.code yX0_layersOn cX0_layersOn 2 (some .int), Cond.fieldLink RX0 15 "PortraitRooms$Hand" "latestDay" "I"]
def wsX8_paint_r3 : List Cond := [Cond.fieldLink RX0 18 "PortraitRooms$Hand" "layersThen" "I", Cond.methodLink RX8 146 yX7_unusedOf, Cond.instanceMethod yX7_unusedOf, Cond.selects RX7 yX7_unusedOf yX7_unusedOf, Cond.initialized RX7, Cond.code yX7_unusedOf cX7_unusedOf 4 (some .int), Cond.fieldLink RX7 28 "PortraitRooms$Sittings" "there" "I", Cond.fieldLink RX7 9 "PortraitRooms$Sittings" "pictures" "[I", Cond.fieldLink RX7 18 "PortraitRooms$Sittings" "days" "[I", Cond.fieldLink RX7 24 "PortraitRooms$Sittings" "used" "[Z", Cond.methodLink RX8 257 yX5_isAway, Cond.instanceMethod yX5_isAway, Cond.selects RX5 yX5_isAway yX5_isAway, Cond.initialized RX5, Cond.code yX5_isAway cX5_isAway 4 (some .boolean), Cond.fieldLink RX5 15 "PortraitRooms$Robes" "days" "[I", Cond.fieldLink RX5 9 "PortraitRooms$Robes" "pictures" "[I", Cond.methodLink RX8 157 yX8_addLayer, Cond.instanceMethod yX8_addLayer, Cond.selects RX8 yX8_addLayer yX8_addLayer, Cond.code yX8_addLayer cX8_addLayer 7 none, Cond.fieldLink RX8 217 "PortraitRooms$Part" "painted" "I", Cond.fieldLink RX8 223 "PortraitRooms$Part" "latestDay" "I", Cond.fieldLink RX8 226 "PortraitRooms$Part" "latestHand" "I"]
def wsX8_paint_r4 : List Cond := [Cond.fieldLink RX8 238 "PortraitRooms" "layersEver" "I", Cond.fieldLink RX8 214 "PortraitRooms$Picture" "sittingsUsed" "I", Cond.fieldLink RX8 269 "PortraitRooms$Picture" "layersLeft" "I", Cond.methodLink RX8 260 yX0_addLayerOn, Cond.instanceMethod yX0_addLayerOn, Cond.selects RX0 yX0_addLayerOn yX0_addLayerOn, Cond.code yX0_addLayerOn cX0_addLayerOn 2 none, Cond.methodLink RX0 21 yX0_layersOn, Cond.methodLink RX8 263 yX7_use, Cond.instanceMethod yX7_use, Cond.selects RX7 yX7_use yX7_use, Cond.code yX7_use cX7_use 2 none, Cond.methodLink RX8 266 yX5_take, Cond.instanceMethod yX5_take, Cond.selects RX5 yX5_take yX5_take, Cond.code yX5_take cX5_take 4 none, Cond.methodLink RX8 272 yX8_finish, Cond.instanceMethod yX8_finish, Cond.selects RX8 yX8_finish yX8_finish, Cond.code yX8_finish cX8_finish 3 none, Cond.fieldLink RX8 211 "PortraitRooms$Picture" "doneOn" "I", Cond.fieldLink RX8 232 "PortraitRooms" "picturesDone" "I", Cond.fieldLink RX8 128 "PortraitRooms$Picture" "sitter" "I", Cond.fieldLink RX8 105 "PortraitRooms$Sitter" "owes" "I"]
def wsX8_paint_r5 : List Cond := [Cond.fieldLink RX8 205 "PortraitRooms$Picture" "price" "I", Cond.methodLink RX8 81 yX8_sitterAt, Cond.instanceMethod yX8_sitterAt, Cond.selects RX8 yX8_sitterAt yX8_sitterAt, Cond.code yX8_sitterAt cX8_sitterAt 2 (some (.object "PortraitRooms$Sitter")), Cond.fieldLink RX8 75 "PortraitRooms" "sittersHere" "I", Cond.fieldLink RX8 28 "PortraitRooms" "sitters" "[LPortraitRooms$Sitter;"]
def wsX8_paint : List Cond := .code yX8_paint cX8_paint 5 (some .int) :: ((wsX8_paint_r1 ++ (wsX8_paint_r2 ++ (wsX8_paint_r3 ++ (wsX8_paint_r4 ++ wsX8_paint_r5)))) ++ wsX80 ++ wsX30 ++ wsX20 ++ wsX00 ++ wsX70 ++ wsX50 ++ wsX60)
def wsX8_pay : List Cond := .code yX8_pay cX8_pay 4 (some .int) :: ([.fieldLink RX8 105 "PortraitRooms$Sitter" "owes" "I", .fieldLink RX8 161 "PortraitRooms" "coinsPaid" "I", .methodLink RX8 81 yX8_sitterAt, .instanceMethod yX8_sitterAt, .selects RX8 yX8_sitterAt yX8_sitterAt, .initialized RX8, .code yX8_sitterAt cX8_sitterAt 2 (some (.object "PortraitRooms$Sitter")), .fieldLink RX8 75 "PortraitRooms" "sittersHere" "I", .fieldLink RX8 28 "PortraitRooms" "sitters" "[LPortraitRooms$Sitter;"] ++ wsX60 ++ wsX80)
def wsX8_hoursFor_r1 : List Cond := [Cond.fieldLink RX8 41 "PortraitRooms" "sittings" "LPortraitRooms$Sittings;", Cond.methodLink RX8 81 yX8_sitterAt, Cond.instanceMethod yX8_sitterAt, Cond.selects RX8 yX8_sitterAt yX8_sitterAt, Cond.initialized RX8, Cond.code yX8_sitterAt cX8_sitterAt 2 (some (.object "PortraitRooms$Sitter")), Cond.fieldLink RX8 75 "PortraitRooms" "sittersHere" "I", Cond.fieldLink RX8 28 "PortraitRooms" "sitters" "[LPortraitRooms$Sitter;", Cond.methodLink RX8 113 yX8_lightHours, Cond.static yX8_lightHours, Cond.code yX8_lightHours cX8_lightHours 1 (some .int), Cond.methodLink RX8 241 Lib.Math.abs.name, Cond.static Lib.Math.abs.name, Cond.initialized "java/lang/Math", Cond.code Lib.Math.abs.name Lib.Math.abs.code 1 (some .int), Cond.methodLink RX8 131 yX6_canCome, Cond.instanceMethod yX6_canCome, Cond.selects RX6 yX6_canCome yX6_canCome, Cond.initialized RX6, Cond.code yX6_canCome cX6_canCome 2 (some .boolean), Cond.fieldLink RX6 7 "PortraitRooms$Sitter" "first" "I", Cond.fieldLink RX6 13 "PortraitRooms$Sitter" "last" "I", Cond.methodLink RX8 134 yX7_isTaken, Cond.instanceMethod yX7_isTaken]
def wsX8_hoursFor_r2 : List Cond := [Cond.selects RX7 yX7_isTaken yX7_isTaken, Cond.initialized RX7, Cond.code yX7_isTaken cX7_isTaken 4 (some .boolean), Cond.fieldLink RX7 28 "PortraitRooms$Sittings" "there" "I", Cond.fieldLink RX7 18 "PortraitRooms$Sittings" "days" "[I", Cond.fieldLink RX7 21 "PortraitRooms$Sittings" "hours" "[I"]
def wsX8_hoursFor : List Cond := .code yX8_hoursFor cX8_hoursFor 7 (some .int) :: ((wsX8_hoursFor_r1 ++ wsX8_hoursFor_r2) ++ wsX80 ++ wsX60 ++ wsX70)
def wsX8_search : List Cond := .code yX8_search cX8_search 9 none :: ([.fieldLink RX8 170 "PortraitRooms$Plan" "bestSum" "I", .fieldLink RX8 286 "PortraitRooms$Plan" "size" "I", .fieldLink RX8 299 "PortraitRooms$Plan" "weights" "[I", .fieldLink RX8 305 "PortraitRooms$Plan" "openHours" "[I", .fieldLink RX8 308 "PortraitRooms$Plan" "tried" "[I", .methodLink RX8 296 yX4_keep, .instanceMethod yX4_keep, .selects RX4 yX4_keep yX4_keep, .initialized RX4, .code yX4_keep cX4_keep 3 none, .fieldLink RX4 37 "PortraitRooms$Plan" "bestSum" "I", .fieldLink RX4 30 "PortraitRooms$Plan" "size" "I", .fieldLink RX4 27 "PortraitRooms$Plan" "best" "[I", .fieldLink RX4 24 "PortraitRooms$Plan" "tried" "[I", .methodLink RX8 302 yX4_sitterIsPlaced, .instanceMethod yX4_sitterIsPlaced, .selects RX4 yX4_sitterIsPlaced yX4_sitterIsPlaced, .code yX4_sitterIsPlaced cX4_sitterIsPlaced 3 (some .boolean), .fieldLink RX4 15 "PortraitRooms$Plan" "sitters" "[I", .methodLink RX8 292 yX8_search, .static yX8_search, .initialized RX8] ++ wsX40)
def wsX8_makePlan_r1 : List Cond := [Cond.fieldLink RX8 55 "PortraitRooms" "plan" "LPortraitRooms$Plan;", Cond.fieldLink RX8 89 "PortraitRooms" "picturesHere" "I", Cond.fieldLink RX8 41 "PortraitRooms" "sittings" "LPortraitRooms$Sittings;", Cond.fieldLink RX8 128 "PortraitRooms$Picture" "sitter" "I", Cond.fieldLink RX8 92 "PortraitRooms" "now" "I", Cond.fieldLink RX8 208 "PortraitRooms$Picture" "cameOn" "I", Cond.fieldLink RX8 286 "PortraitRooms$Plan" "size" "I", Cond.fieldLink RX8 289 "PortraitRooms$Plan" "allWeights" "I", Cond.methodLink RX8 125 yX8_isNowOrLater, Cond.instanceMethod yX8_isNowOrLater, Cond.selects RX8 yX8_isNowOrLater yX8_isNowOrLater, Cond.initialized RX8, Cond.code yX8_isNowOrLater cX8_isNowOrLater 2 (some .boolean), Cond.methodLink RX8 276 yX4_clear, Cond.instanceMethod yX4_clear, Cond.selects RX4 yX4_clear yX4_clear, Cond.initialized RX4, Cond.code yX4_clear cX4_clear 1 none, Cond.fieldLink RX4 30 "PortraitRooms$Plan" "size" "I", Cond.fieldLink RX4 34 "PortraitRooms$Plan" "allWeights" "I", Cond.fieldLink RX4 37 "PortraitRooms$Plan" "bestSum" "I", Cond.methodLink RX8 117 yX8_pictureAt, Cond.instanceMethod yX8_pictureAt, Cond.selects RX8 yX8_pictureAt yX8_pictureAt]
def wsX8_makePlan_r2 : List Cond := [Cond.code yX8_pictureAt cX8_pictureAt 2 (some (.object "PortraitRooms$Picture")), Cond.fieldLink RX8 34 "PortraitRooms" "pictures" "[LPortraitRooms$Picture;", Cond.methodLink RX8 279 yX3_wantsHead, Cond.instanceMethod yX3_wantsHead, Cond.selects RX3 yX3_wantsHead yX3_wantsHead, Cond.initialized RX3, Cond.code yX3_wantsHead cX3_wantsHead 2 (some .boolean), Cond.fieldLink RX3 26 "PortraitRooms$Picture" "parts" "[LPortraitRooms$Part;", Cond.methodLink RX3 42 yX2_wantsMore, Cond.instanceMethod yX2_wantsMore, Cond.selects RX2 yX2_wantsMore yX2_wantsMore, Cond.initialized RX2, Cond.code yX2_wantsMore cX2_wantsMore 1 (some .boolean), Cond.fieldLink RX2 24 "PortraitRooms$Part" "painted" "I", Cond.fieldLink RX2 9 "PortraitRooms$Part" "wanted" "I", Cond.methodLink RX8 137 yX7_hasSitter, Cond.instanceMethod yX7_hasSitter, Cond.selects RX7 yX7_hasSitter yX7_hasSitter, Cond.initialized RX7, Cond.code yX7_hasSitter cX7_hasSitter 4 (some .boolean), Cond.fieldLink RX7 28 "PortraitRooms$Sittings" "there" "I", Cond.fieldLink RX7 18 "PortraitRooms$Sittings" "days" "[I", Cond.fieldLink RX7 15 "PortraitRooms$Sittings" "sitters" "[I", Cond.methodLink RX8 282 yX8_hoursFor]
def wsX8_makePlan_r3 : List Cond := [Cond.instanceMethod yX8_hoursFor, Cond.selects RX8 yX8_hoursFor yX8_hoursFor, Cond.code yX8_hoursFor cX8_hoursFor 7 (some .int), Cond.methodLink RX8 81 yX8_sitterAt, Cond.instanceMethod yX8_sitterAt, Cond.selects RX8 yX8_sitterAt yX8_sitterAt, Cond.code yX8_sitterAt cX8_sitterAt 2 (some (.object "PortraitRooms$Sitter")), Cond.fieldLink RX8 75 "PortraitRooms" "sittersHere" "I", Cond.fieldLink RX8 28 "PortraitRooms" "sitters" "[LPortraitRooms$Sitter;", Cond.methodLink RX8 113 yX8_lightHours, Cond.static yX8_lightHours, Cond.code yX8_lightHours cX8_lightHours 1 (some .int), Cond.methodLink RX8 241 Lib.Math.abs.name, Cond.static Lib.Math.abs.name, Cond.initialized "java/lang/Math", Cond.code Lib.Math.abs.name Lib.Math.abs.code 1 (some .int), Cond.methodLink RX8 131 yX6_canCome, Cond.instanceMethod yX6_canCome, Cond.selects RX6 yX6_canCome yX6_canCome, Cond.initialized RX6, Cond.code yX6_canCome cX6_canCome 2 (some .boolean), Cond.fieldLink RX6 7 "PortraitRooms$Sitter" "first" "I", Cond.fieldLink RX6 13 "PortraitRooms$Sitter" "last" "I", Cond.methodLink RX8 134 yX7_isTaken]
def wsX8_makePlan_r4 : List Cond := [Cond.instanceMethod yX7_isTaken, Cond.selects RX7 yX7_isTaken yX7_isTaken, Cond.code yX7_isTaken cX7_isTaken 4 (some .boolean), Cond.fieldLink RX7 21 "PortraitRooms$Sittings" "hours" "[I", Cond.methodLink RX8 285 yX4_add, Cond.instanceMethod yX4_add, Cond.selects RX4 yX4_add yX4_add, Cond.code yX4_add cX4_add 5 (some .boolean), Cond.fieldLink RX4 9 "PortraitRooms$Plan" "pictures" "[I", Cond.fieldLink RX4 15 "PortraitRooms$Plan" "sitters" "[I", Cond.fieldLink RX4 18 "PortraitRooms$Plan" "openHours" "[I", Cond.fieldLink RX4 21 "PortraitRooms$Plan" "weights" "[I", Cond.methodLink RX8 292 yX8_search, Cond.static yX8_search, Cond.code yX8_search cX8_search 9 none, Cond.fieldLink RX8 170 "PortraitRooms$Plan" "bestSum" "I", Cond.fieldLink RX8 299 "PortraitRooms$Plan" "weights" "[I", Cond.fieldLink RX8 305 "PortraitRooms$Plan" "openHours" "[I", Cond.fieldLink RX8 308 "PortraitRooms$Plan" "tried" "[I", Cond.methodLink RX8 296 yX4_keep, Cond.instanceMethod yX4_keep, Cond.selects RX4 yX4_keep yX4_keep, Cond.code yX4_keep cX4_keep 3 none, Cond.fieldLink RX4 27 "PortraitRooms$Plan" "best" "[I"]
def wsX8_makePlan_r5 : List Cond := [Cond.fieldLink RX4 24 "PortraitRooms$Plan" "tried" "[I", Cond.methodLink RX8 302 yX4_sitterIsPlaced, Cond.instanceMethod yX4_sitterIsPlaced, Cond.selects RX4 yX4_sitterIsPlaced yX4_sitterIsPlaced, Cond.code yX4_sitterIsPlaced cX4_sitterIsPlaced 3 (some .boolean)]
def wsX8_makePlan : List Cond := .code yX8_makePlan cX8_makePlan 5 (some .boolean) :: ((wsX8_makePlan_r1 ++ (wsX8_makePlan_r2 ++ (wsX8_makePlan_r3 ++ (wsX8_makePlan_r4 ++ wsX8_makePlan_r5)))) ++ wsX80 ++ wsX30 ++ wsX40 ++ wsX20 ++ wsX70 ++ wsX60)
def wsX8_planned_r1 : List Cond := [Cond.fieldLink RX8 55 "PortraitRooms" "plan" "LPortraitRooms$Plan;", Cond.methodLink RX8 164 yX8_makePlan, Cond.instanceMethod yX8_makePlan, Cond.selects RX8 yX8_makePlan yX8_makePlan, Cond.initialized RX8, Cond.code yX8_makePlan cX8_makePlan 5 (some .boolean), Cond.fieldLink RX8 89 "PortraitRooms" "picturesHere" "I", Cond.fieldLink RX8 41 "PortraitRooms" "sittings" "LPortraitRooms$Sittings;", Cond.fieldLink RX8 128 "PortraitRooms$Picture" "sitter" "I", Cond.fieldLink RX8 92 "PortraitRooms" "now" "I", Cond.fieldLink RX8 208 "PortraitRooms$Picture" "cameOn" "I", Cond.fieldLink RX8 286 "PortraitRooms$Plan" "size" "I", Cond.fieldLink RX8 289 "PortraitRooms$Plan" "allWeights" "I", Cond.methodLink RX8 125 yX8_isNowOrLater, Cond.instanceMethod yX8_isNowOrLater, Cond.selects RX8 yX8_isNowOrLater yX8_isNowOrLater, Cond.code yX8_isNowOrLater cX8_isNowOrLater 2 (some .boolean), Cond.methodLink RX8 276 yX4_clear, Cond.instanceMethod yX4_clear, Cond.selects RX4 yX4_clear yX4_clear, Cond.initialized RX4, Cond.code yX4_clear cX4_clear 1 none, Cond.fieldLink RX4 30 "PortraitRooms$Plan" "size" "I", Cond.fieldLink RX4 34 "PortraitRooms$Plan" "allWeights" "I"]
def wsX8_planned_r2 : List Cond := [Cond.fieldLink RX4 37 "PortraitRooms$Plan" "bestSum" "I", Cond.methodLink RX8 117 yX8_pictureAt, Cond.instanceMethod yX8_pictureAt, Cond.selects RX8 yX8_pictureAt yX8_pictureAt, Cond.code yX8_pictureAt cX8_pictureAt 2 (some (.object "PortraitRooms$Picture")), Cond.fieldLink RX8 34 "PortraitRooms" "pictures" "[LPortraitRooms$Picture;", Cond.methodLink RX8 279 yX3_wantsHead, Cond.instanceMethod yX3_wantsHead, Cond.selects RX3 yX3_wantsHead yX3_wantsHead, Cond.initialized RX3, Cond.code yX3_wantsHead cX3_wantsHead 2 (some .boolean), Cond.fieldLink RX3 26 "PortraitRooms$Picture" "parts" "[LPortraitRooms$Part;", Cond.methodLink RX3 42 yX2_wantsMore, Cond.instanceMethod yX2_wantsMore, Cond.selects RX2 yX2_wantsMore yX2_wantsMore, Cond.initialized RX2, Cond.code yX2_wantsMore cX2_wantsMore 1 (some .boolean), Cond.fieldLink RX2 24 "PortraitRooms$Part" "painted" "I", Cond.fieldLink RX2 9 "PortraitRooms$Part" "wanted" "I", Cond.methodLink RX8 137 yX7_hasSitter, Cond.instanceMethod yX7_hasSitter, Cond.selects RX7 yX7_hasSitter yX7_hasSitter, Cond.initialized RX7, Cond.code yX7_hasSitter cX7_hasSitter 4 (some .boolean)]
def wsX8_planned_r3 : List Cond := [Cond.fieldLink RX7 28 "PortraitRooms$Sittings" "there" "I", Cond.fieldLink RX7 18 "PortraitRooms$Sittings" "days" "[I", Cond.fieldLink RX7 15 "PortraitRooms$Sittings" "sitters" "[I", Cond.methodLink RX8 282 yX8_hoursFor, Cond.instanceMethod yX8_hoursFor, Cond.selects RX8 yX8_hoursFor yX8_hoursFor, Cond.code yX8_hoursFor cX8_hoursFor 7 (some .int), Cond.methodLink RX8 81 yX8_sitterAt, Cond.instanceMethod yX8_sitterAt, Cond.selects RX8 yX8_sitterAt yX8_sitterAt, Cond.code yX8_sitterAt cX8_sitterAt 2 (some (.object "PortraitRooms$Sitter")), Cond.fieldLink RX8 75 "PortraitRooms" "sittersHere" "I", Cond.fieldLink RX8 28 "PortraitRooms" "sitters" "[LPortraitRooms$Sitter;", Cond.methodLink RX8 113 yX8_lightHours, Cond.static yX8_lightHours, Cond.code yX8_lightHours cX8_lightHours 1 (some .int), Cond.methodLink RX8 241 Lib.Math.abs.name, Cond.static Lib.Math.abs.name, Cond.initialized "java/lang/Math", Cond.code Lib.Math.abs.name Lib.Math.abs.code 1 (some .int), Cond.methodLink RX8 131 yX6_canCome, Cond.instanceMethod yX6_canCome, Cond.selects RX6 yX6_canCome yX6_canCome, Cond.initialized RX6]
def wsX8_planned_r4 : List Cond := [Cond.code yX6_canCome cX6_canCome 2 (some .boolean), Cond.fieldLink RX6 7 "PortraitRooms$Sitter" "first" "I", Cond.fieldLink RX6 13 "PortraitRooms$Sitter" "last" "I", Cond.methodLink RX8 134 yX7_isTaken, Cond.instanceMethod yX7_isTaken, Cond.selects RX7 yX7_isTaken yX7_isTaken, Cond.code yX7_isTaken cX7_isTaken 4 (some .boolean), Cond.fieldLink RX7 21 "PortraitRooms$Sittings" "hours" "[I", Cond.methodLink RX8 285 yX4_add, Cond.instanceMethod yX4_add, Cond.selects RX4 yX4_add yX4_add, Cond.code yX4_add cX4_add 5 (some .boolean), Cond.fieldLink RX4 9 "PortraitRooms$Plan" "pictures" "[I", Cond.fieldLink RX4 15 "PortraitRooms$Plan" "sitters" "[I", Cond.fieldLink RX4 18 "PortraitRooms$Plan" "openHours" "[I", Cond.fieldLink RX4 21 "PortraitRooms$Plan" "weights" "[I", Cond.methodLink RX8 292 yX8_search, Cond.static yX8_search, Cond.code yX8_search cX8_search 9 none, Cond.fieldLink RX8 170 "PortraitRooms$Plan" "bestSum" "I", Cond.fieldLink RX8 299 "PortraitRooms$Plan" "weights" "[I", Cond.fieldLink RX8 305 "PortraitRooms$Plan" "openHours" "[I", Cond.fieldLink RX8 308 "PortraitRooms$Plan" "tried" "[I", Cond.methodLink RX8 296 yX4_keep]
def wsX8_planned_r5 : List Cond := [Cond.instanceMethod yX4_keep, Cond.selects RX4 yX4_keep yX4_keep, Cond.code yX4_keep cX4_keep 3 none, Cond.fieldLink RX4 27 "PortraitRooms$Plan" "best" "[I", Cond.fieldLink RX4 24 "PortraitRooms$Plan" "tried" "[I", Cond.methodLink RX8 302 yX4_sitterIsPlaced, Cond.instanceMethod yX4_sitterIsPlaced, Cond.selects RX4 yX4_sitterIsPlaced yX4_sitterIsPlaced, Cond.code yX4_sitterIsPlaced cX4_sitterIsPlaced 3 (some .boolean), Cond.methodLink RX8 167 yX4_hourOf, Cond.instanceMethod yX4_hourOf, Cond.selects RX4 yX4_hourOf yX4_hourOf, Cond.code yX4_hourOf cX4_hourOf 3 (some .int)]
def wsX8_planned : List Cond := .code yX8_planned cX8_planned 3 (some .int) :: ((wsX8_planned_r1 ++ (wsX8_planned_r2 ++ (wsX8_planned_r3 ++ (wsX8_planned_r4 ++ wsX8_planned_r5)))) ++ wsX80 ++ wsX30 ++ wsX40 ++ wsX20 ++ wsX70 ++ wsX60)
def wsX8_worth_r1 : List Cond := [Cond.fieldLink RX8 55 "PortraitRooms" "plan" "LPortraitRooms$Plan;", Cond.fieldLink RX8 170 "PortraitRooms$Plan" "bestSum" "I", Cond.methodLink RX8 164 yX8_makePlan, Cond.instanceMethod yX8_makePlan, Cond.selects RX8 yX8_makePlan yX8_makePlan, Cond.initialized RX8, Cond.code yX8_makePlan cX8_makePlan 5 (some .boolean), Cond.fieldLink RX8 89 "PortraitRooms" "picturesHere" "I", Cond.fieldLink RX8 41 "PortraitRooms" "sittings" "LPortraitRooms$Sittings;", Cond.fieldLink RX8 128 "PortraitRooms$Picture" "sitter" "I", Cond.fieldLink RX8 92 "PortraitRooms" "now" "I", Cond.fieldLink RX8 208 "PortraitRooms$Picture" "cameOn" "I", Cond.fieldLink RX8 286 "PortraitRooms$Plan" "size" "I", Cond.fieldLink RX8 289 "PortraitRooms$Plan" "allWeights" "I", Cond.methodLink RX8 125 yX8_isNowOrLater, Cond.instanceMethod yX8_isNowOrLater, Cond.selects RX8 yX8_isNowOrLater yX8_isNowOrLater, Cond.code yX8_isNowOrLater cX8_isNowOrLater 2 (some .boolean), Cond.methodLink RX8 276 yX4_clear, Cond.instanceMethod yX4_clear, Cond.selects RX4 yX4_clear yX4_clear, Cond.initialized RX4, Cond.code yX4_clear cX4_clear 1 none, Cond.fieldLink RX4 30 "PortraitRooms$Plan" "size" "I"]
def wsX8_worth_r2 : List Cond := [Cond.fieldLink RX4 34 "PortraitRooms$Plan" "allWeights" "I", Cond.fieldLink RX4 37 "PortraitRooms$Plan" "bestSum" "I", Cond.methodLink RX8 117 yX8_pictureAt, Cond.instanceMethod yX8_pictureAt, Cond.selects RX8 yX8_pictureAt yX8_pictureAt, Cond.code yX8_pictureAt cX8_pictureAt 2 (some (.object "PortraitRooms$Picture")), Cond.fieldLink RX8 34 "PortraitRooms" "pictures" "[LPortraitRooms$Picture;", Cond.methodLink RX8 279 yX3_wantsHead, Cond.instanceMethod yX3_wantsHead, Cond.selects RX3 yX3_wantsHead yX3_wantsHead, Cond.initialized RX3, Cond.code yX3_wantsHead cX3_wantsHead 2 (some .boolean), Cond.fieldLink RX3 26 "PortraitRooms$Picture" "parts" "[LPortraitRooms$Part;", Cond.methodLink RX3 42 yX2_wantsMore, Cond.instanceMethod yX2_wantsMore, Cond.selects RX2 yX2_wantsMore yX2_wantsMore, Cond.initialized RX2, Cond.code yX2_wantsMore cX2_wantsMore 1 (some .boolean), Cond.fieldLink RX2 24 "PortraitRooms$Part" "painted" "I", Cond.fieldLink RX2 9 "PortraitRooms$Part" "wanted" "I", Cond.methodLink RX8 137 yX7_hasSitter, Cond.instanceMethod yX7_hasSitter, Cond.selects RX7 yX7_hasSitter yX7_hasSitter, Cond.initialized RX7]
def wsX8_worth_r3 : List Cond := [Cond.code yX7_hasSitter cX7_hasSitter 4 (some .boolean), Cond.fieldLink RX7 28 "PortraitRooms$Sittings" "there" "I", Cond.fieldLink RX7 18 "PortraitRooms$Sittings" "days" "[I", Cond.fieldLink RX7 15 "PortraitRooms$Sittings" "sitters" "[I", Cond.methodLink RX8 282 yX8_hoursFor, Cond.instanceMethod yX8_hoursFor, Cond.selects RX8 yX8_hoursFor yX8_hoursFor, Cond.code yX8_hoursFor cX8_hoursFor 7 (some .int), Cond.methodLink RX8 81 yX8_sitterAt, Cond.instanceMethod yX8_sitterAt, Cond.selects RX8 yX8_sitterAt yX8_sitterAt, Cond.code yX8_sitterAt cX8_sitterAt 2 (some (.object "PortraitRooms$Sitter")), Cond.fieldLink RX8 75 "PortraitRooms" "sittersHere" "I", Cond.fieldLink RX8 28 "PortraitRooms" "sitters" "[LPortraitRooms$Sitter;", Cond.methodLink RX8 113 yX8_lightHours, Cond.static yX8_lightHours, Cond.code yX8_lightHours cX8_lightHours 1 (some .int), Cond.methodLink RX8 241 Lib.Math.abs.name, Cond.static Lib.Math.abs.name, Cond.initialized "java/lang/Math", Cond.code Lib.Math.abs.name Lib.Math.abs.code 1 (some .int), Cond.methodLink RX8 131 yX6_canCome, Cond.instanceMethod yX6_canCome, Cond.selects RX6 yX6_canCome yX6_canCome]
def wsX8_worth_r4 : List Cond := [Cond.initialized RX6, Cond.code yX6_canCome cX6_canCome 2 (some .boolean), Cond.fieldLink RX6 7 "PortraitRooms$Sitter" "first" "I", Cond.fieldLink RX6 13 "PortraitRooms$Sitter" "last" "I", Cond.methodLink RX8 134 yX7_isTaken, Cond.instanceMethod yX7_isTaken, Cond.selects RX7 yX7_isTaken yX7_isTaken, Cond.code yX7_isTaken cX7_isTaken 4 (some .boolean), Cond.fieldLink RX7 21 "PortraitRooms$Sittings" "hours" "[I", Cond.methodLink RX8 285 yX4_add, Cond.instanceMethod yX4_add, Cond.selects RX4 yX4_add yX4_add, Cond.code yX4_add cX4_add 5 (some .boolean), Cond.fieldLink RX4 9 "PortraitRooms$Plan" "pictures" "[I", Cond.fieldLink RX4 15 "PortraitRooms$Plan" "sitters" "[I", Cond.fieldLink RX4 18 "PortraitRooms$Plan" "openHours" "[I", Cond.fieldLink RX4 21 "PortraitRooms$Plan" "weights" "[I", Cond.methodLink RX8 292 yX8_search, Cond.static yX8_search, Cond.code yX8_search cX8_search 9 none, Cond.fieldLink RX8 299 "PortraitRooms$Plan" "weights" "[I", Cond.fieldLink RX8 305 "PortraitRooms$Plan" "openHours" "[I", Cond.fieldLink RX8 308 "PortraitRooms$Plan" "tried" "[I", Cond.methodLink RX8 296 yX4_keep]
def wsX8_worth_r5 : List Cond := [Cond.instanceMethod yX4_keep, Cond.selects RX4 yX4_keep yX4_keep, Cond.code yX4_keep cX4_keep 3 none, Cond.fieldLink RX4 27 "PortraitRooms$Plan" "best" "[I", Cond.fieldLink RX4 24 "PortraitRooms$Plan" "tried" "[I", Cond.methodLink RX8 302 yX4_sitterIsPlaced, Cond.instanceMethod yX4_sitterIsPlaced, Cond.selects RX4 yX4_sitterIsPlaced yX4_sitterIsPlaced, Cond.code yX4_sitterIsPlaced cX4_sitterIsPlaced 3 (some .boolean)]
def wsX8_worth : List Cond := .code yX8_worth cX8_worth 2 (some .int) :: ((wsX8_worth_r1 ++ (wsX8_worth_r2 ++ (wsX8_worth_r3 ++ (wsX8_worth_r4 ++ wsX8_worth_r5)))) ++ wsX80 ++ wsX40 ++ wsX30 ++ wsX20 ++ wsX70 ++ wsX60)
def wsX8_trace : List Cond := .code yX8_trace cX8_trace 4 (some .boolean) :: ([.constant RX8 173 (65535), .fieldLink RX8 174 "PortraitRooms$Picture" "traces" "I", .methodLink RX8 117 yX8_pictureAt, .instanceMethod yX8_pictureAt, .selects RX8 yX8_pictureAt yX8_pictureAt, .initialized RX8, .code yX8_pictureAt cX8_pictureAt 2 (some (.object "PortraitRooms$Picture")), .fieldLink RX8 89 "PortraitRooms" "picturesHere" "I", .fieldLink RX8 34 "PortraitRooms" "pictures" "[LPortraitRooms$Picture;", .methodLink RX8 67 yX8_within, .static yX8_within, .code yX8_within cX8_within 2 (some .boolean)] ++ wsX30 ++ wsX80)
def wsJ6_bitCount_0f7a4 : List Cond := .code yJ6_bitCount_0f7a4 cJ6_bitCount_0f7a4 1 (some .int) :: ([.constant RJ6 265 (1431655765), .constant RJ6 266 (858993459), .constant RJ6 267 (252645135)])
def wsX8_traceDistance : List Cond := .code yX8_traceDistance cX8_traceDistance 5 (some .int) :: ([.fieldLink RX8 174 "PortraitRooms$Picture" "traces" "I", .methodLink RX8 117 yX8_pictureAt, .instanceMethod yX8_pictureAt, .selects RX8 yX8_pictureAt yX8_pictureAt, .initialized RX8, .code yX8_pictureAt cX8_pictureAt 2 (some (.object "PortraitRooms$Picture")), .fieldLink RX8 89 "PortraitRooms" "picturesHere" "I", .fieldLink RX8 34 "PortraitRooms" "pictures" "[LPortraitRooms$Picture;", .methodLink RX8 311 yJ6_bitCount_0f7a4, .static yJ6_bitCount_0f7a4, .initialized RJ6, .code yJ6_bitCount_0f7a4 cJ6_bitCount_0f7a4 1 (some .int), .constant RJ6 265 (1431655765), .constant RJ6 266 (858993459), .constant RJ6 267 (252645135)] ++ wsX30 ++ wsX80)
def wsX8_nearestTraced : List Cond := .code yX8_nearestTraced cX8_nearestTraced 8 (some .int) :: ([.fieldLink RX8 174 "PortraitRooms$Picture" "traces" "I", .methodLink RX8 117 yX8_pictureAt, .instanceMethod yX8_pictureAt, .selects RX8 yX8_pictureAt yX8_pictureAt, .initialized RX8, .code yX8_pictureAt cX8_pictureAt 2 (some (.object "PortraitRooms$Picture")), .fieldLink RX8 89 "PortraitRooms" "picturesHere" "I", .fieldLink RX8 34 "PortraitRooms" "pictures" "[LPortraitRooms$Picture;", .methodLink RX8 180 yX8_traceDistance, .instanceMethod yX8_traceDistance, .selects RX8 yX8_traceDistance yX8_traceDistance, .code yX8_traceDistance cX8_traceDistance 5 (some .int), .methodLink RX8 311 yJ6_bitCount_0f7a4, .static yJ6_bitCount_0f7a4, .initialized RJ6, .code yJ6_bitCount_0f7a4 cJ6_bitCount_0f7a4 1 (some .int), .constant RJ6 265 (1431655765), .constant RJ6 266 (858993459), .constant RJ6 267 (252645135)] ++ wsX30 ++ wsX80)
def wsX8_from : List Cond := .code yX8_from cX8_from 2 (some .int) :: ([.methodLink RX8 177 yX8_nearestTraced, .instanceMethod yX8_nearestTraced, .selects RX8 yX8_nearestTraced yX8_nearestTraced, .initialized RX8, .code yX8_nearestTraced cX8_nearestTraced 8 (some .int), .fieldLink RX8 174 "PortraitRooms$Picture" "traces" "I", .methodLink RX8 117 yX8_pictureAt, .instanceMethod yX8_pictureAt, .selects RX8 yX8_pictureAt yX8_pictureAt, .code yX8_pictureAt cX8_pictureAt 2 (some (.object "PortraitRooms$Picture")), .fieldLink RX8 89 "PortraitRooms" "picturesHere" "I", .fieldLink RX8 34 "PortraitRooms" "pictures" "[LPortraitRooms$Picture;", .methodLink RX8 180 yX8_traceDistance, .instanceMethod yX8_traceDistance, .selects RX8 yX8_traceDistance yX8_traceDistance, .code yX8_traceDistance cX8_traceDistance 5 (some .int), .methodLink RX8 311 yJ6_bitCount_0f7a4, .static yJ6_bitCount_0f7a4, .initialized RJ6, .code yJ6_bitCount_0f7a4 cJ6_bitCount_0f7a4 1 (some .int), .constant RJ6 265 (1431655765), .constant RJ6 266 (858993459), .constant RJ6 267 (252645135)] ++ wsX30 ++ wsX80)
def wsX8_doubt : List Cond := .code yX8_doubt cX8_doubt 4 (some .boolean) :: ([.methodLink RX8 177 yX8_nearestTraced, .instanceMethod yX8_nearestTraced, .selects RX8 yX8_nearestTraced yX8_nearestTraced, .initialized RX8, .code yX8_nearestTraced cX8_nearestTraced 8 (some .int), .fieldLink RX8 174 "PortraitRooms$Picture" "traces" "I", .methodLink RX8 117 yX8_pictureAt, .instanceMethod yX8_pictureAt, .selects RX8 yX8_pictureAt yX8_pictureAt, .code yX8_pictureAt cX8_pictureAt 2 (some (.object "PortraitRooms$Picture")), .fieldLink RX8 89 "PortraitRooms" "picturesHere" "I", .fieldLink RX8 34 "PortraitRooms" "pictures" "[LPortraitRooms$Picture;", .methodLink RX8 180 yX8_traceDistance, .instanceMethod yX8_traceDistance, .selects RX8 yX8_traceDistance yX8_traceDistance, .code yX8_traceDistance cX8_traceDistance 5 (some .int), .methodLink RX8 311 yJ6_bitCount_0f7a4, .static yJ6_bitCount_0f7a4, .initialized RJ6, .code yJ6_bitCount_0f7a4 cJ6_bitCount_0f7a4 1 (some .int), .constant RJ6 265 (1431655765), .constant RJ6 266 (858993459), .constant RJ6 267 (252645135)] ++ wsX30 ++ wsX80)
def wsX8_habit : List Cond := .code yX8_habit cX8_habit 4 (some .boolean) :: ([.fieldLink RX8 187 "PortraitRooms$Hand" "habits" "I", .methodLink RX8 183 yX8_handAt, .instanceMethod yX8_handAt, .selects RX8 yX8_handAt yX8_handAt, .initialized RX8, .code yX8_handAt cX8_handAt 2 (some (.object "PortraitRooms$Hand")), .fieldLink RX8 60 "PortraitRooms" "handsHere" "I", .fieldLink RX8 22 "PortraitRooms" "hands" "[LPortraitRooms$Hand;", .methodLink RX8 67 yX8_within, .static yX8_within, .code yX8_within cX8_within 2 (some .boolean)] ++ wsX00 ++ wsX80)
def wsX8_margin : List Cond := .code yX8_margin cX8_margin 2 (some .boolean) :: ([.fieldLink RX8 64 "PortraitRooms" "marginNow" "I", .methodLink RX8 67 yX8_within, .static yX8_within, .initialized RX8, .code yX8_within cX8_within 2 (some .boolean)] ++ wsX80)
def wsX8_strokes : List Cond := .code yX8_strokes cX8_strokes 5 (some .boolean) :: ([.fieldLink RX8 194 "PortraitRooms$Part" "strokes" "I", .methodLink RX8 190 yX8_partAt, .instanceMethod yX8_partAt, .selects RX8 yX8_partAt yX8_partAt, .initialized RX8, .code yX8_partAt cX8_partAt 4 (some (.object "PortraitRooms$Part")), .fieldLink RX8 244 "PortraitRooms$Picture" "parts" "[LPortraitRooms$Part;", .methodLink RX8 117 yX8_pictureAt, .instanceMethod yX8_pictureAt, .selects RX8 yX8_pictureAt yX8_pictureAt, .code yX8_pictureAt cX8_pictureAt 2 (some (.object "PortraitRooms$Picture")), .fieldLink RX8 89 "PortraitRooms" "picturesHere" "I", .fieldLink RX8 34 "PortraitRooms" "pictures" "[LPortraitRooms$Picture;", .methodLink RX8 67 yX8_within, .static yX8_within, .code yX8_within cX8_within 2 (some .boolean)] ++ wsX20 ++ wsX30 ++ wsX80)
def wsX8_habitDistance : List Cond := .code yX8_habitDistance cX8_habitDistance 9 (some .int) :: ([.fieldLink RX8 187 "PortraitRooms$Hand" "habits" "I", .methodLink RX8 183 yX8_handAt, .instanceMethod yX8_handAt, .selects RX8 yX8_handAt yX8_handAt, .initialized RX8, .code yX8_handAt cX8_handAt 2 (some (.object "PortraitRooms$Hand")), .fieldLink RX8 60 "PortraitRooms" "handsHere" "I", .fieldLink RX8 22 "PortraitRooms" "hands" "[LPortraitRooms$Hand;"] ++ wsX00 ++ wsX80)
def wsX8_nearestHand : List Cond := .code yX8_nearestHand cX8_nearestHand 7 (some .int) :: ([.fieldLink RX8 60 "PortraitRooms" "handsHere" "I", .methodLink RX8 202 yX8_habitDistance, .instanceMethod yX8_habitDistance, .selects RX8 yX8_habitDistance yX8_habitDistance, .initialized RX8, .code yX8_habitDistance cX8_habitDistance 9 (some .int), .fieldLink RX8 187 "PortraitRooms$Hand" "habits" "I", .methodLink RX8 183 yX8_handAt, .instanceMethod yX8_handAt, .selects RX8 yX8_handAt yX8_handAt, .code yX8_handAt cX8_handAt 2 (some (.object "PortraitRooms$Hand")), .fieldLink RX8 22 "PortraitRooms" "hands" "[LPortraitRooms$Hand;"] ++ wsX80 ++ wsX00)
def wsX8_whose_r1 : List Cond := [Cond.fieldLink RX8 194 "PortraitRooms$Part" "strokes" "I", Cond.fieldLink RX8 64 "PortraitRooms" "marginNow" "I", Cond.methodLink RX8 190 yX8_partAt, Cond.instanceMethod yX8_partAt, Cond.selects RX8 yX8_partAt yX8_partAt, Cond.initialized RX8, Cond.code yX8_partAt cX8_partAt 4 (some (.object "PortraitRooms$Part")), Cond.fieldLink RX8 244 "PortraitRooms$Picture" "parts" "[LPortraitRooms$Part;", Cond.methodLink RX8 117 yX8_pictureAt, Cond.instanceMethod yX8_pictureAt, Cond.selects RX8 yX8_pictureAt yX8_pictureAt, Cond.code yX8_pictureAt cX8_pictureAt 2 (some (.object "PortraitRooms$Picture")), Cond.fieldLink RX8 89 "PortraitRooms" "picturesHere" "I", Cond.fieldLink RX8 34 "PortraitRooms" "pictures" "[LPortraitRooms$Picture;", Cond.methodLink RX8 67 yX8_within, Cond.static yX8_within, Cond.code yX8_within cX8_within 2 (some .boolean), Cond.methodLink RX8 199 yX8_nearestHand, Cond.instanceMethod yX8_nearestHand, Cond.selects RX8 yX8_nearestHand yX8_nearestHand, Cond.code yX8_nearestHand cX8_nearestHand 7 (some .int), Cond.fieldLink RX8 60 "PortraitRooms" "handsHere" "I", Cond.methodLink RX8 202 yX8_habitDistance, Cond.instanceMethod yX8_habitDistance]
def wsX8_whose_r2 : List Cond := [Cond.selects RX8 yX8_habitDistance yX8_habitDistance, Cond.code yX8_habitDistance cX8_habitDistance 9 (some .int), Cond.fieldLink RX8 187 "PortraitRooms$Hand" "habits" "I", Cond.methodLink RX8 183 yX8_handAt, Cond.instanceMethod yX8_handAt, Cond.selects RX8 yX8_handAt yX8_handAt, Cond.code yX8_handAt cX8_handAt 2 (some (.object "PortraitRooms$Hand")), Cond.fieldLink RX8 22 "PortraitRooms" "hands" "[LPortraitRooms$Hand;"]
def wsX8_whose : List Cond := .code yX8_whose cX8_whose 7 (some .int) :: ((wsX8_whose_r1 ++ wsX8_whose_r2) ++ wsX20 ++ wsX80 ++ wsX30 ++ wsX00)
def wsX8_told : List Cond := .code yX8_told cX8_told 4 (some .int) :: ([.fieldLink RX8 205 "PortraitRooms$Picture" "price" "I", .fieldLink RX8 208 "PortraitRooms$Picture" "cameOn" "I", .fieldLink RX8 211 "PortraitRooms$Picture" "doneOn" "I", .fieldLink RX8 143 "PortraitRooms$Picture" "sittingsBooked" "I", .fieldLink RX8 214 "PortraitRooms$Picture" "sittingsUsed" "I", .methodLink RX8 117 yX8_pictureAt, .instanceMethod yX8_pictureAt, .selects RX8 yX8_pictureAt yX8_pictureAt, .initialized RX8, .code yX8_pictureAt cX8_pictureAt 2 (some (.object "PortraitRooms$Picture")), .fieldLink RX8 89 "PortraitRooms" "picturesHere" "I", .fieldLink RX8 34 "PortraitRooms" "pictures" "[LPortraitRooms$Picture;", .methodLink RX8 121 yX3_isDone, .instanceMethod yX3_isDone, .selects RX3 yX3_isDone yX3_isDone, .initialized RX3, .code yX3_isDone cX3_isDone 1 (some .boolean), .fieldLink RX3 36 "PortraitRooms$Picture" "doneOn" "I"] ++ wsX30 ++ wsX80)
def wsX8_part_r1 : List Cond := [Cond.fieldLink RX8 217 "PortraitRooms$Part" "painted" "I", Cond.fieldLink RX8 220 "PortraitRooms$Part" "wanted" "I", Cond.fieldLink RX8 223 "PortraitRooms$Part" "latestDay" "I", Cond.fieldLink RX8 226 "PortraitRooms$Part" "latestHand" "I", Cond.fieldLink RX8 92 "PortraitRooms" "now" "I", Cond.fieldLink RX8 16 "PortraitRooms" "dryDays" "[I", Cond.methodLink RX8 190 yX8_partAt, Cond.instanceMethod yX8_partAt, Cond.selects RX8 yX8_partAt yX8_partAt, Cond.initialized RX8, Cond.code yX8_partAt cX8_partAt 4 (some (.object "PortraitRooms$Part")), Cond.fieldLink RX8 244 "PortraitRooms$Picture" "parts" "[LPortraitRooms$Part;", Cond.methodLink RX8 117 yX8_pictureAt, Cond.instanceMethod yX8_pictureAt, Cond.selects RX8 yX8_pictureAt yX8_pictureAt, Cond.code yX8_pictureAt cX8_pictureAt 2 (some (.object "PortraitRooms$Picture")), Cond.fieldLink RX8 89 "PortraitRooms" "picturesHere" "I", Cond.fieldLink RX8 34 "PortraitRooms" "pictures" "[LPortraitRooms$Picture;", Cond.methodLink RX8 67 yX8_within, Cond.static yX8_within, Cond.code yX8_within cX8_within 2 (some .boolean), Cond.methodLink RX8 229 yX2_isWet, Cond.instanceMethod yX2_isWet, Cond.selects RX2 yX2_isWet yX2_isWet]
def wsX8_part_r2 : List Cond := [Cond.initialized RX2, Cond.code yX2_isWet cX2_isWet 3 (some .boolean), Cond.fieldLink RX2 15 "PortraitRooms$Part" "latestDay" "I"]
def wsX8_part : List Cond := .code yX8_part cX8_part 5 (some .int) :: ((wsX8_part_r1 ++ wsX8_part_r2) ++ wsX20 ++ wsX80 ++ wsX30)
def wsX8_due : List Cond := .code yX8_due cX8_due 3 (some .int) :: ([.fieldLink RX8 105 "PortraitRooms$Sitter" "owes" "I", .methodLink RX8 81 yX8_sitterAt, .instanceMethod yX8_sitterAt, .selects RX8 yX8_sitterAt yX8_sitterAt, .initialized RX8, .code yX8_sitterAt cX8_sitterAt 2 (some (.object "PortraitRooms$Sitter")), .fieldLink RX8 75 "PortraitRooms" "sittersHere" "I", .fieldLink RX8 28 "PortraitRooms" "sitters" "[LPortraitRooms$Sitter;"] ++ wsX60 ++ wsX80)
def wsX8_count : List Cond := .code yX8_count cX8_count 2 (some .int) :: ([.fieldLink RX8 92 "PortraitRooms" "now" "I", .fieldLink RX8 60 "PortraitRooms" "handsHere" "I", .fieldLink RX8 75 "PortraitRooms" "sittersHere" "I", .fieldLink RX8 89 "PortraitRooms" "picturesHere" "I", .fieldLink RX8 232 "PortraitRooms" "picturesDone" "I", .fieldLink RX8 41 "PortraitRooms" "sittings" "LPortraitRooms$Sittings;", .fieldLink RX8 235 "PortraitRooms$Sittings" "there" "I", .fieldLink RX8 238 "PortraitRooms" "layersEver" "I", .fieldLink RX8 161 "PortraitRooms" "coinsPaid" "I", .fieldLink RX8 102 "PortraitRooms" "allPrices" "I"] ++ wsX80 ++ wsX70)
def wsX9_init_r1 : List Cond := [Cond.methodLink RX9 1 objectInit, Cond.instanceMethod objectInit, Cond.code objectInit ⟨#[0xb1]⟩ 1 none, Cond.arrayClass .int, Cond.fieldLink RX9 9 "PortraitRoomsModel" "listYear" "[I", Cond.fieldLink RX9 13 "PortraitRoomsModel" "listSize" "[I", Cond.fieldLink RX9 16 "PortraitRoomsModel" "listPrice" "[I", Cond.fieldLink RX9 19 "PortraitRoomsModel" "dry" "[I", Cond.fieldLink RX9 22 "PortraitRoomsModel" "handDay" "[I", Cond.fieldLink RX9 25 "PortraitRoomsModel" "handMany" "[I", Cond.fieldLink RX9 28 "PortraitRoomsModel" "habits" "[I", Cond.fieldLink RX9 31 "PortraitRoomsModel" "hands" "I", Cond.fieldLink RX9 35 "PortraitRoomsModel" "from" "[I", Cond.fieldLink RX9 38 "PortraitRoomsModel" "to" "[I", Cond.fieldLink RX9 41 "PortraitRoomsModel" "dues" "[I", Cond.fieldLink RX9 44 "PortraitRoomsModel" "sitter" "[I", Cond.fieldLink RX9 47 "PortraitRoomsModel" "price" "[I", Cond.fieldLink RX9 50 "PortraitRoomsModel" "came" "[I", Cond.fieldLink RX9 53 "PortraitRoomsModel" "doneOn" "[I", Cond.fieldLink RX9 56 "PortraitRoomsModel" "robe" "[I", Cond.fieldLink RX9 59 "PortraitRoomsModel" "traces" "[I", Cond.classLink RX9 62 "[[I", Cond.fieldLink RX9 64 "PortraitRoomsModel" "wants" "[[I", Cond.fieldLink RX9 67 "PortraitRoomsModel" "has" "[[I"]
def wsX9_init_r2 : List Cond := [Cond.fieldLink RX9 70 "PortraitRoomsModel" "latest" "[[I", Cond.fieldLink RX9 73 "PortraitRoomsModel" "byHand" "[[I", Cond.fieldLink RX9 76 "PortraitRoomsModel" "strokes" "[[I", Cond.fieldLink RX9 79 "PortraitRoomsModel" "robeDay" "[I", Cond.fieldLink RX9 82 "PortraitRoomsModel" "robeFor" "[I", Cond.fieldLink RX9 85 "PortraitRoomsModel" "sitOf" "[I", Cond.fieldLink RX9 88 "PortraitRoomsModel" "sitDay" "[I", Cond.fieldLink RX9 91 "PortraitRoomsModel" "sitHour" "[I", Cond.arrayClass .boolean, Cond.fieldLink RX9 94 "PortraitRoomsModel" "isUsed" "[Z", Cond.fieldLink RX9 98 "PortraitRoomsModel" "margin" "I", Cond.fieldLink RX9 101 "PortraitRoomsModel" "asked" "[I", Cond.fieldLink RX9 104 "PortraitRoomsModel" "line" "[I", Cond.fieldLink RX9 107 "PortraitRoomsModel" "bestLine" "[I"]
def wsX9_init : List Cond := .code yX9_init cX9_init 2 none :: ((wsX9_init_r1 ++ wsX9_init_r2) ++ wsX90)
def wsX9_in : List Cond := .code yX9_in cX9_in 3 (some .boolean) :: ([])
def wsX9_isPicture : List Cond := .code yX9_isPicture cX9_isPicture 2 (some .boolean) :: ([.fieldLink RX9 110 "PortraitRoomsModel" "pictures" "I", .methodLink RX9 113 yX9_in, .static yX9_in, .initialized RX9, .code yX9_in cX9_in 3 (some .boolean)] ++ wsX90)
def wsX9_isSitter : List Cond := .code yX9_isSitter cX9_isSitter 2 (some .boolean) :: ([.fieldLink RX9 117 "PortraitRoomsModel" "sitters" "I", .methodLink RX9 113 yX9_in, .static yX9_in, .initialized RX9, .code yX9_in cX9_in 3 (some .boolean)] ++ wsX90)
def wsX9_isHand : List Cond := .code yX9_isHand cX9_isHand 2 (some .boolean) :: ([.fieldLink RX9 31 "PortraitRoomsModel" "hands" "I", .methodLink RX9 113 yX9_in, .static yX9_in, .initialized RX9, .code yX9_in cX9_in 3 (some .boolean)] ++ wsX90)
def wsX9_list : List Cond := .code yX9_list cX9_list 4 (some .boolean) :: ([.fieldLink RX9 120 "PortraitRoomsModel" "lists" "I", .fieldLink RX9 9 "PortraitRoomsModel" "listYear" "[I", .fieldLink RX9 13 "PortraitRoomsModel" "listSize" "[I", .fieldLink RX9 16 "PortraitRoomsModel" "listPrice" "[I", .methodLink RX9 113 yX9_in, .static yX9_in, .initialized RX9, .code yX9_in cX9_in 3 (some .boolean)] ++ wsX90)
def wsX9_listed : List Cond := .code yX9_listed cX9_listed 5 (some .int) :: ([.fieldLink RX9 120 "PortraitRoomsModel" "lists" "I", .fieldLink RX9 13 "PortraitRoomsModel" "listSize" "[I", .fieldLink RX9 9 "PortraitRoomsModel" "listYear" "[I", .fieldLink RX9 16 "PortraitRoomsModel" "listPrice" "[I"] ++ wsX90)
def wsX9_dry : List Cond := .code yX9_dry cX9_dry 3 (some .boolean) :: ([.fieldLink RX9 19 "PortraitRoomsModel" "dry" "[I", .methodLink RX9 113 yX9_in, .static yX9_in, .initialized RX9, .code yX9_in cX9_in 3 (some .boolean)] ++ wsX90)
def wsX9_hand : List Cond := .code yX9_hand cX9_hand 1 (some .int) :: ([.fieldLink RX9 31 "PortraitRoomsModel" "hands" "I"] ++ wsX90)
def wsX9_sitter : List Cond := .code yX9_sitter cX9_sitter 3 (some .int) :: ([.fieldLink RX9 117 "PortraitRoomsModel" "sitters" "I", .fieldLink RX9 35 "PortraitRoomsModel" "from" "[I", .fieldLink RX9 38 "PortraitRoomsModel" "to" "[I", .methodLink RX9 113 yX9_in, .static yX9_in, .initialized RX9, .code yX9_in cX9_in 3 (some .boolean)] ++ wsX90)
def wsX9_picture_r1 : List Cond := [Cond.constant RX9 127 (33333), Cond.fieldLink RX9 110 "PortraitRoomsModel" "pictures" "I", Cond.fieldLink RX9 64 "PortraitRoomsModel" "wants" "[[I", Cond.fieldLink RX9 44 "PortraitRoomsModel" "sitter" "[I", Cond.fieldLink RX9 56 "PortraitRoomsModel" "robe" "[I", Cond.fieldLink RX9 50 "PortraitRoomsModel" "came" "[I", Cond.fieldLink RX9 128 "PortraitRoomsModel" "now" "I", Cond.fieldLink RX9 53 "PortraitRoomsModel" "doneOn" "[I", Cond.fieldLink RX9 59 "PortraitRoomsModel" "traces" "[I", Cond.fieldLink RX9 70 "PortraitRoomsModel" "latest" "[[I", Cond.fieldLink RX9 73 "PortraitRoomsModel" "byHand" "[[I", Cond.fieldLink RX9 76 "PortraitRoomsModel" "strokes" "[[I", Cond.fieldLink RX9 47 "PortraitRoomsModel" "price" "[I", Cond.fieldLink RX9 135 "PortraitRoomsModel" "prices" "I", Cond.fieldLink RX9 41 "PortraitRoomsModel" "dues" "[I", Cond.methodLink RX9 123 yX9_isSitter, Cond.instanceMethod yX9_isSitter, Cond.selects RX9 yX9_isSitter yX9_isSitter, Cond.initialized RX9, Cond.code yX9_isSitter cX9_isSitter 2 (some .boolean), Cond.fieldLink RX9 117 "PortraitRoomsModel" "sitters" "I", Cond.methodLink RX9 113 yX9_in, Cond.static yX9_in, Cond.code yX9_in cX9_in 3 (some .boolean)]
def wsX9_picture_r2 : List Cond := [Cond.methodLink RX9 131 yX9_listed, Cond.instanceMethod yX9_listed, Cond.selects RX9 yX9_listed yX9_listed, Cond.code yX9_listed cX9_listed 5 (some .int), Cond.fieldLink RX9 120 "PortraitRoomsModel" "lists" "I", Cond.fieldLink RX9 13 "PortraitRoomsModel" "listSize" "[I", Cond.fieldLink RX9 9 "PortraitRoomsModel" "listYear" "[I", Cond.fieldLink RX9 16 "PortraitRoomsModel" "listPrice" "[I"]
def wsX9_picture : List Cond := .code yX9_picture cX9_picture 9 (some .int) :: ((wsX9_picture_r1 ++ wsX9_picture_r2) ++ wsX90)
def wsX9_go : List Cond := .code yX9_go cX9_go 2 (some .int) :: ([.fieldLink RX9 128 "PortraitRoomsModel" "now" "I", .methodLink RX9 138 Lib.Math.min.name, .static Lib.Math.min.name, .initialized "java/lang/Math", .code Lib.Math.min.name Lib.Math.min.code 2 (some .int), .methodLink RX9 113 yX9_in, .static yX9_in, .initialized RX9, .code yX9_in cX9_in 3 (some .boolean)] ++ wsX90)
def wsX9_lightOf : List Cond := .code yX9_lightOf cX9_lightOf 1 (some .int) :: ([.methodLink RX9 143 Lib.Math.abs.name, .static Lib.Math.abs.name, .initialized "java/lang/Math", .code Lib.Math.abs.name Lib.Math.abs.code 1 (some .int)])
def wsX9_light : List Cond := .code yX9_light cX9_light 2 (some .int) :: ([.methodLink RX9 113 yX9_in, .static yX9_in, .initialized RX9, .code yX9_in cX9_in 3 (some .boolean), .methodLink RX9 147 yX9_lightOf, .static yX9_lightOf, .code yX9_lightOf cX9_lightOf 1 (some .int), .methodLink RX9 143 Lib.Math.abs.name, .static Lib.Math.abs.name, .initialized "java/lang/Math", .code Lib.Math.abs.name Lib.Math.abs.code 1 (some .int)])
def wsX9_isFree : List Cond := .code yX9_isFree cX9_isFree 4 (some .boolean) :: ([.fieldLink RX9 150 "PortraitRoomsModel" "sittings" "I", .fieldLink RX9 88 "PortraitRoomsModel" "sitDay" "[I", .fieldLink RX9 91 "PortraitRoomsModel" "sitHour" "[I"] ++ wsX90)
def wsX9_sits : List Cond := .code yX9_sits cX9_sits 4 (some .boolean) :: ([.fieldLink RX9 150 "PortraitRoomsModel" "sittings" "I", .fieldLink RX9 88 "PortraitRoomsModel" "sitDay" "[I", .fieldLink RX9 44 "PortraitRoomsModel" "sitter" "[I", .fieldLink RX9 85 "PortraitRoomsModel" "sitOf" "[I"] ++ wsX90)
def wsX9_couldBe : List Cond := .code yX9_couldBe cX9_couldBe 4 (some .boolean) :: ([.fieldLink RX9 35 "PortraitRoomsModel" "from" "[I", .fieldLink RX9 44 "PortraitRoomsModel" "sitter" "[I", .fieldLink RX9 38 "PortraitRoomsModel" "to" "[I", .methodLink RX9 147 yX9_lightOf, .static yX9_lightOf, .initialized RX9, .code yX9_lightOf cX9_lightOf 1 (some .int), .methodLink RX9 143 Lib.Math.abs.name, .static Lib.Math.abs.name, .initialized "java/lang/Math", .code Lib.Math.abs.name Lib.Math.abs.code 1 (some .int), .methodLink RX9 113 yX9_in, .static yX9_in, .code yX9_in cX9_in 3 (some .boolean), .methodLink RX9 153 yX9_isFree, .instanceMethod yX9_isFree, .selects RX9 yX9_isFree yX9_isFree, .code yX9_isFree cX9_isFree 4 (some .boolean), .fieldLink RX9 150 "PortraitRoomsModel" "sittings" "I", .fieldLink RX9 88 "PortraitRoomsModel" "sitDay" "[I", .fieldLink RX9 91 "PortraitRoomsModel" "sitHour" "[I"] ++ wsX90)
def wsX9_book_r1 : List Cond := [Cond.fieldLink RX9 53 "PortraitRoomsModel" "doneOn" "[I", Cond.fieldLink RX9 128 "PortraitRoomsModel" "now" "I", Cond.fieldLink RX9 44 "PortraitRoomsModel" "sitter" "[I", Cond.fieldLink RX9 150 "PortraitRoomsModel" "sittings" "I", Cond.fieldLink RX9 85 "PortraitRoomsModel" "sitOf" "[I", Cond.fieldLink RX9 88 "PortraitRoomsModel" "sitDay" "[I", Cond.fieldLink RX9 91 "PortraitRoomsModel" "sitHour" "[I", Cond.fieldLink RX9 94 "PortraitRoomsModel" "isUsed" "[Z", Cond.methodLink RX9 157 yX9_isPicture, Cond.instanceMethod yX9_isPicture, Cond.selects RX9 yX9_isPicture yX9_isPicture, Cond.initialized RX9, Cond.code yX9_isPicture cX9_isPicture 2 (some .boolean), Cond.fieldLink RX9 110 "PortraitRoomsModel" "pictures" "I", Cond.methodLink RX9 113 yX9_in, Cond.static yX9_in, Cond.code yX9_in cX9_in 3 (some .boolean), Cond.methodLink RX9 160 yX9_couldBe, Cond.instanceMethod yX9_couldBe, Cond.selects RX9 yX9_couldBe yX9_couldBe, Cond.code yX9_couldBe cX9_couldBe 4 (some .boolean), Cond.fieldLink RX9 35 "PortraitRoomsModel" "from" "[I", Cond.fieldLink RX9 38 "PortraitRoomsModel" "to" "[I", Cond.methodLink RX9 147 yX9_lightOf]
def wsX9_book_r2 : List Cond := [Cond.static yX9_lightOf, Cond.code yX9_lightOf cX9_lightOf 1 (some .int), Cond.methodLink RX9 143 Lib.Math.abs.name, Cond.static Lib.Math.abs.name, Cond.initialized "java/lang/Math", Cond.code Lib.Math.abs.name Lib.Math.abs.code 1 (some .int), Cond.methodLink RX9 153 yX9_isFree, Cond.instanceMethod yX9_isFree, Cond.selects RX9 yX9_isFree yX9_isFree, Cond.code yX9_isFree cX9_isFree 4 (some .boolean), Cond.methodLink RX9 163 yX9_sits, Cond.instanceMethod yX9_sits, Cond.selects RX9 yX9_sits yX9_sits, Cond.code yX9_sits cX9_sits 4 (some .boolean)]
def wsX9_book : List Cond := .code yX9_book cX9_book 4 (some .boolean) :: ((wsX9_book_r1 ++ wsX9_book_r2) ++ wsX90)
def wsX9_unused : List Cond := .code yX9_unused cX9_unused 4 (some .int) :: ([.fieldLink RX9 150 "PortraitRoomsModel" "sittings" "I", .fieldLink RX9 85 "PortraitRoomsModel" "sitOf" "[I", .fieldLink RX9 88 "PortraitRoomsModel" "sitDay" "[I", .fieldLink RX9 94 "PortraitRoomsModel" "isUsed" "[Z"] ++ wsX90)
def wsX9_unbook : List Cond := .code yX9_unbook cX9_unbook 5 (some .boolean) :: ([.fieldLink RX9 128 "PortraitRoomsModel" "now" "I", .fieldLink RX9 150 "PortraitRoomsModel" "sittings" "I", .fieldLink RX9 85 "PortraitRoomsModel" "sitOf" "[I", .fieldLink RX9 88 "PortraitRoomsModel" "sitDay" "[I", .fieldLink RX9 91 "PortraitRoomsModel" "sitHour" "[I", .fieldLink RX9 94 "PortraitRoomsModel" "isUsed" "[Z", .methodLink RX9 166 yX9_unused, .instanceMethod yX9_unused, .selects RX9 yX9_unused yX9_unused, .initialized RX9, .code yX9_unused cX9_unused 4 (some .int)] ++ wsX90)
def wsX9_isWet : List Cond := .code yX9_isWet cX9_isWet 3 (some .boolean) :: ([.fieldLink RX9 70 "PortraitRoomsModel" "latest" "[[I", .fieldLink RX9 128 "PortraitRoomsModel" "now" "I", .fieldLink RX9 19 "PortraitRoomsModel" "dry" "[I"] ++ wsX90)
def wsX9_against : List Cond := .code yX9_against cX9_against 4 (some .int) :: ([.fieldLink RX9 67 "PortraitRoomsModel" "has" "[[I", .fieldLink RX9 64 "PortraitRoomsModel" "wants" "[[I", .fieldLink RX9 22 "PortraitRoomsModel" "handDay" "[I", .fieldLink RX9 128 "PortraitRoomsModel" "now" "I", .fieldLink RX9 25 "PortraitRoomsModel" "handMany" "[I", .fieldLink RX9 56 "PortraitRoomsModel" "robe" "[I", .fieldLink RX9 79 "PortraitRoomsModel" "robeDay" "[I", .fieldLink RX9 82 "PortraitRoomsModel" "robeFor" "[I", .methodLink RX9 169 yX9_isWet, .instanceMethod yX9_isWet, .selects RX9 yX9_isWet yX9_isWet, .initialized RX9, .code yX9_isWet cX9_isWet 3 (some .boolean), .fieldLink RX9 70 "PortraitRoomsModel" "latest" "[[I", .fieldLink RX9 19 "PortraitRoomsModel" "dry" "[I", .methodLink RX9 166 yX9_unused, .instanceMethod yX9_unused, .selects RX9 yX9_unused yX9_unused, .code yX9_unused cX9_unused 4 (some .int), .fieldLink RX9 150 "PortraitRoomsModel" "sittings" "I", .fieldLink RX9 85 "PortraitRoomsModel" "sitOf" "[I", .fieldLink RX9 88 "PortraitRoomsModel" "sitDay" "[I", .fieldLink RX9 94 "PortraitRoomsModel" "isUsed" "[Z"] ++ wsX90)
def wsX9_isDone : List Cond := .code yX9_isDone cX9_isDone 4 (some .boolean) :: ([.fieldLink RX9 67 "PortraitRoomsModel" "has" "[[I", .fieldLink RX9 64 "PortraitRoomsModel" "wants" "[[I"] ++ wsX90)
def wsX9_paint_r1 : List Cond := [Cond.fieldLink RX9 94 "PortraitRoomsModel" "isUsed" "[Z", Cond.fieldLink RX9 128 "PortraitRoomsModel" "now" "I", Cond.fieldLink RX9 56 "PortraitRoomsModel" "robe" "[I", Cond.fieldLink RX9 79 "PortraitRoomsModel" "robeDay" "[I", Cond.fieldLink RX9 82 "PortraitRoomsModel" "robeFor" "[I", Cond.fieldLink RX9 25 "PortraitRoomsModel" "handMany" "[I", Cond.fieldLink RX9 22 "PortraitRoomsModel" "handDay" "[I", Cond.fieldLink RX9 67 "PortraitRoomsModel" "has" "[[I", Cond.fieldLink RX9 70 "PortraitRoomsModel" "latest" "[[I", Cond.fieldLink RX9 73 "PortraitRoomsModel" "byHand" "[[I", Cond.fieldLink RX9 179 "PortraitRoomsModel" "layersEver" "I", Cond.fieldLink RX9 53 "PortraitRoomsModel" "doneOn" "[I", Cond.fieldLink RX9 41 "PortraitRoomsModel" "dues" "[I", Cond.fieldLink RX9 44 "PortraitRoomsModel" "sitter" "[I", Cond.fieldLink RX9 47 "PortraitRoomsModel" "price" "[I", Cond.methodLink RX9 157 yX9_isPicture, Cond.instanceMethod yX9_isPicture, Cond.selects RX9 yX9_isPicture yX9_isPicture, Cond.initialized RX9, Cond.code yX9_isPicture cX9_isPicture 2 (some .boolean), Cond.fieldLink RX9 110 "PortraitRoomsModel" "pictures" "I", Cond.methodLink RX9 113 yX9_in, Cond.static yX9_in, Cond.code yX9_in cX9_in 3 (some .boolean)]
def wsX9_paint_r2 : List Cond := [Cond.methodLink RX9 172 yX9_isHand, Cond.instanceMethod yX9_isHand, Cond.selects RX9 yX9_isHand yX9_isHand, Cond.code yX9_isHand cX9_isHand 2 (some .boolean), Cond.fieldLink RX9 31 "PortraitRoomsModel" "hands" "I", Cond.methodLink RX9 175 yX9_against, Cond.instanceMethod yX9_against, Cond.selects RX9 yX9_against yX9_against, Cond.code yX9_against cX9_against 4 (some .int), Cond.fieldLink RX9 64 "PortraitRoomsModel" "wants" "[[I", Cond.methodLink RX9 169 yX9_isWet, Cond.instanceMethod yX9_isWet, Cond.selects RX9 yX9_isWet yX9_isWet, Cond.code yX9_isWet cX9_isWet 3 (some .boolean), Cond.fieldLink RX9 19 "PortraitRoomsModel" "dry" "[I", Cond.methodLink RX9 166 yX9_unused, Cond.instanceMethod yX9_unused, Cond.selects RX9 yX9_unused yX9_unused, Cond.code yX9_unused cX9_unused 4 (some .int), Cond.fieldLink RX9 150 "PortraitRoomsModel" "sittings" "I", Cond.fieldLink RX9 85 "PortraitRoomsModel" "sitOf" "[I", Cond.fieldLink RX9 88 "PortraitRoomsModel" "sitDay" "[I", Cond.methodLink RX9 182 yX9_isDone, Cond.instanceMethod yX9_isDone]
def wsX9_paint_r3 : List Cond := [Cond.selects RX9 yX9_isDone yX9_isDone, Cond.code yX9_isDone cX9_isDone 4 (some .boolean)]
def wsX9_paint : List Cond := .code yX9_paint cX9_paint 5 (some .int) :: ((wsX9_paint_r1 ++ (wsX9_paint_r2 ++ wsX9_paint_r3)) ++ wsX90)
def wsX9_pay : List Cond := .code yX9_pay cX9_pay 3 (some .int) :: ([.fieldLink RX9 41 "PortraitRoomsModel" "dues" "[I", .fieldLink RX9 185 "PortraitRoomsModel" "paid" "I", .methodLink RX9 123 yX9_isSitter, .instanceMethod yX9_isSitter, .selects RX9 yX9_isSitter yX9_isSitter, .initialized RX9, .code yX9_isSitter cX9_isSitter 2 (some .boolean), .fieldLink RX9 117 "PortraitRoomsModel" "sitters" "I", .methodLink RX9 113 yX9_in, .static yX9_in, .code yX9_in cX9_in 3 (some .boolean)] ++ wsX90)
def wsX9_tries_r1 : List Cond := [Cond.fieldLink RX9 188 "PortraitRoomsModel" "askedMany" "I", Cond.fieldLink RX9 191 "PortraitRoomsModel" "bestSum" "I", Cond.fieldLink RX9 107 "PortraitRoomsModel" "bestLine" "[I", Cond.fieldLink RX9 104 "PortraitRoomsModel" "line" "[I", Cond.fieldLink RX9 101 "PortraitRoomsModel" "asked" "[I", Cond.fieldLink RX9 44 "PortraitRoomsModel" "sitter" "[I", Cond.fieldLink RX9 128 "PortraitRoomsModel" "now" "I", Cond.fieldLink RX9 50 "PortraitRoomsModel" "came" "[I", Cond.methodLink RX9 160 yX9_couldBe, Cond.instanceMethod yX9_couldBe, Cond.selects RX9 yX9_couldBe yX9_couldBe, Cond.initialized RX9, Cond.code yX9_couldBe cX9_couldBe 4 (some .boolean), Cond.fieldLink RX9 35 "PortraitRoomsModel" "from" "[I", Cond.fieldLink RX9 38 "PortraitRoomsModel" "to" "[I", Cond.methodLink RX9 147 yX9_lightOf, Cond.static yX9_lightOf, Cond.code yX9_lightOf cX9_lightOf 1 (some .int), Cond.methodLink RX9 143 Lib.Math.abs.name, Cond.static Lib.Math.abs.name, Cond.initialized "java/lang/Math", Cond.code Lib.Math.abs.name Lib.Math.abs.code 1 (some .int), Cond.methodLink RX9 113 yX9_in, Cond.static yX9_in]
def wsX9_tries_r2 : List Cond := [Cond.code yX9_in cX9_in 3 (some .boolean), Cond.methodLink RX9 153 yX9_isFree, Cond.instanceMethod yX9_isFree, Cond.selects RX9 yX9_isFree yX9_isFree, Cond.code yX9_isFree cX9_isFree 4 (some .boolean), Cond.fieldLink RX9 150 "PortraitRoomsModel" "sittings" "I", Cond.fieldLink RX9 88 "PortraitRoomsModel" "sitDay" "[I", Cond.fieldLink RX9 91 "PortraitRoomsModel" "sitHour" "[I", Cond.methodLink RX9 194 yX9_tries, Cond.instanceMethod yX9_tries, Cond.selects RX9 yX9_tries yX9_tries]
def wsX9_tries : List Cond := .code yX9_tries cX9_tries 8 none :: ((wsX9_tries_r1 ++ wsX9_tries_r2) ++ wsX90)
def wsX9_plans_r1 : List Cond := [Cond.fieldLink RX9 128 "PortraitRoomsModel" "now" "I", Cond.fieldLink RX9 188 "PortraitRoomsModel" "askedMany" "I", Cond.fieldLink RX9 110 "PortraitRoomsModel" "pictures" "I", Cond.fieldLink RX9 53 "PortraitRoomsModel" "doneOn" "[I", Cond.fieldLink RX9 67 "PortraitRoomsModel" "has" "[[I", Cond.fieldLink RX9 64 "PortraitRoomsModel" "wants" "[[I", Cond.fieldLink RX9 44 "PortraitRoomsModel" "sitter" "[I", Cond.fieldLink RX9 101 "PortraitRoomsModel" "asked" "[I", Cond.fieldLink RX9 191 "PortraitRoomsModel" "bestSum" "I", Cond.methodLink RX9 113 yX9_in, Cond.static yX9_in, Cond.initialized RX9, Cond.code yX9_in cX9_in 3 (some .boolean), Cond.methodLink RX9 163 yX9_sits, Cond.instanceMethod yX9_sits, Cond.selects RX9 yX9_sits yX9_sits, Cond.code yX9_sits cX9_sits 4 (some .boolean), Cond.fieldLink RX9 150 "PortraitRoomsModel" "sittings" "I", Cond.fieldLink RX9 88 "PortraitRoomsModel" "sitDay" "[I", Cond.fieldLink RX9 85 "PortraitRoomsModel" "sitOf" "[I", Cond.methodLink RX9 194 yX9_tries, Cond.instanceMethod yX9_tries, Cond.selects RX9 yX9_tries yX9_tries, Cond.code yX9_tries cX9_tries 8 none]
def wsX9_plans_r2 : List Cond := [Cond.fieldLink RX9 107 "PortraitRoomsModel" "bestLine" "[I", Cond.fieldLink RX9 104 "PortraitRoomsModel" "line" "[I", Cond.fieldLink RX9 50 "PortraitRoomsModel" "came" "[I", Cond.methodLink RX9 160 yX9_couldBe, Cond.instanceMethod yX9_couldBe, Cond.selects RX9 yX9_couldBe yX9_couldBe, Cond.code yX9_couldBe cX9_couldBe 4 (some .boolean), Cond.fieldLink RX9 35 "PortraitRoomsModel" "from" "[I", Cond.fieldLink RX9 38 "PortraitRoomsModel" "to" "[I", Cond.methodLink RX9 147 yX9_lightOf, Cond.static yX9_lightOf, Cond.code yX9_lightOf cX9_lightOf 1 (some .int), Cond.methodLink RX9 143 Lib.Math.abs.name, Cond.static Lib.Math.abs.name, Cond.initialized "java/lang/Math", Cond.code Lib.Math.abs.name Lib.Math.abs.code 1 (some .int), Cond.methodLink RX9 153 yX9_isFree, Cond.instanceMethod yX9_isFree, Cond.selects RX9 yX9_isFree yX9_isFree, Cond.code yX9_isFree cX9_isFree 4 (some .boolean), Cond.fieldLink RX9 91 "PortraitRoomsModel" "sitHour" "[I"]
def wsX9_plans : List Cond := .code yX9_plans cX9_plans 3 (some .boolean) :: ((wsX9_plans_r1 ++ wsX9_plans_r2) ++ wsX90)
def wsX9_planned_r1 : List Cond := [Cond.fieldLink RX9 188 "PortraitRoomsModel" "askedMany" "I", Cond.fieldLink RX9 101 "PortraitRoomsModel" "asked" "[I", Cond.fieldLink RX9 107 "PortraitRoomsModel" "bestLine" "[I", Cond.methodLink RX9 198 yX9_plans, Cond.instanceMethod yX9_plans, Cond.selects RX9 yX9_plans yX9_plans, Cond.initialized RX9, Cond.code yX9_plans cX9_plans 3 (some .boolean), Cond.fieldLink RX9 128 "PortraitRoomsModel" "now" "I", Cond.fieldLink RX9 110 "PortraitRoomsModel" "pictures" "I", Cond.fieldLink RX9 53 "PortraitRoomsModel" "doneOn" "[I", Cond.fieldLink RX9 67 "PortraitRoomsModel" "has" "[[I", Cond.fieldLink RX9 64 "PortraitRoomsModel" "wants" "[[I", Cond.fieldLink RX9 44 "PortraitRoomsModel" "sitter" "[I", Cond.fieldLink RX9 191 "PortraitRoomsModel" "bestSum" "I", Cond.methodLink RX9 113 yX9_in, Cond.static yX9_in, Cond.code yX9_in cX9_in 3 (some .boolean), Cond.methodLink RX9 163 yX9_sits, Cond.instanceMethod yX9_sits, Cond.selects RX9 yX9_sits yX9_sits, Cond.code yX9_sits cX9_sits 4 (some .boolean), Cond.fieldLink RX9 150 "PortraitRoomsModel" "sittings" "I", Cond.fieldLink RX9 88 "PortraitRoomsModel" "sitDay" "[I"]
def wsX9_planned_r2 : List Cond := [Cond.fieldLink RX9 85 "PortraitRoomsModel" "sitOf" "[I", Cond.methodLink RX9 194 yX9_tries, Cond.instanceMethod yX9_tries, Cond.selects RX9 yX9_tries yX9_tries, Cond.code yX9_tries cX9_tries 8 none, Cond.fieldLink RX9 104 "PortraitRoomsModel" "line" "[I", Cond.fieldLink RX9 50 "PortraitRoomsModel" "came" "[I", Cond.methodLink RX9 160 yX9_couldBe, Cond.instanceMethod yX9_couldBe, Cond.selects RX9 yX9_couldBe yX9_couldBe, Cond.code yX9_couldBe cX9_couldBe 4 (some .boolean), Cond.fieldLink RX9 35 "PortraitRoomsModel" "from" "[I", Cond.fieldLink RX9 38 "PortraitRoomsModel" "to" "[I", Cond.methodLink RX9 147 yX9_lightOf, Cond.static yX9_lightOf, Cond.code yX9_lightOf cX9_lightOf 1 (some .int), Cond.methodLink RX9 143 Lib.Math.abs.name, Cond.static Lib.Math.abs.name, Cond.initialized "java/lang/Math", Cond.code Lib.Math.abs.name Lib.Math.abs.code 1 (some .int), Cond.methodLink RX9 153 yX9_isFree, Cond.instanceMethod yX9_isFree, Cond.selects RX9 yX9_isFree yX9_isFree, Cond.code yX9_isFree cX9_isFree 4 (some .boolean)]
def wsX9_planned_r3 : List Cond := [Cond.fieldLink RX9 91 "PortraitRoomsModel" "sitHour" "[I"]
def wsX9_planned : List Cond := .code yX9_planned cX9_planned 4 (some .int) :: ((wsX9_planned_r1 ++ (wsX9_planned_r2 ++ wsX9_planned_r3)) ++ wsX90)
def wsX9_worth_r1 : List Cond := [Cond.fieldLink RX9 191 "PortraitRoomsModel" "bestSum" "I", Cond.methodLink RX9 198 yX9_plans, Cond.instanceMethod yX9_plans, Cond.selects RX9 yX9_plans yX9_plans, Cond.initialized RX9, Cond.code yX9_plans cX9_plans 3 (some .boolean), Cond.fieldLink RX9 128 "PortraitRoomsModel" "now" "I", Cond.fieldLink RX9 188 "PortraitRoomsModel" "askedMany" "I", Cond.fieldLink RX9 110 "PortraitRoomsModel" "pictures" "I", Cond.fieldLink RX9 53 "PortraitRoomsModel" "doneOn" "[I", Cond.fieldLink RX9 67 "PortraitRoomsModel" "has" "[[I", Cond.fieldLink RX9 64 "PortraitRoomsModel" "wants" "[[I", Cond.fieldLink RX9 44 "PortraitRoomsModel" "sitter" "[I", Cond.fieldLink RX9 101 "PortraitRoomsModel" "asked" "[I", Cond.methodLink RX9 113 yX9_in, Cond.static yX9_in, Cond.code yX9_in cX9_in 3 (some .boolean), Cond.methodLink RX9 163 yX9_sits, Cond.instanceMethod yX9_sits, Cond.selects RX9 yX9_sits yX9_sits, Cond.code yX9_sits cX9_sits 4 (some .boolean), Cond.fieldLink RX9 150 "PortraitRoomsModel" "sittings" "I", Cond.fieldLink RX9 88 "PortraitRoomsModel" "sitDay" "[I", Cond.fieldLink RX9 85 "PortraitRoomsModel" "sitOf" "[I"]
def wsX9_worth_r2 : List Cond := [Cond.methodLink RX9 194 yX9_tries, Cond.instanceMethod yX9_tries, Cond.selects RX9 yX9_tries yX9_tries, Cond.code yX9_tries cX9_tries 8 none, Cond.fieldLink RX9 107 "PortraitRoomsModel" "bestLine" "[I", Cond.fieldLink RX9 104 "PortraitRoomsModel" "line" "[I", Cond.fieldLink RX9 50 "PortraitRoomsModel" "came" "[I", Cond.methodLink RX9 160 yX9_couldBe, Cond.instanceMethod yX9_couldBe, Cond.selects RX9 yX9_couldBe yX9_couldBe, Cond.code yX9_couldBe cX9_couldBe 4 (some .boolean), Cond.fieldLink RX9 35 "PortraitRoomsModel" "from" "[I", Cond.fieldLink RX9 38 "PortraitRoomsModel" "to" "[I", Cond.methodLink RX9 147 yX9_lightOf, Cond.static yX9_lightOf, Cond.code yX9_lightOf cX9_lightOf 1 (some .int), Cond.methodLink RX9 143 Lib.Math.abs.name, Cond.static Lib.Math.abs.name, Cond.initialized "java/lang/Math", Cond.code Lib.Math.abs.name Lib.Math.abs.code 1 (some .int), Cond.methodLink RX9 153 yX9_isFree, Cond.instanceMethod yX9_isFree, Cond.selects RX9 yX9_isFree yX9_isFree, Cond.code yX9_isFree cX9_isFree 4 (some .boolean)]
def wsX9_worth_r3 : List Cond := [Cond.fieldLink RX9 91 "PortraitRoomsModel" "sitHour" "[I"]
def wsX9_worth : List Cond := .code yX9_worth cX9_worth 2 (some .int) :: ((wsX9_worth_r1 ++ (wsX9_worth_r2 ++ wsX9_worth_r3)) ++ wsX90)
def wsX9_trace : List Cond := .code yX9_trace cX9_trace 3 (some .boolean) :: ([.constant RX9 201 (65535), .fieldLink RX9 59 "PortraitRoomsModel" "traces" "[I", .methodLink RX9 157 yX9_isPicture, .instanceMethod yX9_isPicture, .selects RX9 yX9_isPicture yX9_isPicture, .initialized RX9, .code yX9_isPicture cX9_isPicture 2 (some .boolean), .fieldLink RX9 110 "PortraitRoomsModel" "pictures" "I", .methodLink RX9 113 yX9_in, .static yX9_in, .code yX9_in cX9_in 3 (some .boolean)] ++ wsX90)
def wsX9_differ : List Cond := .code yX9_differ cX9_differ 5 (some .int) :: ([.fieldLink RX9 59 "PortraitRoomsModel" "traces" "[I"] ++ wsX90)
def wsX9_from : List Cond := .code yX9_from cX9_from 4 (some .int) :: ([.fieldLink RX9 59 "PortraitRoomsModel" "traces" "[I", .methodLink RX9 157 yX9_isPicture, .instanceMethod yX9_isPicture, .selects RX9 yX9_isPicture yX9_isPicture, .initialized RX9, .code yX9_isPicture cX9_isPicture 2 (some .boolean), .fieldLink RX9 110 "PortraitRoomsModel" "pictures" "I", .methodLink RX9 113 yX9_in, .static yX9_in, .code yX9_in cX9_in 3 (some .boolean), .methodLink RX9 202 yX9_differ, .instanceMethod yX9_differ, .selects RX9 yX9_differ yX9_differ, .code yX9_differ cX9_differ 5 (some .int)] ++ wsX90)
def wsX9_doubt : List Cond := .code yX9_doubt cX9_doubt 4 (some .boolean) :: ([.fieldLink RX9 59 "PortraitRoomsModel" "traces" "[I", .methodLink RX9 205 yX9_from, .instanceMethod yX9_from, .selects RX9 yX9_from yX9_from, .initialized RX9, .code yX9_from cX9_from 4 (some .int), .methodLink RX9 157 yX9_isPicture, .instanceMethod yX9_isPicture, .selects RX9 yX9_isPicture yX9_isPicture, .code yX9_isPicture cX9_isPicture 2 (some .boolean), .fieldLink RX9 110 "PortraitRoomsModel" "pictures" "I", .methodLink RX9 113 yX9_in, .static yX9_in, .code yX9_in cX9_in 3 (some .boolean), .methodLink RX9 202 yX9_differ, .instanceMethod yX9_differ, .selects RX9 yX9_differ yX9_differ, .code yX9_differ cX9_differ 5 (some .int)] ++ wsX90)
def wsX9_habit : List Cond := .code yX9_habit cX9_habit 3 (some .boolean) :: ([.fieldLink RX9 28 "PortraitRoomsModel" "habits" "[I", .methodLink RX9 172 yX9_isHand, .instanceMethod yX9_isHand, .selects RX9 yX9_isHand yX9_isHand, .initialized RX9, .code yX9_isHand cX9_isHand 2 (some .boolean), .fieldLink RX9 31 "PortraitRoomsModel" "hands" "I", .methodLink RX9 113 yX9_in, .static yX9_in, .code yX9_in cX9_in 3 (some .boolean)] ++ wsX90)
def wsX9_margin : List Cond := .code yX9_margin cX9_margin 2 (some .boolean) :: ([.fieldLink RX9 98 "PortraitRoomsModel" "margin" "I", .methodLink RX9 113 yX9_in, .static yX9_in, .initialized RX9, .code yX9_in cX9_in 3 (some .boolean)] ++ wsX90)
def wsX9_strokes : List Cond := .code yX9_strokes cX9_strokes 4 (some .boolean) :: ([.fieldLink RX9 76 "PortraitRoomsModel" "strokes" "[[I", .methodLink RX9 157 yX9_isPicture, .instanceMethod yX9_isPicture, .selects RX9 yX9_isPicture yX9_isPicture, .initialized RX9, .code yX9_isPicture cX9_isPicture 2 (some .boolean), .fieldLink RX9 110 "PortraitRoomsModel" "pictures" "I", .methodLink RX9 113 yX9_in, .static yX9_in, .code yX9_in cX9_in 3 (some .boolean)] ++ wsX90)
def wsX9_squares : List Cond := .code yX9_squares cX9_squares 7 (some .int) :: ([])
def wsX9_whose : List Cond := .code yX9_whose cX9_whose 6 (some .int) :: ([.fieldLink RX9 76 "PortraitRoomsModel" "strokes" "[[I", .fieldLink RX9 31 "PortraitRoomsModel" "hands" "I", .fieldLink RX9 28 "PortraitRoomsModel" "habits" "[I", .fieldLink RX9 98 "PortraitRoomsModel" "margin" "I", .methodLink RX9 157 yX9_isPicture, .instanceMethod yX9_isPicture, .selects RX9 yX9_isPicture yX9_isPicture, .initialized RX9, .code yX9_isPicture cX9_isPicture 2 (some .boolean), .fieldLink RX9 110 "PortraitRoomsModel" "pictures" "I", .methodLink RX9 113 yX9_in, .static yX9_in, .code yX9_in cX9_in 3 (some .boolean), .methodLink RX9 207 yX9_squares, .static yX9_squares, .code yX9_squares cX9_squares 7 (some .int)] ++ wsX90)
def wsX9_told : List Cond := .code yX9_told cX9_told 5 (some .int) :: ([.fieldLink RX9 53 "PortraitRoomsModel" "doneOn" "[I", .fieldLink RX9 47 "PortraitRoomsModel" "price" "[I", .fieldLink RX9 50 "PortraitRoomsModel" "came" "[I", .fieldLink RX9 150 "PortraitRoomsModel" "sittings" "I", .fieldLink RX9 85 "PortraitRoomsModel" "sitOf" "[I", .fieldLink RX9 94 "PortraitRoomsModel" "isUsed" "[Z", .methodLink RX9 157 yX9_isPicture, .instanceMethod yX9_isPicture, .selects RX9 yX9_isPicture yX9_isPicture, .initialized RX9, .code yX9_isPicture cX9_isPicture 2 (some .boolean), .fieldLink RX9 110 "PortraitRoomsModel" "pictures" "I", .methodLink RX9 113 yX9_in, .static yX9_in, .code yX9_in cX9_in 3 (some .boolean)] ++ wsX90)
def wsX9_part : List Cond := .code yX9_part cX9_part 4 (some .int) :: ([.fieldLink RX9 67 "PortraitRoomsModel" "has" "[[I", .fieldLink RX9 64 "PortraitRoomsModel" "wants" "[[I", .fieldLink RX9 70 "PortraitRoomsModel" "latest" "[[I", .fieldLink RX9 73 "PortraitRoomsModel" "byHand" "[[I", .methodLink RX9 157 yX9_isPicture, .instanceMethod yX9_isPicture, .selects RX9 yX9_isPicture yX9_isPicture, .initialized RX9, .code yX9_isPicture cX9_isPicture 2 (some .boolean), .fieldLink RX9 110 "PortraitRoomsModel" "pictures" "I", .methodLink RX9 113 yX9_in, .static yX9_in, .code yX9_in cX9_in 3 (some .boolean), .methodLink RX9 169 yX9_isWet, .instanceMethod yX9_isWet, .selects RX9 yX9_isWet yX9_isWet, .code yX9_isWet cX9_isWet 3 (some .boolean), .fieldLink RX9 128 "PortraitRoomsModel" "now" "I", .fieldLink RX9 19 "PortraitRoomsModel" "dry" "[I"] ++ wsX90)
def wsX9_due : List Cond := .code yX9_due cX9_due 2 (some .int) :: ([.fieldLink RX9 41 "PortraitRoomsModel" "dues" "[I", .methodLink RX9 123 yX9_isSitter, .instanceMethod yX9_isSitter, .selects RX9 yX9_isSitter yX9_isSitter, .initialized RX9, .code yX9_isSitter cX9_isSitter 2 (some .boolean), .fieldLink RX9 117 "PortraitRoomsModel" "sitters" "I", .methodLink RX9 113 yX9_in, .static yX9_in, .code yX9_in cX9_in 3 (some .boolean)] ++ wsX90)
def wsX9_count : List Cond := .code yX9_count cX9_count 4 (some .int) :: ([.fieldLink RX9 128 "PortraitRoomsModel" "now" "I", .fieldLink RX9 31 "PortraitRoomsModel" "hands" "I", .fieldLink RX9 117 "PortraitRoomsModel" "sitters" "I", .fieldLink RX9 110 "PortraitRoomsModel" "pictures" "I", .fieldLink RX9 53 "PortraitRoomsModel" "doneOn" "[I", .fieldLink RX9 150 "PortraitRoomsModel" "sittings" "I", .fieldLink RX9 179 "PortraitRoomsModel" "layersEver" "I", .fieldLink RX9 185 "PortraitRoomsModel" "paid" "I", .fieldLink RX9 135 "PortraitRoomsModel" "prices" "I"] ++ wsX90)
def wsJ9_abs_0f7a4 : List Cond := .code yJ9_abs_0f7a4 cJ9_abs_0f7a4 1 (some .int) :: ([])
def wsJ9_min_7cf53 : List Cond := .code yJ9_min_7cf53 cJ9_min_7cf53 2 (some .int) :: ([])
def wsL_law_r1 : List Cond := [Cond.classLink RL 7 RX8, Cond.instantiable RX8 17, Cond.initialized RX8, Cond.classLink RL 10 RX9, Cond.instantiable RX9 42, Cond.initialized RX9, Cond.methodLink RL 9 yX8_init, Cond.instanceMethod yX8_init, Cond.code yX8_init cX8_init 1 none, Cond.methodLink RX8 3 objectInit, Cond.instanceMethod objectInit, Cond.code objectInit ⟨#[0xb1]⟩ 1 none, Cond.classLink RX8 9 RX1, Cond.instantiable RX1 4, Cond.initialized RX1, Cond.fieldLink RX8 12 "PortraitRooms" "lists" "LPortraitRooms$Lists;", Cond.arrayClass .int, Cond.fieldLink RX8 16 "PortraitRooms" "dryDays" "[I", Cond.classLink RX8 20 RX0, Cond.fieldLink RX8 22 "PortraitRooms" "hands" "[LPortraitRooms$Hand;", Cond.classLink RX8 26 RX6, Cond.fieldLink RX8 28 "PortraitRooms" "sitters" "[LPortraitRooms$Sitter;", Cond.classLink RX8 32 RX3, Cond.fieldLink RX8 34 "PortraitRooms" "pictures" "[LPortraitRooms$Picture;"]
def wsL_law_r2 : List Cond := [Cond.classLink RX8 38 RX7, Cond.instantiable RX7 6, Cond.initialized RX7, Cond.fieldLink RX8 41 "PortraitRooms" "sittings" "LPortraitRooms$Sittings;", Cond.classLink RX8 45 RX5, Cond.instantiable RX5 2, Cond.initialized RX5, Cond.fieldLink RX8 48 "PortraitRooms" "robes" "LPortraitRooms$Robes;", Cond.classLink RX8 52 RX4, Cond.instantiable RX4 9, Cond.initialized RX4, Cond.fieldLink RX8 55 "PortraitRooms" "plan" "LPortraitRooms$Plan;", Cond.instantiable RX0 3, Cond.initialized RX0, Cond.fieldLink RX8 60 "PortraitRooms" "handsHere" "I", Cond.fieldLink RX8 64 "PortraitRooms" "marginNow" "I", Cond.methodLink RX8 11 yX1_init, Cond.instanceMethod yX1_init, Cond.code yX1_init cX1_init 1 none, Cond.methodLink RX1 3 objectInit, Cond.fieldLink RX1 9 "PortraitRooms$Lists" "years" "[I", Cond.fieldLink RX1 15 "PortraitRooms$Lists" "sizes" "[I", Cond.fieldLink RX1 18 "PortraitRooms$Lists" "prices" "[I", Cond.methodLink RX8 40 yX7_init]
def wsL_law_r3 : List Cond := [Cond.instanceMethod yX7_init, Cond.code yX7_init cX7_init 1 none, Cond.methodLink RX7 3 objectInit, Cond.fieldLink RX7 9 "PortraitRooms$Sittings" "pictures" "[I", Cond.fieldLink RX7 15 "PortraitRooms$Sittings" "sitters" "[I", Cond.fieldLink RX7 18 "PortraitRooms$Sittings" "days" "[I", Cond.fieldLink RX7 21 "PortraitRooms$Sittings" "hours" "[I", Cond.arrayClass .boolean, Cond.fieldLink RX7 24 "PortraitRooms$Sittings" "used" "[Z", Cond.methodLink RX8 47 yX5_init, Cond.instanceMethod yX5_init, Cond.code yX5_init cX5_init 2 none, Cond.methodLink RX5 3 objectInit, Cond.fieldLink RX5 9 "PortraitRooms$Robes" "pictures" "[I", Cond.fieldLink RX5 15 "PortraitRooms$Robes" "days" "[I", Cond.methodLink RX8 54 yX4_init, Cond.instanceMethod yX4_init, Cond.code yX4_init cX4_init 1 none, Cond.methodLink RX4 3 objectInit, Cond.fieldLink RX4 9 "PortraitRooms$Plan" "pictures" "[I", Cond.fieldLink RX4 15 "PortraitRooms$Plan" "sitters" "[I", Cond.fieldLink RX4 18 "PortraitRooms$Plan" "openHours" "[I", Cond.fieldLink RX4 21 "PortraitRooms$Plan" "weights" "[I", Cond.fieldLink RX4 24 "PortraitRooms$Plan" "tried" "[I"]
def wsL_law_r4 : List Cond := [Cond.fieldLink RX4 27 "PortraitRooms$Plan" "best" "[I", Cond.methodLink RX8 59 yX0_init, Cond.instanceMethod yX0_init, Cond.code yX0_init cX0_init 1 none, Cond.methodLink RX0 3 objectInit, Cond.fieldLink RX0 9 "PortraitRooms$Hand" "habits" "I", Cond.fieldLink RX0 15 "PortraitRooms$Hand" "latestDay" "I", Cond.methodLink RL 12 yX9_init, Cond.instanceMethod yX9_init, Cond.code yX9_init cX9_init 2 none, Cond.methodLink RX9 1 objectInit, Cond.fieldLink RX9 9 "PortraitRoomsModel" "listYear" "[I", Cond.fieldLink RX9 13 "PortraitRoomsModel" "listSize" "[I", Cond.fieldLink RX9 16 "PortraitRoomsModel" "listPrice" "[I", Cond.fieldLink RX9 19 "PortraitRoomsModel" "dry" "[I", Cond.fieldLink RX9 22 "PortraitRoomsModel" "handDay" "[I", Cond.fieldLink RX9 25 "PortraitRoomsModel" "handMany" "[I", Cond.fieldLink RX9 28 "PortraitRoomsModel" "habits" "[I", Cond.fieldLink RX9 31 "PortraitRoomsModel" "hands" "I", Cond.fieldLink RX9 35 "PortraitRoomsModel" "from" "[I", Cond.fieldLink RX9 38 "PortraitRoomsModel" "to" "[I", Cond.fieldLink RX9 41 "PortraitRoomsModel" "dues" "[I", Cond.fieldLink RX9 44 "PortraitRoomsModel" "sitter" "[I", Cond.fieldLink RX9 47 "PortraitRoomsModel" "price" "[I"]
def wsL_law_r5 : List Cond := [Cond.fieldLink RX9 50 "PortraitRoomsModel" "came" "[I", Cond.fieldLink RX9 53 "PortraitRoomsModel" "doneOn" "[I", Cond.fieldLink RX9 56 "PortraitRoomsModel" "robe" "[I", Cond.fieldLink RX9 59 "PortraitRoomsModel" "traces" "[I", Cond.classLink RX9 62 "[[I", Cond.fieldLink RX9 64 "PortraitRoomsModel" "wants" "[[I", Cond.fieldLink RX9 67 "PortraitRoomsModel" "has" "[[I", Cond.fieldLink RX9 70 "PortraitRoomsModel" "latest" "[[I", Cond.fieldLink RX9 73 "PortraitRoomsModel" "byHand" "[[I", Cond.fieldLink RX9 76 "PortraitRoomsModel" "strokes" "[[I", Cond.fieldLink RX9 79 "PortraitRoomsModel" "robeDay" "[I", Cond.fieldLink RX9 82 "PortraitRoomsModel" "robeFor" "[I", Cond.fieldLink RX9 85 "PortraitRoomsModel" "sitOf" "[I", Cond.fieldLink RX9 88 "PortraitRoomsModel" "sitDay" "[I", Cond.fieldLink RX9 91 "PortraitRoomsModel" "sitHour" "[I", Cond.fieldLink RX9 94 "PortraitRoomsModel" "isUsed" "[Z", Cond.fieldLink RX9 98 "PortraitRoomsModel" "margin" "I", Cond.fieldLink RX9 101 "PortraitRoomsModel" "asked" "[I", Cond.fieldLink RX9 104 "PortraitRoomsModel" "line" "[I", Cond.fieldLink RX9 107 "PortraitRoomsModel" "bestLine" "[I", Cond.methodLink RL 13 yX8_list, Cond.instanceMethod yX8_list, Cond.selects RX8 yX8_list yX8_list, Cond.code yX8_list cX8_list 4 (some .boolean)]
def wsL_law_r6 : List Cond := [Cond.methodLink RX8 67 yX8_within, Cond.static yX8_within, Cond.code yX8_within cX8_within 2 (some .boolean), Cond.methodLink RX8 71 yX1_add, Cond.instanceMethod yX1_add, Cond.selects RX1 yX1_add yX1_add, Cond.code yX1_add cX1_add 4 (some .boolean), Cond.fieldLink RX1 21 "PortraitRooms$Lists" "known" "I", Cond.methodLink RL 17 yX9_list, Cond.instanceMethod yX9_list, Cond.selects RX9 yX9_list yX9_list, Cond.code yX9_list cX9_list 4 (some .boolean), Cond.fieldLink RX9 120 "PortraitRoomsModel" "lists" "I", Cond.methodLink RX9 113 yX9_in, Cond.static yX9_in, Cond.code yX9_in cX9_in 3 (some .boolean), Cond.methodLink RL 18 yX8_dry, Cond.instanceMethod yX8_dry, Cond.selects RX8 yX8_dry yX8_dry, Cond.code yX8_dry cX8_dry 3 (some .boolean), Cond.methodLink RL 22 yX9_dry, Cond.instanceMethod yX9_dry, Cond.selects RX9 yX9_dry yX9_dry, Cond.code yX9_dry cX9_dry 3 (some .boolean)]
def wsL_law_r7 : List Cond := [Cond.methodLink RL 23 yX8_hand, Cond.instanceMethod yX8_hand, Cond.selects RX8 yX8_hand yX8_hand, Cond.code yX8_hand cX8_hand 1 (some .int), Cond.methodLink RL 27 yX9_hand, Cond.instanceMethod yX9_hand, Cond.selects RX9 yX9_hand yX9_hand, Cond.code yX9_hand cX9_hand 1 (some .int), Cond.methodLink RL 28 yX8_sitter, Cond.instanceMethod yX8_sitter, Cond.selects RX8 yX8_sitter yX8_sitter, Cond.code yX8_sitter cX8_sitter 3 (some .int), Cond.fieldLink RX8 75 "PortraitRooms" "sittersHere" "I", Cond.instantiable RX6 3, Cond.initialized RX6, Cond.methodLink RX8 78 yX6_init, Cond.instanceMethod yX6_init, Cond.code yX6_init cX6_init 3 none, Cond.methodLink RX6 1 objectInit, Cond.fieldLink RX6 7 "PortraitRooms$Sitter" "first" "I", Cond.fieldLink RX6 13 "PortraitRooms$Sitter" "last" "I", Cond.methodLink RL 32 yX9_sitter, Cond.instanceMethod yX9_sitter, Cond.selects RX9 yX9_sitter yX9_sitter]
def wsL_law_r8 : List Cond := [Cond.code yX9_sitter cX9_sitter 3 (some .int), Cond.fieldLink RX9 117 "PortraitRoomsModel" "sitters" "I", Cond.methodLink RL 33 yX8_picture, Cond.instanceMethod yX8_picture, Cond.selects RX8 yX8_picture yX8_picture, Cond.code yX8_picture cX8_picture 8 (some .int), Cond.fieldLink RX8 89 "PortraitRooms" "picturesHere" "I", Cond.fieldLink RX8 92 "PortraitRooms" "now" "I", Cond.instantiable RX3 10, Cond.initialized RX3, Cond.fieldLink RX8 102 "PortraitRooms" "allPrices" "I", Cond.fieldLink RX8 105 "PortraitRooms$Sitter" "owes" "I", Cond.methodLink RX8 81 yX8_sitterAt, Cond.instanceMethod yX8_sitterAt, Cond.selects RX8 yX8_sitterAt yX8_sitterAt, Cond.code yX8_sitterAt cX8_sitterAt 2 (some (.object "PortraitRooms$Sitter")), Cond.methodLink RX8 85 yX8_layersCanBe, Cond.static yX8_layersCanBe, Cond.code yX8_layersCanBe cX8_layersCanBe 3 (some .boolean), Cond.methodLink RX8 95 yX1_priceIn, Cond.instanceMethod yX1_priceIn, Cond.selects RX1 yX1_priceIn yX1_priceIn, Cond.code yX1_priceIn cX1_priceIn 6 (some .int), Cond.methodLink RX8 99 yX3_init]
def wsL_law_r9 : List Cond := [Cond.instanceMethod yX3_init, Cond.code yX3_init cX3_init 8 none, Cond.methodLink RX3 3 objectInit, Cond.fieldLink RX3 9 "PortraitRooms$Picture" "sitter" "I", Cond.fieldLink RX3 15 "PortraitRooms$Picture" "robe" "I", Cond.fieldLink RX3 18 "PortraitRooms$Picture" "price" "I", Cond.fieldLink RX3 21 "PortraitRooms$Picture" "cameOn" "I", Cond.classLink RX3 24 RX2, Cond.fieldLink RX3 26 "PortraitRooms$Picture" "parts" "[LPortraitRooms$Part;", Cond.instantiable RX2 5, Cond.initialized RX2, Cond.fieldLink RX3 33 "PortraitRooms$Picture" "layersLeft" "I", Cond.fieldLink RX3 36 "PortraitRooms$Picture" "doneOn" "I", Cond.fieldLink RX3 39 "PortraitRooms$Picture" "traces" "I", Cond.methodLink RX3 30 yX2_init, Cond.instanceMethod yX2_init, Cond.code yX2_init cX2_init 2 none, Cond.methodLink RX2 3 objectInit, Cond.fieldLink RX2 9 "PortraitRooms$Part" "wanted" "I", Cond.fieldLink RX2 15 "PortraitRooms$Part" "latestDay" "I", Cond.fieldLink RX2 18 "PortraitRooms$Part" "latestHand" "I", Cond.fieldLink RX2 21 "PortraitRooms$Part" "strokes" "I", Cond.methodLink RL 37 yX9_picture, Cond.instanceMethod yX9_picture]
def wsL_law_r10 : List Cond := [Cond.selects RX9 yX9_picture yX9_picture, Cond.code yX9_picture cX9_picture 9 (some .int), Cond.constant RX9 127 (33333), Cond.fieldLink RX9 110 "PortraitRoomsModel" "pictures" "I", Cond.fieldLink RX9 128 "PortraitRoomsModel" "now" "I", Cond.fieldLink RX9 135 "PortraitRoomsModel" "prices" "I", Cond.methodLink RX9 123 yX9_isSitter, Cond.instanceMethod yX9_isSitter, Cond.selects RX9 yX9_isSitter yX9_isSitter, Cond.code yX9_isSitter cX9_isSitter 2 (some .boolean), Cond.methodLink RX9 131 yX9_listed, Cond.instanceMethod yX9_listed, Cond.selects RX9 yX9_listed yX9_listed, Cond.code yX9_listed cX9_listed 5 (some .int), Cond.methodLink RL 38 yX8_go, Cond.instanceMethod yX8_go, Cond.selects RX8 yX8_go yX8_go, Cond.code yX8_go cX8_go 2 (some .int), Cond.methodLink RX8 108 Lib.Math.min.name, Cond.static Lib.Math.min.name, Cond.initialized "java/lang/Math", Cond.code Lib.Math.min.name Lib.Math.min.code 2 (some .int), Cond.methodLink RL 42 yX9_go, Cond.instanceMethod yX9_go]
def wsL_law_r11 : List Cond := [Cond.selects RX9 yX9_go yX9_go, Cond.code yX9_go cX9_go 2 (some .int), Cond.methodLink RX9 138 Lib.Math.min.name, Cond.methodLink RL 43 yX8_light, Cond.instanceMethod yX8_light, Cond.selects RX8 yX8_light yX8_light, Cond.code yX8_light cX8_light 2 (some .int), Cond.methodLink RX8 113 yX8_lightHours, Cond.static yX8_lightHours, Cond.code yX8_lightHours cX8_lightHours 1 (some .int), Cond.methodLink RX8 241 Lib.Math.abs.name, Cond.static Lib.Math.abs.name, Cond.code Lib.Math.abs.name Lib.Math.abs.code 1 (some .int), Cond.methodLink RL 46 yX9_light, Cond.instanceMethod yX9_light, Cond.selects RX9 yX9_light yX9_light, Cond.code yX9_light cX9_light 2 (some .int), Cond.methodLink RX9 147 yX9_lightOf, Cond.static yX9_lightOf, Cond.code yX9_lightOf cX9_lightOf 1 (some .int), Cond.methodLink RX9 143 Lib.Math.abs.name, Cond.methodLink RL 47 yX8_book, Cond.instanceMethod yX8_book, Cond.selects RX8 yX8_book yX8_book]
def wsL_law_r12 : List Cond := [Cond.code yX8_book cX8_book 6 (some .boolean), Cond.fieldLink RX8 128 "PortraitRooms$Picture" "sitter" "I", Cond.fieldLink RX8 143 "PortraitRooms$Picture" "sittingsBooked" "I", Cond.methodLink RX8 117 yX8_pictureAt, Cond.instanceMethod yX8_pictureAt, Cond.selects RX8 yX8_pictureAt yX8_pictureAt, Cond.code yX8_pictureAt cX8_pictureAt 2 (some (.object "PortraitRooms$Picture")), Cond.methodLink RX8 121 yX3_isDone, Cond.instanceMethod yX3_isDone, Cond.selects RX3 yX3_isDone yX3_isDone, Cond.code yX3_isDone cX3_isDone 1 (some .boolean), Cond.methodLink RX8 125 yX8_isNowOrLater, Cond.instanceMethod yX8_isNowOrLater, Cond.selects RX8 yX8_isNowOrLater yX8_isNowOrLater, Cond.code yX8_isNowOrLater cX8_isNowOrLater 2 (some .boolean), Cond.methodLink RX8 131 yX6_canCome, Cond.instanceMethod yX6_canCome, Cond.selects RX6 yX6_canCome yX6_canCome, Cond.code yX6_canCome cX6_canCome 2 (some .boolean), Cond.methodLink RX8 134 yX7_isTaken, Cond.instanceMethod yX7_isTaken, Cond.selects RX7 yX7_isTaken yX7_isTaken, Cond.code yX7_isTaken cX7_isTaken 4 (some .boolean), Cond.fieldLink RX7 28 "PortraitRooms$Sittings" "there" "I"]
def wsL_law_r13 : List Cond := [Cond.methodLink RX8 137 yX7_hasSitter, Cond.instanceMethod yX7_hasSitter, Cond.selects RX7 yX7_hasSitter yX7_hasSitter, Cond.code yX7_hasSitter cX7_hasSitter 4 (some .boolean), Cond.methodLink RX8 140 yX7_add, Cond.instanceMethod yX7_add, Cond.selects RX7 yX7_add yX7_add, Cond.code yX7_add cX7_add 5 (some .boolean), Cond.methodLink RL 50 yX9_book, Cond.instanceMethod yX9_book, Cond.selects RX9 yX9_book yX9_book, Cond.code yX9_book cX9_book 4 (some .boolean), Cond.fieldLink RX9 150 "PortraitRoomsModel" "sittings" "I", Cond.methodLink RX9 157 yX9_isPicture, Cond.instanceMethod yX9_isPicture, Cond.selects RX9 yX9_isPicture yX9_isPicture, Cond.code yX9_isPicture cX9_isPicture 2 (some .boolean), Cond.methodLink RX9 160 yX9_couldBe, Cond.instanceMethod yX9_couldBe, Cond.selects RX9 yX9_couldBe yX9_couldBe, Cond.code yX9_couldBe cX9_couldBe 4 (some .boolean), Cond.methodLink RX9 153 yX9_isFree, Cond.instanceMethod yX9_isFree, Cond.selects RX9 yX9_isFree yX9_isFree]
def wsL_law_r14 : List Cond := [Cond.code yX9_isFree cX9_isFree 4 (some .boolean), Cond.methodLink RX9 163 yX9_sits, Cond.instanceMethod yX9_sits, Cond.selects RX9 yX9_sits yX9_sits, Cond.code yX9_sits cX9_sits 4 (some .boolean), Cond.methodLink RL 51 yX8_unbook, Cond.instanceMethod yX8_unbook, Cond.selects RX8 yX8_unbook yX8_unbook, Cond.code yX8_unbook cX8_unbook 5 (some .boolean), Cond.methodLink RX8 146 yX7_unusedOf, Cond.instanceMethod yX7_unusedOf, Cond.selects RX7 yX7_unusedOf yX7_unusedOf, Cond.code yX7_unusedOf cX7_unusedOf 4 (some .int), Cond.methodLink RX8 149 yX7_remove, Cond.instanceMethod yX7_remove, Cond.selects RX7 yX7_remove yX7_remove, Cond.code yX7_remove cX7_remove 2 none, Cond.methodLink RL 54 yX9_unbook, Cond.instanceMethod yX9_unbook, Cond.selects RX9 yX9_unbook yX9_unbook, Cond.code yX9_unbook cX9_unbook 5 (some .boolean), Cond.methodLink RX9 166 yX9_unused, Cond.instanceMethod yX9_unused, Cond.selects RX9 yX9_unused yX9_unused]
def wsL_law_r15 : List Cond := [Cond.code yX9_unused cX9_unused 4 (some .int), Cond.methodLink RL 55 yX8_paint, Cond.instanceMethod yX8_paint, Cond.selects RX8 yX8_paint yX8_paint, Cond.code yX8_paint cX8_paint 5 (some .int), Cond.methodLink RX8 153 yX8_standsAgainst, Cond.instanceMethod yX8_standsAgainst, Cond.selects RX8 yX8_standsAgainst yX8_standsAgainst, Cond.code yX8_standsAgainst cX8_standsAgainst 7 (some .int), Cond.fieldLink RX8 254 "PortraitRooms$Picture" "robe" "I", Cond.methodLink RX8 190 yX8_partAt, Cond.instanceMethod yX8_partAt, Cond.selects RX8 yX8_partAt yX8_partAt, Cond.code yX8_partAt cX8_partAt 4 (some (.object "PortraitRooms$Part")), Cond.fieldLink RX8 244 "PortraitRooms$Picture" "parts" "[LPortraitRooms$Part;", Cond.methodLink RX8 183 yX8_handAt, Cond.instanceMethod yX8_handAt, Cond.selects RX8 yX8_handAt yX8_handAt, Cond.code yX8_handAt cX8_handAt 2 (some (.object "PortraitRooms$Hand")), Cond.methodLink RX8 248 yX2_wantsMore, Cond.instanceMethod yX2_wantsMore, Cond.selects RX2 yX2_wantsMore yX2_wantsMore, Cond.code yX2_wantsMore cX2_wantsMore 1 (some .boolean), Cond.fieldLink RX2 24 "PortraitRooms$Part" "painted" "I"]
def wsL_law_r16 : List Cond := [Cond.methodLink RX8 229 yX2_isWet, Cond.instanceMethod yX2_isWet, Cond.selects RX2 yX2_isWet yX2_isWet, Cond.code yX2_isWet cX2_isWet 3 (some .boolean), Cond.methodLink RX8 251 yX0_layersOn, Cond.instanceMethod yX0_layersOn, Cond.selects RX0 yX0_layersOn yX0_layersOn, Cond.code yX0_layersOn cX0_layersOn 2 (some .int), Cond.fieldLink RX0 18 "PortraitRooms$Hand" "layersThen" "I", Cond.methodLink RX8 257 yX5_isAway, Cond.instanceMethod yX5_isAway, Cond.selects RX5 yX5_isAway yX5_isAway, Cond.code yX5_isAway cX5_isAway 4 (some .boolean), Cond.methodLink RX8 157 yX8_addLayer, Cond.instanceMethod yX8_addLayer, Cond.selects RX8 yX8_addLayer yX8_addLayer, Cond.code yX8_addLayer cX8_addLayer 7 none, Cond.fieldLink RX8 217 "PortraitRooms$Part" "painted" "I", Cond.fieldLink RX8 223 "PortraitRooms$Part" "latestDay" "I", Cond.fieldLink RX8 226 "PortraitRooms$Part" "latestHand" "I", Cond.fieldLink RX8 238 "PortraitRooms" "layersEver" "I", Cond.fieldLink RX8 214 "PortraitRooms$Picture" "sittingsUsed" "I", Cond.fieldLink RX8 269 "PortraitRooms$Picture" "layersLeft" "I", Cond.methodLink RX8 260 yX0_addLayerOn]
def wsL_law_r17 : List Cond := [Cond.instanceMethod yX0_addLayerOn, Cond.selects RX0 yX0_addLayerOn yX0_addLayerOn, Cond.code yX0_addLayerOn cX0_addLayerOn 2 none, Cond.methodLink RX0 21 yX0_layersOn, Cond.methodLink RX8 263 yX7_use, Cond.instanceMethod yX7_use, Cond.selects RX7 yX7_use yX7_use, Cond.code yX7_use cX7_use 2 none, Cond.methodLink RX8 266 yX5_take, Cond.instanceMethod yX5_take, Cond.selects RX5 yX5_take yX5_take, Cond.code yX5_take cX5_take 4 none, Cond.methodLink RX8 272 yX8_finish, Cond.instanceMethod yX8_finish, Cond.selects RX8 yX8_finish yX8_finish, Cond.code yX8_finish cX8_finish 3 none, Cond.fieldLink RX8 211 "PortraitRooms$Picture" "doneOn" "I", Cond.fieldLink RX8 232 "PortraitRooms" "picturesDone" "I", Cond.fieldLink RX8 205 "PortraitRooms$Picture" "price" "I", Cond.methodLink RL 59 yX9_paint, Cond.instanceMethod yX9_paint, Cond.selects RX9 yX9_paint yX9_paint, Cond.code yX9_paint cX9_paint 5 (some .int), Cond.fieldLink RX9 179 "PortraitRoomsModel" "layersEver" "I"]
def wsL_law_r18 : List Cond := [Cond.methodLink RX9 172 yX9_isHand, Cond.instanceMethod yX9_isHand, Cond.selects RX9 yX9_isHand yX9_isHand, Cond.code yX9_isHand cX9_isHand 2 (some .boolean), Cond.methodLink RX9 175 yX9_against, Cond.instanceMethod yX9_against, Cond.selects RX9 yX9_against yX9_against, Cond.code yX9_against cX9_against 4 (some .int), Cond.methodLink RX9 169 yX9_isWet, Cond.instanceMethod yX9_isWet, Cond.selects RX9 yX9_isWet yX9_isWet, Cond.code yX9_isWet cX9_isWet 3 (some .boolean), Cond.methodLink RX9 182 yX9_isDone, Cond.instanceMethod yX9_isDone, Cond.selects RX9 yX9_isDone yX9_isDone, Cond.code yX9_isDone cX9_isDone 4 (some .boolean), Cond.methodLink RL 60 yX8_pay, Cond.instanceMethod yX8_pay, Cond.selects RX8 yX8_pay yX8_pay, Cond.code yX8_pay cX8_pay 4 (some .int), Cond.fieldLink RX8 161 "PortraitRooms" "coinsPaid" "I", Cond.methodLink RL 63 yX9_pay, Cond.instanceMethod yX9_pay, Cond.selects RX9 yX9_pay yX9_pay]
def wsL_law_r19 : List Cond := [Cond.code yX9_pay cX9_pay 3 (some .int), Cond.fieldLink RX9 185 "PortraitRoomsModel" "paid" "I", Cond.methodLink RL 64 yX8_planned, Cond.instanceMethod yX8_planned, Cond.selects RX8 yX8_planned yX8_planned, Cond.code yX8_planned cX8_planned 3 (some .int), Cond.methodLink RX8 164 yX8_makePlan, Cond.instanceMethod yX8_makePlan, Cond.selects RX8 yX8_makePlan yX8_makePlan, Cond.code yX8_makePlan cX8_makePlan 5 (some .boolean), Cond.fieldLink RX8 208 "PortraitRooms$Picture" "cameOn" "I", Cond.fieldLink RX8 286 "PortraitRooms$Plan" "size" "I", Cond.fieldLink RX8 289 "PortraitRooms$Plan" "allWeights" "I", Cond.methodLink RX8 276 yX4_clear, Cond.instanceMethod yX4_clear, Cond.selects RX4 yX4_clear yX4_clear, Cond.code yX4_clear cX4_clear 1 none, Cond.fieldLink RX4 30 "PortraitRooms$Plan" "size" "I", Cond.fieldLink RX4 34 "PortraitRooms$Plan" "allWeights" "I", Cond.fieldLink RX4 37 "PortraitRooms$Plan" "bestSum" "I", Cond.methodLink RX8 279 yX3_wantsHead, Cond.instanceMethod yX3_wantsHead, Cond.selects RX3 yX3_wantsHead yX3_wantsHead, Cond.code yX3_wantsHead cX3_wantsHead 2 (some .boolean)]
def wsL_law_r20 : List Cond := [Cond.methodLink RX3 42 yX2_wantsMore, Cond.methodLink RX8 282 yX8_hoursFor, Cond.instanceMethod yX8_hoursFor, Cond.selects RX8 yX8_hoursFor yX8_hoursFor, Cond.code yX8_hoursFor cX8_hoursFor 7 (some .int), Cond.methodLink RX8 285 yX4_add, Cond.instanceMethod yX4_add, Cond.selects RX4 yX4_add yX4_add, Cond.code yX4_add cX4_add 5 (some .boolean), Cond.methodLink RX8 292 yX8_search, Cond.static yX8_search, Cond.code yX8_search cX8_search 9 none, Cond.fieldLink RX8 170 "PortraitRooms$Plan" "bestSum" "I", Cond.fieldLink RX8 299 "PortraitRooms$Plan" "weights" "[I", Cond.fieldLink RX8 305 "PortraitRooms$Plan" "openHours" "[I", Cond.fieldLink RX8 308 "PortraitRooms$Plan" "tried" "[I", Cond.methodLink RX8 296 yX4_keep, Cond.instanceMethod yX4_keep, Cond.selects RX4 yX4_keep yX4_keep, Cond.code yX4_keep cX4_keep 3 none, Cond.methodLink RX8 302 yX4_sitterIsPlaced, Cond.instanceMethod yX4_sitterIsPlaced, Cond.selects RX4 yX4_sitterIsPlaced yX4_sitterIsPlaced, Cond.code yX4_sitterIsPlaced cX4_sitterIsPlaced 3 (some .boolean)]
def wsL_law_r21 : List Cond := [Cond.methodLink RX8 167 yX4_hourOf, Cond.instanceMethod yX4_hourOf, Cond.selects RX4 yX4_hourOf yX4_hourOf, Cond.code yX4_hourOf cX4_hourOf 3 (some .int), Cond.methodLink RL 67 yX9_planned, Cond.instanceMethod yX9_planned, Cond.selects RX9 yX9_planned yX9_planned, Cond.code yX9_planned cX9_planned 4 (some .int), Cond.fieldLink RX9 188 "PortraitRoomsModel" "askedMany" "I", Cond.methodLink RX9 198 yX9_plans, Cond.instanceMethod yX9_plans, Cond.selects RX9 yX9_plans yX9_plans, Cond.code yX9_plans cX9_plans 3 (some .boolean), Cond.fieldLink RX9 191 "PortraitRoomsModel" "bestSum" "I", Cond.methodLink RX9 194 yX9_tries, Cond.instanceMethod yX9_tries, Cond.selects RX9 yX9_tries yX9_tries, Cond.code yX9_tries cX9_tries 8 none, Cond.methodLink RL 68 yX8_worth, Cond.instanceMethod yX8_worth, Cond.selects RX8 yX8_worth yX8_worth, Cond.code yX8_worth cX8_worth 2 (some .int), Cond.methodLink RL 71 yX9_worth, Cond.instanceMethod yX9_worth]
def wsL_law_r22 : List Cond := [Cond.selects RX9 yX9_worth yX9_worth, Cond.code yX9_worth cX9_worth 2 (some .int), Cond.methodLink RL 72 yX8_trace, Cond.instanceMethod yX8_trace, Cond.selects RX8 yX8_trace yX8_trace, Cond.code yX8_trace cX8_trace 4 (some .boolean), Cond.constant RX8 173 (65535), Cond.fieldLink RX8 174 "PortraitRooms$Picture" "traces" "I", Cond.methodLink RL 75 yX9_trace, Cond.instanceMethod yX9_trace, Cond.selects RX9 yX9_trace yX9_trace, Cond.code yX9_trace cX9_trace 3 (some .boolean), Cond.constant RX9 201 (65535), Cond.methodLink RL 76 yX8_from, Cond.instanceMethod yX8_from, Cond.selects RX8 yX8_from yX8_from, Cond.code yX8_from cX8_from 2 (some .int), Cond.methodLink RX8 177 yX8_nearestTraced, Cond.instanceMethod yX8_nearestTraced, Cond.selects RX8 yX8_nearestTraced yX8_nearestTraced, Cond.code yX8_nearestTraced cX8_nearestTraced 8 (some .int), Cond.methodLink RX8 180 yX8_traceDistance, Cond.instanceMethod yX8_traceDistance, Cond.selects RX8 yX8_traceDistance yX8_traceDistance]
def wsL_law_r23 : List Cond := [Cond.code yX8_traceDistance cX8_traceDistance 5 (some .int), Cond.methodLink RX8 311 yJ6_bitCount_0f7a4, Cond.static yJ6_bitCount_0f7a4, Cond.initialized RJ6, Cond.code yJ6_bitCount_0f7a4 cJ6_bitCount_0f7a4 1 (some .int), Cond.constant RJ6 265 (1431655765), Cond.constant RJ6 266 (858993459), Cond.constant RJ6 267 (252645135), Cond.methodLink RL 79 yX9_from, Cond.instanceMethod yX9_from, Cond.selects RX9 yX9_from yX9_from, Cond.code yX9_from cX9_from 4 (some .int), Cond.methodLink RX9 202 yX9_differ, Cond.instanceMethod yX9_differ, Cond.selects RX9 yX9_differ yX9_differ, Cond.code yX9_differ cX9_differ 5 (some .int), Cond.methodLink RL 80 yX8_doubt, Cond.instanceMethod yX8_doubt, Cond.selects RX8 yX8_doubt yX8_doubt, Cond.code yX8_doubt cX8_doubt 4 (some .boolean), Cond.methodLink RL 84 yX9_doubt, Cond.instanceMethod yX9_doubt, Cond.selects RX9 yX9_doubt yX9_doubt, Cond.code yX9_doubt cX9_doubt 4 (some .boolean)]
def wsL_law_r24 : List Cond := [Cond.methodLink RX9 205 yX9_from, Cond.methodLink RL 85 yX8_habit, Cond.instanceMethod yX8_habit, Cond.selects RX8 yX8_habit yX8_habit, Cond.code yX8_habit cX8_habit 4 (some .boolean), Cond.fieldLink RX8 187 "PortraitRooms$Hand" "habits" "I", Cond.methodLink RL 88 yX9_habit, Cond.instanceMethod yX9_habit, Cond.selects RX9 yX9_habit yX9_habit, Cond.code yX9_habit cX9_habit 3 (some .boolean), Cond.methodLink RL 89 yX8_margin, Cond.instanceMethod yX8_margin, Cond.selects RX8 yX8_margin yX8_margin, Cond.code yX8_margin cX8_margin 2 (some .boolean), Cond.methodLink RL 92 yX9_margin, Cond.instanceMethod yX9_margin, Cond.selects RX9 yX9_margin yX9_margin, Cond.code yX9_margin cX9_margin 2 (some .boolean), Cond.methodLink RL 93 yX8_strokes, Cond.instanceMethod yX8_strokes, Cond.selects RX8 yX8_strokes yX8_strokes, Cond.code yX8_strokes cX8_strokes 5 (some .boolean), Cond.fieldLink RX8 194 "PortraitRooms$Part" "strokes" "I", Cond.methodLink RL 96 yX9_strokes]
def wsL_law_r25 : List Cond := [Cond.instanceMethod yX9_strokes, Cond.selects RX9 yX9_strokes yX9_strokes, Cond.code yX9_strokes cX9_strokes 4 (some .boolean), Cond.methodLink RL 97 yX8_whose, Cond.instanceMethod yX8_whose, Cond.selects RX8 yX8_whose yX8_whose, Cond.code yX8_whose cX8_whose 7 (some .int), Cond.methodLink RX8 199 yX8_nearestHand, Cond.instanceMethod yX8_nearestHand, Cond.selects RX8 yX8_nearestHand yX8_nearestHand, Cond.code yX8_nearestHand cX8_nearestHand 7 (some .int), Cond.methodLink RX8 202 yX8_habitDistance, Cond.instanceMethod yX8_habitDistance, Cond.selects RX8 yX8_habitDistance yX8_habitDistance, Cond.code yX8_habitDistance cX8_habitDistance 9 (some .int), Cond.methodLink RL 100 yX9_whose, Cond.instanceMethod yX9_whose, Cond.selects RX9 yX9_whose yX9_whose, Cond.code yX9_whose cX9_whose 6 (some .int), Cond.methodLink RX9 207 yX9_squares, Cond.static yX9_squares, Cond.code yX9_squares cX9_squares 7 (some .int), Cond.methodLink RL 101 yX8_told, Cond.instanceMethod yX8_told]
def wsL_law_r26 : List Cond := [Cond.selects RX8 yX8_told yX8_told, Cond.code yX8_told cX8_told 4 (some .int), Cond.methodLink RL 104 yX9_told, Cond.instanceMethod yX9_told, Cond.selects RX9 yX9_told yX9_told, Cond.code yX9_told cX9_told 5 (some .int), Cond.methodLink RL 105 yX8_part, Cond.instanceMethod yX8_part, Cond.selects RX8 yX8_part yX8_part, Cond.code yX8_part cX8_part 5 (some .int), Cond.fieldLink RX8 220 "PortraitRooms$Part" "wanted" "I", Cond.methodLink RL 108 yX9_part, Cond.instanceMethod yX9_part, Cond.selects RX9 yX9_part yX9_part, Cond.code yX9_part cX9_part 4 (some .int), Cond.methodLink RL 109 yX8_due, Cond.instanceMethod yX8_due, Cond.selects RX8 yX8_due yX8_due, Cond.code yX8_due cX8_due 3 (some .int), Cond.methodLink RL 112 yX9_due, Cond.instanceMethod yX9_due, Cond.selects RX9 yX9_due yX9_due, Cond.code yX9_due cX9_due 2 (some .int), Cond.methodLink RL 113 yX8_count]
def wsL_law_r27 : List Cond := [Cond.instanceMethod yX8_count, Cond.selects RX8 yX8_count yX8_count, Cond.code yX8_count cX8_count 2 (some .int), Cond.fieldLink RX8 235 "PortraitRooms$Sittings" "there" "I", Cond.methodLink RL 116 yX9_count, Cond.instanceMethod yX9_count, Cond.selects RX9 yX9_count yX9_count, Cond.code yX9_count cX9_count 4 (some .int)]
def wsL_law : List Cond := (wsL_law_r1 ++ (wsL_law_r2 ++ (wsL_law_r3 ++ (wsL_law_r4 ++ (wsL_law_r5 ++ (wsL_law_r6 ++ (wsL_law_r7 ++ (wsL_law_r8 ++ (wsL_law_r9 ++ (wsL_law_r10 ++ (wsL_law_r11 ++ (wsL_law_r12 ++ (wsL_law_r13 ++ (wsL_law_r14 ++ (wsL_law_r15 ++ (wsL_law_r16 ++ (wsL_law_r17 ++ (wsL_law_r18 ++ (wsL_law_r19 ++ (wsL_law_r20 ++ (wsL_law_r21 ++ (wsL_law_r22 ++ (wsL_law_r23 ++ (wsL_law_r24 ++ (wsL_law_r25 ++ (wsL_law_r26 ++ wsL_law_r27)))))))))))))))))))))))))) ++ wsX80 ++ wsX90 ++ wsX10 ++ wsX70 ++ wsX50 ++ wsX40 ++ wsX00 ++ wsX60 ++ wsX30 ++ wsX20 ++ ([] : List Cond)
theorem inlX0 : ∀ w ∈ wsX00, w ∈ wsL_law := fun _ h => List.mem_append_left _ (List.mem_append_left _ (List.mem_append_left _ (List.mem_append_left _ (List.mem_append_right _ h))))
theorem inlX1 : ∀ w ∈ wsX10, w ∈ wsL_law := fun _ h => List.mem_append_left _ (List.mem_append_left _ (List.mem_append_left _ (List.mem_append_left _ (List.mem_append_left _ (List.mem_append_left _ (List.mem_append_left _ (List.mem_append_left _ (List.mem_append_right _ h))))))))
theorem inlX2 : ∀ w ∈ wsX20, w ∈ wsL_law := fun _ h => List.mem_append_left _ (List.mem_append_right _ h)
theorem inlX3 : ∀ w ∈ wsX30, w ∈ wsL_law := fun _ h => List.mem_append_left _ (List.mem_append_left _ (List.mem_append_right _ h))
theorem inlX4 : ∀ w ∈ wsX40, w ∈ wsL_law := fun _ h => List.mem_append_left _ (List.mem_append_left _ (List.mem_append_left _ (List.mem_append_left _ (List.mem_append_left _ (List.mem_append_right _ h)))))
theorem inlX5 : ∀ w ∈ wsX50, w ∈ wsL_law := fun _ h => List.mem_append_left _ (List.mem_append_left _ (List.mem_append_left _ (List.mem_append_left _ (List.mem_append_left _ (List.mem_append_left _ (List.mem_append_right _ h))))))
theorem inlX6 : ∀ w ∈ wsX60, w ∈ wsL_law := fun _ h => List.mem_append_left _ (List.mem_append_left _ (List.mem_append_left _ (List.mem_append_right _ h)))
theorem inlX7 : ∀ w ∈ wsX70, w ∈ wsL_law := fun _ h => List.mem_append_left _ (List.mem_append_left _ (List.mem_append_left _ (List.mem_append_left _ (List.mem_append_left _ (List.mem_append_left _ (List.mem_append_left _ (List.mem_append_right _ h)))))))
theorem inlX8 : ∀ w ∈ wsX80, w ∈ wsL_law := fun _ h => List.mem_append_left _ (List.mem_append_left _ (List.mem_append_left _ (List.mem_append_left _ (List.mem_append_left _ (List.mem_append_left _ (List.mem_append_left _ (List.mem_append_left _ (List.mem_append_left _ (List.mem_append_left _ (List.mem_append_right _ h))))))))))
theorem inlX9 : ∀ w ∈ wsX90, w ∈ wsL_law := fun _ h => List.mem_append_left _ (List.mem_append_left _ (List.mem_append_left _ (List.mem_append_left _ (List.mem_append_left _ (List.mem_append_left _ (List.mem_append_left _ (List.mem_append_left _ (List.mem_append_left _ (List.mem_append_right _ h)))))))))
abbrev vwCl : List vw_C := [(RX0, TX0, 3), (RX1, TX1, 4), (RX2, TX2, 5), (RX3, TX3, 10), (RX4, TX4, 9), (RX5, TX5, 2), (RX6, TX6, 3), (RX7, TX7, 6), (RX8, TX8, 17), (RX9, TX9, 42)]
end
section
theorem dX0_init_0 : decode cX0_init 0 = .ok (.aload_n 0, 1) := by decide +kernel
theorem dX0_init_1 : decode cX0_init 1 = .ok (.invokespecial 3, 3) := by decide +kernel
theorem dX0_init_4 : decode cX0_init 4 = .ok (.aload_n 0, 1) := by decide +kernel
theorem dX0_init_5 : decode cX0_init 5 = .ok (.iconst (-1), 1) := by decide +kernel
theorem dX0_init_6 : decode cX0_init 6 = .ok (.putfield 9, 3) := by decide +kernel
theorem dX0_init_9 : decode cX0_init 9 = .ok (.aload_n 0, 1) := by decide +kernel
theorem dX0_init_10 : decode cX0_init 10 = .ok (.iconst (-1), 1) := by decide +kernel
theorem dX0_init_11 : decode cX0_init 11 = .ok (.putfield 15, 3) := by decide +kernel
theorem dX0_init_14 : decode cX0_init 14 = .ok (.return_, 1) := by decide +kernel
theorem dX0_layersOn_0 : decode cX0_layersOn 0 = .ok (.aload_n 0, 1) := by decide +kernel
theorem dX0_layersOn_1 : decode cX0_layersOn 1 = .ok (.getfield 15, 3) := by decide +kernel
theorem dX0_layersOn_4 : decode cX0_layersOn 4 = .ok (.iload_n 1, 1) := by decide +kernel
theorem dX0_layersOn_5 : decode cX0_layersOn 5 = .ok (.if_icmp .ne 10, 3) := by decide +kernel
theorem dX0_layersOn_8 : decode cX0_layersOn 8 = .ok (.aload_n 0, 1) := by decide +kernel
theorem dX0_layersOn_9 : decode cX0_layersOn 9 = .ok (.getfield 18, 3) := by decide +kernel
theorem dX0_layersOn_12 : decode cX0_layersOn 12 = .ok (.goto 4, 3) := by decide +kernel
theorem dX0_layersOn_15 : decode cX0_layersOn 15 = .ok (.iconst 0, 1) := by decide +kernel
theorem dX0_layersOn_16 : decode cX0_layersOn 16 = .ok (.ireturn, 1) := by decide +kernel
theorem dX0_addLayerOn_0 : decode cX0_addLayerOn 0 = .ok (.aload_n 0, 1) := by decide +kernel
theorem dX0_addLayerOn_1 : decode cX0_addLayerOn 1 = .ok (.aload_n 0, 1) := by decide +kernel
theorem dX0_addLayerOn_2 : decode cX0_addLayerOn 2 = .ok (.iload_n 1, 1) := by decide +kernel
theorem dX0_addLayerOn_3 : decode cX0_addLayerOn 3 = .ok (.invokevirtual 21, 3) := by decide +kernel
theorem dX0_addLayerOn_6 : decode cX0_addLayerOn 6 = .ok (.iconst 1, 1) := by decide +kernel
theorem dX0_addLayerOn_7 : decode cX0_addLayerOn 7 = .ok (.iadd, 1) := by decide +kernel
theorem dX0_addLayerOn_8 : decode cX0_addLayerOn 8 = .ok (.putfield 18, 3) := by decide +kernel
theorem dX0_addLayerOn_11 : decode cX0_addLayerOn 11 = .ok (.aload_n 0, 1) := by decide +kernel
theorem dX0_addLayerOn_12 : decode cX0_addLayerOn 12 = .ok (.iload_n 1, 1) := by decide +kernel
theorem dX0_addLayerOn_13 : decode cX0_addLayerOn 13 = .ok (.putfield 15, 3) := by decide +kernel
theorem dX0_addLayerOn_16 : decode cX0_addLayerOn 16 = .ok (.return_, 1) := by decide +kernel
theorem dX1_init_0 : decode cX1_init 0 = .ok (.aload_n 0, 1) := by decide +kernel
theorem dX1_init_1 : decode cX1_init 1 = .ok (.invokespecial 3, 3) := by decide +kernel
theorem dX1_init_4 : decode cX1_init 4 = .ok (.aload_n 0, 1) := by decide +kernel
theorem dX1_init_5 : decode cX1_init 5 = .ok (.bipush 60, 2) := by decide +kernel
theorem dX1_init_7 : decode cX1_init 7 = .ok (.newarray .int, 2) := by decide +kernel
theorem dX1_init_9 : decode cX1_init 9 = .ok (.putfield 9, 3) := by decide +kernel
theorem dX1_init_12 : decode cX1_init 12 = .ok (.aload_n 0, 1) := by decide +kernel
theorem dX1_init_13 : decode cX1_init 13 = .ok (.bipush 60, 2) := by decide +kernel
theorem dX1_init_15 : decode cX1_init 15 = .ok (.newarray .int, 2) := by decide +kernel
theorem dX1_init_17 : decode cX1_init 17 = .ok (.putfield 15, 3) := by decide +kernel
theorem dX1_init_20 : decode cX1_init 20 = .ok (.aload_n 0, 1) := by decide +kernel
theorem dX1_init_21 : decode cX1_init 21 = .ok (.bipush 60, 2) := by decide +kernel
theorem dX1_init_23 : decode cX1_init 23 = .ok (.newarray .int, 2) := by decide +kernel
theorem dX1_init_25 : decode cX1_init 25 = .ok (.putfield 18, 3) := by decide +kernel
theorem dX1_init_28 : decode cX1_init 28 = .ok (.return_, 1) := by decide +kernel
theorem dX1_add_0 : decode cX1_add 0 = .ok (.aload_n 0, 1) := by decide +kernel
theorem dX1_add_1 : decode cX1_add 1 = .ok (.getfield 21, 3) := by decide +kernel
theorem dX1_add_4 : decode cX1_add 4 = .ok (.bipush 60, 2) := by decide +kernel
theorem dX1_add_6 : decode cX1_add 6 = .ok (.if_icmp .lt 5, 3) := by decide +kernel
theorem dX1_add_9 : decode cX1_add 9 = .ok (.iconst 0, 1) := by decide +kernel
theorem dX1_add_10 : decode cX1_add 10 = .ok (.ireturn, 1) := by decide +kernel
theorem dX1_add_11 : decode cX1_add 11 = .ok (.aload_n 0, 1) := by decide +kernel
theorem dX1_add_12 : decode cX1_add 12 = .ok (.getfield 9, 3) := by decide +kernel
theorem dX1_add_15 : decode cX1_add 15 = .ok (.aload_n 0, 1) := by decide +kernel
theorem dX1_add_16 : decode cX1_add 16 = .ok (.getfield 21, 3) := by decide +kernel
theorem dX1_add_19 : decode cX1_add 19 = .ok (.iload_n 1, 1) := by decide +kernel
theorem dX1_add_20 : decode cX1_add 20 = .ok (.iastore, 1) := by decide +kernel
theorem dX1_add_21 : decode cX1_add 21 = .ok (.aload_n 0, 1) := by decide +kernel
theorem dX1_add_22 : decode cX1_add 22 = .ok (.getfield 15, 3) := by decide +kernel
theorem dX1_add_25 : decode cX1_add 25 = .ok (.aload_n 0, 1) := by decide +kernel
theorem dX1_add_26 : decode cX1_add 26 = .ok (.getfield 21, 3) := by decide +kernel
theorem dX1_add_29 : decode cX1_add 29 = .ok (.iload_n 2, 1) := by decide +kernel
theorem dX1_add_30 : decode cX1_add 30 = .ok (.iastore, 1) := by decide +kernel
theorem dX1_add_31 : decode cX1_add 31 = .ok (.aload_n 0, 1) := by decide +kernel
theorem dX1_add_32 : decode cX1_add 32 = .ok (.getfield 18, 3) := by decide +kernel
theorem dX1_add_35 : decode cX1_add 35 = .ok (.aload_n 0, 1) := by decide +kernel
theorem dX1_add_36 : decode cX1_add 36 = .ok (.getfield 21, 3) := by decide +kernel
theorem dX1_add_39 : decode cX1_add 39 = .ok (.iload_n 3, 1) := by decide +kernel
theorem dX1_add_40 : decode cX1_add 40 = .ok (.iastore, 1) := by decide +kernel
theorem dX1_add_41 : decode cX1_add 41 = .ok (.aload_n 0, 1) := by decide +kernel
theorem dX1_add_42 : decode cX1_add 42 = .ok (.dup, 1) := by decide +kernel
theorem dX1_add_43 : decode cX1_add 43 = .ok (.getfield 21, 3) := by decide +kernel
theorem dX1_add_46 : decode cX1_add 46 = .ok (.iconst 1, 1) := by decide +kernel
theorem dX1_add_47 : decode cX1_add 47 = .ok (.iadd, 1) := by decide +kernel
theorem dX1_add_48 : decode cX1_add 48 = .ok (.putfield 21, 3) := by decide +kernel
theorem dX1_add_51 : decode cX1_add 51 = .ok (.iconst 1, 1) := by decide +kernel
theorem dX1_add_52 : decode cX1_add 52 = .ok (.ireturn, 1) := by decide +kernel
theorem dX1_priceIn_0 : decode cX1_priceIn 0 = .ok (.iconst 0, 1) := by decide +kernel
theorem dX1_priceIn_1 : decode cX1_priceIn 1 = .ok (.istore_n 3, 1) := by decide +kernel
theorem dX1_priceIn_2 : decode cX1_priceIn 2 = .ok (.iconst 0, 1) := by decide +kernel
theorem dX1_priceIn_3 : decode cX1_priceIn 3 = .ok (.istore 4, 2) := by decide +kernel
theorem dX1_priceIn_5 : decode cX1_priceIn 5 = .ok (.iconst 0, 1) := by decide +kernel
theorem dX1_priceIn_6 : decode cX1_priceIn 6 = .ok (.istore 5, 2) := by decide +kernel
theorem dX1_priceIn_8 : decode cX1_priceIn 8 = .ok (.iload 5, 2) := by decide +kernel
theorem dX1_priceIn_10 : decode cX1_priceIn 10 = .ok (.aload_n 0, 1) := by decide +kernel
theorem dX1_priceIn_11 : decode cX1_priceIn 11 = .ok (.getfield 21, 3) := by decide +kernel
theorem dX1_priceIn_14 : decode cX1_priceIn 14 = .ok (.if_icmp .ge 60, 3) := by decide +kernel
theorem dX1_priceIn_17 : decode cX1_priceIn 17 = .ok (.aload_n 0, 1) := by decide +kernel
theorem dX1_priceIn_18 : decode cX1_priceIn 18 = .ok (.getfield 15, 3) := by decide +kernel
theorem dX1_priceIn_21 : decode cX1_priceIn 21 = .ok (.iload 5, 2) := by decide +kernel
theorem dX1_priceIn_23 : decode cX1_priceIn 23 = .ok (.iaload, 1) := by decide +kernel
theorem dX1_priceIn_24 : decode cX1_priceIn 24 = .ok (.iload_n 2, 1) := by decide +kernel
theorem dX1_priceIn_25 : decode cX1_priceIn 25 = .ok (.if_icmp .ne 43, 3) := by decide +kernel
theorem dX1_priceIn_28 : decode cX1_priceIn 28 = .ok (.aload_n 0, 1) := by decide +kernel
theorem dX1_priceIn_29 : decode cX1_priceIn 29 = .ok (.getfield 9, 3) := by decide +kernel
theorem dX1_priceIn_32 : decode cX1_priceIn 32 = .ok (.iload 5, 2) := by decide +kernel
theorem dX1_priceIn_34 : decode cX1_priceIn 34 = .ok (.iaload, 1) := by decide +kernel
theorem dX1_priceIn_35 : decode cX1_priceIn 35 = .ok (.iload_n 1, 1) := by decide +kernel
theorem dX1_priceIn_36 : decode cX1_priceIn 36 = .ok (.if_icmp .gt 32, 3) := by decide +kernel
theorem dX1_priceIn_39 : decode cX1_priceIn 39 = .ok (.aload_n 0, 1) := by decide +kernel
theorem dX1_priceIn_40 : decode cX1_priceIn 40 = .ok (.getfield 9, 3) := by decide +kernel
theorem dX1_priceIn_43 : decode cX1_priceIn 43 = .ok (.iload 5, 2) := by decide +kernel
theorem dX1_priceIn_45 : decode cX1_priceIn 45 = .ok (.iaload, 1) := by decide +kernel
theorem dX1_priceIn_46 : decode cX1_priceIn 46 = .ok (.iload 4, 2) := by decide +kernel
theorem dX1_priceIn_48 : decode cX1_priceIn 48 = .ok (.if_icmp .lt 20, 3) := by decide +kernel
theorem dX1_priceIn_51 : decode cX1_priceIn 51 = .ok (.aload_n 0, 1) := by decide +kernel
theorem dX1_priceIn_52 : decode cX1_priceIn 52 = .ok (.getfield 9, 3) := by decide +kernel
theorem dX1_priceIn_55 : decode cX1_priceIn 55 = .ok (.iload 5, 2) := by decide +kernel
theorem dX1_priceIn_57 : decode cX1_priceIn 57 = .ok (.iaload, 1) := by decide +kernel
theorem dX1_priceIn_58 : decode cX1_priceIn 58 = .ok (.istore 4, 2) := by decide +kernel
theorem dX1_priceIn_60 : decode cX1_priceIn 60 = .ok (.aload_n 0, 1) := by decide +kernel
theorem dX1_priceIn_61 : decode cX1_priceIn 61 = .ok (.getfield 18, 3) := by decide +kernel
theorem dX1_priceIn_64 : decode cX1_priceIn 64 = .ok (.iload 5, 2) := by decide +kernel
theorem dX1_priceIn_66 : decode cX1_priceIn 66 = .ok (.iaload, 1) := by decide +kernel
theorem dX1_priceIn_67 : decode cX1_priceIn 67 = .ok (.istore_n 3, 1) := by decide +kernel
theorem dX1_priceIn_68 : decode cX1_priceIn 68 = .ok (.iinc 5 1, 3) := by decide +kernel
theorem dX1_priceIn_71 : decode cX1_priceIn 71 = .ok (.goto (-63), 3) := by decide +kernel
theorem dX1_priceIn_74 : decode cX1_priceIn 74 = .ok (.iload_n 3, 1) := by decide +kernel
theorem dX1_priceIn_75 : decode cX1_priceIn 75 = .ok (.ireturn, 1) := by decide +kernel
theorem dX2_init_0 : decode cX2_init 0 = .ok (.aload_n 0, 1) := by decide +kernel
theorem dX2_init_1 : decode cX2_init 1 = .ok (.invokespecial 3, 3) := by decide +kernel
theorem dX2_init_4 : decode cX2_init 4 = .ok (.aload_n 0, 1) := by decide +kernel
theorem dX2_init_5 : decode cX2_init 5 = .ok (.iload_n 1, 1) := by decide +kernel
theorem dX2_init_6 : decode cX2_init 6 = .ok (.putfield 9, 3) := by decide +kernel
theorem dX2_init_9 : decode cX2_init 9 = .ok (.aload_n 0, 1) := by decide +kernel
theorem dX2_init_10 : decode cX2_init 10 = .ok (.iconst (-1), 1) := by decide +kernel
theorem dX2_init_11 : decode cX2_init 11 = .ok (.putfield 15, 3) := by decide +kernel
theorem dX2_init_14 : decode cX2_init 14 = .ok (.aload_n 0, 1) := by decide +kernel
theorem dX2_init_15 : decode cX2_init 15 = .ok (.iconst (-1), 1) := by decide +kernel
theorem dX2_init_16 : decode cX2_init 16 = .ok (.putfield 18, 3) := by decide +kernel
theorem dX2_init_19 : decode cX2_init 19 = .ok (.aload_n 0, 1) := by decide +kernel
theorem dX2_init_20 : decode cX2_init 20 = .ok (.iconst (-1), 1) := by decide +kernel
theorem dX2_init_21 : decode cX2_init 21 = .ok (.putfield 21, 3) := by decide +kernel
theorem dX2_init_24 : decode cX2_init 24 = .ok (.return_, 1) := by decide +kernel
theorem dX2_wantsMore_0 : decode cX2_wantsMore 0 = .ok (.aload_n 0, 1) := by decide +kernel
theorem dX2_wantsMore_1 : decode cX2_wantsMore 1 = .ok (.getfield 24, 3) := by decide +kernel
theorem dX2_wantsMore_4 : decode cX2_wantsMore 4 = .ok (.aload_n 0, 1) := by decide +kernel
theorem dX2_wantsMore_5 : decode cX2_wantsMore 5 = .ok (.getfield 9, 3) := by decide +kernel
theorem dX2_wantsMore_8 : decode cX2_wantsMore 8 = .ok (.if_icmp .ge 7, 3) := by decide +kernel
theorem dX2_wantsMore_11 : decode cX2_wantsMore 11 = .ok (.iconst 1, 1) := by decide +kernel
theorem dX2_wantsMore_12 : decode cX2_wantsMore 12 = .ok (.goto 4, 3) := by decide +kernel
theorem dX2_wantsMore_15 : decode cX2_wantsMore 15 = .ok (.iconst 0, 1) := by decide +kernel
theorem dX2_wantsMore_16 : decode cX2_wantsMore 16 = .ok (.ireturn, 1) := by decide +kernel
theorem dX2_isWet_0 : decode cX2_isWet 0 = .ok (.aload_n 0, 1) := by decide +kernel
theorem dX2_isWet_1 : decode cX2_isWet 1 = .ok (.getfield 15, 3) := by decide +kernel
theorem dX2_isWet_4 : decode cX2_isWet 4 = .ok (.iconst (-1), 1) := by decide +kernel
theorem dX2_isWet_5 : decode cX2_isWet 5 = .ok (.if_icmp .eq 17, 3) := by decide +kernel
theorem dX2_isWet_8 : decode cX2_isWet 8 = .ok (.iload_n 1, 1) := by decide +kernel
theorem dX2_isWet_9 : decode cX2_isWet 9 = .ok (.aload_n 0, 1) := by decide +kernel
theorem dX2_isWet_10 : decode cX2_isWet 10 = .ok (.getfield 15, 3) := by decide +kernel
theorem dX2_isWet_13 : decode cX2_isWet 13 = .ok (.isub, 1) := by decide +kernel
theorem dX2_isWet_14 : decode cX2_isWet 14 = .ok (.iload_n 2, 1) := by decide +kernel
theorem dX2_isWet_15 : decode cX2_isWet 15 = .ok (.if_icmp .ge 7, 3) := by decide +kernel
theorem dX2_isWet_18 : decode cX2_isWet 18 = .ok (.iconst 1, 1) := by decide +kernel
theorem dX2_isWet_19 : decode cX2_isWet 19 = .ok (.goto 4, 3) := by decide +kernel
theorem dX2_isWet_22 : decode cX2_isWet 22 = .ok (.iconst 0, 1) := by decide +kernel
theorem dX2_isWet_23 : decode cX2_isWet 23 = .ok (.ireturn, 1) := by decide +kernel
theorem dX3_init_0 : decode cX3_init 0 = .ok (.aload_n 0, 1) := by decide +kernel
theorem dX3_init_1 : decode cX3_init 1 = .ok (.invokespecial 3, 3) := by decide +kernel
theorem dX3_init_4 : decode cX3_init 4 = .ok (.aload_n 0, 1) := by decide +kernel
theorem dX3_init_5 : decode cX3_init 5 = .ok (.iload_n 1, 1) := by decide +kernel
theorem dX3_init_6 : decode cX3_init 6 = .ok (.putfield 9, 3) := by decide +kernel
theorem dX3_init_9 : decode cX3_init 9 = .ok (.aload_n 0, 1) := by decide +kernel
theorem dX3_init_10 : decode cX3_init 10 = .ok (.iload_n 3, 1) := by decide +kernel
theorem dX3_init_11 : decode cX3_init 11 = .ok (.putfield 15, 3) := by decide +kernel
theorem dX3_init_14 : decode cX3_init 14 = .ok (.aload_n 0, 1) := by decide +kernel
theorem dX3_init_15 : decode cX3_init 15 = .ok (.iload 4, 2) := by decide +kernel
theorem dX3_init_17 : decode cX3_init 17 = .ok (.putfield 18, 3) := by decide +kernel
theorem dX3_init_20 : decode cX3_init 20 = .ok (.aload_n 0, 1) := by decide +kernel
theorem dX3_init_21 : decode cX3_init 21 = .ok (.iload 5, 2) := by decide +kernel
theorem dX3_init_23 : decode cX3_init 23 = .ok (.putfield 21, 3) := by decide +kernel
theorem dX3_init_26 : decode cX3_init 26 = .ok (.aload_n 0, 1) := by decide +kernel
theorem dX3_init_27 : decode cX3_init 27 = .ok (.iconst 5, 1) := by decide +kernel
theorem dX3_init_28 : decode cX3_init 28 = .ok (.anewarray 24, 3) := by decide +kernel
theorem dX3_init_31 : decode cX3_init 31 = .ok (.putfield 26, 3) := by decide +kernel
theorem dX3_init_34 : decode cX3_init 34 = .ok (.iload_n 2, 1) := by decide +kernel
theorem dX3_init_35 : decode cX3_init 35 = .ok (.istore 6, 2) := by decide +kernel
theorem dX3_init_37 : decode cX3_init 37 = .ok (.iconst 4, 1) := by decide +kernel
theorem dX3_init_38 : decode cX3_init 38 = .ok (.istore 7, 2) := by decide +kernel
theorem dX3_init_40 : decode cX3_init 40 = .ok (.iload 7, 2) := by decide +kernel
theorem dX3_init_42 : decode cX3_init 42 = .ok (.ifCond .lt 49, 3) := by decide +kernel
theorem dX3_init_45 : decode cX3_init 45 = .ok (.aload_n 0, 1) := by decide +kernel
theorem dX3_init_46 : decode cX3_init 46 = .ok (.getfield 26, 3) := by decide +kernel
theorem dX3_init_49 : decode cX3_init 49 = .ok (.iload 7, 2) := by decide +kernel
theorem dX3_init_51 : decode cX3_init 51 = .ok (.new 24, 3) := by decide +kernel
theorem dX3_init_54 : decode cX3_init 54 = .ok (.dup, 1) := by decide +kernel
theorem dX3_init_55 : decode cX3_init 55 = .ok (.iload 6, 2) := by decide +kernel
theorem dX3_init_57 : decode cX3_init 57 = .ok (.bipush 10, 2) := by decide +kernel
theorem dX3_init_59 : decode cX3_init 59 = .ok (.irem, 1) := by decide +kernel
theorem dX3_init_60 : decode cX3_init 60 = .ok (.invokespecial 30, 3) := by decide +kernel
theorem dX3_init_63 : decode cX3_init 63 = .ok (.aastore, 1) := by decide +kernel
theorem dX3_init_64 : decode cX3_init 64 = .ok (.aload_n 0, 1) := by decide +kernel
theorem dX3_init_65 : decode cX3_init 65 = .ok (.dup, 1) := by decide +kernel
theorem dX3_init_66 : decode cX3_init 66 = .ok (.getfield 33, 3) := by decide +kernel
theorem dX3_init_69 : decode cX3_init 69 = .ok (.iload 6, 2) := by decide +kernel
theorem dX3_init_71 : decode cX3_init 71 = .ok (.bipush 10, 2) := by decide +kernel
theorem dX3_init_73 : decode cX3_init 73 = .ok (.irem, 1) := by decide +kernel
theorem dX3_init_74 : decode cX3_init 74 = .ok (.iadd, 1) := by decide +kernel
theorem dX3_init_75 : decode cX3_init 75 = .ok (.putfield 33, 3) := by decide +kernel
theorem dX3_init_78 : decode cX3_init 78 = .ok (.iload 6, 2) := by decide +kernel
theorem dX3_init_80 : decode cX3_init 80 = .ok (.bipush 10, 2) := by decide +kernel
theorem dX3_init_82 : decode cX3_init 82 = .ok (.idiv, 1) := by decide +kernel
theorem dX3_init_83 : decode cX3_init 83 = .ok (.istore 6, 2) := by decide +kernel
theorem dX3_init_85 : decode cX3_init 85 = .ok (.iinc 7 (-1), 3) := by decide +kernel
theorem dX3_init_88 : decode cX3_init 88 = .ok (.goto (-48), 3) := by decide +kernel
theorem dX3_init_91 : decode cX3_init 91 = .ok (.aload_n 0, 1) := by decide +kernel
theorem dX3_init_92 : decode cX3_init 92 = .ok (.iconst (-1), 1) := by decide +kernel
theorem dX3_init_93 : decode cX3_init 93 = .ok (.putfield 36, 3) := by decide +kernel
theorem dX3_init_96 : decode cX3_init 96 = .ok (.aload_n 0, 1) := by decide +kernel
theorem dX3_init_97 : decode cX3_init 97 = .ok (.iconst (-1), 1) := by decide +kernel
theorem dX3_init_98 : decode cX3_init 98 = .ok (.putfield 39, 3) := by decide +kernel
theorem dX3_init_101 : decode cX3_init 101 = .ok (.return_, 1) := by decide +kernel
theorem dX3_isDone_0 : decode cX3_isDone 0 = .ok (.aload_n 0, 1) := by decide +kernel
theorem dX3_isDone_1 : decode cX3_isDone 1 = .ok (.getfield 36, 3) := by decide +kernel
theorem dX3_isDone_4 : decode cX3_isDone 4 = .ok (.iconst (-1), 1) := by decide +kernel
theorem dX3_isDone_5 : decode cX3_isDone 5 = .ok (.if_icmp .eq 7, 3) := by decide +kernel
theorem dX3_isDone_8 : decode cX3_isDone 8 = .ok (.iconst 1, 1) := by decide +kernel
theorem dX3_isDone_9 : decode cX3_isDone 9 = .ok (.goto 4, 3) := by decide +kernel
theorem dX3_isDone_12 : decode cX3_isDone 12 = .ok (.iconst 0, 1) := by decide +kernel
theorem dX3_isDone_13 : decode cX3_isDone 13 = .ok (.ireturn, 1) := by decide +kernel
theorem dX3_wantsHead_0 : decode cX3_wantsHead 0 = .ok (.aload_n 0, 1) := by decide +kernel
theorem dX3_wantsHead_1 : decode cX3_wantsHead 1 = .ok (.getfield 26, 3) := by decide +kernel
theorem dX3_wantsHead_4 : decode cX3_wantsHead 4 = .ok (.iconst 0, 1) := by decide +kernel
theorem dX3_wantsHead_5 : decode cX3_wantsHead 5 = .ok (.aaload, 1) := by decide +kernel
theorem dX3_wantsHead_6 : decode cX3_wantsHead 6 = .ok (.astore_n 1, 1) := by decide +kernel
theorem dX3_wantsHead_7 : decode cX3_wantsHead 7 = .ok (.aload_n 1, 1) := by decide +kernel
theorem dX3_wantsHead_8 : decode cX3_wantsHead 8 = .ok (.ifnull 14, 3) := by decide +kernel
theorem dX3_wantsHead_11 : decode cX3_wantsHead 11 = .ok (.aload_n 1, 1) := by decide +kernel
theorem dX3_wantsHead_12 : decode cX3_wantsHead 12 = .ok (.invokevirtual 42, 3) := by decide +kernel
theorem dX3_wantsHead_15 : decode cX3_wantsHead 15 = .ok (.ifCond .eq 7, 3) := by decide +kernel
theorem dX3_wantsHead_18 : decode cX3_wantsHead 18 = .ok (.iconst 1, 1) := by decide +kernel
theorem dX3_wantsHead_19 : decode cX3_wantsHead 19 = .ok (.goto 4, 3) := by decide +kernel
theorem dX3_wantsHead_22 : decode cX3_wantsHead 22 = .ok (.iconst 0, 1) := by decide +kernel
theorem dX3_wantsHead_23 : decode cX3_wantsHead 23 = .ok (.ireturn, 1) := by decide +kernel
theorem dX4_init_0 : decode cX4_init 0 = .ok (.aload_n 0, 1) := by decide +kernel
theorem dX4_init_1 : decode cX4_init 1 = .ok (.invokespecial 3, 3) := by decide +kernel
theorem dX4_init_4 : decode cX4_init 4 = .ok (.aload_n 0, 1) := by decide +kernel
theorem dX4_init_5 : decode cX4_init 5 = .ok (.iconst 5, 1) := by decide +kernel
theorem dX4_init_6 : decode cX4_init 6 = .ok (.newarray .int, 2) := by decide +kernel
theorem dX4_init_8 : decode cX4_init 8 = .ok (.putfield 9, 3) := by decide +kernel
theorem dX4_init_11 : decode cX4_init 11 = .ok (.aload_n 0, 1) := by decide +kernel
theorem dX4_init_12 : decode cX4_init 12 = .ok (.iconst 5, 1) := by decide +kernel
theorem dX4_init_13 : decode cX4_init 13 = .ok (.newarray .int, 2) := by decide +kernel
theorem dX4_init_15 : decode cX4_init 15 = .ok (.putfield 15, 3) := by decide +kernel
theorem dX4_init_18 : decode cX4_init 18 = .ok (.aload_n 0, 1) := by decide +kernel
theorem dX4_init_19 : decode cX4_init 19 = .ok (.iconst 5, 1) := by decide +kernel
theorem dX4_init_20 : decode cX4_init 20 = .ok (.newarray .int, 2) := by decide +kernel
theorem dX4_init_22 : decode cX4_init 22 = .ok (.putfield 18, 3) := by decide +kernel
theorem dX4_init_25 : decode cX4_init 25 = .ok (.aload_n 0, 1) := by decide +kernel
theorem dX4_init_26 : decode cX4_init 26 = .ok (.iconst 5, 1) := by decide +kernel
theorem dX4_init_27 : decode cX4_init 27 = .ok (.newarray .int, 2) := by decide +kernel
theorem dX4_init_29 : decode cX4_init 29 = .ok (.putfield 21, 3) := by decide +kernel
theorem dX4_init_32 : decode cX4_init 32 = .ok (.aload_n 0, 1) := by decide +kernel
theorem dX4_init_33 : decode cX4_init 33 = .ok (.iconst 5, 1) := by decide +kernel
theorem dX4_init_34 : decode cX4_init 34 = .ok (.newarray .int, 2) := by decide +kernel
theorem dX4_init_36 : decode cX4_init 36 = .ok (.putfield 24, 3) := by decide +kernel
theorem dX4_init_39 : decode cX4_init 39 = .ok (.aload_n 0, 1) := by decide +kernel
theorem dX4_init_40 : decode cX4_init 40 = .ok (.iconst 5, 1) := by decide +kernel
theorem dX4_init_41 : decode cX4_init 41 = .ok (.newarray .int, 2) := by decide +kernel
theorem dX4_init_43 : decode cX4_init 43 = .ok (.putfield 27, 3) := by decide +kernel
theorem dX4_init_46 : decode cX4_init 46 = .ok (.return_, 1) := by decide +kernel
theorem dX4_clear_0 : decode cX4_clear 0 = .ok (.aload_n 0, 1) := by decide +kernel
theorem dX4_clear_1 : decode cX4_clear 1 = .ok (.iconst 0, 1) := by decide +kernel
theorem dX4_clear_2 : decode cX4_clear 2 = .ok (.putfield 30, 3) := by decide +kernel
theorem dX4_clear_5 : decode cX4_clear 5 = .ok (.aload_n 0, 1) := by decide +kernel
theorem dX4_clear_6 : decode cX4_clear 6 = .ok (.iconst 0, 1) := by decide +kernel
theorem dX4_clear_7 : decode cX4_clear 7 = .ok (.putfield 34, 3) := by decide +kernel
theorem dX4_clear_10 : decode cX4_clear 10 = .ok (.aload_n 0, 1) := by decide +kernel
theorem dX4_clear_11 : decode cX4_clear 11 = .ok (.iconst (-1), 1) := by decide +kernel
theorem dX4_clear_12 : decode cX4_clear 12 = .ok (.putfield 37, 3) := by decide +kernel
theorem dX4_clear_15 : decode cX4_clear 15 = .ok (.return_, 1) := by decide +kernel
theorem dX4_add_0 : decode cX4_add 0 = .ok (.aload_n 0, 1) := by decide +kernel
theorem dX4_add_1 : decode cX4_add 1 = .ok (.getfield 30, 3) := by decide +kernel
theorem dX4_add_4 : decode cX4_add 4 = .ok (.iconst 5, 1) := by decide +kernel
theorem dX4_add_5 : decode cX4_add 5 = .ok (.if_icmp .lt 5, 3) := by decide +kernel
theorem dX4_add_8 : decode cX4_add 8 = .ok (.iconst 0, 1) := by decide +kernel
theorem dX4_add_9 : decode cX4_add 9 = .ok (.ireturn, 1) := by decide +kernel
theorem dX4_add_10 : decode cX4_add 10 = .ok (.aload_n 0, 1) := by decide +kernel
theorem dX4_add_11 : decode cX4_add 11 = .ok (.getfield 9, 3) := by decide +kernel
theorem dX4_add_14 : decode cX4_add 14 = .ok (.aload_n 0, 1) := by decide +kernel
theorem dX4_add_15 : decode cX4_add 15 = .ok (.getfield 30, 3) := by decide +kernel
theorem dX4_add_18 : decode cX4_add 18 = .ok (.iload_n 1, 1) := by decide +kernel
theorem dX4_add_19 : decode cX4_add 19 = .ok (.iastore, 1) := by decide +kernel
theorem dX4_add_20 : decode cX4_add 20 = .ok (.aload_n 0, 1) := by decide +kernel
theorem dX4_add_21 : decode cX4_add 21 = .ok (.getfield 15, 3) := by decide +kernel
theorem dX4_add_24 : decode cX4_add 24 = .ok (.aload_n 0, 1) := by decide +kernel
theorem dX4_add_25 : decode cX4_add 25 = .ok (.getfield 30, 3) := by decide +kernel
theorem dX4_add_28 : decode cX4_add 28 = .ok (.iload_n 2, 1) := by decide +kernel
theorem dX4_add_29 : decode cX4_add 29 = .ok (.iastore, 1) := by decide +kernel
theorem dX4_add_30 : decode cX4_add 30 = .ok (.aload_n 0, 1) := by decide +kernel
theorem dX4_add_31 : decode cX4_add 31 = .ok (.getfield 18, 3) := by decide +kernel
theorem dX4_add_34 : decode cX4_add 34 = .ok (.aload_n 0, 1) := by decide +kernel
theorem dX4_add_35 : decode cX4_add 35 = .ok (.getfield 30, 3) := by decide +kernel
theorem dX4_add_38 : decode cX4_add 38 = .ok (.iload_n 3, 1) := by decide +kernel
theorem dX4_add_39 : decode cX4_add 39 = .ok (.iastore, 1) := by decide +kernel
theorem dX4_add_40 : decode cX4_add 40 = .ok (.aload_n 0, 1) := by decide +kernel
theorem dX4_add_41 : decode cX4_add 41 = .ok (.getfield 21, 3) := by decide +kernel
theorem dX4_add_44 : decode cX4_add 44 = .ok (.aload_n 0, 1) := by decide +kernel
theorem dX4_add_45 : decode cX4_add 45 = .ok (.getfield 30, 3) := by decide +kernel
theorem dX4_add_48 : decode cX4_add 48 = .ok (.iload 4, 2) := by decide +kernel
theorem dX4_add_50 : decode cX4_add 50 = .ok (.iastore, 1) := by decide +kernel
theorem dX4_add_51 : decode cX4_add 51 = .ok (.aload_n 0, 1) := by decide +kernel
theorem dX4_add_52 : decode cX4_add 52 = .ok (.dup, 1) := by decide +kernel
theorem dX4_add_53 : decode cX4_add 53 = .ok (.getfield 34, 3) := by decide +kernel
theorem dX4_add_56 : decode cX4_add 56 = .ok (.iload 4, 2) := by decide +kernel
theorem dX4_add_58 : decode cX4_add 58 = .ok (.iadd, 1) := by decide +kernel
theorem dX4_add_59 : decode cX4_add 59 = .ok (.putfield 34, 3) := by decide +kernel
theorem dX4_add_62 : decode cX4_add 62 = .ok (.aload_n 0, 1) := by decide +kernel
theorem dX4_add_63 : decode cX4_add 63 = .ok (.dup, 1) := by decide +kernel
theorem dX4_add_64 : decode cX4_add 64 = .ok (.getfield 30, 3) := by decide +kernel
theorem dX4_add_67 : decode cX4_add 67 = .ok (.iconst 1, 1) := by decide +kernel
theorem dX4_add_68 : decode cX4_add 68 = .ok (.iadd, 1) := by decide +kernel
theorem dX4_add_69 : decode cX4_add 69 = .ok (.putfield 30, 3) := by decide +kernel
theorem dX4_add_72 : decode cX4_add 72 = .ok (.iconst 1, 1) := by decide +kernel
theorem dX4_add_73 : decode cX4_add 73 = .ok (.ireturn, 1) := by decide +kernel
theorem dX4_sitterIsPlaced_0 : decode cX4_sitterIsPlaced 0 = .ok (.iconst 0, 1) := by decide +kernel
theorem dX4_sitterIsPlaced_1 : decode cX4_sitterIsPlaced 1 = .ok (.istore_n 2, 1) := by decide +kernel
theorem dX4_sitterIsPlaced_2 : decode cX4_sitterIsPlaced 2 = .ok (.iload_n 2, 1) := by decide +kernel
theorem dX4_sitterIsPlaced_3 : decode cX4_sitterIsPlaced 3 = .ok (.iload_n 1, 1) := by decide +kernel
theorem dX4_sitterIsPlaced_4 : decode cX4_sitterIsPlaced 4 = .ok (.if_icmp .ge 41, 3) := by decide +kernel
theorem dX4_sitterIsPlaced_7 : decode cX4_sitterIsPlaced 7 = .ok (.iload_n 2, 1) := by decide +kernel
theorem dX4_sitterIsPlaced_8 : decode cX4_sitterIsPlaced 8 = .ok (.iconst 5, 1) := by decide +kernel
theorem dX4_sitterIsPlaced_9 : decode cX4_sitterIsPlaced 9 = .ok (.if_icmp .ge 36, 3) := by decide +kernel
theorem dX4_sitterIsPlaced_12 : decode cX4_sitterIsPlaced 12 = .ok (.aload_n 0, 1) := by decide +kernel
theorem dX4_sitterIsPlaced_13 : decode cX4_sitterIsPlaced 13 = .ok (.getfield 15, 3) := by decide +kernel
theorem dX4_sitterIsPlaced_16 : decode cX4_sitterIsPlaced 16 = .ok (.iload_n 2, 1) := by decide +kernel
theorem dX4_sitterIsPlaced_17 : decode cX4_sitterIsPlaced 17 = .ok (.iaload, 1) := by decide +kernel
theorem dX4_sitterIsPlaced_18 : decode cX4_sitterIsPlaced 18 = .ok (.aload_n 0, 1) := by decide +kernel
theorem dX4_sitterIsPlaced_19 : decode cX4_sitterIsPlaced 19 = .ok (.getfield 15, 3) := by decide +kernel
theorem dX4_sitterIsPlaced_22 : decode cX4_sitterIsPlaced 22 = .ok (.iload_n 1, 1) := by decide +kernel
theorem dX4_sitterIsPlaced_23 : decode cX4_sitterIsPlaced 23 = .ok (.iaload, 1) := by decide +kernel
theorem dX4_sitterIsPlaced_24 : decode cX4_sitterIsPlaced 24 = .ok (.if_icmp .ne 15, 3) := by decide +kernel
theorem dX4_sitterIsPlaced_27 : decode cX4_sitterIsPlaced 27 = .ok (.aload_n 0, 1) := by decide +kernel
theorem dX4_sitterIsPlaced_28 : decode cX4_sitterIsPlaced 28 = .ok (.getfield 24, 3) := by decide +kernel
theorem dX4_sitterIsPlaced_31 : decode cX4_sitterIsPlaced 31 = .ok (.iload_n 2, 1) := by decide +kernel
theorem dX4_sitterIsPlaced_32 : decode cX4_sitterIsPlaced 32 = .ok (.iaload, 1) := by decide +kernel
theorem dX4_sitterIsPlaced_33 : decode cX4_sitterIsPlaced 33 = .ok (.iconst (-1), 1) := by decide +kernel
theorem dX4_sitterIsPlaced_34 : decode cX4_sitterIsPlaced 34 = .ok (.if_icmp .eq 5, 3) := by decide +kernel
theorem dX4_sitterIsPlaced_37 : decode cX4_sitterIsPlaced 37 = .ok (.iconst 1, 1) := by decide +kernel
theorem dX4_sitterIsPlaced_38 : decode cX4_sitterIsPlaced 38 = .ok (.ireturn, 1) := by decide +kernel
theorem dX4_sitterIsPlaced_39 : decode cX4_sitterIsPlaced 39 = .ok (.iinc 2 1, 3) := by decide +kernel
theorem dX4_sitterIsPlaced_42 : decode cX4_sitterIsPlaced 42 = .ok (.goto (-40), 3) := by decide +kernel
theorem dX4_sitterIsPlaced_45 : decode cX4_sitterIsPlaced 45 = .ok (.iconst 0, 1) := by decide +kernel
theorem dX4_sitterIsPlaced_46 : decode cX4_sitterIsPlaced 46 = .ok (.ireturn, 1) := by decide +kernel
theorem dX4_keep_0 : decode cX4_keep 0 = .ok (.aload_n 0, 1) := by decide +kernel
theorem dX4_keep_1 : decode cX4_keep 1 = .ok (.iload_n 1, 1) := by decide +kernel
theorem dX4_keep_2 : decode cX4_keep 2 = .ok (.putfield 37, 3) := by decide +kernel
theorem dX4_keep_5 : decode cX4_keep 5 = .ok (.iconst 0, 1) := by decide +kernel
theorem dX4_keep_6 : decode cX4_keep 6 = .ok (.istore_n 2, 1) := by decide +kernel
theorem dX4_keep_7 : decode cX4_keep 7 = .ok (.iload_n 2, 1) := by decide +kernel
theorem dX4_keep_8 : decode cX4_keep 8 = .ok (.aload_n 0, 1) := by decide +kernel
theorem dX4_keep_9 : decode cX4_keep 9 = .ok (.getfield 30, 3) := by decide +kernel
theorem dX4_keep_12 : decode cX4_keep 12 = .ok (.if_icmp .ge 21, 3) := by decide +kernel
theorem dX4_keep_15 : decode cX4_keep 15 = .ok (.aload_n 0, 1) := by decide +kernel
theorem dX4_keep_16 : decode cX4_keep 16 = .ok (.getfield 27, 3) := by decide +kernel
theorem dX4_keep_19 : decode cX4_keep 19 = .ok (.iload_n 2, 1) := by decide +kernel
theorem dX4_keep_20 : decode cX4_keep 20 = .ok (.aload_n 0, 1) := by decide +kernel
theorem dX4_keep_21 : decode cX4_keep 21 = .ok (.getfield 24, 3) := by decide +kernel
theorem dX4_keep_24 : decode cX4_keep 24 = .ok (.iload_n 2, 1) := by decide +kernel
theorem dX4_keep_25 : decode cX4_keep 25 = .ok (.iaload, 1) := by decide +kernel
theorem dX4_keep_26 : decode cX4_keep 26 = .ok (.iastore, 1) := by decide +kernel
theorem dX4_keep_27 : decode cX4_keep 27 = .ok (.iinc 2 1, 3) := by decide +kernel
theorem dX4_keep_30 : decode cX4_keep 30 = .ok (.goto (-23), 3) := by decide +kernel
theorem dX4_keep_33 : decode cX4_keep 33 = .ok (.return_, 1) := by decide +kernel
theorem dX4_hourOf_0 : decode cX4_hourOf 0 = .ok (.iconst 0, 1) := by decide +kernel
theorem dX4_hourOf_1 : decode cX4_hourOf 1 = .ok (.istore_n 2, 1) := by decide +kernel
theorem dX4_hourOf_2 : decode cX4_hourOf 2 = .ok (.iload_n 2, 1) := by decide +kernel
theorem dX4_hourOf_3 : decode cX4_hourOf 3 = .ok (.aload_n 0, 1) := by decide +kernel
theorem dX4_hourOf_4 : decode cX4_hourOf 4 = .ok (.getfield 30, 3) := by decide +kernel
theorem dX4_hourOf_7 : decode cX4_hourOf 7 = .ok (.if_icmp .ge 26, 3) := by decide +kernel
theorem dX4_hourOf_10 : decode cX4_hourOf 10 = .ok (.aload_n 0, 1) := by decide +kernel
theorem dX4_hourOf_11 : decode cX4_hourOf 11 = .ok (.getfield 9, 3) := by decide +kernel
theorem dX4_hourOf_14 : decode cX4_hourOf 14 = .ok (.iload_n 2, 1) := by decide +kernel
theorem dX4_hourOf_15 : decode cX4_hourOf 15 = .ok (.iaload, 1) := by decide +kernel
theorem dX4_hourOf_16 : decode cX4_hourOf 16 = .ok (.iload_n 1, 1) := by decide +kernel
theorem dX4_hourOf_17 : decode cX4_hourOf 17 = .ok (.if_icmp .ne 10, 3) := by decide +kernel
theorem dX4_hourOf_20 : decode cX4_hourOf 20 = .ok (.aload_n 0, 1) := by decide +kernel
theorem dX4_hourOf_21 : decode cX4_hourOf 21 = .ok (.getfield 27, 3) := by decide +kernel
theorem dX4_hourOf_24 : decode cX4_hourOf 24 = .ok (.iload_n 2, 1) := by decide +kernel
theorem dX4_hourOf_25 : decode cX4_hourOf 25 = .ok (.iaload, 1) := by decide +kernel
theorem dX4_hourOf_26 : decode cX4_hourOf 26 = .ok (.ireturn, 1) := by decide +kernel
theorem dX4_hourOf_27 : decode cX4_hourOf 27 = .ok (.iinc 2 1, 3) := by decide +kernel
theorem dX4_hourOf_30 : decode cX4_hourOf 30 = .ok (.goto (-28), 3) := by decide +kernel
theorem dX4_hourOf_33 : decode cX4_hourOf 33 = .ok (.iconst (-1), 1) := by decide +kernel
theorem dX4_hourOf_34 : decode cX4_hourOf 34 = .ok (.ireturn, 1) := by decide +kernel
theorem dX5_init_0 : decode cX5_init 0 = .ok (.aload_n 0, 1) := by decide +kernel
theorem dX5_init_1 : decode cX5_init 1 = .ok (.invokespecial 3, 3) := by decide +kernel
theorem dX5_init_4 : decode cX5_init 4 = .ok (.aload_n 0, 1) := by decide +kernel
theorem dX5_init_5 : decode cX5_init 5 = .ok (.iconst 5, 1) := by decide +kernel
theorem dX5_init_6 : decode cX5_init 6 = .ok (.newarray .int, 2) := by decide +kernel
theorem dX5_init_8 : decode cX5_init 8 = .ok (.putfield 9, 3) := by decide +kernel
theorem dX5_init_11 : decode cX5_init 11 = .ok (.aload_n 0, 1) := by decide +kernel
theorem dX5_init_12 : decode cX5_init 12 = .ok (.iconst 5, 1) := by decide +kernel
theorem dX5_init_13 : decode cX5_init 13 = .ok (.newarray .int, 2) := by decide +kernel
theorem dX5_init_15 : decode cX5_init 15 = .ok (.putfield 15, 3) := by decide +kernel
theorem dX5_init_18 : decode cX5_init 18 = .ok (.iconst 0, 1) := by decide +kernel
theorem dX5_init_19 : decode cX5_init 19 = .ok (.istore_n 1, 1) := by decide +kernel
theorem dX5_init_20 : decode cX5_init 20 = .ok (.iload_n 1, 1) := by decide +kernel
theorem dX5_init_21 : decode cX5_init 21 = .ok (.iconst 5, 1) := by decide +kernel
theorem dX5_init_22 : decode cX5_init 22 = .ok (.if_icmp .ge 23, 3) := by decide +kernel
theorem dX5_init_25 : decode cX5_init 25 = .ok (.aload_n 0, 1) := by decide +kernel
theorem dX5_init_26 : decode cX5_init 26 = .ok (.getfield 9, 3) := by decide +kernel
theorem dX5_init_29 : decode cX5_init 29 = .ok (.iload_n 1, 1) := by decide +kernel
theorem dX5_init_30 : decode cX5_init 30 = .ok (.iconst (-1), 1) := by decide +kernel
theorem dX5_init_31 : decode cX5_init 31 = .ok (.iastore, 1) := by decide +kernel
theorem dX5_init_32 : decode cX5_init 32 = .ok (.aload_n 0, 1) := by decide +kernel
theorem dX5_init_33 : decode cX5_init 33 = .ok (.getfield 15, 3) := by decide +kernel
theorem dX5_init_36 : decode cX5_init 36 = .ok (.iload_n 1, 1) := by decide +kernel
theorem dX5_init_37 : decode cX5_init 37 = .ok (.iconst (-1), 1) := by decide +kernel
theorem dX5_init_38 : decode cX5_init 38 = .ok (.iastore, 1) := by decide +kernel
theorem dX5_init_39 : decode cX5_init 39 = .ok (.iinc 1 1, 3) := by decide +kernel
theorem dX5_init_42 : decode cX5_init 42 = .ok (.goto (-22), 3) := by decide +kernel
theorem dX5_init_45 : decode cX5_init 45 = .ok (.return_, 1) := by decide +kernel
theorem dX5_isAway_0 : decode cX5_isAway 0 = .ok (.iload_n 1, 1) := by decide +kernel
theorem dX5_isAway_1 : decode cX5_isAway 1 = .ok (.iconst 4, 1) := by decide +kernel
theorem dX5_isAway_2 : decode cX5_isAway 2 = .ok (.invokestatic 18, 3) := by decide +kernel
theorem dX5_isAway_5 : decode cX5_isAway 5 = .ok (.ifCond .eq 27, 3) := by decide +kernel
theorem dX5_isAway_8 : decode cX5_isAway 8 = .ok (.aload_n 0, 1) := by decide +kernel
theorem dX5_isAway_9 : decode cX5_isAway 9 = .ok (.getfield 15, 3) := by decide +kernel
theorem dX5_isAway_12 : decode cX5_isAway 12 = .ok (.iload_n 1, 1) := by decide +kernel
theorem dX5_isAway_13 : decode cX5_isAway 13 = .ok (.iaload, 1) := by decide +kernel
theorem dX5_isAway_14 : decode cX5_isAway 14 = .ok (.iload_n 3, 1) := by decide +kernel
theorem dX5_isAway_15 : decode cX5_isAway 15 = .ok (.if_icmp .ne 17, 3) := by decide +kernel
theorem dX5_isAway_18 : decode cX5_isAway 18 = .ok (.aload_n 0, 1) := by decide +kernel
theorem dX5_isAway_19 : decode cX5_isAway 19 = .ok (.getfield 9, 3) := by decide +kernel
theorem dX5_isAway_22 : decode cX5_isAway 22 = .ok (.iload_n 1, 1) := by decide +kernel
theorem dX5_isAway_23 : decode cX5_isAway 23 = .ok (.iaload, 1) := by decide +kernel
theorem dX5_isAway_24 : decode cX5_isAway 24 = .ok (.iload_n 2, 1) := by decide +kernel
theorem dX5_isAway_25 : decode cX5_isAway 25 = .ok (.if_icmp .eq 7, 3) := by decide +kernel
theorem dX5_isAway_28 : decode cX5_isAway 28 = .ok (.iconst 1, 1) := by decide +kernel
theorem dX5_isAway_29 : decode cX5_isAway 29 = .ok (.goto 4, 3) := by decide +kernel
theorem dX5_isAway_32 : decode cX5_isAway 32 = .ok (.iconst 0, 1) := by decide +kernel
theorem dX5_isAway_33 : decode cX5_isAway 33 = .ok (.ireturn, 1) := by decide +kernel
theorem dX5_take_0 : decode cX5_take 0 = .ok (.iload_n 1, 1) := by decide +kernel
theorem dX5_take_1 : decode cX5_take 1 = .ok (.iconst 4, 1) := by decide +kernel
theorem dX5_take_2 : decode cX5_take 2 = .ok (.invokestatic 18, 3) := by decide +kernel
theorem dX5_take_5 : decode cX5_take 5 = .ok (.ifCond .eq 17, 3) := by decide +kernel
theorem dX5_take_8 : decode cX5_take 8 = .ok (.aload_n 0, 1) := by decide +kernel
theorem dX5_take_9 : decode cX5_take 9 = .ok (.getfield 9, 3) := by decide +kernel
theorem dX5_take_12 : decode cX5_take 12 = .ok (.iload_n 1, 1) := by decide +kernel
theorem dX5_take_13 : decode cX5_take 13 = .ok (.iload_n 2, 1) := by decide +kernel
theorem dX5_take_14 : decode cX5_take 14 = .ok (.iastore, 1) := by decide +kernel
theorem dX5_take_15 : decode cX5_take 15 = .ok (.aload_n 0, 1) := by decide +kernel
theorem dX5_take_16 : decode cX5_take 16 = .ok (.getfield 15, 3) := by decide +kernel
theorem dX5_take_19 : decode cX5_take 19 = .ok (.iload_n 1, 1) := by decide +kernel
theorem dX5_take_20 : decode cX5_take 20 = .ok (.iload_n 3, 1) := by decide +kernel
theorem dX5_take_21 : decode cX5_take 21 = .ok (.iastore, 1) := by decide +kernel
theorem dX5_take_22 : decode cX5_take 22 = .ok (.return_, 1) := by decide +kernel
theorem dX6_init_0 : decode cX6_init 0 = .ok (.aload_n 0, 1) := by decide +kernel
theorem dX6_init_1 : decode cX6_init 1 = .ok (.invokespecial 1, 3) := by decide +kernel
theorem dX6_init_4 : decode cX6_init 4 = .ok (.aload_n 0, 1) := by decide +kernel
theorem dX6_init_5 : decode cX6_init 5 = .ok (.iload_n 1, 1) := by decide +kernel
theorem dX6_init_6 : decode cX6_init 6 = .ok (.putfield 7, 3) := by decide +kernel
theorem dX6_init_9 : decode cX6_init 9 = .ok (.aload_n 0, 1) := by decide +kernel
theorem dX6_init_10 : decode cX6_init 10 = .ok (.iload_n 2, 1) := by decide +kernel
theorem dX6_init_11 : decode cX6_init 11 = .ok (.putfield 13, 3) := by decide +kernel
theorem dX6_init_14 : decode cX6_init 14 = .ok (.return_, 1) := by decide +kernel
theorem dX6_canCome_0 : decode cX6_canCome 0 = .ok (.iload_n 1, 1) := by decide +kernel
theorem dX6_canCome_1 : decode cX6_canCome 1 = .ok (.aload_n 0, 1) := by decide +kernel
theorem dX6_canCome_2 : decode cX6_canCome 2 = .ok (.getfield 7, 3) := by decide +kernel
theorem dX6_canCome_5 : decode cX6_canCome 5 = .ok (.if_icmp .lt 15, 3) := by decide +kernel
theorem dX6_canCome_8 : decode cX6_canCome 8 = .ok (.iload_n 1, 1) := by decide +kernel
theorem dX6_canCome_9 : decode cX6_canCome 9 = .ok (.aload_n 0, 1) := by decide +kernel
theorem dX6_canCome_10 : decode cX6_canCome 10 = .ok (.getfield 13, 3) := by decide +kernel
theorem dX6_canCome_13 : decode cX6_canCome 13 = .ok (.if_icmp .gt 7, 3) := by decide +kernel
theorem dX6_canCome_16 : decode cX6_canCome 16 = .ok (.iconst 1, 1) := by decide +kernel
theorem dX6_canCome_17 : decode cX6_canCome 17 = .ok (.goto 4, 3) := by decide +kernel
theorem dX6_canCome_20 : decode cX6_canCome 20 = .ok (.iconst 0, 1) := by decide +kernel
theorem dX6_canCome_21 : decode cX6_canCome 21 = .ok (.ireturn, 1) := by decide +kernel
theorem dX7_init_0 : decode cX7_init 0 = .ok (.aload_n 0, 1) := by decide +kernel
theorem dX7_init_1 : decode cX7_init 1 = .ok (.invokespecial 3, 3) := by decide +kernel
theorem dX7_init_4 : decode cX7_init 4 = .ok (.aload_n 0, 1) := by decide +kernel
theorem dX7_init_5 : decode cX7_init 5 = .ok (.sipush 200, 3) := by decide +kernel
theorem dX7_init_8 : decode cX7_init 8 = .ok (.newarray .int, 2) := by decide +kernel
theorem dX7_init_10 : decode cX7_init 10 = .ok (.putfield 9, 3) := by decide +kernel
theorem dX7_init_13 : decode cX7_init 13 = .ok (.aload_n 0, 1) := by decide +kernel
theorem dX7_init_14 : decode cX7_init 14 = .ok (.sipush 200, 3) := by decide +kernel
theorem dX7_init_17 : decode cX7_init 17 = .ok (.newarray .int, 2) := by decide +kernel
theorem dX7_init_19 : decode cX7_init 19 = .ok (.putfield 15, 3) := by decide +kernel
theorem dX7_init_22 : decode cX7_init 22 = .ok (.aload_n 0, 1) := by decide +kernel
theorem dX7_init_23 : decode cX7_init 23 = .ok (.sipush 200, 3) := by decide +kernel
theorem dX7_init_26 : decode cX7_init 26 = .ok (.newarray .int, 2) := by decide +kernel
theorem dX7_init_28 : decode cX7_init 28 = .ok (.putfield 18, 3) := by decide +kernel
theorem dX7_init_31 : decode cX7_init 31 = .ok (.aload_n 0, 1) := by decide +kernel
theorem dX7_init_32 : decode cX7_init 32 = .ok (.sipush 200, 3) := by decide +kernel
theorem dX7_init_35 : decode cX7_init 35 = .ok (.newarray .int, 2) := by decide +kernel
theorem dX7_init_37 : decode cX7_init 37 = .ok (.putfield 21, 3) := by decide +kernel
theorem dX7_init_40 : decode cX7_init 40 = .ok (.aload_n 0, 1) := by decide +kernel
theorem dX7_init_41 : decode cX7_init 41 = .ok (.sipush 200, 3) := by decide +kernel
theorem dX7_init_44 : decode cX7_init 44 = .ok (.newarray .boolean, 2) := by decide +kernel
theorem dX7_init_46 : decode cX7_init 46 = .ok (.putfield 24, 3) := by decide +kernel
theorem dX7_init_49 : decode cX7_init 49 = .ok (.return_, 1) := by decide +kernel
theorem dX7_add_0 : decode cX7_add 0 = .ok (.aload_n 0, 1) := by decide +kernel
theorem dX7_add_1 : decode cX7_add 1 = .ok (.getfield 28, 3) := by decide +kernel
theorem dX7_add_4 : decode cX7_add 4 = .ok (.sipush 200, 3) := by decide +kernel
theorem dX7_add_7 : decode cX7_add 7 = .ok (.if_icmp .lt 5, 3) := by decide +kernel
theorem dX7_add_10 : decode cX7_add 10 = .ok (.iconst 0, 1) := by decide +kernel
theorem dX7_add_11 : decode cX7_add 11 = .ok (.ireturn, 1) := by decide +kernel
theorem dX7_add_12 : decode cX7_add 12 = .ok (.aload_n 0, 1) := by decide +kernel
theorem dX7_add_13 : decode cX7_add 13 = .ok (.getfield 9, 3) := by decide +kernel
theorem dX7_add_16 : decode cX7_add 16 = .ok (.aload_n 0, 1) := by decide +kernel
theorem dX7_add_17 : decode cX7_add 17 = .ok (.getfield 28, 3) := by decide +kernel
theorem dX7_add_20 : decode cX7_add 20 = .ok (.iload_n 1, 1) := by decide +kernel
theorem dX7_add_21 : decode cX7_add 21 = .ok (.iastore, 1) := by decide +kernel
theorem dX7_add_22 : decode cX7_add 22 = .ok (.aload_n 0, 1) := by decide +kernel
theorem dX7_add_23 : decode cX7_add 23 = .ok (.getfield 15, 3) := by decide +kernel
theorem dX7_add_26 : decode cX7_add 26 = .ok (.aload_n 0, 1) := by decide +kernel
theorem dX7_add_27 : decode cX7_add 27 = .ok (.getfield 28, 3) := by decide +kernel
theorem dX7_add_30 : decode cX7_add 30 = .ok (.iload_n 2, 1) := by decide +kernel
theorem dX7_add_31 : decode cX7_add 31 = .ok (.iastore, 1) := by decide +kernel
theorem dX7_add_32 : decode cX7_add 32 = .ok (.aload_n 0, 1) := by decide +kernel
theorem dX7_add_33 : decode cX7_add 33 = .ok (.getfield 18, 3) := by decide +kernel
theorem dX7_add_36 : decode cX7_add 36 = .ok (.aload_n 0, 1) := by decide +kernel
theorem dX7_add_37 : decode cX7_add 37 = .ok (.getfield 28, 3) := by decide +kernel
theorem dX7_add_40 : decode cX7_add 40 = .ok (.iload_n 3, 1) := by decide +kernel
theorem dX7_add_41 : decode cX7_add 41 = .ok (.iastore, 1) := by decide +kernel
theorem dX7_add_42 : decode cX7_add 42 = .ok (.aload_n 0, 1) := by decide +kernel
theorem dX7_add_43 : decode cX7_add 43 = .ok (.getfield 21, 3) := by decide +kernel
theorem dX7_add_46 : decode cX7_add 46 = .ok (.aload_n 0, 1) := by decide +kernel
theorem dX7_add_47 : decode cX7_add 47 = .ok (.getfield 28, 3) := by decide +kernel
theorem dX7_add_50 : decode cX7_add 50 = .ok (.iload 4, 2) := by decide +kernel
theorem dX7_add_52 : decode cX7_add 52 = .ok (.iastore, 1) := by decide +kernel
theorem dX7_add_53 : decode cX7_add 53 = .ok (.aload_n 0, 1) := by decide +kernel
theorem dX7_add_54 : decode cX7_add 54 = .ok (.getfield 24, 3) := by decide +kernel
theorem dX7_add_57 : decode cX7_add 57 = .ok (.aload_n 0, 1) := by decide +kernel
theorem dX7_add_58 : decode cX7_add 58 = .ok (.getfield 28, 3) := by decide +kernel
theorem dX7_add_61 : decode cX7_add 61 = .ok (.iconst 0, 1) := by decide +kernel
theorem dX7_add_62 : decode cX7_add 62 = .ok (.bastore, 1) := by decide +kernel
theorem dX7_add_63 : decode cX7_add 63 = .ok (.aload_n 0, 1) := by decide +kernel
theorem dX7_add_64 : decode cX7_add 64 = .ok (.dup, 1) := by decide +kernel
theorem dX7_add_65 : decode cX7_add 65 = .ok (.getfield 28, 3) := by decide +kernel
theorem dX7_add_68 : decode cX7_add 68 = .ok (.iconst 1, 1) := by decide +kernel
theorem dX7_add_69 : decode cX7_add 69 = .ok (.iadd, 1) := by decide +kernel
theorem dX7_add_70 : decode cX7_add 70 = .ok (.putfield 28, 3) := by decide +kernel
theorem dX7_add_73 : decode cX7_add 73 = .ok (.iconst 1, 1) := by decide +kernel
theorem dX7_add_74 : decode cX7_add 74 = .ok (.ireturn, 1) := by decide +kernel
theorem dX7_remove_0 : decode cX7_remove 0 = .ok (.iload_n 1, 1) := by decide +kernel
theorem dX7_remove_1 : decode cX7_remove 1 = .ok (.ifCond .lt 11, 3) := by decide +kernel
theorem dX7_remove_4 : decode cX7_remove 4 = .ok (.iload_n 1, 1) := by decide +kernel
theorem dX7_remove_5 : decode cX7_remove 5 = .ok (.aload_n 0, 1) := by decide +kernel
theorem dX7_remove_6 : decode cX7_remove 6 = .ok (.getfield 28, 3) := by decide +kernel
theorem dX7_remove_9 : decode cX7_remove 9 = .ok (.if_icmp .lt 4, 3) := by decide +kernel
theorem dX7_remove_12 : decode cX7_remove 12 = .ok (.return_, 1) := by decide +kernel
theorem dX7_remove_13 : decode cX7_remove 13 = .ok (.aload_n 0, 1) := by decide +kernel
theorem dX7_remove_14 : decode cX7_remove 14 = .ok (.dup, 1) := by decide +kernel
theorem dX7_remove_15 : decode cX7_remove 15 = .ok (.getfield 28, 3) := by decide +kernel
theorem dX7_remove_18 : decode cX7_remove 18 = .ok (.iconst 1, 1) := by decide +kernel
theorem dX7_remove_19 : decode cX7_remove 19 = .ok (.isub, 1) := by decide +kernel
theorem dX7_remove_20 : decode cX7_remove 20 = .ok (.putfield 28, 3) := by decide +kernel
theorem dX7_remove_23 : decode cX7_remove 23 = .ok (.aload_n 0, 1) := by decide +kernel
theorem dX7_remove_24 : decode cX7_remove 24 = .ok (.getfield 9, 3) := by decide +kernel
theorem dX7_remove_27 : decode cX7_remove 27 = .ok (.iload_n 1, 1) := by decide +kernel
theorem dX7_remove_28 : decode cX7_remove 28 = .ok (.aload_n 0, 1) := by decide +kernel
theorem dX7_remove_29 : decode cX7_remove 29 = .ok (.getfield 9, 3) := by decide +kernel
theorem dX7_remove_32 : decode cX7_remove 32 = .ok (.aload_n 0, 1) := by decide +kernel
theorem dX7_remove_33 : decode cX7_remove 33 = .ok (.getfield 28, 3) := by decide +kernel
theorem dX7_remove_36 : decode cX7_remove 36 = .ok (.iaload, 1) := by decide +kernel
theorem dX7_remove_37 : decode cX7_remove 37 = .ok (.iastore, 1) := by decide +kernel
theorem dX7_remove_38 : decode cX7_remove 38 = .ok (.aload_n 0, 1) := by decide +kernel
theorem dX7_remove_39 : decode cX7_remove 39 = .ok (.getfield 15, 3) := by decide +kernel
theorem dX7_remove_42 : decode cX7_remove 42 = .ok (.iload_n 1, 1) := by decide +kernel
theorem dX7_remove_43 : decode cX7_remove 43 = .ok (.aload_n 0, 1) := by decide +kernel
theorem dX7_remove_44 : decode cX7_remove 44 = .ok (.getfield 15, 3) := by decide +kernel
theorem dX7_remove_47 : decode cX7_remove 47 = .ok (.aload_n 0, 1) := by decide +kernel
theorem dX7_remove_48 : decode cX7_remove 48 = .ok (.getfield 28, 3) := by decide +kernel
theorem dX7_remove_51 : decode cX7_remove 51 = .ok (.iaload, 1) := by decide +kernel
theorem dX7_remove_52 : decode cX7_remove 52 = .ok (.iastore, 1) := by decide +kernel
theorem dX7_remove_53 : decode cX7_remove 53 = .ok (.aload_n 0, 1) := by decide +kernel
theorem dX7_remove_54 : decode cX7_remove 54 = .ok (.getfield 18, 3) := by decide +kernel
theorem dX7_remove_57 : decode cX7_remove 57 = .ok (.iload_n 1, 1) := by decide +kernel
theorem dX7_remove_58 : decode cX7_remove 58 = .ok (.aload_n 0, 1) := by decide +kernel
theorem dX7_remove_59 : decode cX7_remove 59 = .ok (.getfield 18, 3) := by decide +kernel
theorem dX7_remove_62 : decode cX7_remove 62 = .ok (.aload_n 0, 1) := by decide +kernel
theorem dX7_remove_63 : decode cX7_remove 63 = .ok (.getfield 28, 3) := by decide +kernel
theorem dX7_remove_66 : decode cX7_remove 66 = .ok (.iaload, 1) := by decide +kernel
theorem dX7_remove_67 : decode cX7_remove 67 = .ok (.iastore, 1) := by decide +kernel
theorem dX7_remove_68 : decode cX7_remove 68 = .ok (.aload_n 0, 1) := by decide +kernel
theorem dX7_remove_69 : decode cX7_remove 69 = .ok (.getfield 21, 3) := by decide +kernel
theorem dX7_remove_72 : decode cX7_remove 72 = .ok (.iload_n 1, 1) := by decide +kernel
theorem dX7_remove_73 : decode cX7_remove 73 = .ok (.aload_n 0, 1) := by decide +kernel
theorem dX7_remove_74 : decode cX7_remove 74 = .ok (.getfield 21, 3) := by decide +kernel
theorem dX7_remove_77 : decode cX7_remove 77 = .ok (.aload_n 0, 1) := by decide +kernel
theorem dX7_remove_78 : decode cX7_remove 78 = .ok (.getfield 28, 3) := by decide +kernel
theorem dX7_remove_81 : decode cX7_remove 81 = .ok (.iaload, 1) := by decide +kernel
theorem dX7_remove_82 : decode cX7_remove 82 = .ok (.iastore, 1) := by decide +kernel
theorem dX7_remove_83 : decode cX7_remove 83 = .ok (.aload_n 0, 1) := by decide +kernel
theorem dX7_remove_84 : decode cX7_remove 84 = .ok (.getfield 24, 3) := by decide +kernel
theorem dX7_remove_87 : decode cX7_remove 87 = .ok (.iload_n 1, 1) := by decide +kernel
theorem dX7_remove_88 : decode cX7_remove 88 = .ok (.aload_n 0, 1) := by decide +kernel
theorem dX7_remove_89 : decode cX7_remove 89 = .ok (.getfield 24, 3) := by decide +kernel
theorem dX7_remove_92 : decode cX7_remove 92 = .ok (.aload_n 0, 1) := by decide +kernel
theorem dX7_remove_93 : decode cX7_remove 93 = .ok (.getfield 28, 3) := by decide +kernel
theorem dX7_remove_96 : decode cX7_remove 96 = .ok (.baload, 1) := by decide +kernel
theorem dX7_remove_97 : decode cX7_remove 97 = .ok (.bastore, 1) := by decide +kernel
theorem dX7_remove_98 : decode cX7_remove 98 = .ok (.return_, 1) := by decide +kernel
theorem dX7_use_0 : decode cX7_use 0 = .ok (.iload_n 1, 1) := by decide +kernel
theorem dX7_use_1 : decode cX7_use 1 = .ok (.ifCond .lt 18, 3) := by decide +kernel
theorem dX7_use_4 : decode cX7_use 4 = .ok (.iload_n 1, 1) := by decide +kernel
theorem dX7_use_5 : decode cX7_use 5 = .ok (.aload_n 0, 1) := by decide +kernel
theorem dX7_use_6 : decode cX7_use 6 = .ok (.getfield 28, 3) := by decide +kernel
theorem dX7_use_9 : decode cX7_use 9 = .ok (.if_icmp .ge 10, 3) := by decide +kernel
theorem dX7_use_12 : decode cX7_use 12 = .ok (.aload_n 0, 1) := by decide +kernel
theorem dX7_use_13 : decode cX7_use 13 = .ok (.getfield 24, 3) := by decide +kernel
theorem dX7_use_16 : decode cX7_use 16 = .ok (.iload_n 1, 1) := by decide +kernel
theorem dX7_use_17 : decode cX7_use 17 = .ok (.iconst 1, 1) := by decide +kernel
theorem dX7_use_18 : decode cX7_use 18 = .ok (.bastore, 1) := by decide +kernel
theorem dX7_use_19 : decode cX7_use 19 = .ok (.return_, 1) := by decide +kernel
theorem dX7_unusedOf_0 : decode cX7_unusedOf 0 = .ok (.iconst 0, 1) := by decide +kernel
theorem dX7_unusedOf_1 : decode cX7_unusedOf 1 = .ok (.istore_n 3, 1) := by decide +kernel
theorem dX7_unusedOf_2 : decode cX7_unusedOf 2 = .ok (.iload_n 3, 1) := by decide +kernel
theorem dX7_unusedOf_3 : decode cX7_unusedOf 3 = .ok (.aload_n 0, 1) := by decide +kernel
theorem dX7_unusedOf_4 : decode cX7_unusedOf 4 = .ok (.getfield 28, 3) := by decide +kernel
theorem dX7_unusedOf_7 : decode cX7_unusedOf 7 = .ok (.if_icmp .ge 40, 3) := by decide +kernel
theorem dX7_unusedOf_10 : decode cX7_unusedOf 10 = .ok (.aload_n 0, 1) := by decide +kernel
theorem dX7_unusedOf_11 : decode cX7_unusedOf 11 = .ok (.getfield 9, 3) := by decide +kernel
theorem dX7_unusedOf_14 : decode cX7_unusedOf 14 = .ok (.iload_n 3, 1) := by decide +kernel
theorem dX7_unusedOf_15 : decode cX7_unusedOf 15 = .ok (.iaload, 1) := by decide +kernel
theorem dX7_unusedOf_16 : decode cX7_unusedOf 16 = .ok (.iload_n 1, 1) := by decide +kernel
theorem dX7_unusedOf_17 : decode cX7_unusedOf 17 = .ok (.if_icmp .ne 24, 3) := by decide +kernel
theorem dX7_unusedOf_20 : decode cX7_unusedOf 20 = .ok (.aload_n 0, 1) := by decide +kernel
theorem dX7_unusedOf_21 : decode cX7_unusedOf 21 = .ok (.getfield 18, 3) := by decide +kernel
theorem dX7_unusedOf_24 : decode cX7_unusedOf 24 = .ok (.iload_n 3, 1) := by decide +kernel
theorem dX7_unusedOf_25 : decode cX7_unusedOf 25 = .ok (.iaload, 1) := by decide +kernel
theorem dX7_unusedOf_26 : decode cX7_unusedOf 26 = .ok (.iload_n 2, 1) := by decide +kernel
theorem dX7_unusedOf_27 : decode cX7_unusedOf 27 = .ok (.if_icmp .ne 14, 3) := by decide +kernel
theorem dX7_unusedOf_30 : decode cX7_unusedOf 30 = .ok (.aload_n 0, 1) := by decide +kernel
theorem dX7_unusedOf_31 : decode cX7_unusedOf 31 = .ok (.getfield 24, 3) := by decide +kernel
theorem dX7_unusedOf_34 : decode cX7_unusedOf 34 = .ok (.iload_n 3, 1) := by decide +kernel
theorem dX7_unusedOf_35 : decode cX7_unusedOf 35 = .ok (.baload, 1) := by decide +kernel
theorem dX7_unusedOf_36 : decode cX7_unusedOf 36 = .ok (.ifCond .ne 5, 3) := by decide +kernel
theorem dX7_unusedOf_39 : decode cX7_unusedOf 39 = .ok (.iload_n 3, 1) := by decide +kernel
theorem dX7_unusedOf_40 : decode cX7_unusedOf 40 = .ok (.ireturn, 1) := by decide +kernel
theorem dX7_unusedOf_41 : decode cX7_unusedOf 41 = .ok (.iinc 3 1, 3) := by decide +kernel
theorem dX7_unusedOf_44 : decode cX7_unusedOf 44 = .ok (.goto (-42), 3) := by decide +kernel
theorem dX7_unusedOf_47 : decode cX7_unusedOf 47 = .ok (.iconst (-1), 1) := by decide +kernel
theorem dX7_unusedOf_48 : decode cX7_unusedOf 48 = .ok (.ireturn, 1) := by decide +kernel
theorem dX7_isTaken_0 : decode cX7_isTaken 0 = .ok (.iconst 0, 1) := by decide +kernel
theorem dX7_isTaken_1 : decode cX7_isTaken 1 = .ok (.istore_n 3, 1) := by decide +kernel
theorem dX7_isTaken_2 : decode cX7_isTaken 2 = .ok (.iload_n 3, 1) := by decide +kernel
theorem dX7_isTaken_3 : decode cX7_isTaken 3 = .ok (.aload_n 0, 1) := by decide +kernel
theorem dX7_isTaken_4 : decode cX7_isTaken 4 = .ok (.getfield 28, 3) := by decide +kernel
theorem dX7_isTaken_7 : decode cX7_isTaken 7 = .ok (.if_icmp .ge 31, 3) := by decide +kernel
theorem dX7_isTaken_10 : decode cX7_isTaken 10 = .ok (.aload_n 0, 1) := by decide +kernel
theorem dX7_isTaken_11 : decode cX7_isTaken 11 = .ok (.getfield 18, 3) := by decide +kernel
theorem dX7_isTaken_14 : decode cX7_isTaken 14 = .ok (.iload_n 3, 1) := by decide +kernel
theorem dX7_isTaken_15 : decode cX7_isTaken 15 = .ok (.iaload, 1) := by decide +kernel
theorem dX7_isTaken_16 : decode cX7_isTaken 16 = .ok (.iload_n 1, 1) := by decide +kernel
theorem dX7_isTaken_17 : decode cX7_isTaken 17 = .ok (.if_icmp .ne 15, 3) := by decide +kernel
theorem dX7_isTaken_20 : decode cX7_isTaken 20 = .ok (.aload_n 0, 1) := by decide +kernel
theorem dX7_isTaken_21 : decode cX7_isTaken 21 = .ok (.getfield 21, 3) := by decide +kernel
theorem dX7_isTaken_24 : decode cX7_isTaken 24 = .ok (.iload_n 3, 1) := by decide +kernel
theorem dX7_isTaken_25 : decode cX7_isTaken 25 = .ok (.iaload, 1) := by decide +kernel
theorem dX7_isTaken_26 : decode cX7_isTaken 26 = .ok (.iload_n 2, 1) := by decide +kernel
theorem dX7_isTaken_27 : decode cX7_isTaken 27 = .ok (.if_icmp .ne 5, 3) := by decide +kernel
theorem dX7_isTaken_30 : decode cX7_isTaken 30 = .ok (.iconst 1, 1) := by decide +kernel
theorem dX7_isTaken_31 : decode cX7_isTaken 31 = .ok (.ireturn, 1) := by decide +kernel
theorem dX7_isTaken_32 : decode cX7_isTaken 32 = .ok (.iinc 3 1, 3) := by decide +kernel
theorem dX7_isTaken_35 : decode cX7_isTaken 35 = .ok (.goto (-33), 3) := by decide +kernel
theorem dX7_isTaken_38 : decode cX7_isTaken 38 = .ok (.iconst 0, 1) := by decide +kernel
theorem dX7_isTaken_39 : decode cX7_isTaken 39 = .ok (.ireturn, 1) := by decide +kernel
theorem dX7_hasSitter_0 : decode cX7_hasSitter 0 = .ok (.iconst 0, 1) := by decide +kernel
theorem dX7_hasSitter_1 : decode cX7_hasSitter 1 = .ok (.istore_n 3, 1) := by decide +kernel
theorem dX7_hasSitter_2 : decode cX7_hasSitter 2 = .ok (.iload_n 3, 1) := by decide +kernel
theorem dX7_hasSitter_3 : decode cX7_hasSitter 3 = .ok (.aload_n 0, 1) := by decide +kernel
theorem dX7_hasSitter_4 : decode cX7_hasSitter 4 = .ok (.getfield 28, 3) := by decide +kernel
theorem dX7_hasSitter_7 : decode cX7_hasSitter 7 = .ok (.if_icmp .ge 31, 3) := by decide +kernel
theorem dX7_hasSitter_10 : decode cX7_hasSitter 10 = .ok (.aload_n 0, 1) := by decide +kernel
theorem dX7_hasSitter_11 : decode cX7_hasSitter 11 = .ok (.getfield 18, 3) := by decide +kernel
theorem dX7_hasSitter_14 : decode cX7_hasSitter 14 = .ok (.iload_n 3, 1) := by decide +kernel
theorem dX7_hasSitter_15 : decode cX7_hasSitter 15 = .ok (.iaload, 1) := by decide +kernel
theorem dX7_hasSitter_16 : decode cX7_hasSitter 16 = .ok (.iload_n 1, 1) := by decide +kernel
theorem dX7_hasSitter_17 : decode cX7_hasSitter 17 = .ok (.if_icmp .ne 15, 3) := by decide +kernel
theorem dX7_hasSitter_20 : decode cX7_hasSitter 20 = .ok (.aload_n 0, 1) := by decide +kernel
theorem dX7_hasSitter_21 : decode cX7_hasSitter 21 = .ok (.getfield 15, 3) := by decide +kernel
theorem dX7_hasSitter_24 : decode cX7_hasSitter 24 = .ok (.iload_n 3, 1) := by decide +kernel
theorem dX7_hasSitter_25 : decode cX7_hasSitter 25 = .ok (.iaload, 1) := by decide +kernel
theorem dX7_hasSitter_26 : decode cX7_hasSitter 26 = .ok (.iload_n 2, 1) := by decide +kernel
theorem dX7_hasSitter_27 : decode cX7_hasSitter 27 = .ok (.if_icmp .ne 5, 3) := by decide +kernel
theorem dX7_hasSitter_30 : decode cX7_hasSitter 30 = .ok (.iconst 1, 1) := by decide +kernel
theorem dX7_hasSitter_31 : decode cX7_hasSitter 31 = .ok (.ireturn, 1) := by decide +kernel
theorem dX7_hasSitter_32 : decode cX7_hasSitter 32 = .ok (.iinc 3 1, 3) := by decide +kernel
theorem dX7_hasSitter_35 : decode cX7_hasSitter 35 = .ok (.goto (-33), 3) := by decide +kernel
theorem dX7_hasSitter_38 : decode cX7_hasSitter 38 = .ok (.iconst 0, 1) := by decide +kernel
theorem dX7_hasSitter_39 : decode cX7_hasSitter 39 = .ok (.ireturn, 1) := by decide +kernel
theorem dX8_init_0 : decode cX8_init 0 = .ok (.aload_n 0, 1) := by decide +kernel
theorem dX8_init_1 : decode cX8_init 1 = .ok (.invokespecial 3, 3) := by decide +kernel
theorem dX8_init_4 : decode cX8_init 4 = .ok (.aload_n 0, 1) := by decide +kernel
theorem dX8_init_5 : decode cX8_init 5 = .ok (.new 9, 3) := by decide +kernel
theorem dX8_init_8 : decode cX8_init 8 = .ok (.dup, 1) := by decide +kernel
theorem dX8_init_9 : decode cX8_init 9 = .ok (.invokespecial 11, 3) := by decide +kernel
theorem dX8_init_12 : decode cX8_init 12 = .ok (.putfield 12, 3) := by decide +kernel
theorem dX8_init_15 : decode cX8_init 15 = .ok (.aload_n 0, 1) := by decide +kernel
theorem dX8_init_16 : decode cX8_init 16 = .ok (.iconst 5, 1) := by decide +kernel
theorem dX8_init_17 : decode cX8_init 17 = .ok (.newarray .int, 2) := by decide +kernel
theorem dX8_init_19 : decode cX8_init 19 = .ok (.putfield 16, 3) := by decide +kernel
theorem dX8_init_22 : decode cX8_init 22 = .ok (.aload_n 0, 1) := by decide +kernel
theorem dX8_init_23 : decode cX8_init 23 = .ok (.bipush 7, 2) := by decide +kernel
theorem dX8_init_25 : decode cX8_init 25 = .ok (.anewarray 20, 3) := by decide +kernel
theorem dX8_init_28 : decode cX8_init 28 = .ok (.putfield 22, 3) := by decide +kernel
theorem dX8_init_31 : decode cX8_init 31 = .ok (.aload_n 0, 1) := by decide +kernel
theorem dX8_init_32 : decode cX8_init 32 = .ok (.bipush 20, 2) := by decide +kernel
theorem dX8_init_34 : decode cX8_init 34 = .ok (.anewarray 26, 3) := by decide +kernel
theorem dX8_init_37 : decode cX8_init 37 = .ok (.putfield 28, 3) := by decide +kernel
theorem dX8_init_40 : decode cX8_init 40 = .ok (.aload_n 0, 1) := by decide +kernel
theorem dX8_init_41 : decode cX8_init 41 = .ok (.bipush 40, 2) := by decide +kernel
theorem dX8_init_43 : decode cX8_init 43 = .ok (.anewarray 32, 3) := by decide +kernel
theorem dX8_init_46 : decode cX8_init 46 = .ok (.putfield 34, 3) := by decide +kernel
theorem dX8_init_49 : decode cX8_init 49 = .ok (.aload_n 0, 1) := by decide +kernel
theorem dX8_init_50 : decode cX8_init 50 = .ok (.new 38, 3) := by decide +kernel
theorem dX8_init_53 : decode cX8_init 53 = .ok (.dup, 1) := by decide +kernel
theorem dX8_init_54 : decode cX8_init 54 = .ok (.invokespecial 40, 3) := by decide +kernel
theorem dX8_init_57 : decode cX8_init 57 = .ok (.putfield 41, 3) := by decide +kernel
theorem dX8_init_60 : decode cX8_init 60 = .ok (.aload_n 0, 1) := by decide +kernel
theorem dX8_init_61 : decode cX8_init 61 = .ok (.new 45, 3) := by decide +kernel
theorem dX8_init_64 : decode cX8_init 64 = .ok (.dup, 1) := by decide +kernel
theorem dX8_init_65 : decode cX8_init 65 = .ok (.invokespecial 47, 3) := by decide +kernel
theorem dX8_init_68 : decode cX8_init 68 = .ok (.putfield 48, 3) := by decide +kernel
theorem dX8_init_71 : decode cX8_init 71 = .ok (.aload_n 0, 1) := by decide +kernel
theorem dX8_init_72 : decode cX8_init 72 = .ok (.new 52, 3) := by decide +kernel
theorem dX8_init_75 : decode cX8_init 75 = .ok (.dup, 1) := by decide +kernel
theorem dX8_init_76 : decode cX8_init 76 = .ok (.invokespecial 54, 3) := by decide +kernel
theorem dX8_init_79 : decode cX8_init 79 = .ok (.putfield 55, 3) := by decide +kernel
theorem dX8_init_82 : decode cX8_init 82 = .ok (.aload_n 0, 1) := by decide +kernel
theorem dX8_init_83 : decode cX8_init 83 = .ok (.getfield 22, 3) := by decide +kernel
theorem dX8_init_86 : decode cX8_init 86 = .ok (.iconst 0, 1) := by decide +kernel
theorem dX8_init_87 : decode cX8_init 87 = .ok (.new 20, 3) := by decide +kernel
theorem dX8_init_90 : decode cX8_init 90 = .ok (.dup, 1) := by decide +kernel
theorem dX8_init_91 : decode cX8_init 91 = .ok (.invokespecial 59, 3) := by decide +kernel
theorem dX8_init_94 : decode cX8_init 94 = .ok (.aastore, 1) := by decide +kernel
theorem dX8_init_95 : decode cX8_init 95 = .ok (.aload_n 0, 1) := by decide +kernel
theorem dX8_init_96 : decode cX8_init 96 = .ok (.iconst 1, 1) := by decide +kernel
theorem dX8_init_97 : decode cX8_init 97 = .ok (.putfield 60, 3) := by decide +kernel
theorem dX8_init_100 : decode cX8_init 100 = .ok (.aload_n 0, 1) := by decide +kernel
theorem dX8_init_101 : decode cX8_init 101 = .ok (.iconst 5, 1) := by decide +kernel
theorem dX8_init_102 : decode cX8_init 102 = .ok (.putfield 64, 3) := by decide +kernel
theorem dX8_init_105 : decode cX8_init 105 = .ok (.return_, 1) := by decide +kernel
theorem dX8_list_0 : decode cX8_list 0 = .ok (.iload_n 1, 1) := by decide +kernel
theorem dX8_list_1 : decode cX8_list 1 = .ok (.bipush 54, 2) := by decide +kernel
theorem dX8_list_3 : decode cX8_list 3 = .ok (.invokestatic 67, 3) := by decide +kernel
theorem dX8_list_6 : decode cX8_list 6 = .ok (.ifCond .eq 38, 3) := by decide +kernel
theorem dX8_list_9 : decode cX8_list 9 = .ok (.iload_n 2, 1) := by decide +kernel
theorem dX8_list_10 : decode cX8_list 10 = .ok (.iconst 3, 1) := by decide +kernel
theorem dX8_list_11 : decode cX8_list 11 = .ok (.invokestatic 67, 3) := by decide +kernel
theorem dX8_list_14 : decode cX8_list 14 = .ok (.ifCond .eq 30, 3) := by decide +kernel
theorem dX8_list_17 : decode cX8_list 17 = .ok (.iload_n 3, 1) := by decide +kernel
theorem dX8_list_18 : decode cX8_list 18 = .ok (.sipush 9999, 3) := by decide +kernel
theorem dX8_list_21 : decode cX8_list 21 = .ok (.invokestatic 67, 3) := by decide +kernel
theorem dX8_list_24 : decode cX8_list 24 = .ok (.ifCond .eq 20, 3) := by decide +kernel
theorem dX8_list_27 : decode cX8_list 27 = .ok (.aload_n 0, 1) := by decide +kernel
theorem dX8_list_28 : decode cX8_list 28 = .ok (.getfield 12, 3) := by decide +kernel
theorem dX8_list_31 : decode cX8_list 31 = .ok (.iload_n 1, 1) := by decide +kernel
theorem dX8_list_32 : decode cX8_list 32 = .ok (.iload_n 2, 1) := by decide +kernel
theorem dX8_list_33 : decode cX8_list 33 = .ok (.iload_n 3, 1) := by decide +kernel
theorem dX8_list_34 : decode cX8_list 34 = .ok (.invokevirtual 71, 3) := by decide +kernel
theorem dX8_list_37 : decode cX8_list 37 = .ok (.ifCond .eq 7, 3) := by decide +kernel
theorem dX8_list_40 : decode cX8_list 40 = .ok (.iconst 1, 1) := by decide +kernel
theorem dX8_list_41 : decode cX8_list 41 = .ok (.goto 4, 3) := by decide +kernel
theorem dX8_list_44 : decode cX8_list 44 = .ok (.iconst 0, 1) := by decide +kernel
theorem dX8_list_45 : decode cX8_list 45 = .ok (.ireturn, 1) := by decide +kernel
theorem dX8_dry_0 : decode cX8_dry 0 = .ok (.iload_n 1, 1) := by decide +kernel
theorem dX8_dry_1 : decode cX8_dry 1 = .ok (.iconst 4, 1) := by decide +kernel
theorem dX8_dry_2 : decode cX8_dry 2 = .ok (.invokestatic 67, 3) := by decide +kernel
theorem dX8_dry_5 : decode cX8_dry 5 = .ok (.ifCond .eq 12, 3) := by decide +kernel
theorem dX8_dry_8 : decode cX8_dry 8 = .ok (.iload_n 2, 1) := by decide +kernel
theorem dX8_dry_9 : decode cX8_dry 9 = .ok (.bipush 60, 2) := by decide +kernel
theorem dX8_dry_11 : decode cX8_dry 11 = .ok (.invokestatic 67, 3) := by decide +kernel
theorem dX8_dry_14 : decode cX8_dry 14 = .ok (.ifCond .ne 5, 3) := by decide +kernel
theorem dX8_dry_17 : decode cX8_dry 17 = .ok (.iconst 0, 1) := by decide +kernel
theorem dX8_dry_18 : decode cX8_dry 18 = .ok (.ireturn, 1) := by decide +kernel
theorem dX8_dry_19 : decode cX8_dry 19 = .ok (.aload_n 0, 1) := by decide +kernel
theorem dX8_dry_20 : decode cX8_dry 20 = .ok (.getfield 16, 3) := by decide +kernel
theorem dX8_dry_23 : decode cX8_dry 23 = .ok (.iload_n 1, 1) := by decide +kernel
theorem dX8_dry_24 : decode cX8_dry 24 = .ok (.iload_n 2, 1) := by decide +kernel
theorem dX8_dry_25 : decode cX8_dry 25 = .ok (.iastore, 1) := by decide +kernel
theorem dX8_dry_26 : decode cX8_dry 26 = .ok (.iconst 1, 1) := by decide +kernel
theorem dX8_dry_27 : decode cX8_dry 27 = .ok (.ireturn, 1) := by decide +kernel
theorem dX8_hand_0 : decode cX8_hand 0 = .ok (.aload_n 0, 1) := by decide +kernel
theorem dX8_hand_1 : decode cX8_hand 1 = .ok (.getfield 60, 3) := by decide +kernel
theorem dX8_hand_4 : decode cX8_hand 4 = .ok (.bipush 7, 2) := by decide +kernel
theorem dX8_hand_6 : decode cX8_hand 6 = .ok (.if_icmp .lt 5, 3) := by decide +kernel
theorem dX8_hand_9 : decode cX8_hand 9 = .ok (.iconst (-1), 1) := by decide +kernel
theorem dX8_hand_10 : decode cX8_hand 10 = .ok (.ireturn, 1) := by decide +kernel
theorem dX8_hand_11 : decode cX8_hand 11 = .ok (.aload_n 0, 1) := by decide +kernel
theorem dX8_hand_12 : decode cX8_hand 12 = .ok (.getfield 22, 3) := by decide +kernel
theorem dX8_hand_15 : decode cX8_hand 15 = .ok (.aload_n 0, 1) := by decide +kernel
theorem dX8_hand_16 : decode cX8_hand 16 = .ok (.getfield 60, 3) := by decide +kernel
theorem dX8_hand_19 : decode cX8_hand 19 = .ok (.new 20, 3) := by decide +kernel
theorem dX8_hand_22 : decode cX8_hand 22 = .ok (.dup, 1) := by decide +kernel
theorem dX8_hand_23 : decode cX8_hand 23 = .ok (.invokespecial 59, 3) := by decide +kernel
theorem dX8_hand_26 : decode cX8_hand 26 = .ok (.aastore, 1) := by decide +kernel
end
section
theorem dX8_hand_27 : decode cX8_hand 27 = .ok (.aload_n 0, 1) := by decide +kernel
theorem dX8_hand_28 : decode cX8_hand 28 = .ok (.dup, 1) := by decide +kernel
theorem dX8_hand_29 : decode cX8_hand 29 = .ok (.getfield 60, 3) := by decide +kernel
theorem dX8_hand_32 : decode cX8_hand 32 = .ok (.iconst 1, 1) := by decide +kernel
theorem dX8_hand_33 : decode cX8_hand 33 = .ok (.iadd, 1) := by decide +kernel
theorem dX8_hand_34 : decode cX8_hand 34 = .ok (.putfield 60, 3) := by decide +kernel
theorem dX8_hand_37 : decode cX8_hand 37 = .ok (.aload_n 0, 1) := by decide +kernel
theorem dX8_hand_38 : decode cX8_hand 38 = .ok (.getfield 60, 3) := by decide +kernel
theorem dX8_hand_41 : decode cX8_hand 41 = .ok (.iconst 1, 1) := by decide +kernel
theorem dX8_hand_42 : decode cX8_hand 42 = .ok (.isub, 1) := by decide +kernel
theorem dX8_hand_43 : decode cX8_hand 43 = .ok (.ireturn, 1) := by decide +kernel
theorem dX8_sitter_0 : decode cX8_sitter 0 = .ok (.iload_n 1, 1) := by decide +kernel
theorem dX8_sitter_1 : decode cX8_sitter 1 = .ok (.iload_n 2, 1) := by decide +kernel
theorem dX8_sitter_2 : decode cX8_sitter 2 = .ok (.invokestatic 67, 3) := by decide +kernel
theorem dX8_sitter_5 : decode cX8_sitter 5 = .ok (.ifCond .eq 20, 3) := by decide +kernel
theorem dX8_sitter_8 : decode cX8_sitter 8 = .ok (.iload_n 2, 1) := by decide +kernel
theorem dX8_sitter_9 : decode cX8_sitter 9 = .ok (.iconst 5, 1) := by decide +kernel
theorem dX8_sitter_10 : decode cX8_sitter 10 = .ok (.invokestatic 67, 3) := by decide +kernel
theorem dX8_sitter_13 : decode cX8_sitter 13 = .ok (.ifCond .eq 12, 3) := by decide +kernel
theorem dX8_sitter_16 : decode cX8_sitter 16 = .ok (.aload_n 0, 1) := by decide +kernel
theorem dX8_sitter_17 : decode cX8_sitter 17 = .ok (.getfield 75, 3) := by decide +kernel
theorem dX8_sitter_20 : decode cX8_sitter 20 = .ok (.bipush 20, 2) := by decide +kernel
theorem dX8_sitter_22 : decode cX8_sitter 22 = .ok (.if_icmp .lt 5, 3) := by decide +kernel
theorem dX8_sitter_25 : decode cX8_sitter 25 = .ok (.iconst (-1), 1) := by decide +kernel
theorem dX8_sitter_26 : decode cX8_sitter 26 = .ok (.ireturn, 1) := by decide +kernel
theorem dX8_sitter_27 : decode cX8_sitter 27 = .ok (.aload_n 0, 1) := by decide +kernel
theorem dX8_sitter_28 : decode cX8_sitter 28 = .ok (.getfield 28, 3) := by decide +kernel
theorem dX8_sitter_31 : decode cX8_sitter 31 = .ok (.aload_n 0, 1) := by decide +kernel
theorem dX8_sitter_32 : decode cX8_sitter 32 = .ok (.getfield 75, 3) := by decide +kernel
theorem dX8_sitter_35 : decode cX8_sitter 35 = .ok (.new 26, 3) := by decide +kernel
theorem dX8_sitter_38 : decode cX8_sitter 38 = .ok (.dup, 1) := by decide +kernel
theorem dX8_sitter_39 : decode cX8_sitter 39 = .ok (.iload_n 1, 1) := by decide +kernel
theorem dX8_sitter_40 : decode cX8_sitter 40 = .ok (.iload_n 2, 1) := by decide +kernel
theorem dX8_sitter_41 : decode cX8_sitter 41 = .ok (.invokespecial 78, 3) := by decide +kernel
theorem dX8_sitter_44 : decode cX8_sitter 44 = .ok (.aastore, 1) := by decide +kernel
theorem dX8_sitter_45 : decode cX8_sitter 45 = .ok (.aload_n 0, 1) := by decide +kernel
theorem dX8_sitter_46 : decode cX8_sitter 46 = .ok (.dup, 1) := by decide +kernel
theorem dX8_sitter_47 : decode cX8_sitter 47 = .ok (.getfield 75, 3) := by decide +kernel
theorem dX8_sitter_50 : decode cX8_sitter 50 = .ok (.iconst 1, 1) := by decide +kernel
theorem dX8_sitter_51 : decode cX8_sitter 51 = .ok (.iadd, 1) := by decide +kernel
theorem dX8_sitter_52 : decode cX8_sitter 52 = .ok (.putfield 75, 3) := by decide +kernel
theorem dX8_sitter_55 : decode cX8_sitter 55 = .ok (.aload_n 0, 1) := by decide +kernel
theorem dX8_sitter_56 : decode cX8_sitter 56 = .ok (.getfield 75, 3) := by decide +kernel
theorem dX8_sitter_59 : decode cX8_sitter 59 = .ok (.iconst 1, 1) := by decide +kernel
theorem dX8_sitter_60 : decode cX8_sitter 60 = .ok (.isub, 1) := by decide +kernel
theorem dX8_sitter_61 : decode cX8_sitter 61 = .ok (.ireturn, 1) := by decide +kernel
theorem dX8_picture_0 : decode cX8_picture 0 = .ok (.aload_n 0, 1) := by decide +kernel
theorem dX8_picture_1 : decode cX8_picture 1 = .ok (.iload_n 1, 1) := by decide +kernel
theorem dX8_picture_2 : decode cX8_picture 2 = .ok (.invokevirtual 81, 3) := by decide +kernel
theorem dX8_picture_5 : decode cX8_picture 5 = .ok (.astore 5, 2) := by decide +kernel
theorem dX8_picture_7 : decode cX8_picture 7 = .ok (.iload 4, 2) := by decide +kernel
theorem dX8_picture_9 : decode cX8_picture 9 = .ok (.iconst (-1), 1) := by decide +kernel
theorem dX8_picture_10 : decode cX8_picture 10 = .ok (.if_icmp .eq 12, 3) := by decide +kernel
theorem dX8_picture_13 : decode cX8_picture 13 = .ok (.iload 4, 2) := by decide +kernel
theorem dX8_picture_15 : decode cX8_picture 15 = .ok (.iconst 4, 1) := by decide +kernel
theorem dX8_picture_16 : decode cX8_picture 16 = .ok (.invokestatic 67, 3) := by decide +kernel
theorem dX8_picture_19 : decode cX8_picture 19 = .ok (.ifCond .eq 7, 3) := by decide +kernel
theorem dX8_picture_22 : decode cX8_picture 22 = .ok (.iconst 1, 1) := by decide +kernel
theorem dX8_picture_23 : decode cX8_picture 23 = .ok (.goto 4, 3) := by decide +kernel
theorem dX8_picture_26 : decode cX8_picture 26 = .ok (.iconst 0, 1) := by decide +kernel
theorem dX8_picture_27 : decode cX8_picture 27 = .ok (.istore 6, 2) := by decide +kernel
theorem dX8_picture_29 : decode cX8_picture 29 = .ok (.aload 5, 2) := by decide +kernel
theorem dX8_picture_31 : decode cX8_picture 31 = .ok (.ifnull 32, 3) := by decide +kernel
theorem dX8_picture_34 : decode cX8_picture 34 = .ok (.iload_n 2, 1) := by decide +kernel
theorem dX8_picture_35 : decode cX8_picture 35 = .ok (.iconst 3, 1) := by decide +kernel
theorem dX8_picture_36 : decode cX8_picture 36 = .ok (.invokestatic 67, 3) := by decide +kernel
theorem dX8_picture_39 : decode cX8_picture 39 = .ok (.ifCond .eq 24, 3) := by decide +kernel
theorem dX8_picture_42 : decode cX8_picture 42 = .ok (.iload_n 3, 1) := by decide +kernel
theorem dX8_picture_43 : decode cX8_picture 43 = .ok (.invokestatic 85, 3) := by decide +kernel
theorem dX8_picture_46 : decode cX8_picture 46 = .ok (.ifCond .eq 17, 3) := by decide +kernel
theorem dX8_picture_49 : decode cX8_picture 49 = .ok (.iload 6, 2) := by decide +kernel
theorem dX8_picture_51 : decode cX8_picture 51 = .ok (.ifCond .eq 12, 3) := by decide +kernel
theorem dX8_picture_54 : decode cX8_picture 54 = .ok (.aload_n 0, 1) := by decide +kernel
theorem dX8_picture_55 : decode cX8_picture 55 = .ok (.getfield 89, 3) := by decide +kernel
theorem dX8_picture_58 : decode cX8_picture 58 = .ok (.bipush 40, 2) := by decide +kernel
theorem dX8_picture_60 : decode cX8_picture 60 = .ok (.if_icmp .lt 5, 3) := by decide +kernel
theorem dX8_picture_63 : decode cX8_picture 63 = .ok (.iconst (-1), 1) := by decide +kernel
theorem dX8_picture_64 : decode cX8_picture 64 = .ok (.ireturn, 1) := by decide +kernel
theorem dX8_picture_65 : decode cX8_picture 65 = .ok (.aload_n 0, 1) := by decide +kernel
theorem dX8_picture_66 : decode cX8_picture 66 = .ok (.getfield 12, 3) := by decide +kernel
theorem dX8_picture_69 : decode cX8_picture 69 = .ok (.aload_n 0, 1) := by decide +kernel
theorem dX8_picture_70 : decode cX8_picture 70 = .ok (.getfield 92, 3) := by decide +kernel
theorem dX8_picture_73 : decode cX8_picture 73 = .ok (.sipush 365, 3) := by decide +kernel
theorem dX8_picture_76 : decode cX8_picture 76 = .ok (.idiv, 1) := by decide +kernel
theorem dX8_picture_77 : decode cX8_picture 77 = .ok (.iload_n 2, 1) := by decide +kernel
theorem dX8_picture_78 : decode cX8_picture 78 = .ok (.invokevirtual 95, 3) := by decide +kernel
theorem dX8_picture_81 : decode cX8_picture 81 = .ok (.istore 7, 2) := by decide +kernel
theorem dX8_picture_83 : decode cX8_picture 83 = .ok (.aload_n 0, 1) := by decide +kernel
theorem dX8_picture_84 : decode cX8_picture 84 = .ok (.getfield 34, 3) := by decide +kernel
theorem dX8_picture_87 : decode cX8_picture 87 = .ok (.aload_n 0, 1) := by decide +kernel
theorem dX8_picture_88 : decode cX8_picture 88 = .ok (.getfield 89, 3) := by decide +kernel
theorem dX8_picture_91 : decode cX8_picture 91 = .ok (.new 32, 3) := by decide +kernel
theorem dX8_picture_94 : decode cX8_picture 94 = .ok (.dup, 1) := by decide +kernel
theorem dX8_picture_95 : decode cX8_picture 95 = .ok (.iload_n 1, 1) := by decide +kernel
theorem dX8_picture_96 : decode cX8_picture 96 = .ok (.iload_n 3, 1) := by decide +kernel
theorem dX8_picture_97 : decode cX8_picture 97 = .ok (.iload 4, 2) := by decide +kernel
theorem dX8_picture_99 : decode cX8_picture 99 = .ok (.iload 7, 2) := by decide +kernel
theorem dX8_picture_101 : decode cX8_picture 101 = .ok (.aload_n 0, 1) := by decide +kernel
theorem dX8_picture_102 : decode cX8_picture 102 = .ok (.getfield 92, 3) := by decide +kernel
theorem dX8_picture_105 : decode cX8_picture 105 = .ok (.invokespecial 99, 3) := by decide +kernel
theorem dX8_picture_108 : decode cX8_picture 108 = .ok (.aastore, 1) := by decide +kernel
theorem dX8_picture_109 : decode cX8_picture 109 = .ok (.aload_n 0, 1) := by decide +kernel
theorem dX8_picture_110 : decode cX8_picture 110 = .ok (.dup, 1) := by decide +kernel
theorem dX8_picture_111 : decode cX8_picture 111 = .ok (.getfield 89, 3) := by decide +kernel
theorem dX8_picture_114 : decode cX8_picture 114 = .ok (.iconst 1, 1) := by decide +kernel
theorem dX8_picture_115 : decode cX8_picture 115 = .ok (.iadd, 1) := by decide +kernel
theorem dX8_picture_116 : decode cX8_picture 116 = .ok (.putfield 89, 3) := by decide +kernel
theorem dX8_picture_119 : decode cX8_picture 119 = .ok (.aload_n 0, 1) := by decide +kernel
theorem dX8_picture_120 : decode cX8_picture 120 = .ok (.dup, 1) := by decide +kernel
theorem dX8_picture_121 : decode cX8_picture 121 = .ok (.getfield 102, 3) := by decide +kernel
theorem dX8_picture_124 : decode cX8_picture 124 = .ok (.iload 7, 2) := by decide +kernel
theorem dX8_picture_126 : decode cX8_picture 126 = .ok (.iadd, 1) := by decide +kernel
theorem dX8_picture_127 : decode cX8_picture 127 = .ok (.putfield 102, 3) := by decide +kernel
theorem dX8_picture_130 : decode cX8_picture 130 = .ok (.aload 5, 2) := by decide +kernel
theorem dX8_picture_132 : decode cX8_picture 132 = .ok (.dup, 1) := by decide +kernel
theorem dX8_picture_133 : decode cX8_picture 133 = .ok (.getfield 105, 3) := by decide +kernel
theorem dX8_picture_136 : decode cX8_picture 136 = .ok (.iload 7, 2) := by decide +kernel
theorem dX8_picture_138 : decode cX8_picture 138 = .ok (.iconst 2, 1) := by decide +kernel
theorem dX8_picture_139 : decode cX8_picture 139 = .ok (.idiv, 1) := by decide +kernel
theorem dX8_picture_140 : decode cX8_picture 140 = .ok (.iadd, 1) := by decide +kernel
theorem dX8_picture_141 : decode cX8_picture 141 = .ok (.putfield 105, 3) := by decide +kernel
theorem dX8_picture_144 : decode cX8_picture 144 = .ok (.aload_n 0, 1) := by decide +kernel
theorem dX8_picture_145 : decode cX8_picture 145 = .ok (.getfield 89, 3) := by decide +kernel
theorem dX8_picture_148 : decode cX8_picture 148 = .ok (.iconst 1, 1) := by decide +kernel
theorem dX8_picture_149 : decode cX8_picture 149 = .ok (.isub, 1) := by decide +kernel
theorem dX8_picture_150 : decode cX8_picture 150 = .ok (.ireturn, 1) := by decide +kernel
theorem dX8_go_0 : decode cX8_go 0 = .ok (.iload_n 1, 1) := by decide +kernel
theorem dX8_go_1 : decode cX8_go 1 = .ok (.sipush 1000, 3) := by decide +kernel
theorem dX8_go_4 : decode cX8_go 4 = .ok (.invokestatic 67, 3) := by decide +kernel
theorem dX8_go_7 : decode cX8_go 7 = .ok (.ifCond .ne 5, 3) := by decide +kernel
theorem dX8_go_10 : decode cX8_go 10 = .ok (.iconst (-1), 1) := by decide +kernel
theorem dX8_go_11 : decode cX8_go 11 = .ok (.ireturn, 1) := by decide +kernel
theorem dX8_go_12 : decode cX8_go 12 = .ok (.aload_n 0, 1) := by decide +kernel
theorem dX8_go_13 : decode cX8_go 13 = .ok (.aload_n 0, 1) := by decide +kernel
theorem dX8_go_14 : decode cX8_go 14 = .ok (.getfield 92, 3) := by decide +kernel
theorem dX8_go_17 : decode cX8_go 17 = .ok (.iload_n 1, 1) := by decide +kernel
theorem dX8_go_18 : decode cX8_go 18 = .ok (.iadd, 1) := by decide +kernel
theorem dX8_go_19 : decode cX8_go 19 = .ok (.sipush 20000, 3) := by decide +kernel
theorem dX8_go_22 : decode cX8_go 22 = .ok (.invokestatic 108, 3) := by decide +kernel
theorem dX8_go_25 : decode cX8_go 25 = .ok (.putfield 92, 3) := by decide +kernel
theorem dX8_go_28 : decode cX8_go 28 = .ok (.aload_n 0, 1) := by decide +kernel
theorem dX8_go_29 : decode cX8_go 29 = .ok (.getfield 92, 3) := by decide +kernel
theorem dX8_go_32 : decode cX8_go 32 = .ok (.ireturn, 1) := by decide +kernel
theorem dX8_light_0 : decode cX8_light 0 = .ok (.iload_n 1, 1) := by decide +kernel
theorem dX8_light_1 : decode cX8_light 1 = .ok (.sipush 20000, 3) := by decide +kernel
theorem dX8_light_4 : decode cX8_light 4 = .ok (.invokestatic 67, 3) := by decide +kernel
theorem dX8_light_7 : decode cX8_light 7 = .ok (.ifCond .eq 10, 3) := by decide +kernel
theorem dX8_light_10 : decode cX8_light 10 = .ok (.iload_n 1, 1) := by decide +kernel
theorem dX8_light_11 : decode cX8_light 11 = .ok (.invokestatic 113, 3) := by decide +kernel
theorem dX8_light_14 : decode cX8_light 14 = .ok (.goto 4, 3) := by decide +kernel
theorem dX8_light_17 : decode cX8_light 17 = .ok (.iconst (-1), 1) := by decide +kernel
theorem dX8_light_18 : decode cX8_light 18 = .ok (.ireturn, 1) := by decide +kernel
theorem dX8_book_0 : decode cX8_book 0 = .ok (.aload_n 0, 1) := by decide +kernel
theorem dX8_book_1 : decode cX8_book 1 = .ok (.iload_n 1, 1) := by decide +kernel
theorem dX8_book_2 : decode cX8_book 2 = .ok (.invokevirtual 117, 3) := by decide +kernel
theorem dX8_book_5 : decode cX8_book 5 = .ok (.astore 4, 2) := by decide +kernel
theorem dX8_book_7 : decode cX8_book 7 = .ok (.aload 4, 2) := by decide +kernel
theorem dX8_book_9 : decode cX8_book 9 = .ok (.ifnull 19, 3) := by decide +kernel
theorem dX8_book_12 : decode cX8_book 12 = .ok (.aload 4, 2) := by decide +kernel
theorem dX8_book_14 : decode cX8_book 14 = .ok (.invokevirtual 121, 3) := by decide +kernel
theorem dX8_book_17 : decode cX8_book 17 = .ok (.ifCond .ne 11, 3) := by decide +kernel
theorem dX8_book_20 : decode cX8_book 20 = .ok (.aload_n 0, 1) := by decide +kernel
theorem dX8_book_21 : decode cX8_book 21 = .ok (.iload_n 2, 1) := by decide +kernel
theorem dX8_book_22 : decode cX8_book 22 = .ok (.invokevirtual 125, 3) := by decide +kernel
theorem dX8_book_25 : decode cX8_book 25 = .ok (.ifCond .ne 5, 3) := by decide +kernel
theorem dX8_book_28 : decode cX8_book 28 = .ok (.iconst 0, 1) := by decide +kernel
theorem dX8_book_29 : decode cX8_book 29 = .ok (.ireturn, 1) := by decide +kernel
theorem dX8_book_30 : decode cX8_book 30 = .ok (.aload_n 0, 1) := by decide +kernel
theorem dX8_book_31 : decode cX8_book 31 = .ok (.aload 4, 2) := by decide +kernel
theorem dX8_book_33 : decode cX8_book 33 = .ok (.getfield 128, 3) := by decide +kernel
theorem dX8_book_36 : decode cX8_book 36 = .ok (.invokevirtual 81, 3) := by decide +kernel
theorem dX8_book_39 : decode cX8_book 39 = .ok (.astore 5, 2) := by decide +kernel
theorem dX8_book_41 : decode cX8_book 41 = .ok (.aload 5, 2) := by decide +kernel
theorem dX8_book_43 : decode cX8_book 43 = .ok (.ifnull 71, 3) := by decide +kernel
theorem dX8_book_46 : decode cX8_book 46 = .ok (.iload_n 3, 1) := by decide +kernel
theorem dX8_book_47 : decode cX8_book 47 = .ok (.iload_n 2, 1) := by decide +kernel
theorem dX8_book_48 : decode cX8_book 48 = .ok (.invokestatic 113, 3) := by decide +kernel
theorem dX8_book_51 : decode cX8_book 51 = .ok (.iconst 1, 1) := by decide +kernel
theorem dX8_book_52 : decode cX8_book 52 = .ok (.isub, 1) := by decide +kernel
theorem dX8_book_53 : decode cX8_book 53 = .ok (.invokestatic 67, 3) := by decide +kernel
theorem dX8_book_56 : decode cX8_book 56 = .ok (.ifCond .eq 58, 3) := by decide +kernel
theorem dX8_book_59 : decode cX8_book 59 = .ok (.aload 5, 2) := by decide +kernel
theorem dX8_book_61 : decode cX8_book 61 = .ok (.iload_n 3, 1) := by decide +kernel
theorem dX8_book_62 : decode cX8_book 62 = .ok (.invokevirtual 131, 3) := by decide +kernel
theorem dX8_book_65 : decode cX8_book 65 = .ok (.ifCond .eq 49, 3) := by decide +kernel
theorem dX8_book_68 : decode cX8_book 68 = .ok (.aload_n 0, 1) := by decide +kernel
theorem dX8_book_69 : decode cX8_book 69 = .ok (.getfield 41, 3) := by decide +kernel
theorem dX8_book_72 : decode cX8_book 72 = .ok (.iload_n 2, 1) := by decide +kernel
theorem dX8_book_73 : decode cX8_book 73 = .ok (.iload_n 3, 1) := by decide +kernel
theorem dX8_book_74 : decode cX8_book 74 = .ok (.invokevirtual 134, 3) := by decide +kernel
theorem dX8_book_77 : decode cX8_book 77 = .ok (.ifCond .ne 37, 3) := by decide +kernel
theorem dX8_book_80 : decode cX8_book 80 = .ok (.aload_n 0, 1) := by decide +kernel
theorem dX8_book_81 : decode cX8_book 81 = .ok (.getfield 41, 3) := by decide +kernel
theorem dX8_book_84 : decode cX8_book 84 = .ok (.iload_n 2, 1) := by decide +kernel
theorem dX8_book_85 : decode cX8_book 85 = .ok (.aload 4, 2) := by decide +kernel
theorem dX8_book_87 : decode cX8_book 87 = .ok (.getfield 128, 3) := by decide +kernel
theorem dX8_book_90 : decode cX8_book 90 = .ok (.invokevirtual 137, 3) := by decide +kernel
theorem dX8_book_93 : decode cX8_book 93 = .ok (.ifCond .ne 21, 3) := by decide +kernel
theorem dX8_book_96 : decode cX8_book 96 = .ok (.aload_n 0, 1) := by decide +kernel
theorem dX8_book_97 : decode cX8_book 97 = .ok (.getfield 41, 3) := by decide +kernel
theorem dX8_book_100 : decode cX8_book 100 = .ok (.iload_n 1, 1) := by decide +kernel
theorem dX8_book_101 : decode cX8_book 101 = .ok (.aload 4, 2) := by decide +kernel
theorem dX8_book_103 : decode cX8_book 103 = .ok (.getfield 128, 3) := by decide +kernel
theorem dX8_book_106 : decode cX8_book 106 = .ok (.iload_n 2, 1) := by decide +kernel
theorem dX8_book_107 : decode cX8_book 107 = .ok (.iload_n 3, 1) := by decide +kernel
theorem dX8_book_108 : decode cX8_book 108 = .ok (.invokevirtual 140, 3) := by decide +kernel
theorem dX8_book_111 : decode cX8_book 111 = .ok (.ifCond .ne 5, 3) := by decide +kernel
theorem dX8_book_114 : decode cX8_book 114 = .ok (.iconst 0, 1) := by decide +kernel
theorem dX8_book_115 : decode cX8_book 115 = .ok (.ireturn, 1) := by decide +kernel
theorem dX8_book_116 : decode cX8_book 116 = .ok (.aload 4, 2) := by decide +kernel
theorem dX8_book_118 : decode cX8_book 118 = .ok (.dup, 1) := by decide +kernel
theorem dX8_book_119 : decode cX8_book 119 = .ok (.getfield 143, 3) := by decide +kernel
theorem dX8_book_122 : decode cX8_book 122 = .ok (.iconst 1, 1) := by decide +kernel
theorem dX8_book_123 : decode cX8_book 123 = .ok (.iadd, 1) := by decide +kernel
theorem dX8_book_124 : decode cX8_book 124 = .ok (.putfield 143, 3) := by decide +kernel
theorem dX8_book_127 : decode cX8_book 127 = .ok (.iconst 1, 1) := by decide +kernel
theorem dX8_book_128 : decode cX8_book 128 = .ok (.ireturn, 1) := by decide +kernel
theorem dX8_unbook_0 : decode cX8_unbook 0 = .ok (.aload_n 0, 1) := by decide +kernel
theorem dX8_unbook_1 : decode cX8_unbook 1 = .ok (.iload_n 1, 1) := by decide +kernel
theorem dX8_unbook_2 : decode cX8_unbook 2 = .ok (.invokevirtual 117, 3) := by decide +kernel
theorem dX8_unbook_5 : decode cX8_unbook 5 = .ok (.astore_n 3, 1) := by decide +kernel
theorem dX8_unbook_6 : decode cX8_unbook 6 = .ok (.aload_n 3, 1) := by decide +kernel
theorem dX8_unbook_7 : decode cX8_unbook 7 = .ok (.ifnull 11, 3) := by decide +kernel
theorem dX8_unbook_10 : decode cX8_unbook 10 = .ok (.aload_n 0, 1) := by decide +kernel
theorem dX8_unbook_11 : decode cX8_unbook 11 = .ok (.iload_n 2, 1) := by decide +kernel
theorem dX8_unbook_12 : decode cX8_unbook 12 = .ok (.invokevirtual 125, 3) := by decide +kernel
theorem dX8_unbook_15 : decode cX8_unbook 15 = .ok (.ifCond .ne 5, 3) := by decide +kernel
theorem dX8_unbook_18 : decode cX8_unbook 18 = .ok (.iconst 0, 1) := by decide +kernel
theorem dX8_unbook_19 : decode cX8_unbook 19 = .ok (.ireturn, 1) := by decide +kernel
theorem dX8_unbook_20 : decode cX8_unbook 20 = .ok (.aload_n 0, 1) := by decide +kernel
theorem dX8_unbook_21 : decode cX8_unbook 21 = .ok (.getfield 41, 3) := by decide +kernel
theorem dX8_unbook_24 : decode cX8_unbook 24 = .ok (.iload_n 1, 1) := by decide +kernel
theorem dX8_unbook_25 : decode cX8_unbook 25 = .ok (.iload_n 2, 1) := by decide +kernel
theorem dX8_unbook_26 : decode cX8_unbook 26 = .ok (.invokevirtual 146, 3) := by decide +kernel
theorem dX8_unbook_29 : decode cX8_unbook 29 = .ok (.istore 4, 2) := by decide +kernel
theorem dX8_unbook_31 : decode cX8_unbook 31 = .ok (.iload 4, 2) := by decide +kernel
theorem dX8_unbook_33 : decode cX8_unbook 33 = .ok (.iconst (-1), 1) := by decide +kernel
theorem dX8_unbook_34 : decode cX8_unbook 34 = .ok (.if_icmp .ne 5, 3) := by decide +kernel
theorem dX8_unbook_37 : decode cX8_unbook 37 = .ok (.iconst 0, 1) := by decide +kernel
theorem dX8_unbook_38 : decode cX8_unbook 38 = .ok (.ireturn, 1) := by decide +kernel
theorem dX8_unbook_39 : decode cX8_unbook 39 = .ok (.aload_n 0, 1) := by decide +kernel
theorem dX8_unbook_40 : decode cX8_unbook 40 = .ok (.getfield 41, 3) := by decide +kernel
theorem dX8_unbook_43 : decode cX8_unbook 43 = .ok (.iload 4, 2) := by decide +kernel
theorem dX8_unbook_45 : decode cX8_unbook 45 = .ok (.invokevirtual 149, 3) := by decide +kernel
theorem dX8_unbook_48 : decode cX8_unbook 48 = .ok (.aload_n 3, 1) := by decide +kernel
theorem dX8_unbook_49 : decode cX8_unbook 49 = .ok (.dup, 1) := by decide +kernel
theorem dX8_unbook_50 : decode cX8_unbook 50 = .ok (.getfield 143, 3) := by decide +kernel
theorem dX8_unbook_53 : decode cX8_unbook 53 = .ok (.iconst 1, 1) := by decide +kernel
theorem dX8_unbook_54 : decode cX8_unbook 54 = .ok (.isub, 1) := by decide +kernel
theorem dX8_unbook_55 : decode cX8_unbook 55 = .ok (.putfield 143, 3) := by decide +kernel
theorem dX8_unbook_58 : decode cX8_unbook 58 = .ok (.iconst 1, 1) := by decide +kernel
theorem dX8_unbook_59 : decode cX8_unbook 59 = .ok (.ireturn, 1) := by decide +kernel
theorem dX8_paint_0 : decode cX8_paint 0 = .ok (.aload_n 0, 1) := by decide +kernel
theorem dX8_paint_1 : decode cX8_paint 1 = .ok (.iload_n 1, 1) := by decide +kernel
theorem dX8_paint_2 : decode cX8_paint 2 = .ok (.iload_n 2, 1) := by decide +kernel
theorem dX8_paint_3 : decode cX8_paint 3 = .ok (.iload_n 3, 1) := by decide +kernel
theorem dX8_paint_4 : decode cX8_paint 4 = .ok (.invokevirtual 153, 3) := by decide +kernel
theorem dX8_paint_7 : decode cX8_paint 7 = .ok (.istore 4, 2) := by decide +kernel
theorem dX8_paint_9 : decode cX8_paint 9 = .ok (.iload 4, 2) := by decide +kernel
theorem dX8_paint_11 : decode cX8_paint 11 = .ok (.ifCond .ne 10, 3) := by decide +kernel
theorem dX8_paint_14 : decode cX8_paint 14 = .ok (.aload_n 0, 1) := by decide +kernel
theorem dX8_paint_15 : decode cX8_paint 15 = .ok (.iload_n 1, 1) := by decide +kernel
theorem dX8_paint_16 : decode cX8_paint 16 = .ok (.iload_n 2, 1) := by decide +kernel
theorem dX8_paint_17 : decode cX8_paint 17 = .ok (.iload_n 3, 1) := by decide +kernel
theorem dX8_paint_18 : decode cX8_paint 18 = .ok (.invokevirtual 157, 3) := by decide +kernel
theorem dX8_paint_21 : decode cX8_paint 21 = .ok (.iload 4, 2) := by decide +kernel
theorem dX8_paint_23 : decode cX8_paint 23 = .ok (.ireturn, 1) := by decide +kernel
theorem dX8_pay_0 : decode cX8_pay 0 = .ok (.aload_n 0, 1) := by decide +kernel
theorem dX8_pay_1 : decode cX8_pay 1 = .ok (.iload_n 1, 1) := by decide +kernel
theorem dX8_pay_2 : decode cX8_pay 2 = .ok (.invokevirtual 81, 3) := by decide +kernel
theorem dX8_pay_5 : decode cX8_pay 5 = .ok (.astore_n 3, 1) := by decide +kernel
theorem dX8_pay_6 : decode cX8_pay 6 = .ok (.aload_n 3, 1) := by decide +kernel
theorem dX8_pay_7 : decode cX8_pay 7 = .ok (.ifnull 16, 3) := by decide +kernel
theorem dX8_pay_10 : decode cX8_pay 10 = .ok (.iload_n 2, 1) := by decide +kernel
theorem dX8_pay_11 : decode cX8_pay 11 = .ok (.iconst 1, 1) := by decide +kernel
theorem dX8_pay_12 : decode cX8_pay 12 = .ok (.if_icmp .lt 11, 3) := by decide +kernel
theorem dX8_pay_15 : decode cX8_pay 15 = .ok (.iload_n 2, 1) := by decide +kernel
theorem dX8_pay_16 : decode cX8_pay 16 = .ok (.aload_n 3, 1) := by decide +kernel
theorem dX8_pay_17 : decode cX8_pay 17 = .ok (.getfield 105, 3) := by decide +kernel
theorem dX8_pay_20 : decode cX8_pay 20 = .ok (.if_icmp .le 5, 3) := by decide +kernel
theorem dX8_pay_23 : decode cX8_pay 23 = .ok (.iconst (-1), 1) := by decide +kernel
theorem dX8_pay_24 : decode cX8_pay 24 = .ok (.ireturn, 1) := by decide +kernel
theorem dX8_pay_25 : decode cX8_pay 25 = .ok (.aload_n 3, 1) := by decide +kernel
theorem dX8_pay_26 : decode cX8_pay 26 = .ok (.dup, 1) := by decide +kernel
theorem dX8_pay_27 : decode cX8_pay 27 = .ok (.getfield 105, 3) := by decide +kernel
theorem dX8_pay_30 : decode cX8_pay 30 = .ok (.iload_n 2, 1) := by decide +kernel
theorem dX8_pay_31 : decode cX8_pay 31 = .ok (.isub, 1) := by decide +kernel
theorem dX8_pay_32 : decode cX8_pay 32 = .ok (.putfield 105, 3) := by decide +kernel
theorem dX8_pay_35 : decode cX8_pay 35 = .ok (.aload_n 0, 1) := by decide +kernel
theorem dX8_pay_36 : decode cX8_pay 36 = .ok (.dup, 1) := by decide +kernel
theorem dX8_pay_37 : decode cX8_pay 37 = .ok (.getfield 161, 3) := by decide +kernel
theorem dX8_pay_40 : decode cX8_pay 40 = .ok (.iload_n 2, 1) := by decide +kernel
theorem dX8_pay_41 : decode cX8_pay 41 = .ok (.iadd, 1) := by decide +kernel
theorem dX8_pay_42 : decode cX8_pay 42 = .ok (.putfield 161, 3) := by decide +kernel
theorem dX8_pay_45 : decode cX8_pay 45 = .ok (.aload_n 3, 1) := by decide +kernel
theorem dX8_pay_46 : decode cX8_pay 46 = .ok (.getfield 105, 3) := by decide +kernel
theorem dX8_pay_49 : decode cX8_pay 49 = .ok (.ireturn, 1) := by decide +kernel
theorem dX8_planned_0 : decode cX8_planned 0 = .ok (.aload_n 0, 1) := by decide +kernel
theorem dX8_planned_1 : decode cX8_planned 1 = .ok (.iload_n 1, 1) := by decide +kernel
theorem dX8_planned_2 : decode cX8_planned 2 = .ok (.invokevirtual 164, 3) := by decide +kernel
theorem dX8_planned_5 : decode cX8_planned 5 = .ok (.ifCond .eq 14, 3) := by decide +kernel
theorem dX8_planned_8 : decode cX8_planned 8 = .ok (.aload_n 0, 1) := by decide +kernel
theorem dX8_planned_9 : decode cX8_planned 9 = .ok (.getfield 55, 3) := by decide +kernel
theorem dX8_planned_12 : decode cX8_planned 12 = .ok (.iload_n 2, 1) := by decide +kernel
theorem dX8_planned_13 : decode cX8_planned 13 = .ok (.invokevirtual 167, 3) := by decide +kernel
theorem dX8_planned_16 : decode cX8_planned 16 = .ok (.goto 4, 3) := by decide +kernel
theorem dX8_planned_19 : decode cX8_planned 19 = .ok (.iconst (-1), 1) := by decide +kernel
theorem dX8_planned_20 : decode cX8_planned 20 = .ok (.ireturn, 1) := by decide +kernel
theorem dX8_worth_0 : decode cX8_worth 0 = .ok (.aload_n 0, 1) := by decide +kernel
theorem dX8_worth_1 : decode cX8_worth 1 = .ok (.iload_n 1, 1) := by decide +kernel
theorem dX8_worth_2 : decode cX8_worth 2 = .ok (.invokevirtual 164, 3) := by decide +kernel
theorem dX8_worth_5 : decode cX8_worth 5 = .ok (.ifCond .eq 13, 3) := by decide +kernel
theorem dX8_worth_8 : decode cX8_worth 8 = .ok (.aload_n 0, 1) := by decide +kernel
theorem dX8_worth_9 : decode cX8_worth 9 = .ok (.getfield 55, 3) := by decide +kernel
theorem dX8_worth_12 : decode cX8_worth 12 = .ok (.getfield 170, 3) := by decide +kernel
theorem dX8_worth_15 : decode cX8_worth 15 = .ok (.goto 4, 3) := by decide +kernel
theorem dX8_worth_18 : decode cX8_worth 18 = .ok (.iconst (-1), 1) := by decide +kernel
theorem dX8_worth_19 : decode cX8_worth 19 = .ok (.ireturn, 1) := by decide +kernel
theorem dX8_trace_0 : decode cX8_trace 0 = .ok (.aload_n 0, 1) := by decide +kernel
theorem dX8_trace_1 : decode cX8_trace 1 = .ok (.iload_n 1, 1) := by decide +kernel
theorem dX8_trace_2 : decode cX8_trace 2 = .ok (.invokevirtual 117, 3) := by decide +kernel
theorem dX8_trace_5 : decode cX8_trace 5 = .ok (.astore_n 3, 1) := by decide +kernel
theorem dX8_trace_6 : decode cX8_trace 6 = .ok (.aload_n 3, 1) := by decide +kernel
theorem dX8_trace_7 : decode cX8_trace 7 = .ok (.ifnull 12, 3) := by decide +kernel
theorem dX8_trace_10 : decode cX8_trace 10 = .ok (.iload_n 2, 1) := by decide +kernel
theorem dX8_trace_11 : decode cX8_trace 11 = .ok (.ldc 173, 2) := by decide +kernel
theorem dX8_trace_13 : decode cX8_trace 13 = .ok (.invokestatic 67, 3) := by decide +kernel
theorem dX8_trace_16 : decode cX8_trace 16 = .ok (.ifCond .ne 5, 3) := by decide +kernel
theorem dX8_trace_19 : decode cX8_trace 19 = .ok (.iconst 0, 1) := by decide +kernel
theorem dX8_trace_20 : decode cX8_trace 20 = .ok (.ireturn, 1) := by decide +kernel
theorem dX8_trace_21 : decode cX8_trace 21 = .ok (.aload_n 3, 1) := by decide +kernel
theorem dX8_trace_22 : decode cX8_trace 22 = .ok (.iload_n 2, 1) := by decide +kernel
theorem dX8_trace_23 : decode cX8_trace 23 = .ok (.putfield 174, 3) := by decide +kernel
theorem dX8_trace_26 : decode cX8_trace 26 = .ok (.iconst 1, 1) := by decide +kernel
theorem dX8_trace_27 : decode cX8_trace 27 = .ok (.ireturn, 1) := by decide +kernel
theorem dX8_from_0 : decode cX8_from 0 = .ok (.aload_n 0, 1) := by decide +kernel
theorem dX8_from_1 : decode cX8_from 1 = .ok (.iload_n 1, 1) := by decide +kernel
theorem dX8_from_2 : decode cX8_from 2 = .ok (.iconst (-1), 1) := by decide +kernel
theorem dX8_from_3 : decode cX8_from 3 = .ok (.invokevirtual 177, 3) := by decide +kernel
theorem dX8_from_6 : decode cX8_from 6 = .ok (.ireturn, 1) := by decide +kernel
theorem dX8_doubt_0 : decode cX8_doubt 0 = .ok (.aload_n 0, 1) := by decide +kernel
theorem dX8_doubt_1 : decode cX8_doubt 1 = .ok (.iload_n 1, 1) := by decide +kernel
theorem dX8_doubt_2 : decode cX8_doubt 2 = .ok (.iconst (-1), 1) := by decide +kernel
theorem dX8_doubt_3 : decode cX8_doubt 3 = .ok (.invokevirtual 177, 3) := by decide +kernel
theorem dX8_doubt_6 : decode cX8_doubt 6 = .ok (.istore_n 2, 1) := by decide +kernel
theorem dX8_doubt_7 : decode cX8_doubt 7 = .ok (.aload_n 0, 1) := by decide +kernel
theorem dX8_doubt_8 : decode cX8_doubt 8 = .ok (.iload_n 1, 1) := by decide +kernel
theorem dX8_doubt_9 : decode cX8_doubt 9 = .ok (.iload_n 2, 1) := by decide +kernel
theorem dX8_doubt_10 : decode cX8_doubt 10 = .ok (.invokevirtual 177, 3) := by decide +kernel
theorem dX8_doubt_13 : decode cX8_doubt 13 = .ok (.istore_n 3, 1) := by decide +kernel
theorem dX8_doubt_14 : decode cX8_doubt 14 = .ok (.iload_n 2, 1) := by decide +kernel
theorem dX8_doubt_15 : decode cX8_doubt 15 = .ok (.iconst (-1), 1) := by decide +kernel
theorem dX8_doubt_16 : decode cX8_doubt 16 = .ok (.if_icmp .eq 27, 3) := by decide +kernel
theorem dX8_doubt_19 : decode cX8_doubt 19 = .ok (.iload_n 3, 1) := by decide +kernel
theorem dX8_doubt_20 : decode cX8_doubt 20 = .ok (.iconst (-1), 1) := by decide +kernel
theorem dX8_doubt_21 : decode cX8_doubt 21 = .ok (.if_icmp .eq 22, 3) := by decide +kernel
theorem dX8_doubt_24 : decode cX8_doubt 24 = .ok (.aload_n 0, 1) := by decide +kernel
theorem dX8_doubt_25 : decode cX8_doubt 25 = .ok (.iload_n 1, 1) := by decide +kernel
theorem dX8_doubt_26 : decode cX8_doubt 26 = .ok (.iload_n 2, 1) := by decide +kernel
theorem dX8_doubt_27 : decode cX8_doubt 27 = .ok (.invokevirtual 180, 3) := by decide +kernel
theorem dX8_doubt_30 : decode cX8_doubt 30 = .ok (.aload_n 0, 1) := by decide +kernel
theorem dX8_doubt_31 : decode cX8_doubt 31 = .ok (.iload_n 1, 1) := by decide +kernel
theorem dX8_doubt_32 : decode cX8_doubt 32 = .ok (.iload_n 3, 1) := by decide +kernel
theorem dX8_doubt_33 : decode cX8_doubt 33 = .ok (.invokevirtual 180, 3) := by decide +kernel
theorem dX8_doubt_36 : decode cX8_doubt 36 = .ok (.if_icmp .ne 7, 3) := by decide +kernel
theorem dX8_doubt_39 : decode cX8_doubt 39 = .ok (.iconst 1, 1) := by decide +kernel
theorem dX8_doubt_40 : decode cX8_doubt 40 = .ok (.goto 4, 3) := by decide +kernel
theorem dX8_doubt_43 : decode cX8_doubt 43 = .ok (.iconst 0, 1) := by decide +kernel
theorem dX8_doubt_44 : decode cX8_doubt 44 = .ok (.ireturn, 1) := by decide +kernel
theorem dX8_habit_0 : decode cX8_habit 0 = .ok (.aload_n 0, 1) := by decide +kernel
theorem dX8_habit_1 : decode cX8_habit 1 = .ok (.iload_n 1, 1) := by decide +kernel
theorem dX8_habit_2 : decode cX8_habit 2 = .ok (.invokevirtual 183, 3) := by decide +kernel
theorem dX8_habit_5 : decode cX8_habit 5 = .ok (.astore_n 3, 1) := by decide +kernel
theorem dX8_habit_6 : decode cX8_habit 6 = .ok (.aload_n 3, 1) := by decide +kernel
theorem dX8_habit_7 : decode cX8_habit 7 = .ok (.ifnull 13, 3) := by decide +kernel
theorem dX8_habit_10 : decode cX8_habit 10 = .ok (.iload_n 2, 1) := by decide +kernel
theorem dX8_habit_11 : decode cX8_habit 11 = .ok (.sipush 9999, 3) := by decide +kernel
theorem dX8_habit_14 : decode cX8_habit 14 = .ok (.invokestatic 67, 3) := by decide +kernel
theorem dX8_habit_17 : decode cX8_habit 17 = .ok (.ifCond .ne 5, 3) := by decide +kernel
theorem dX8_habit_20 : decode cX8_habit 20 = .ok (.iconst 0, 1) := by decide +kernel
theorem dX8_habit_21 : decode cX8_habit 21 = .ok (.ireturn, 1) := by decide +kernel
theorem dX8_habit_22 : decode cX8_habit 22 = .ok (.aload_n 3, 1) := by decide +kernel
theorem dX8_habit_23 : decode cX8_habit 23 = .ok (.iload_n 2, 1) := by decide +kernel
theorem dX8_habit_24 : decode cX8_habit 24 = .ok (.putfield 187, 3) := by decide +kernel
theorem dX8_habit_27 : decode cX8_habit 27 = .ok (.iconst 1, 1) := by decide +kernel
theorem dX8_habit_28 : decode cX8_habit 28 = .ok (.ireturn, 1) := by decide +kernel
theorem dX8_margin_0 : decode cX8_margin 0 = .ok (.iload_n 1, 1) := by decide +kernel
theorem dX8_margin_1 : decode cX8_margin 1 = .ok (.bipush 99, 2) := by decide +kernel
theorem dX8_margin_3 : decode cX8_margin 3 = .ok (.invokestatic 67, 3) := by decide +kernel
theorem dX8_margin_6 : decode cX8_margin 6 = .ok (.ifCond .ne 5, 3) := by decide +kernel
theorem dX8_margin_9 : decode cX8_margin 9 = .ok (.iconst 0, 1) := by decide +kernel
theorem dX8_margin_10 : decode cX8_margin 10 = .ok (.ireturn, 1) := by decide +kernel
theorem dX8_margin_11 : decode cX8_margin 11 = .ok (.aload_n 0, 1) := by decide +kernel
theorem dX8_margin_12 : decode cX8_margin 12 = .ok (.iload_n 1, 1) := by decide +kernel
theorem dX8_margin_13 : decode cX8_margin 13 = .ok (.putfield 64, 3) := by decide +kernel
theorem dX8_margin_16 : decode cX8_margin 16 = .ok (.iconst 1, 1) := by decide +kernel
theorem dX8_margin_17 : decode cX8_margin 17 = .ok (.ireturn, 1) := by decide +kernel
theorem dX8_strokes_0 : decode cX8_strokes 0 = .ok (.aload_n 0, 1) := by decide +kernel
theorem dX8_strokes_1 : decode cX8_strokes 1 = .ok (.iload_n 1, 1) := by decide +kernel
theorem dX8_strokes_2 : decode cX8_strokes 2 = .ok (.iload_n 2, 1) := by decide +kernel
theorem dX8_strokes_3 : decode cX8_strokes 3 = .ok (.invokevirtual 190, 3) := by decide +kernel
theorem dX8_strokes_6 : decode cX8_strokes 6 = .ok (.astore 4, 2) := by decide +kernel
theorem dX8_strokes_8 : decode cX8_strokes 8 = .ok (.aload 4, 2) := by decide +kernel
theorem dX8_strokes_10 : decode cX8_strokes 10 = .ok (.ifnull 13, 3) := by decide +kernel
theorem dX8_strokes_13 : decode cX8_strokes 13 = .ok (.iload_n 3, 1) := by decide +kernel
theorem dX8_strokes_14 : decode cX8_strokes 14 = .ok (.sipush 9999, 3) := by decide +kernel
theorem dX8_strokes_17 : decode cX8_strokes 17 = .ok (.invokestatic 67, 3) := by decide +kernel
theorem dX8_strokes_20 : decode cX8_strokes 20 = .ok (.ifCond .ne 5, 3) := by decide +kernel
theorem dX8_strokes_23 : decode cX8_strokes 23 = .ok (.iconst 0, 1) := by decide +kernel
theorem dX8_strokes_24 : decode cX8_strokes 24 = .ok (.ireturn, 1) := by decide +kernel
theorem dX8_strokes_25 : decode cX8_strokes 25 = .ok (.aload 4, 2) := by decide +kernel
theorem dX8_strokes_27 : decode cX8_strokes 27 = .ok (.iload_n 3, 1) := by decide +kernel
theorem dX8_strokes_28 : decode cX8_strokes 28 = .ok (.putfield 194, 3) := by decide +kernel
theorem dX8_strokes_31 : decode cX8_strokes 31 = .ok (.iconst 1, 1) := by decide +kernel
theorem dX8_strokes_32 : decode cX8_strokes 32 = .ok (.ireturn, 1) := by decide +kernel
theorem dX8_whose_0 : decode cX8_whose 0 = .ok (.aload_n 0, 1) := by decide +kernel
theorem dX8_whose_1 : decode cX8_whose 1 = .ok (.iload_n 1, 1) := by decide +kernel
theorem dX8_whose_2 : decode cX8_whose 2 = .ok (.iload_n 2, 1) := by decide +kernel
theorem dX8_whose_3 : decode cX8_whose 3 = .ok (.invokevirtual 190, 3) := by decide +kernel
theorem dX8_whose_6 : decode cX8_whose 6 = .ok (.astore_n 3, 1) := by decide +kernel
theorem dX8_whose_7 : decode cX8_whose 7 = .ok (.aload_n 3, 1) := by decide +kernel
theorem dX8_whose_8 : decode cX8_whose 8 = .ok (.ifnull 11, 3) := by decide +kernel
theorem dX8_whose_11 : decode cX8_whose 11 = .ok (.aload_n 3, 1) := by decide +kernel
theorem dX8_whose_12 : decode cX8_whose 12 = .ok (.getfield 194, 3) := by decide +kernel
theorem dX8_whose_15 : decode cX8_whose 15 = .ok (.iconst (-1), 1) := by decide +kernel
theorem dX8_whose_16 : decode cX8_whose 16 = .ok (.if_icmp .ne 5, 3) := by decide +kernel
theorem dX8_whose_19 : decode cX8_whose 19 = .ok (.iconst (-1), 1) := by decide +kernel
theorem dX8_whose_20 : decode cX8_whose 20 = .ok (.ireturn, 1) := by decide +kernel
theorem dX8_whose_21 : decode cX8_whose 21 = .ok (.aload_n 0, 1) := by decide +kernel
theorem dX8_whose_22 : decode cX8_whose 22 = .ok (.aload_n 3, 1) := by decide +kernel
theorem dX8_whose_23 : decode cX8_whose 23 = .ok (.getfield 194, 3) := by decide +kernel
theorem dX8_whose_26 : decode cX8_whose 26 = .ok (.iconst (-1), 1) := by decide +kernel
theorem dX8_whose_27 : decode cX8_whose 27 = .ok (.invokevirtual 199, 3) := by decide +kernel
theorem dX8_whose_30 : decode cX8_whose 30 = .ok (.istore 4, 2) := by decide +kernel
theorem dX8_whose_32 : decode cX8_whose 32 = .ok (.aload_n 0, 1) := by decide +kernel
theorem dX8_whose_33 : decode cX8_whose 33 = .ok (.aload_n 3, 1) := by decide +kernel
theorem dX8_whose_34 : decode cX8_whose 34 = .ok (.getfield 194, 3) := by decide +kernel
theorem dX8_whose_37 : decode cX8_whose 37 = .ok (.iload 4, 2) := by decide +kernel
theorem dX8_whose_39 : decode cX8_whose 39 = .ok (.invokevirtual 199, 3) := by decide +kernel
theorem dX8_whose_42 : decode cX8_whose 42 = .ok (.istore 5, 2) := by decide +kernel
theorem dX8_whose_44 : decode cX8_whose 44 = .ok (.iload 4, 2) := by decide +kernel
theorem dX8_whose_46 : decode cX8_whose 46 = .ok (.iconst (-1), 1) := by decide +kernel
theorem dX8_whose_47 : decode cX8_whose 47 = .ok (.if_icmp .eq 9, 3) := by decide +kernel
theorem dX8_whose_50 : decode cX8_whose 50 = .ok (.iload 5, 2) := by decide +kernel
theorem dX8_whose_52 : decode cX8_whose 52 = .ok (.iconst (-1), 1) := by decide +kernel
theorem dX8_whose_53 : decode cX8_whose 53 = .ok (.if_icmp .ne 6, 3) := by decide +kernel
theorem dX8_whose_56 : decode cX8_whose 56 = .ok (.iload 4, 2) := by decide +kernel
theorem dX8_whose_58 : decode cX8_whose 58 = .ok (.ireturn, 1) := by decide +kernel
theorem dX8_whose_59 : decode cX8_whose 59 = .ok (.aload_n 0, 1) := by decide +kernel
theorem dX8_whose_60 : decode cX8_whose 60 = .ok (.iload 5, 2) := by decide +kernel
theorem dX8_whose_62 : decode cX8_whose 62 = .ok (.aload_n 3, 1) := by decide +kernel
theorem dX8_whose_63 : decode cX8_whose 63 = .ok (.getfield 194, 3) := by decide +kernel
theorem dX8_whose_66 : decode cX8_whose 66 = .ok (.invokevirtual 202, 3) := by decide +kernel
theorem dX8_whose_69 : decode cX8_whose 69 = .ok (.aload_n 0, 1) := by decide +kernel
theorem dX8_whose_70 : decode cX8_whose 70 = .ok (.iload 4, 2) := by decide +kernel
theorem dX8_whose_72 : decode cX8_whose 72 = .ok (.aload_n 3, 1) := by decide +kernel
theorem dX8_whose_73 : decode cX8_whose 73 = .ok (.getfield 194, 3) := by decide +kernel
theorem dX8_whose_76 : decode cX8_whose 76 = .ok (.invokevirtual 202, 3) := by decide +kernel
theorem dX8_whose_79 : decode cX8_whose 79 = .ok (.isub, 1) := by decide +kernel
theorem dX8_whose_80 : decode cX8_whose 80 = .ok (.istore 6, 2) := by decide +kernel
theorem dX8_whose_82 : decode cX8_whose 82 = .ok (.iload 6, 2) := by decide +kernel
theorem dX8_whose_84 : decode cX8_whose 84 = .ok (.aload_n 0, 1) := by decide +kernel
theorem dX8_whose_85 : decode cX8_whose 85 = .ok (.getfield 64, 3) := by decide +kernel
theorem dX8_whose_88 : decode cX8_whose 88 = .ok (.if_icmp .ge 8, 3) := by decide +kernel
theorem dX8_whose_91 : decode cX8_whose 91 = .ok (.bipush (-2), 2) := by decide +kernel
theorem dX8_whose_93 : decode cX8_whose 93 = .ok (.goto 5, 3) := by decide +kernel
theorem dX8_whose_96 : decode cX8_whose 96 = .ok (.iload 4, 2) := by decide +kernel
theorem dX8_whose_98 : decode cX8_whose 98 = .ok (.ireturn, 1) := by decide +kernel
theorem dX8_told_0 : decode cX8_told 0 = .ok (.aload_n 0, 1) := by decide +kernel
theorem dX8_told_1 : decode cX8_told 1 = .ok (.iload_n 1, 1) := by decide +kernel
theorem dX8_told_2 : decode cX8_told 2 = .ok (.invokevirtual 117, 3) := by decide +kernel
theorem dX8_told_5 : decode cX8_told 5 = .ok (.astore_n 3, 1) := by decide +kernel
theorem dX8_told_6 : decode cX8_told 6 = .ok (.aload_n 3, 1) := by decide +kernel
theorem dX8_told_7 : decode cX8_told 7 = .ok (.ifnonnull 5, 3) := by decide +kernel
theorem dX8_told_10 : decode cX8_told 10 = .ok (.iconst (-1), 1) := by decide +kernel
theorem dX8_told_11 : decode cX8_told 11 = .ok (.ireturn, 1) := by decide +kernel
theorem dX8_told_12 : decode cX8_told 12 = .ok (.iload_n 2, 1) := by decide +kernel
theorem dX8_told_13 : decode cX8_told 13 = .ok (.tableswitch 77 0 5 #[39, 52, 57, 62, 67, 72], 39) := by decide +kernel
theorem dX8_told_52 : decode cX8_told 52 = .ok (.aload_n 3, 1) := by decide +kernel
theorem dX8_told_53 : decode cX8_told 53 = .ok (.invokevirtual 121, 3) := by decide +kernel
theorem dX8_told_56 : decode cX8_told 56 = .ok (.ifCond .eq 7, 3) := by decide +kernel
theorem dX8_told_59 : decode cX8_told 59 = .ok (.iconst 1, 1) := by decide +kernel
theorem dX8_told_60 : decode cX8_told 60 = .ok (.goto 4, 3) := by decide +kernel
theorem dX8_told_63 : decode cX8_told 63 = .ok (.iconst 0, 1) := by decide +kernel
theorem dX8_told_64 : decode cX8_told 64 = .ok (.ireturn, 1) := by decide +kernel
theorem dX8_told_65 : decode cX8_told 65 = .ok (.aload_n 3, 1) := by decide +kernel
theorem dX8_told_66 : decode cX8_told 66 = .ok (.getfield 205, 3) := by decide +kernel
theorem dX8_told_69 : decode cX8_told 69 = .ok (.ireturn, 1) := by decide +kernel
theorem dX8_told_70 : decode cX8_told 70 = .ok (.aload_n 3, 1) := by decide +kernel
theorem dX8_told_71 : decode cX8_told 71 = .ok (.getfield 208, 3) := by decide +kernel
theorem dX8_told_74 : decode cX8_told 74 = .ok (.ireturn, 1) := by decide +kernel
theorem dX8_told_75 : decode cX8_told 75 = .ok (.aload_n 3, 1) := by decide +kernel
theorem dX8_told_76 : decode cX8_told 76 = .ok (.getfield 211, 3) := by decide +kernel
theorem dX8_told_79 : decode cX8_told 79 = .ok (.ireturn, 1) := by decide +kernel
theorem dX8_told_80 : decode cX8_told 80 = .ok (.aload_n 3, 1) := by decide +kernel
theorem dX8_told_81 : decode cX8_told 81 = .ok (.getfield 143, 3) := by decide +kernel
theorem dX8_told_84 : decode cX8_told 84 = .ok (.ireturn, 1) := by decide +kernel
theorem dX8_told_85 : decode cX8_told 85 = .ok (.aload_n 3, 1) := by decide +kernel
theorem dX8_told_86 : decode cX8_told 86 = .ok (.getfield 214, 3) := by decide +kernel
theorem dX8_told_89 : decode cX8_told 89 = .ok (.ireturn, 1) := by decide +kernel
theorem dX8_told_90 : decode cX8_told 90 = .ok (.iconst (-1), 1) := by decide +kernel
theorem dX8_told_91 : decode cX8_told 91 = .ok (.ireturn, 1) := by decide +kernel
theorem dX8_part_0 : decode cX8_part 0 = .ok (.aload_n 0, 1) := by decide +kernel
theorem dX8_part_1 : decode cX8_part 1 = .ok (.iload_n 1, 1) := by decide +kernel
theorem dX8_part_2 : decode cX8_part 2 = .ok (.iload_n 2, 1) := by decide +kernel
theorem dX8_part_3 : decode cX8_part 3 = .ok (.invokevirtual 190, 3) := by decide +kernel
theorem dX8_part_6 : decode cX8_part 6 = .ok (.astore 4, 2) := by decide +kernel
theorem dX8_part_8 : decode cX8_part 8 = .ok (.aload 4, 2) := by decide +kernel
theorem dX8_part_10 : decode cX8_part 10 = .ok (.ifnonnull 5, 3) := by decide +kernel
theorem dX8_part_13 : decode cX8_part 13 = .ok (.iconst (-1), 1) := by decide +kernel
theorem dX8_part_14 : decode cX8_part 14 = .ok (.ireturn, 1) := by decide +kernel
theorem dX8_part_15 : decode cX8_part 15 = .ok (.iload_n 3, 1) := by decide +kernel
theorem dX8_part_16 : decode cX8_part 16 = .ok (.tableswitch 90 0 4 #[36, 42, 54, 60, 66], 36) := by decide +kernel
theorem dX8_part_52 : decode cX8_part 52 = .ok (.aload 4, 2) := by decide +kernel
theorem dX8_part_54 : decode cX8_part 54 = .ok (.getfield 217, 3) := by decide +kernel
theorem dX8_part_57 : decode cX8_part 57 = .ok (.ireturn, 1) := by decide +kernel
theorem dX8_part_58 : decode cX8_part 58 = .ok (.aload 4, 2) := by decide +kernel
theorem dX8_part_60 : decode cX8_part 60 = .ok (.getfield 220, 3) := by decide +kernel
theorem dX8_part_63 : decode cX8_part 63 = .ok (.aload 4, 2) := by decide +kernel
theorem dX8_part_65 : decode cX8_part 65 = .ok (.getfield 217, 3) := by decide +kernel
theorem dX8_part_68 : decode cX8_part 68 = .ok (.isub, 1) := by decide +kernel
theorem dX8_part_69 : decode cX8_part 69 = .ok (.ireturn, 1) := by decide +kernel
theorem dX8_part_70 : decode cX8_part 70 = .ok (.aload 4, 2) := by decide +kernel
theorem dX8_part_72 : decode cX8_part 72 = .ok (.getfield 223, 3) := by decide +kernel
theorem dX8_part_75 : decode cX8_part 75 = .ok (.ireturn, 1) := by decide +kernel
theorem dX8_part_76 : decode cX8_part 76 = .ok (.aload 4, 2) := by decide +kernel
theorem dX8_part_78 : decode cX8_part 78 = .ok (.getfield 226, 3) := by decide +kernel
theorem dX8_part_81 : decode cX8_part 81 = .ok (.ireturn, 1) := by decide +kernel
theorem dX8_part_82 : decode cX8_part 82 = .ok (.aload 4, 2) := by decide +kernel
theorem dX8_part_84 : decode cX8_part 84 = .ok (.aload_n 0, 1) := by decide +kernel
theorem dX8_part_85 : decode cX8_part 85 = .ok (.getfield 92, 3) := by decide +kernel
theorem dX8_part_88 : decode cX8_part 88 = .ok (.aload_n 0, 1) := by decide +kernel
theorem dX8_part_89 : decode cX8_part 89 = .ok (.getfield 16, 3) := by decide +kernel
theorem dX8_part_92 : decode cX8_part 92 = .ok (.iload_n 2, 1) := by decide +kernel
theorem dX8_part_93 : decode cX8_part 93 = .ok (.iaload, 1) := by decide +kernel
theorem dX8_part_94 : decode cX8_part 94 = .ok (.invokevirtual 229, 3) := by decide +kernel
theorem dX8_part_97 : decode cX8_part 97 = .ok (.ifCond .eq 7, 3) := by decide +kernel
theorem dX8_part_100 : decode cX8_part 100 = .ok (.iconst 1, 1) := by decide +kernel
theorem dX8_part_101 : decode cX8_part 101 = .ok (.goto 4, 3) := by decide +kernel
theorem dX8_part_104 : decode cX8_part 104 = .ok (.iconst 0, 1) := by decide +kernel
theorem dX8_part_105 : decode cX8_part 105 = .ok (.ireturn, 1) := by decide +kernel
theorem dX8_part_106 : decode cX8_part 106 = .ok (.iconst (-1), 1) := by decide +kernel
theorem dX8_part_107 : decode cX8_part 107 = .ok (.ireturn, 1) := by decide +kernel
theorem dX8_due_0 : decode cX8_due 0 = .ok (.aload_n 0, 1) := by decide +kernel
theorem dX8_due_1 : decode cX8_due 1 = .ok (.iload_n 1, 1) := by decide +kernel
theorem dX8_due_2 : decode cX8_due 2 = .ok (.invokevirtual 81, 3) := by decide +kernel
theorem dX8_due_5 : decode cX8_due 5 = .ok (.astore_n 2, 1) := by decide +kernel
theorem dX8_due_6 : decode cX8_due 6 = .ok (.aload_n 2, 1) := by decide +kernel
theorem dX8_due_7 : decode cX8_due 7 = .ok (.ifnonnull 7, 3) := by decide +kernel
theorem dX8_due_10 : decode cX8_due 10 = .ok (.iconst (-1), 1) := by decide +kernel
theorem dX8_due_11 : decode cX8_due 11 = .ok (.goto 7, 3) := by decide +kernel
theorem dX8_due_14 : decode cX8_due 14 = .ok (.aload_n 2, 1) := by decide +kernel
theorem dX8_due_15 : decode cX8_due 15 = .ok (.getfield 105, 3) := by decide +kernel
theorem dX8_due_18 : decode cX8_due 18 = .ok (.ireturn, 1) := by decide +kernel
theorem dX8_count_0 : decode cX8_count 0 = .ok (.iload_n 1, 1) := by decide +kernel
theorem dX8_count_1 : decode cX8_count 1 = .ok (.tableswitch 99 0 8 #[51, 56, 61, 66, 71, 76, 84, 89, 94], 51) := by decide +kernel
theorem dX8_count_52 : decode cX8_count 52 = .ok (.aload_n 0, 1) := by decide +kernel
theorem dX8_count_53 : decode cX8_count 53 = .ok (.getfield 92, 3) := by decide +kernel
theorem dX8_count_56 : decode cX8_count 56 = .ok (.ireturn, 1) := by decide +kernel
theorem dX8_count_57 : decode cX8_count 57 = .ok (.aload_n 0, 1) := by decide +kernel
theorem dX8_count_58 : decode cX8_count 58 = .ok (.getfield 60, 3) := by decide +kernel
theorem dX8_count_61 : decode cX8_count 61 = .ok (.ireturn, 1) := by decide +kernel
theorem dX8_count_62 : decode cX8_count 62 = .ok (.aload_n 0, 1) := by decide +kernel
theorem dX8_count_63 : decode cX8_count 63 = .ok (.getfield 75, 3) := by decide +kernel
theorem dX8_count_66 : decode cX8_count 66 = .ok (.ireturn, 1) := by decide +kernel
theorem dX8_count_67 : decode cX8_count 67 = .ok (.aload_n 0, 1) := by decide +kernel
theorem dX8_count_68 : decode cX8_count 68 = .ok (.getfield 89, 3) := by decide +kernel
theorem dX8_count_71 : decode cX8_count 71 = .ok (.ireturn, 1) := by decide +kernel
theorem dX8_count_72 : decode cX8_count 72 = .ok (.aload_n 0, 1) := by decide +kernel
theorem dX8_count_73 : decode cX8_count 73 = .ok (.getfield 232, 3) := by decide +kernel
theorem dX8_count_76 : decode cX8_count 76 = .ok (.ireturn, 1) := by decide +kernel
theorem dX8_count_77 : decode cX8_count 77 = .ok (.aload_n 0, 1) := by decide +kernel
theorem dX8_count_78 : decode cX8_count 78 = .ok (.getfield 41, 3) := by decide +kernel
theorem dX8_count_81 : decode cX8_count 81 = .ok (.getfield 235, 3) := by decide +kernel
theorem dX8_count_84 : decode cX8_count 84 = .ok (.ireturn, 1) := by decide +kernel
theorem dX8_count_85 : decode cX8_count 85 = .ok (.aload_n 0, 1) := by decide +kernel
theorem dX8_count_86 : decode cX8_count 86 = .ok (.getfield 238, 3) := by decide +kernel
theorem dX8_count_89 : decode cX8_count 89 = .ok (.ireturn, 1) := by decide +kernel
theorem dX8_count_90 : decode cX8_count 90 = .ok (.aload_n 0, 1) := by decide +kernel
theorem dX8_count_91 : decode cX8_count 91 = .ok (.getfield 161, 3) := by decide +kernel
theorem dX8_count_94 : decode cX8_count 94 = .ok (.ireturn, 1) := by decide +kernel
theorem dX8_count_95 : decode cX8_count 95 = .ok (.aload_n 0, 1) := by decide +kernel
theorem dX8_count_96 : decode cX8_count 96 = .ok (.getfield 102, 3) := by decide +kernel
theorem dX8_count_99 : decode cX8_count 99 = .ok (.ireturn, 1) := by decide +kernel
theorem dX8_count_100 : decode cX8_count 100 = .ok (.iconst (-1), 1) := by decide +kernel
theorem dX8_count_101 : decode cX8_count 101 = .ok (.ireturn, 1) := by decide +kernel
theorem dX8_within_0 : decode cX8_within 0 = .ok (.iload_n 0, 1) := by decide +kernel
theorem dX8_within_1 : decode cX8_within 1 = .ok (.ifCond .lt 12, 3) := by decide +kernel
theorem dX8_within_4 : decode cX8_within 4 = .ok (.iload_n 0, 1) := by decide +kernel
theorem dX8_within_5 : decode cX8_within 5 = .ok (.iload_n 1, 1) := by decide +kernel
theorem dX8_within_6 : decode cX8_within 6 = .ok (.if_icmp .gt 7, 3) := by decide +kernel
theorem dX8_within_9 : decode cX8_within 9 = .ok (.iconst 1, 1) := by decide +kernel
theorem dX8_within_10 : decode cX8_within 10 = .ok (.goto 4, 3) := by decide +kernel
theorem dX8_within_13 : decode cX8_within 13 = .ok (.iconst 0, 1) := by decide +kernel
theorem dX8_within_14 : decode cX8_within 14 = .ok (.ireturn, 1) := by decide +kernel
theorem dX8_lightHours_0 : decode cX8_lightHours 0 = .ok (.bipush 6, 2) := by decide +kernel
theorem dX8_lightHours_2 : decode cX8_lightHours 2 = .ok (.iload_n 0, 1) := by decide +kernel
theorem dX8_lightHours_3 : decode cX8_lightHours 3 = .ok (.sipush 365, 3) := by decide +kernel
theorem dX8_lightHours_6 : decode cX8_lightHours 6 = .ok (.irem, 1) := by decide +kernel
theorem dX8_lightHours_7 : decode cX8_lightHours 7 = .ok (.sipush 182, 3) := by decide +kernel
theorem dX8_lightHours_10 : decode cX8_lightHours 10 = .ok (.isub, 1) := by decide +kernel
theorem dX8_lightHours_11 : decode cX8_lightHours 11 = .ok (.invokestatic 241, 3) := by decide +kernel
theorem dX8_lightHours_14 : decode cX8_lightHours 14 = .ok (.bipush 46, 2) := by decide +kernel
theorem dX8_lightHours_16 : decode cX8_lightHours 16 = .ok (.idiv, 1) := by decide +kernel
theorem dX8_lightHours_17 : decode cX8_lightHours 17 = .ok (.isub, 1) := by decide +kernel
theorem dX8_lightHours_18 : decode cX8_lightHours 18 = .ok (.ireturn, 1) := by decide +kernel
theorem dX8_layersCanBe_0 : decode cX8_layersCanBe 0 = .ok (.iload_n 0, 1) := by decide +kernel
theorem dX8_layersCanBe_1 : decode cX8_layersCanBe 1 = .ok (.sipush 10000, 3) := by decide +kernel
theorem dX8_layersCanBe_4 : decode cX8_layersCanBe 4 = .ok (.if_icmp .ge 5, 3) := by decide +kernel
theorem dX8_layersCanBe_7 : decode cX8_layersCanBe 7 = .ok (.iconst 0, 1) := by decide +kernel
theorem dX8_layersCanBe_8 : decode cX8_layersCanBe 8 = .ok (.ireturn, 1) := by decide +kernel
theorem dX8_layersCanBe_9 : decode cX8_layersCanBe 9 = .ok (.iload_n 0, 1) := by decide +kernel
theorem dX8_layersCanBe_10 : decode cX8_layersCanBe 10 = .ok (.istore_n 1, 1) := by decide +kernel
theorem dX8_layersCanBe_11 : decode cX8_layersCanBe 11 = .ok (.iconst 0, 1) := by decide +kernel
theorem dX8_layersCanBe_12 : decode cX8_layersCanBe 12 = .ok (.istore_n 2, 1) := by decide +kernel
theorem dX8_layersCanBe_13 : decode cX8_layersCanBe 13 = .ok (.iload_n 2, 1) := by decide +kernel
theorem dX8_layersCanBe_14 : decode cX8_layersCanBe 14 = .ok (.iconst 5, 1) := by decide +kernel
theorem dX8_layersCanBe_15 : decode cX8_layersCanBe 15 = .ok (.if_icmp .ge 24, 3) := by decide +kernel
theorem dX8_layersCanBe_18 : decode cX8_layersCanBe 18 = .ok (.iload_n 1, 1) := by decide +kernel
theorem dX8_layersCanBe_19 : decode cX8_layersCanBe 19 = .ok (.bipush 10, 2) := by decide +kernel
theorem dX8_layersCanBe_21 : decode cX8_layersCanBe 21 = .ok (.irem, 1) := by decide +kernel
theorem dX8_layersCanBe_22 : decode cX8_layersCanBe 22 = .ok (.iconst 3, 1) := by decide +kernel
theorem dX8_layersCanBe_23 : decode cX8_layersCanBe 23 = .ok (.if_icmp .le 5, 3) := by decide +kernel
theorem dX8_layersCanBe_26 : decode cX8_layersCanBe 26 = .ok (.iconst 0, 1) := by decide +kernel
theorem dX8_layersCanBe_27 : decode cX8_layersCanBe 27 = .ok (.ireturn, 1) := by decide +kernel
theorem dX8_layersCanBe_28 : decode cX8_layersCanBe 28 = .ok (.iload_n 1, 1) := by decide +kernel
theorem dX8_layersCanBe_29 : decode cX8_layersCanBe 29 = .ok (.bipush 10, 2) := by decide +kernel
theorem dX8_layersCanBe_31 : decode cX8_layersCanBe 31 = .ok (.idiv, 1) := by decide +kernel
theorem dX8_layersCanBe_32 : decode cX8_layersCanBe 32 = .ok (.istore_n 1, 1) := by decide +kernel
theorem dX8_layersCanBe_33 : decode cX8_layersCanBe 33 = .ok (.iinc 2 1, 3) := by decide +kernel
theorem dX8_layersCanBe_36 : decode cX8_layersCanBe 36 = .ok (.goto (-23), 3) := by decide +kernel
theorem dX8_layersCanBe_39 : decode cX8_layersCanBe 39 = .ok (.iload_n 1, 1) := by decide +kernel
theorem dX8_layersCanBe_40 : decode cX8_layersCanBe 40 = .ok (.ifCond .ne 7, 3) := by decide +kernel
theorem dX8_layersCanBe_43 : decode cX8_layersCanBe 43 = .ok (.iconst 1, 1) := by decide +kernel
theorem dX8_layersCanBe_44 : decode cX8_layersCanBe 44 = .ok (.goto 4, 3) := by decide +kernel
theorem dX8_layersCanBe_47 : decode cX8_layersCanBe 47 = .ok (.iconst 0, 1) := by decide +kernel
theorem dX8_layersCanBe_48 : decode cX8_layersCanBe 48 = .ok (.ireturn, 1) := by decide +kernel
theorem dX8_isNowOrLater_0 : decode cX8_isNowOrLater 0 = .ok (.iload_n 1, 1) := by decide +kernel
theorem dX8_isNowOrLater_1 : decode cX8_isNowOrLater 1 = .ok (.aload_n 0, 1) := by decide +kernel
theorem dX8_isNowOrLater_2 : decode cX8_isNowOrLater 2 = .ok (.getfield 92, 3) := by decide +kernel
theorem dX8_isNowOrLater_5 : decode cX8_isNowOrLater 5 = .ok (.if_icmp .lt 14, 3) := by decide +kernel
theorem dX8_isNowOrLater_8 : decode cX8_isNowOrLater 8 = .ok (.iload_n 1, 1) := by decide +kernel
theorem dX8_isNowOrLater_9 : decode cX8_isNowOrLater 9 = .ok (.sipush 20000, 3) := by decide +kernel
theorem dX8_isNowOrLater_12 : decode cX8_isNowOrLater 12 = .ok (.if_icmp .gt 7, 3) := by decide +kernel
theorem dX8_isNowOrLater_15 : decode cX8_isNowOrLater 15 = .ok (.iconst 1, 1) := by decide +kernel
theorem dX8_isNowOrLater_16 : decode cX8_isNowOrLater 16 = .ok (.goto 4, 3) := by decide +kernel
theorem dX8_isNowOrLater_19 : decode cX8_isNowOrLater 19 = .ok (.iconst 0, 1) := by decide +kernel
theorem dX8_isNowOrLater_20 : decode cX8_isNowOrLater 20 = .ok (.ireturn, 1) := by decide +kernel
theorem dX8_handAt_0 : decode cX8_handAt 0 = .ok (.iload_n 1, 1) := by decide +kernel
theorem dX8_handAt_1 : decode cX8_handAt 1 = .ok (.ifCond .lt 20, 3) := by decide +kernel
theorem dX8_handAt_4 : decode cX8_handAt 4 = .ok (.iload_n 1, 1) := by decide +kernel
theorem dX8_handAt_5 : decode cX8_handAt 5 = .ok (.aload_n 0, 1) := by decide +kernel
theorem dX8_handAt_6 : decode cX8_handAt 6 = .ok (.getfield 60, 3) := by decide +kernel
theorem dX8_handAt_9 : decode cX8_handAt 9 = .ok (.if_icmp .ge 12, 3) := by decide +kernel
theorem dX8_handAt_12 : decode cX8_handAt 12 = .ok (.aload_n 0, 1) := by decide +kernel
theorem dX8_handAt_13 : decode cX8_handAt 13 = .ok (.getfield 22, 3) := by decide +kernel
theorem dX8_handAt_16 : decode cX8_handAt 16 = .ok (.iload_n 1, 1) := by decide +kernel
theorem dX8_handAt_17 : decode cX8_handAt 17 = .ok (.aaload, 1) := by decide +kernel
theorem dX8_handAt_18 : decode cX8_handAt 18 = .ok (.goto 4, 3) := by decide +kernel
theorem dX8_handAt_21 : decode cX8_handAt 21 = .ok (.aconst_null, 1) := by decide +kernel
theorem dX8_handAt_22 : decode cX8_handAt 22 = .ok (.areturn, 1) := by decide +kernel
theorem dX8_sitterAt_0 : decode cX8_sitterAt 0 = .ok (.iload_n 1, 1) := by decide +kernel
theorem dX8_sitterAt_1 : decode cX8_sitterAt 1 = .ok (.ifCond .lt 20, 3) := by decide +kernel
theorem dX8_sitterAt_4 : decode cX8_sitterAt 4 = .ok (.iload_n 1, 1) := by decide +kernel
theorem dX8_sitterAt_5 : decode cX8_sitterAt 5 = .ok (.aload_n 0, 1) := by decide +kernel
theorem dX8_sitterAt_6 : decode cX8_sitterAt 6 = .ok (.getfield 75, 3) := by decide +kernel
theorem dX8_sitterAt_9 : decode cX8_sitterAt 9 = .ok (.if_icmp .ge 12, 3) := by decide +kernel
theorem dX8_sitterAt_12 : decode cX8_sitterAt 12 = .ok (.aload_n 0, 1) := by decide +kernel
theorem dX8_sitterAt_13 : decode cX8_sitterAt 13 = .ok (.getfield 28, 3) := by decide +kernel
theorem dX8_sitterAt_16 : decode cX8_sitterAt 16 = .ok (.iload_n 1, 1) := by decide +kernel
theorem dX8_sitterAt_17 : decode cX8_sitterAt 17 = .ok (.aaload, 1) := by decide +kernel
theorem dX8_sitterAt_18 : decode cX8_sitterAt 18 = .ok (.goto 4, 3) := by decide +kernel
theorem dX8_sitterAt_21 : decode cX8_sitterAt 21 = .ok (.aconst_null, 1) := by decide +kernel
theorem dX8_sitterAt_22 : decode cX8_sitterAt 22 = .ok (.areturn, 1) := by decide +kernel
theorem dX8_pictureAt_0 : decode cX8_pictureAt 0 = .ok (.iload_n 1, 1) := by decide +kernel
theorem dX8_pictureAt_1 : decode cX8_pictureAt 1 = .ok (.ifCond .lt 20, 3) := by decide +kernel
theorem dX8_pictureAt_4 : decode cX8_pictureAt 4 = .ok (.iload_n 1, 1) := by decide +kernel
theorem dX8_pictureAt_5 : decode cX8_pictureAt 5 = .ok (.aload_n 0, 1) := by decide +kernel
theorem dX8_pictureAt_6 : decode cX8_pictureAt 6 = .ok (.getfield 89, 3) := by decide +kernel
theorem dX8_pictureAt_9 : decode cX8_pictureAt 9 = .ok (.if_icmp .ge 12, 3) := by decide +kernel
theorem dX8_pictureAt_12 : decode cX8_pictureAt 12 = .ok (.aload_n 0, 1) := by decide +kernel
theorem dX8_pictureAt_13 : decode cX8_pictureAt 13 = .ok (.getfield 34, 3) := by decide +kernel
theorem dX8_pictureAt_16 : decode cX8_pictureAt 16 = .ok (.iload_n 1, 1) := by decide +kernel
theorem dX8_pictureAt_17 : decode cX8_pictureAt 17 = .ok (.aaload, 1) := by decide +kernel
theorem dX8_pictureAt_18 : decode cX8_pictureAt 18 = .ok (.goto 4, 3) := by decide +kernel
theorem dX8_pictureAt_21 : decode cX8_pictureAt 21 = .ok (.aconst_null, 1) := by decide +kernel
theorem dX8_pictureAt_22 : decode cX8_pictureAt 22 = .ok (.areturn, 1) := by decide +kernel
theorem dX8_partAt_0 : decode cX8_partAt 0 = .ok (.aload_n 0, 1) := by decide +kernel
theorem dX8_partAt_1 : decode cX8_partAt 1 = .ok (.iload_n 1, 1) := by decide +kernel
theorem dX8_partAt_2 : decode cX8_partAt 2 = .ok (.invokevirtual 117, 3) := by decide +kernel
theorem dX8_partAt_5 : decode cX8_partAt 5 = .ok (.astore_n 3, 1) := by decide +kernel
theorem dX8_partAt_6 : decode cX8_partAt 6 = .ok (.aload_n 3, 1) := by decide +kernel
theorem dX8_partAt_7 : decode cX8_partAt 7 = .ok (.ifnull 20, 3) := by decide +kernel
theorem dX8_partAt_10 : decode cX8_partAt 10 = .ok (.iload_n 2, 1) := by decide +kernel
theorem dX8_partAt_11 : decode cX8_partAt 11 = .ok (.iconst 4, 1) := by decide +kernel
theorem dX8_partAt_12 : decode cX8_partAt 12 = .ok (.invokestatic 67, 3) := by decide +kernel
theorem dX8_partAt_15 : decode cX8_partAt 15 = .ok (.ifCond .eq 12, 3) := by decide +kernel
theorem dX8_partAt_18 : decode cX8_partAt 18 = .ok (.aload_n 3, 1) := by decide +kernel
theorem dX8_partAt_19 : decode cX8_partAt 19 = .ok (.getfield 244, 3) := by decide +kernel
theorem dX8_partAt_22 : decode cX8_partAt 22 = .ok (.iload_n 2, 1) := by decide +kernel
theorem dX8_partAt_23 : decode cX8_partAt 23 = .ok (.aaload, 1) := by decide +kernel
theorem dX8_partAt_24 : decode cX8_partAt 24 = .ok (.goto 4, 3) := by decide +kernel
theorem dX8_partAt_27 : decode cX8_partAt 27 = .ok (.aconst_null, 1) := by decide +kernel
theorem dX8_partAt_28 : decode cX8_partAt 28 = .ok (.areturn, 1) := by decide +kernel
theorem dX8_standsAgainst_0 : decode cX8_standsAgainst 0 = .ok (.aload_n 0, 1) := by decide +kernel
theorem dX8_standsAgainst_1 : decode cX8_standsAgainst 1 = .ok (.iload_n 1, 1) := by decide +kernel
theorem dX8_standsAgainst_2 : decode cX8_standsAgainst 2 = .ok (.invokevirtual 117, 3) := by decide +kernel
theorem dX8_standsAgainst_5 : decode cX8_standsAgainst 5 = .ok (.astore 4, 2) := by decide +kernel
theorem dX8_standsAgainst_7 : decode cX8_standsAgainst 7 = .ok (.aload_n 0, 1) := by decide +kernel
theorem dX8_standsAgainst_8 : decode cX8_standsAgainst 8 = .ok (.iload_n 1, 1) := by decide +kernel
theorem dX8_standsAgainst_9 : decode cX8_standsAgainst 9 = .ok (.iload_n 2, 1) := by decide +kernel
theorem dX8_standsAgainst_10 : decode cX8_standsAgainst 10 = .ok (.invokevirtual 190, 3) := by decide +kernel
theorem dX8_standsAgainst_13 : decode cX8_standsAgainst 13 = .ok (.astore 5, 2) := by decide +kernel
theorem dX8_standsAgainst_15 : decode cX8_standsAgainst 15 = .ok (.aload_n 0, 1) := by decide +kernel
theorem dX8_standsAgainst_16 : decode cX8_standsAgainst 16 = .ok (.iload_n 3, 1) := by decide +kernel
theorem dX8_standsAgainst_17 : decode cX8_standsAgainst 17 = .ok (.invokevirtual 183, 3) := by decide +kernel
theorem dX8_standsAgainst_20 : decode cX8_standsAgainst 20 = .ok (.astore 6, 2) := by decide +kernel
theorem dX8_standsAgainst_22 : decode cX8_standsAgainst 22 = .ok (.aload 4, 2) := by decide +kernel
theorem dX8_standsAgainst_24 : decode cX8_standsAgainst 24 = .ok (.ifnull 13, 3) := by decide +kernel
theorem dX8_standsAgainst_27 : decode cX8_standsAgainst 27 = .ok (.aload 5, 2) := by decide +kernel
theorem dX8_standsAgainst_29 : decode cX8_standsAgainst 29 = .ok (.ifnull 8, 3) := by decide +kernel
theorem dX8_standsAgainst_32 : decode cX8_standsAgainst 32 = .ok (.aload 6, 2) := by decide +kernel
theorem dX8_standsAgainst_34 : decode cX8_standsAgainst 34 = .ok (.ifnonnull 5, 3) := by decide +kernel
theorem dX8_standsAgainst_37 : decode cX8_standsAgainst 37 = .ok (.iconst (-1), 1) := by decide +kernel
theorem dX8_standsAgainst_38 : decode cX8_standsAgainst 38 = .ok (.ireturn, 1) := by decide +kernel
theorem dX8_standsAgainst_39 : decode cX8_standsAgainst 39 = .ok (.aload 5, 2) := by decide +kernel
theorem dX8_standsAgainst_41 : decode cX8_standsAgainst 41 = .ok (.invokevirtual 248, 3) := by decide +kernel
theorem dX8_standsAgainst_44 : decode cX8_standsAgainst 44 = .ok (.ifCond .ne 5, 3) := by decide +kernel
theorem dX8_standsAgainst_47 : decode cX8_standsAgainst 47 = .ok (.iconst 1, 1) := by decide +kernel
theorem dX8_standsAgainst_48 : decode cX8_standsAgainst 48 = .ok (.ireturn, 1) := by decide +kernel
theorem dX8_standsAgainst_49 : decode cX8_standsAgainst 49 = .ok (.aload 5, 2) := by decide +kernel
theorem dX8_standsAgainst_51 : decode cX8_standsAgainst 51 = .ok (.aload_n 0, 1) := by decide +kernel
theorem dX8_standsAgainst_52 : decode cX8_standsAgainst 52 = .ok (.getfield 92, 3) := by decide +kernel
theorem dX8_standsAgainst_55 : decode cX8_standsAgainst 55 = .ok (.aload_n 0, 1) := by decide +kernel
theorem dX8_standsAgainst_56 : decode cX8_standsAgainst 56 = .ok (.getfield 16, 3) := by decide +kernel
theorem dX8_standsAgainst_59 : decode cX8_standsAgainst 59 = .ok (.iload_n 2, 1) := by decide +kernel
theorem dX8_standsAgainst_60 : decode cX8_standsAgainst 60 = .ok (.iaload, 1) := by decide +kernel
theorem dX8_standsAgainst_61 : decode cX8_standsAgainst 61 = .ok (.invokevirtual 229, 3) := by decide +kernel
theorem dX8_standsAgainst_64 : decode cX8_standsAgainst 64 = .ok (.ifCond .eq 5, 3) := by decide +kernel
theorem dX8_standsAgainst_67 : decode cX8_standsAgainst 67 = .ok (.iconst 2, 1) := by decide +kernel
theorem dX8_standsAgainst_68 : decode cX8_standsAgainst 68 = .ok (.ireturn, 1) := by decide +kernel
theorem dX8_standsAgainst_69 : decode cX8_standsAgainst 69 = .ok (.iload_n 2, 1) := by decide +kernel
theorem dX8_standsAgainst_70 : decode cX8_standsAgainst 70 = .ok (.ifCond .ne 9, 3) := by decide +kernel
theorem dX8_standsAgainst_73 : decode cX8_standsAgainst 73 = .ok (.iload_n 3, 1) := by decide +kernel
theorem dX8_standsAgainst_74 : decode cX8_standsAgainst 74 = .ok (.ifCond .eq 5, 3) := by decide +kernel
theorem dX8_standsAgainst_77 : decode cX8_standsAgainst 77 = .ok (.iconst 3, 1) := by decide +kernel
theorem dX8_standsAgainst_78 : decode cX8_standsAgainst 78 = .ok (.ireturn, 1) := by decide +kernel
theorem dX8_standsAgainst_79 : decode cX8_standsAgainst 79 = .ok (.aload 6, 2) := by decide +kernel
theorem dX8_standsAgainst_81 : decode cX8_standsAgainst 81 = .ok (.aload_n 0, 1) := by decide +kernel
theorem dX8_standsAgainst_82 : decode cX8_standsAgainst 82 = .ok (.getfield 92, 3) := by decide +kernel
theorem dX8_standsAgainst_85 : decode cX8_standsAgainst 85 = .ok (.invokevirtual 251, 3) := by decide +kernel
theorem dX8_standsAgainst_88 : decode cX8_standsAgainst 88 = .ok (.iconst 3, 1) := by decide +kernel
theorem dX8_standsAgainst_89 : decode cX8_standsAgainst 89 = .ok (.if_icmp .lt 5, 3) := by decide +kernel
theorem dX8_standsAgainst_92 : decode cX8_standsAgainst 92 = .ok (.iconst 4, 1) := by decide +kernel
theorem dX8_standsAgainst_93 : decode cX8_standsAgainst 93 = .ok (.ireturn, 1) := by decide +kernel
theorem dX8_standsAgainst_94 : decode cX8_standsAgainst 94 = .ok (.iload_n 2, 1) := by decide +kernel
theorem dX8_standsAgainst_95 : decode cX8_standsAgainst 95 = .ok (.ifCond .ne 21, 3) := by decide +kernel
theorem dX8_standsAgainst_98 : decode cX8_standsAgainst 98 = .ok (.aload_n 0, 1) := by decide +kernel
theorem dX8_standsAgainst_99 : decode cX8_standsAgainst 99 = .ok (.getfield 41, 3) := by decide +kernel
theorem dX8_standsAgainst_102 : decode cX8_standsAgainst 102 = .ok (.iload_n 1, 1) := by decide +kernel
theorem dX8_standsAgainst_103 : decode cX8_standsAgainst 103 = .ok (.aload_n 0, 1) := by decide +kernel
theorem dX8_standsAgainst_104 : decode cX8_standsAgainst 104 = .ok (.getfield 92, 3) := by decide +kernel
theorem dX8_standsAgainst_107 : decode cX8_standsAgainst 107 = .ok (.invokevirtual 146, 3) := by decide +kernel
theorem dX8_standsAgainst_110 : decode cX8_standsAgainst 110 = .ok (.iconst (-1), 1) := by decide +kernel
theorem dX8_standsAgainst_111 : decode cX8_standsAgainst 111 = .ok (.if_icmp .ne 5, 3) := by decide +kernel
theorem dX8_standsAgainst_114 : decode cX8_standsAgainst 114 = .ok (.iconst 5, 1) := by decide +kernel
theorem dX8_standsAgainst_115 : decode cX8_standsAgainst 115 = .ok (.ireturn, 1) := by decide +kernel
theorem dX8_standsAgainst_116 : decode cX8_standsAgainst 116 = .ok (.iload_n 2, 1) := by decide +kernel
theorem dX8_standsAgainst_117 : decode cX8_standsAgainst 117 = .ok (.iconst 2, 1) := by decide +kernel
theorem dX8_standsAgainst_118 : decode cX8_standsAgainst 118 = .ok (.if_icmp .ne 26, 3) := by decide +kernel
theorem dX8_standsAgainst_121 : decode cX8_standsAgainst 121 = .ok (.aload_n 0, 1) := by decide +kernel
theorem dX8_standsAgainst_122 : decode cX8_standsAgainst 122 = .ok (.getfield 48, 3) := by decide +kernel
theorem dX8_standsAgainst_125 : decode cX8_standsAgainst 125 = .ok (.aload 4, 2) := by decide +kernel
theorem dX8_standsAgainst_127 : decode cX8_standsAgainst 127 = .ok (.getfield 254, 3) := by decide +kernel
theorem dX8_standsAgainst_130 : decode cX8_standsAgainst 130 = .ok (.iload_n 1, 1) := by decide +kernel
theorem dX8_standsAgainst_131 : decode cX8_standsAgainst 131 = .ok (.aload_n 0, 1) := by decide +kernel
theorem dX8_standsAgainst_132 : decode cX8_standsAgainst 132 = .ok (.getfield 92, 3) := by decide +kernel
theorem dX8_standsAgainst_135 : decode cX8_standsAgainst 135 = .ok (.invokevirtual 257, 3) := by decide +kernel
theorem dX8_standsAgainst_138 : decode cX8_standsAgainst 138 = .ok (.ifCond .eq 6, 3) := by decide +kernel
theorem dX8_standsAgainst_141 : decode cX8_standsAgainst 141 = .ok (.bipush 6, 2) := by decide +kernel
theorem dX8_standsAgainst_143 : decode cX8_standsAgainst 143 = .ok (.ireturn, 1) := by decide +kernel
theorem dX8_standsAgainst_144 : decode cX8_standsAgainst 144 = .ok (.iconst 0, 1) := by decide +kernel
theorem dX8_standsAgainst_145 : decode cX8_standsAgainst 145 = .ok (.ireturn, 1) := by decide +kernel
theorem dX8_addLayer_0 : decode cX8_addLayer 0 = .ok (.aload_n 0, 1) := by decide +kernel
theorem dX8_addLayer_1 : decode cX8_addLayer 1 = .ok (.iload_n 1, 1) := by decide +kernel
theorem dX8_addLayer_2 : decode cX8_addLayer 2 = .ok (.invokevirtual 117, 3) := by decide +kernel
theorem dX8_addLayer_5 : decode cX8_addLayer 5 = .ok (.astore 4, 2) := by decide +kernel
theorem dX8_addLayer_7 : decode cX8_addLayer 7 = .ok (.aload_n 0, 1) := by decide +kernel
theorem dX8_addLayer_8 : decode cX8_addLayer 8 = .ok (.iload_n 1, 1) := by decide +kernel
end
section
theorem dX8_addLayer_9 : decode cX8_addLayer 9 = .ok (.iload_n 2, 1) := by decide +kernel
theorem dX8_addLayer_10 : decode cX8_addLayer 10 = .ok (.invokevirtual 190, 3) := by decide +kernel
theorem dX8_addLayer_13 : decode cX8_addLayer 13 = .ok (.astore 5, 2) := by decide +kernel
theorem dX8_addLayer_15 : decode cX8_addLayer 15 = .ok (.aload_n 0, 1) := by decide +kernel
theorem dX8_addLayer_16 : decode cX8_addLayer 16 = .ok (.iload_n 3, 1) := by decide +kernel
theorem dX8_addLayer_17 : decode cX8_addLayer 17 = .ok (.invokevirtual 183, 3) := by decide +kernel
theorem dX8_addLayer_20 : decode cX8_addLayer 20 = .ok (.astore 6, 2) := by decide +kernel
theorem dX8_addLayer_22 : decode cX8_addLayer 22 = .ok (.aload 4, 2) := by decide +kernel
theorem dX8_addLayer_24 : decode cX8_addLayer 24 = .ok (.ifnull 13, 3) := by decide +kernel
theorem dX8_addLayer_27 : decode cX8_addLayer 27 = .ok (.aload 5, 2) := by decide +kernel
theorem dX8_addLayer_29 : decode cX8_addLayer 29 = .ok (.ifnull 8, 3) := by decide +kernel
theorem dX8_addLayer_32 : decode cX8_addLayer 32 = .ok (.aload 6, 2) := by decide +kernel
theorem dX8_addLayer_34 : decode cX8_addLayer 34 = .ok (.ifnonnull 4, 3) := by decide +kernel
theorem dX8_addLayer_37 : decode cX8_addLayer 37 = .ok (.return_, 1) := by decide +kernel
theorem dX8_addLayer_38 : decode cX8_addLayer 38 = .ok (.aload 5, 2) := by decide +kernel
theorem dX8_addLayer_40 : decode cX8_addLayer 40 = .ok (.dup, 1) := by decide +kernel
theorem dX8_addLayer_41 : decode cX8_addLayer 41 = .ok (.getfield 217, 3) := by decide +kernel
theorem dX8_addLayer_44 : decode cX8_addLayer 44 = .ok (.iconst 1, 1) := by decide +kernel
theorem dX8_addLayer_45 : decode cX8_addLayer 45 = .ok (.iadd, 1) := by decide +kernel
theorem dX8_addLayer_46 : decode cX8_addLayer 46 = .ok (.putfield 217, 3) := by decide +kernel
theorem dX8_addLayer_49 : decode cX8_addLayer 49 = .ok (.aload 5, 2) := by decide +kernel
theorem dX8_addLayer_51 : decode cX8_addLayer 51 = .ok (.aload_n 0, 1) := by decide +kernel
theorem dX8_addLayer_52 : decode cX8_addLayer 52 = .ok (.getfield 92, 3) := by decide +kernel
theorem dX8_addLayer_55 : decode cX8_addLayer 55 = .ok (.putfield 223, 3) := by decide +kernel
theorem dX8_addLayer_58 : decode cX8_addLayer 58 = .ok (.aload 5, 2) := by decide +kernel
theorem dX8_addLayer_60 : decode cX8_addLayer 60 = .ok (.iload_n 3, 1) := by decide +kernel
theorem dX8_addLayer_61 : decode cX8_addLayer 61 = .ok (.putfield 226, 3) := by decide +kernel
theorem dX8_addLayer_64 : decode cX8_addLayer 64 = .ok (.aload 6, 2) := by decide +kernel
theorem dX8_addLayer_66 : decode cX8_addLayer 66 = .ok (.aload_n 0, 1) := by decide +kernel
theorem dX8_addLayer_67 : decode cX8_addLayer 67 = .ok (.getfield 92, 3) := by decide +kernel
theorem dX8_addLayer_70 : decode cX8_addLayer 70 = .ok (.invokevirtual 260, 3) := by decide +kernel
theorem dX8_addLayer_73 : decode cX8_addLayer 73 = .ok (.aload_n 0, 1) := by decide +kernel
theorem dX8_addLayer_74 : decode cX8_addLayer 74 = .ok (.dup, 1) := by decide +kernel
theorem dX8_addLayer_75 : decode cX8_addLayer 75 = .ok (.getfield 238, 3) := by decide +kernel
theorem dX8_addLayer_78 : decode cX8_addLayer 78 = .ok (.iconst 1, 1) := by decide +kernel
theorem dX8_addLayer_79 : decode cX8_addLayer 79 = .ok (.iadd, 1) := by decide +kernel
theorem dX8_addLayer_80 : decode cX8_addLayer 80 = .ok (.putfield 238, 3) := by decide +kernel
theorem dX8_addLayer_83 : decode cX8_addLayer 83 = .ok (.iload_n 2, 1) := by decide +kernel
theorem dX8_addLayer_84 : decode cX8_addLayer 84 = .ok (.ifCond .ne 33, 3) := by decide +kernel
theorem dX8_addLayer_87 : decode cX8_addLayer 87 = .ok (.aload_n 0, 1) := by decide +kernel
theorem dX8_addLayer_88 : decode cX8_addLayer 88 = .ok (.getfield 41, 3) := by decide +kernel
theorem dX8_addLayer_91 : decode cX8_addLayer 91 = .ok (.aload_n 0, 1) := by decide +kernel
theorem dX8_addLayer_92 : decode cX8_addLayer 92 = .ok (.getfield 41, 3) := by decide +kernel
theorem dX8_addLayer_95 : decode cX8_addLayer 95 = .ok (.iload_n 1, 1) := by decide +kernel
theorem dX8_addLayer_96 : decode cX8_addLayer 96 = .ok (.aload_n 0, 1) := by decide +kernel
theorem dX8_addLayer_97 : decode cX8_addLayer 97 = .ok (.getfield 92, 3) := by decide +kernel
theorem dX8_addLayer_100 : decode cX8_addLayer 100 = .ok (.invokevirtual 146, 3) := by decide +kernel
theorem dX8_addLayer_103 : decode cX8_addLayer 103 = .ok (.invokevirtual 263, 3) := by decide +kernel
theorem dX8_addLayer_106 : decode cX8_addLayer 106 = .ok (.aload 4, 2) := by decide +kernel
theorem dX8_addLayer_108 : decode cX8_addLayer 108 = .ok (.dup, 1) := by decide +kernel
theorem dX8_addLayer_109 : decode cX8_addLayer 109 = .ok (.getfield 214, 3) := by decide +kernel
theorem dX8_addLayer_112 : decode cX8_addLayer 112 = .ok (.iconst 1, 1) := by decide +kernel
theorem dX8_addLayer_113 : decode cX8_addLayer 113 = .ok (.iadd, 1) := by decide +kernel
theorem dX8_addLayer_114 : decode cX8_addLayer 114 = .ok (.putfield 214, 3) := by decide +kernel
theorem dX8_addLayer_117 : decode cX8_addLayer 117 = .ok (.iload_n 2, 1) := by decide +kernel
theorem dX8_addLayer_118 : decode cX8_addLayer 118 = .ok (.iconst 2, 1) := by decide +kernel
theorem dX8_addLayer_119 : decode cX8_addLayer 119 = .ok (.if_icmp .ne 20, 3) := by decide +kernel
theorem dX8_addLayer_122 : decode cX8_addLayer 122 = .ok (.aload_n 0, 1) := by decide +kernel
theorem dX8_addLayer_123 : decode cX8_addLayer 123 = .ok (.getfield 48, 3) := by decide +kernel
theorem dX8_addLayer_126 : decode cX8_addLayer 126 = .ok (.aload 4, 2) := by decide +kernel
theorem dX8_addLayer_128 : decode cX8_addLayer 128 = .ok (.getfield 254, 3) := by decide +kernel
theorem dX8_addLayer_131 : decode cX8_addLayer 131 = .ok (.iload_n 1, 1) := by decide +kernel
theorem dX8_addLayer_132 : decode cX8_addLayer 132 = .ok (.aload_n 0, 1) := by decide +kernel
theorem dX8_addLayer_133 : decode cX8_addLayer 133 = .ok (.getfield 92, 3) := by decide +kernel
theorem dX8_addLayer_136 : decode cX8_addLayer 136 = .ok (.invokevirtual 266, 3) := by decide +kernel
theorem dX8_addLayer_139 : decode cX8_addLayer 139 = .ok (.aload 4, 2) := by decide +kernel
theorem dX8_addLayer_141 : decode cX8_addLayer 141 = .ok (.dup, 1) := by decide +kernel
theorem dX8_addLayer_142 : decode cX8_addLayer 142 = .ok (.getfield 269, 3) := by decide +kernel
theorem dX8_addLayer_145 : decode cX8_addLayer 145 = .ok (.iconst 1, 1) := by decide +kernel
theorem dX8_addLayer_146 : decode cX8_addLayer 146 = .ok (.isub, 1) := by decide +kernel
theorem dX8_addLayer_147 : decode cX8_addLayer 147 = .ok (.putfield 269, 3) := by decide +kernel
theorem dX8_addLayer_150 : decode cX8_addLayer 150 = .ok (.aload 4, 2) := by decide +kernel
theorem dX8_addLayer_152 : decode cX8_addLayer 152 = .ok (.getfield 269, 3) := by decide +kernel
theorem dX8_addLayer_155 : decode cX8_addLayer 155 = .ok (.ifCond .ne 9, 3) := by decide +kernel
theorem dX8_addLayer_158 : decode cX8_addLayer 158 = .ok (.aload_n 0, 1) := by decide +kernel
theorem dX8_addLayer_159 : decode cX8_addLayer 159 = .ok (.aload 4, 2) := by decide +kernel
theorem dX8_addLayer_161 : decode cX8_addLayer 161 = .ok (.invokevirtual 272, 3) := by decide +kernel
theorem dX8_addLayer_164 : decode cX8_addLayer 164 = .ok (.return_, 1) := by decide +kernel
theorem dX8_finish_0 : decode cX8_finish 0 = .ok (.aload_n 1, 1) := by decide +kernel
theorem dX8_finish_1 : decode cX8_finish 1 = .ok (.aload_n 0, 1) := by decide +kernel
theorem dX8_finish_2 : decode cX8_finish 2 = .ok (.getfield 92, 3) := by decide +kernel
theorem dX8_finish_5 : decode cX8_finish 5 = .ok (.putfield 211, 3) := by decide +kernel
theorem dX8_finish_8 : decode cX8_finish 8 = .ok (.aload_n 0, 1) := by decide +kernel
theorem dX8_finish_9 : decode cX8_finish 9 = .ok (.dup, 1) := by decide +kernel
theorem dX8_finish_10 : decode cX8_finish 10 = .ok (.getfield 232, 3) := by decide +kernel
theorem dX8_finish_13 : decode cX8_finish 13 = .ok (.iconst 1, 1) := by decide +kernel
theorem dX8_finish_14 : decode cX8_finish 14 = .ok (.iadd, 1) := by decide +kernel
theorem dX8_finish_15 : decode cX8_finish 15 = .ok (.putfield 232, 3) := by decide +kernel
theorem dX8_finish_18 : decode cX8_finish 18 = .ok (.aload_n 0, 1) := by decide +kernel
theorem dX8_finish_19 : decode cX8_finish 19 = .ok (.aload_n 1, 1) := by decide +kernel
theorem dX8_finish_20 : decode cX8_finish 20 = .ok (.getfield 128, 3) := by decide +kernel
theorem dX8_finish_23 : decode cX8_finish 23 = .ok (.invokevirtual 81, 3) := by decide +kernel
theorem dX8_finish_26 : decode cX8_finish 26 = .ok (.astore_n 2, 1) := by decide +kernel
theorem dX8_finish_27 : decode cX8_finish 27 = .ok (.aload_n 2, 1) := by decide +kernel
theorem dX8_finish_28 : decode cX8_finish 28 = .ok (.ifnull 23, 3) := by decide +kernel
theorem dX8_finish_31 : decode cX8_finish 31 = .ok (.aload_n 2, 1) := by decide +kernel
theorem dX8_finish_32 : decode cX8_finish 32 = .ok (.dup, 1) := by decide +kernel
theorem dX8_finish_33 : decode cX8_finish 33 = .ok (.getfield 105, 3) := by decide +kernel
theorem dX8_finish_36 : decode cX8_finish 36 = .ok (.aload_n 1, 1) := by decide +kernel
theorem dX8_finish_37 : decode cX8_finish 37 = .ok (.getfield 205, 3) := by decide +kernel
theorem dX8_finish_40 : decode cX8_finish 40 = .ok (.aload_n 1, 1) := by decide +kernel
theorem dX8_finish_41 : decode cX8_finish 41 = .ok (.getfield 205, 3) := by decide +kernel
theorem dX8_finish_44 : decode cX8_finish 44 = .ok (.iconst 2, 1) := by decide +kernel
theorem dX8_finish_45 : decode cX8_finish 45 = .ok (.idiv, 1) := by decide +kernel
theorem dX8_finish_46 : decode cX8_finish 46 = .ok (.isub, 1) := by decide +kernel
theorem dX8_finish_47 : decode cX8_finish 47 = .ok (.iadd, 1) := by decide +kernel
theorem dX8_finish_48 : decode cX8_finish 48 = .ok (.putfield 105, 3) := by decide +kernel
theorem dX8_finish_51 : decode cX8_finish 51 = .ok (.return_, 1) := by decide +kernel
theorem dX8_makePlan_0 : decode cX8_makePlan 0 = .ok (.aload_n 0, 1) := by decide +kernel
theorem dX8_makePlan_1 : decode cX8_makePlan 1 = .ok (.iload_n 1, 1) := by decide +kernel
theorem dX8_makePlan_2 : decode cX8_makePlan 2 = .ok (.invokevirtual 125, 3) := by decide +kernel
theorem dX8_makePlan_5 : decode cX8_makePlan 5 = .ok (.ifCond .ne 5, 3) := by decide +kernel
theorem dX8_makePlan_8 : decode cX8_makePlan 8 = .ok (.iconst 0, 1) := by decide +kernel
theorem dX8_makePlan_9 : decode cX8_makePlan 9 = .ok (.ireturn, 1) := by decide +kernel
theorem dX8_makePlan_10 : decode cX8_makePlan 10 = .ok (.aload_n 0, 1) := by decide +kernel
theorem dX8_makePlan_11 : decode cX8_makePlan 11 = .ok (.getfield 55, 3) := by decide +kernel
theorem dX8_makePlan_14 : decode cX8_makePlan 14 = .ok (.invokevirtual 276, 3) := by decide +kernel
theorem dX8_makePlan_17 : decode cX8_makePlan 17 = .ok (.iconst 0, 1) := by decide +kernel
theorem dX8_makePlan_18 : decode cX8_makePlan 18 = .ok (.istore_n 2, 1) := by decide +kernel
theorem dX8_makePlan_19 : decode cX8_makePlan 19 = .ok (.iload_n 2, 1) := by decide +kernel
theorem dX8_makePlan_20 : decode cX8_makePlan 20 = .ok (.aload_n 0, 1) := by decide +kernel
theorem dX8_makePlan_21 : decode cX8_makePlan 21 = .ok (.getfield 89, 3) := by decide +kernel
theorem dX8_makePlan_24 : decode cX8_makePlan 24 = .ok (.if_icmp .ge 82, 3) := by decide +kernel
theorem dX8_makePlan_27 : decode cX8_makePlan 27 = .ok (.aload_n 0, 1) := by decide +kernel
theorem dX8_makePlan_28 : decode cX8_makePlan 28 = .ok (.iload_n 2, 1) := by decide +kernel
theorem dX8_makePlan_29 : decode cX8_makePlan 29 = .ok (.invokevirtual 117, 3) := by decide +kernel
theorem dX8_makePlan_32 : decode cX8_makePlan 32 = .ok (.astore_n 3, 1) := by decide +kernel
theorem dX8_makePlan_33 : decode cX8_makePlan 33 = .ok (.aload_n 3, 1) := by decide +kernel
theorem dX8_makePlan_34 : decode cX8_makePlan 34 = .ok (.ifnull 66, 3) := by decide +kernel
theorem dX8_makePlan_37 : decode cX8_makePlan 37 = .ok (.aload_n 3, 1) := by decide +kernel
theorem dX8_makePlan_38 : decode cX8_makePlan 38 = .ok (.invokevirtual 279, 3) := by decide +kernel
theorem dX8_makePlan_41 : decode cX8_makePlan 41 = .ok (.ifCond .eq 59, 3) := by decide +kernel
theorem dX8_makePlan_44 : decode cX8_makePlan 44 = .ok (.aload_n 0, 1) := by decide +kernel
theorem dX8_makePlan_45 : decode cX8_makePlan 45 = .ok (.getfield 41, 3) := by decide +kernel
theorem dX8_makePlan_48 : decode cX8_makePlan 48 = .ok (.iload_n 1, 1) := by decide +kernel
theorem dX8_makePlan_49 : decode cX8_makePlan 49 = .ok (.aload_n 3, 1) := by decide +kernel
theorem dX8_makePlan_50 : decode cX8_makePlan 50 = .ok (.getfield 128, 3) := by decide +kernel
theorem dX8_makePlan_53 : decode cX8_makePlan 53 = .ok (.invokevirtual 137, 3) := by decide +kernel
theorem dX8_makePlan_56 : decode cX8_makePlan 56 = .ok (.ifCond .ne 44, 3) := by decide +kernel
theorem dX8_makePlan_59 : decode cX8_makePlan 59 = .ok (.iconst 1, 1) := by decide +kernel
theorem dX8_makePlan_60 : decode cX8_makePlan 60 = .ok (.aload_n 0, 1) := by decide +kernel
theorem dX8_makePlan_61 : decode cX8_makePlan 61 = .ok (.getfield 92, 3) := by decide +kernel
theorem dX8_makePlan_64 : decode cX8_makePlan 64 = .ok (.iadd, 1) := by decide +kernel
theorem dX8_makePlan_65 : decode cX8_makePlan 65 = .ok (.aload_n 3, 1) := by decide +kernel
theorem dX8_makePlan_66 : decode cX8_makePlan 66 = .ok (.getfield 208, 3) := by decide +kernel
theorem dX8_makePlan_69 : decode cX8_makePlan 69 = .ok (.isub, 1) := by decide +kernel
theorem dX8_makePlan_70 : decode cX8_makePlan 70 = .ok (.istore 4, 2) := by decide +kernel
theorem dX8_makePlan_72 : decode cX8_makePlan 72 = .ok (.aload_n 0, 1) := by decide +kernel
theorem dX8_makePlan_73 : decode cX8_makePlan 73 = .ok (.getfield 55, 3) := by decide +kernel
theorem dX8_makePlan_76 : decode cX8_makePlan 76 = .ok (.iload_n 2, 1) := by decide +kernel
theorem dX8_makePlan_77 : decode cX8_makePlan 77 = .ok (.aload_n 3, 1) := by decide +kernel
theorem dX8_makePlan_78 : decode cX8_makePlan 78 = .ok (.getfield 128, 3) := by decide +kernel
theorem dX8_makePlan_81 : decode cX8_makePlan 81 = .ok (.aload_n 0, 1) := by decide +kernel
theorem dX8_makePlan_82 : decode cX8_makePlan 82 = .ok (.aload_n 3, 1) := by decide +kernel
theorem dX8_makePlan_83 : decode cX8_makePlan 83 = .ok (.getfield 128, 3) := by decide +kernel
theorem dX8_makePlan_86 : decode cX8_makePlan 86 = .ok (.iload_n 1, 1) := by decide +kernel
theorem dX8_makePlan_87 : decode cX8_makePlan 87 = .ok (.invokevirtual 282, 3) := by decide +kernel
theorem dX8_makePlan_90 : decode cX8_makePlan 90 = .ok (.iload 4, 2) := by decide +kernel
theorem dX8_makePlan_92 : decode cX8_makePlan 92 = .ok (.invokevirtual 285, 3) := by decide +kernel
theorem dX8_makePlan_95 : decode cX8_makePlan 95 = .ok (.ifCond .ne 5, 3) := by decide +kernel
theorem dX8_makePlan_98 : decode cX8_makePlan 98 = .ok (.iconst 0, 1) := by decide +kernel
theorem dX8_makePlan_99 : decode cX8_makePlan 99 = .ok (.ireturn, 1) := by decide +kernel
theorem dX8_makePlan_100 : decode cX8_makePlan 100 = .ok (.iinc 2 1, 3) := by decide +kernel
theorem dX8_makePlan_103 : decode cX8_makePlan 103 = .ok (.goto (-84), 3) := by decide +kernel
theorem dX8_makePlan_106 : decode cX8_makePlan 106 = .ok (.aload_n 0, 1) := by decide +kernel
theorem dX8_makePlan_107 : decode cX8_makePlan 107 = .ok (.getfield 55, 3) := by decide +kernel
theorem dX8_makePlan_110 : decode cX8_makePlan 110 = .ok (.getfield 286, 3) := by decide +kernel
theorem dX8_makePlan_113 : decode cX8_makePlan 113 = .ok (.ifCond .ne 5, 3) := by decide +kernel
theorem dX8_makePlan_116 : decode cX8_makePlan 116 = .ok (.iconst 0, 1) := by decide +kernel
theorem dX8_makePlan_117 : decode cX8_makePlan 117 = .ok (.ireturn, 1) := by decide +kernel
theorem dX8_makePlan_118 : decode cX8_makePlan 118 = .ok (.aload_n 0, 1) := by decide +kernel
theorem dX8_makePlan_119 : decode cX8_makePlan 119 = .ok (.getfield 55, 3) := by decide +kernel
theorem dX8_makePlan_122 : decode cX8_makePlan 122 = .ok (.iconst 0, 1) := by decide +kernel
theorem dX8_makePlan_123 : decode cX8_makePlan 123 = .ok (.iconst 0, 1) := by decide +kernel
theorem dX8_makePlan_124 : decode cX8_makePlan 124 = .ok (.iconst 0, 1) := by decide +kernel
theorem dX8_makePlan_125 : decode cX8_makePlan 125 = .ok (.aload_n 0, 1) := by decide +kernel
theorem dX8_makePlan_126 : decode cX8_makePlan 126 = .ok (.getfield 55, 3) := by decide +kernel
theorem dX8_makePlan_129 : decode cX8_makePlan 129 = .ok (.getfield 289, 3) := by decide +kernel
theorem dX8_makePlan_132 : decode cX8_makePlan 132 = .ok (.invokestatic 292, 3) := by decide +kernel
theorem dX8_makePlan_135 : decode cX8_makePlan 135 = .ok (.iconst 1, 1) := by decide +kernel
theorem dX8_makePlan_136 : decode cX8_makePlan 136 = .ok (.ireturn, 1) := by decide +kernel
theorem dX8_hoursFor_0 : decode cX8_hoursFor 0 = .ok (.aload_n 0, 1) := by decide +kernel
theorem dX8_hoursFor_1 : decode cX8_hoursFor 1 = .ok (.iload_n 1, 1) := by decide +kernel
theorem dX8_hoursFor_2 : decode cX8_hoursFor 2 = .ok (.invokevirtual 81, 3) := by decide +kernel
theorem dX8_hoursFor_5 : decode cX8_hoursFor 5 = .ok (.astore_n 3, 1) := by decide +kernel
theorem dX8_hoursFor_6 : decode cX8_hoursFor 6 = .ok (.iconst 0, 1) := by decide +kernel
theorem dX8_hoursFor_7 : decode cX8_hoursFor 7 = .ok (.istore 4, 2) := by decide +kernel
theorem dX8_hoursFor_9 : decode cX8_hoursFor 9 = .ok (.iload_n 2, 1) := by decide +kernel
theorem dX8_hoursFor_10 : decode cX8_hoursFor 10 = .ok (.invokestatic 113, 3) := by decide +kernel
theorem dX8_hoursFor_13 : decode cX8_hoursFor 13 = .ok (.istore 5, 2) := by decide +kernel
theorem dX8_hoursFor_15 : decode cX8_hoursFor 15 = .ok (.iconst 0, 1) := by decide +kernel
theorem dX8_hoursFor_16 : decode cX8_hoursFor 16 = .ok (.istore 6, 2) := by decide +kernel
theorem dX8_hoursFor_18 : decode cX8_hoursFor 18 = .ok (.iload 6, 2) := by decide +kernel
theorem dX8_hoursFor_20 : decode cX8_hoursFor 20 = .ok (.iload 5, 2) := by decide +kernel
theorem dX8_hoursFor_22 : decode cX8_hoursFor 22 = .ok (.if_icmp .ge 44, 3) := by decide +kernel
theorem dX8_hoursFor_25 : decode cX8_hoursFor 25 = .ok (.aload_n 3, 1) := by decide +kernel
theorem dX8_hoursFor_26 : decode cX8_hoursFor 26 = .ok (.ifnull 34, 3) := by decide +kernel
theorem dX8_hoursFor_29 : decode cX8_hoursFor 29 = .ok (.aload_n 3, 1) := by decide +kernel
theorem dX8_hoursFor_30 : decode cX8_hoursFor 30 = .ok (.iload 6, 2) := by decide +kernel
theorem dX8_hoursFor_32 : decode cX8_hoursFor 32 = .ok (.invokevirtual 131, 3) := by decide +kernel
theorem dX8_hoursFor_35 : decode cX8_hoursFor 35 = .ok (.ifCond .eq 25, 3) := by decide +kernel
theorem dX8_hoursFor_38 : decode cX8_hoursFor 38 = .ok (.aload_n 0, 1) := by decide +kernel
theorem dX8_hoursFor_39 : decode cX8_hoursFor 39 = .ok (.getfield 41, 3) := by decide +kernel
theorem dX8_hoursFor_42 : decode cX8_hoursFor 42 = .ok (.iload_n 2, 1) := by decide +kernel
theorem dX8_hoursFor_43 : decode cX8_hoursFor 43 = .ok (.iload 6, 2) := by decide +kernel
theorem dX8_hoursFor_45 : decode cX8_hoursFor 45 = .ok (.invokevirtual 134, 3) := by decide +kernel
theorem dX8_hoursFor_48 : decode cX8_hoursFor 48 = .ok (.ifCond .ne 12, 3) := by decide +kernel
theorem dX8_hoursFor_51 : decode cX8_hoursFor 51 = .ok (.iload 4, 2) := by decide +kernel
theorem dX8_hoursFor_53 : decode cX8_hoursFor 53 = .ok (.iconst 1, 1) := by decide +kernel
theorem dX8_hoursFor_54 : decode cX8_hoursFor 54 = .ok (.iload 6, 2) := by decide +kernel
theorem dX8_hoursFor_56 : decode cX8_hoursFor 56 = .ok (.ishl, 1) := by decide +kernel
theorem dX8_hoursFor_57 : decode cX8_hoursFor 57 = .ok (.ior, 1) := by decide +kernel
theorem dX8_hoursFor_58 : decode cX8_hoursFor 58 = .ok (.istore 4, 2) := by decide +kernel
theorem dX8_hoursFor_60 : decode cX8_hoursFor 60 = .ok (.iinc 6 1, 3) := by decide +kernel
theorem dX8_hoursFor_63 : decode cX8_hoursFor 63 = .ok (.goto (-45), 3) := by decide +kernel
theorem dX8_hoursFor_66 : decode cX8_hoursFor 66 = .ok (.iload 4, 2) := by decide +kernel
theorem dX8_hoursFor_68 : decode cX8_hoursFor 68 = .ok (.ireturn, 1) := by decide +kernel
theorem dX8_search_0 : decode cX8_search 0 = .ok (.iload_n 3, 1) := by decide +kernel
theorem dX8_search_1 : decode cX8_search 1 = .ok (.iload 4, 2) := by decide +kernel
theorem dX8_search_3 : decode cX8_search 3 = .ok (.iadd, 1) := by decide +kernel
theorem dX8_search_4 : decode cX8_search 4 = .ok (.aload_n 0, 1) := by decide +kernel
theorem dX8_search_5 : decode cX8_search 5 = .ok (.getfield 170, 3) := by decide +kernel
theorem dX8_search_8 : decode cX8_search 8 = .ok (.if_icmp .gt 4, 3) := by decide +kernel
theorem dX8_search_11 : decode cX8_search 11 = .ok (.return_, 1) := by decide +kernel
theorem dX8_search_12 : decode cX8_search 12 = .ok (.iload_n 1, 1) := by decide +kernel
theorem dX8_search_13 : decode cX8_search 13 = .ok (.aload_n 0, 1) := by decide +kernel
theorem dX8_search_14 : decode cX8_search 14 = .ok (.getfield 286, 3) := by decide +kernel
theorem dX8_search_17 : decode cX8_search 17 = .ok (.if_icmp .ge 8, 3) := by decide +kernel
theorem dX8_search_20 : decode cX8_search 20 = .ok (.iload_n 1, 1) := by decide +kernel
theorem dX8_search_21 : decode cX8_search 21 = .ok (.iconst 5, 1) := by decide +kernel
theorem dX8_search_22 : decode cX8_search 22 = .ok (.if_icmp .lt 9, 3) := by decide +kernel
theorem dX8_search_25 : decode cX8_search 25 = .ok (.aload_n 0, 1) := by decide +kernel
theorem dX8_search_26 : decode cX8_search 26 = .ok (.iload_n 3, 1) := by decide +kernel
theorem dX8_search_27 : decode cX8_search 27 = .ok (.invokevirtual 296, 3) := by decide +kernel
theorem dX8_search_30 : decode cX8_search 30 = .ok (.return_, 1) := by decide +kernel
theorem dX8_search_31 : decode cX8_search 31 = .ok (.aload_n 0, 1) := by decide +kernel
theorem dX8_search_32 : decode cX8_search 32 = .ok (.getfield 299, 3) := by decide +kernel
theorem dX8_search_35 : decode cX8_search 35 = .ok (.iload_n 1, 1) := by decide +kernel
theorem dX8_search_36 : decode cX8_search 36 = .ok (.iaload, 1) := by decide +kernel
theorem dX8_search_37 : decode cX8_search 37 = .ok (.istore 5, 2) := by decide +kernel
theorem dX8_search_39 : decode cX8_search 39 = .ok (.aload_n 0, 1) := by decide +kernel
theorem dX8_search_40 : decode cX8_search 40 = .ok (.iload_n 1, 1) := by decide +kernel
theorem dX8_search_41 : decode cX8_search 41 = .ok (.invokevirtual 302, 3) := by decide +kernel
theorem dX8_search_44 : decode cX8_search 44 = .ok (.ifCond .eq 7, 3) := by decide +kernel
theorem dX8_search_47 : decode cX8_search 47 = .ok (.iconst 0, 1) := by decide +kernel
theorem dX8_search_48 : decode cX8_search 48 = .ok (.goto 13, 3) := by decide +kernel
theorem dX8_search_51 : decode cX8_search 51 = .ok (.aload_n 0, 1) := by decide +kernel
theorem dX8_search_52 : decode cX8_search 52 = .ok (.getfield 305, 3) := by decide +kernel
theorem dX8_search_55 : decode cX8_search 55 = .ok (.iload_n 1, 1) := by decide +kernel
theorem dX8_search_56 : decode cX8_search 56 = .ok (.iaload, 1) := by decide +kernel
theorem dX8_search_57 : decode cX8_search 57 = .ok (.iload_n 2, 1) := by decide +kernel
theorem dX8_search_58 : decode cX8_search 58 = .ok (.iconst (-1), 1) := by decide +kernel
theorem dX8_search_59 : decode cX8_search 59 = .ok (.ixor, 1) := by decide +kernel
theorem dX8_search_60 : decode cX8_search 60 = .ok (.iand, 1) := by decide +kernel
theorem dX8_search_61 : decode cX8_search 61 = .ok (.istore 6, 2) := by decide +kernel
theorem dX8_search_63 : decode cX8_search 63 = .ok (.iconst 0, 1) := by decide +kernel
theorem dX8_search_64 : decode cX8_search 64 = .ok (.istore 7, 2) := by decide +kernel
theorem dX8_search_66 : decode cX8_search 66 = .ok (.iload 7, 2) := by decide +kernel
theorem dX8_search_68 : decode cX8_search 68 = .ok (.bipush 6, 2) := by decide +kernel
theorem dX8_search_70 : decode cX8_search 70 = .ok (.if_icmp .ge 51, 3) := by decide +kernel
theorem dX8_search_73 : decode cX8_search 73 = .ok (.iconst 1, 1) := by decide +kernel
theorem dX8_search_74 : decode cX8_search 74 = .ok (.iload 7, 2) := by decide +kernel
theorem dX8_search_76 : decode cX8_search 76 = .ok (.ishl, 1) := by decide +kernel
theorem dX8_search_77 : decode cX8_search 77 = .ok (.istore 8, 2) := by decide +kernel
theorem dX8_search_79 : decode cX8_search 79 = .ok (.iload 6, 2) := by decide +kernel
theorem dX8_search_81 : decode cX8_search 81 = .ok (.iload 8, 2) := by decide +kernel
theorem dX8_search_83 : decode cX8_search 83 = .ok (.iand, 1) := by decide +kernel
theorem dX8_search_84 : decode cX8_search 84 = .ok (.ifCond .eq 31, 3) := by decide +kernel
theorem dX8_search_87 : decode cX8_search 87 = .ok (.aload_n 0, 1) := by decide +kernel
theorem dX8_search_88 : decode cX8_search 88 = .ok (.getfield 308, 3) := by decide +kernel
theorem dX8_search_91 : decode cX8_search 91 = .ok (.iload_n 1, 1) := by decide +kernel
theorem dX8_search_92 : decode cX8_search 92 = .ok (.iload 7, 2) := by decide +kernel
theorem dX8_search_94 : decode cX8_search 94 = .ok (.iastore, 1) := by decide +kernel
theorem dX8_search_95 : decode cX8_search 95 = .ok (.aload_n 0, 1) := by decide +kernel
theorem dX8_search_96 : decode cX8_search 96 = .ok (.iload_n 1, 1) := by decide +kernel
theorem dX8_search_97 : decode cX8_search 97 = .ok (.iconst 1, 1) := by decide +kernel
theorem dX8_search_98 : decode cX8_search 98 = .ok (.iadd, 1) := by decide +kernel
theorem dX8_search_99 : decode cX8_search 99 = .ok (.iload_n 2, 1) := by decide +kernel
theorem dX8_search_100 : decode cX8_search 100 = .ok (.iload 8, 2) := by decide +kernel
theorem dX8_search_102 : decode cX8_search 102 = .ok (.ior, 1) := by decide +kernel
theorem dX8_search_103 : decode cX8_search 103 = .ok (.iload_n 3, 1) := by decide +kernel
theorem dX8_search_104 : decode cX8_search 104 = .ok (.iload 5, 2) := by decide +kernel
theorem dX8_search_106 : decode cX8_search 106 = .ok (.iadd, 1) := by decide +kernel
theorem dX8_search_107 : decode cX8_search 107 = .ok (.iload 4, 2) := by decide +kernel
theorem dX8_search_109 : decode cX8_search 109 = .ok (.iload 5, 2) := by decide +kernel
theorem dX8_search_111 : decode cX8_search 111 = .ok (.isub, 1) := by decide +kernel
theorem dX8_search_112 : decode cX8_search 112 = .ok (.invokestatic 292, 3) := by decide +kernel
theorem dX8_search_115 : decode cX8_search 115 = .ok (.iinc 7 1, 3) := by decide +kernel
theorem dX8_search_118 : decode cX8_search 118 = .ok (.goto (-52), 3) := by decide +kernel
theorem dX8_search_121 : decode cX8_search 121 = .ok (.aload_n 0, 1) := by decide +kernel
theorem dX8_search_122 : decode cX8_search 122 = .ok (.getfield 308, 3) := by decide +kernel
theorem dX8_search_125 : decode cX8_search 125 = .ok (.iload_n 1, 1) := by decide +kernel
theorem dX8_search_126 : decode cX8_search 126 = .ok (.iconst (-1), 1) := by decide +kernel
theorem dX8_search_127 : decode cX8_search 127 = .ok (.iastore, 1) := by decide +kernel
theorem dX8_search_128 : decode cX8_search 128 = .ok (.aload_n 0, 1) := by decide +kernel
theorem dX8_search_129 : decode cX8_search 129 = .ok (.iload_n 1, 1) := by decide +kernel
theorem dX8_search_130 : decode cX8_search 130 = .ok (.iconst 1, 1) := by decide +kernel
theorem dX8_search_131 : decode cX8_search 131 = .ok (.iadd, 1) := by decide +kernel
theorem dX8_search_132 : decode cX8_search 132 = .ok (.iload_n 2, 1) := by decide +kernel
theorem dX8_search_133 : decode cX8_search 133 = .ok (.iload_n 3, 1) := by decide +kernel
theorem dX8_search_134 : decode cX8_search 134 = .ok (.iload 4, 2) := by decide +kernel
theorem dX8_search_136 : decode cX8_search 136 = .ok (.iload 5, 2) := by decide +kernel
theorem dX8_search_138 : decode cX8_search 138 = .ok (.isub, 1) := by decide +kernel
theorem dX8_search_139 : decode cX8_search 139 = .ok (.invokestatic 292, 3) := by decide +kernel
theorem dX8_search_142 : decode cX8_search 142 = .ok (.return_, 1) := by decide +kernel
theorem dX8_nearestTraced_0 : decode cX8_nearestTraced 0 = .ok (.aload_n 0, 1) := by decide +kernel
theorem dX8_nearestTraced_1 : decode cX8_nearestTraced 1 = .ok (.iload_n 1, 1) := by decide +kernel
theorem dX8_nearestTraced_2 : decode cX8_nearestTraced 2 = .ok (.invokevirtual 117, 3) := by decide +kernel
theorem dX8_nearestTraced_5 : decode cX8_nearestTraced 5 = .ok (.astore_n 3, 1) := by decide +kernel
theorem dX8_nearestTraced_6 : decode cX8_nearestTraced 6 = .ok (.aload_n 3, 1) := by decide +kernel
theorem dX8_nearestTraced_7 : decode cX8_nearestTraced 7 = .ok (.ifnull 11, 3) := by decide +kernel
theorem dX8_nearestTraced_10 : decode cX8_nearestTraced 10 = .ok (.aload_n 3, 1) := by decide +kernel
theorem dX8_nearestTraced_11 : decode cX8_nearestTraced 11 = .ok (.getfield 174, 3) := by decide +kernel
theorem dX8_nearestTraced_14 : decode cX8_nearestTraced 14 = .ok (.iconst (-1), 1) := by decide +kernel
theorem dX8_nearestTraced_15 : decode cX8_nearestTraced 15 = .ok (.if_icmp .ne 5, 3) := by decide +kernel
theorem dX8_nearestTraced_18 : decode cX8_nearestTraced 18 = .ok (.iconst (-1), 1) := by decide +kernel
theorem dX8_nearestTraced_19 : decode cX8_nearestTraced 19 = .ok (.ireturn, 1) := by decide +kernel
theorem dX8_nearestTraced_20 : decode cX8_nearestTraced 20 = .ok (.iconst (-1), 1) := by decide +kernel
theorem dX8_nearestTraced_21 : decode cX8_nearestTraced 21 = .ok (.istore 4, 2) := by decide +kernel
theorem dX8_nearestTraced_23 : decode cX8_nearestTraced 23 = .ok (.iconst 0, 1) := by decide +kernel
theorem dX8_nearestTraced_24 : decode cX8_nearestTraced 24 = .ok (.istore 5, 2) := by decide +kernel
theorem dX8_nearestTraced_26 : decode cX8_nearestTraced 26 = .ok (.iconst 0, 1) := by decide +kernel
theorem dX8_nearestTraced_27 : decode cX8_nearestTraced 27 = .ok (.istore 6, 2) := by decide +kernel
theorem dX8_nearestTraced_29 : decode cX8_nearestTraced 29 = .ok (.iload 6, 2) := by decide +kernel
theorem dX8_nearestTraced_31 : decode cX8_nearestTraced 31 = .ok (.iload_n 1, 1) := by decide +kernel
theorem dX8_nearestTraced_32 : decode cX8_nearestTraced 32 = .ok (.if_icmp .ge 51, 3) := by decide +kernel
theorem dX8_nearestTraced_35 : decode cX8_nearestTraced 35 = .ok (.aload_n 0, 1) := by decide +kernel
theorem dX8_nearestTraced_36 : decode cX8_nearestTraced 36 = .ok (.iload_n 1, 1) := by decide +kernel
theorem dX8_nearestTraced_37 : decode cX8_nearestTraced 37 = .ok (.iload 6, 2) := by decide +kernel
theorem dX8_nearestTraced_39 : decode cX8_nearestTraced 39 = .ok (.invokevirtual 180, 3) := by decide +kernel
theorem dX8_nearestTraced_42 : decode cX8_nearestTraced 42 = .ok (.istore 7, 2) := by decide +kernel
theorem dX8_nearestTraced_44 : decode cX8_nearestTraced 44 = .ok (.iload 6, 2) := by decide +kernel
theorem dX8_nearestTraced_46 : decode cX8_nearestTraced 46 = .ok (.iload_n 2, 1) := by decide +kernel
theorem dX8_nearestTraced_47 : decode cX8_nearestTraced 47 = .ok (.if_icmp .eq 30, 3) := by decide +kernel
theorem dX8_nearestTraced_50 : decode cX8_nearestTraced 50 = .ok (.iload 7, 2) := by decide +kernel
theorem dX8_nearestTraced_52 : decode cX8_nearestTraced 52 = .ok (.iconst (-1), 1) := by decide +kernel
theorem dX8_nearestTraced_53 : decode cX8_nearestTraced 53 = .ok (.if_icmp .eq 24, 3) := by decide +kernel
theorem dX8_nearestTraced_56 : decode cX8_nearestTraced 56 = .ok (.iload 4, 2) := by decide +kernel
theorem dX8_nearestTraced_58 : decode cX8_nearestTraced 58 = .ok (.iconst (-1), 1) := by decide +kernel
theorem dX8_nearestTraced_59 : decode cX8_nearestTraced 59 = .ok (.if_icmp .eq 10, 3) := by decide +kernel
theorem dX8_nearestTraced_62 : decode cX8_nearestTraced 62 = .ok (.iload 7, 2) := by decide +kernel
theorem dX8_nearestTraced_64 : decode cX8_nearestTraced 64 = .ok (.iload 5, 2) := by decide +kernel
theorem dX8_nearestTraced_66 : decode cX8_nearestTraced 66 = .ok (.if_icmp .ge 11, 3) := by decide +kernel
theorem dX8_nearestTraced_69 : decode cX8_nearestTraced 69 = .ok (.iload 6, 2) := by decide +kernel
theorem dX8_nearestTraced_71 : decode cX8_nearestTraced 71 = .ok (.istore 4, 2) := by decide +kernel
theorem dX8_nearestTraced_73 : decode cX8_nearestTraced 73 = .ok (.iload 7, 2) := by decide +kernel
theorem dX8_nearestTraced_75 : decode cX8_nearestTraced 75 = .ok (.istore 5, 2) := by decide +kernel
theorem dX8_nearestTraced_77 : decode cX8_nearestTraced 77 = .ok (.iinc 6 1, 3) := by decide +kernel
theorem dX8_nearestTraced_80 : decode cX8_nearestTraced 80 = .ok (.goto (-51), 3) := by decide +kernel
theorem dX8_nearestTraced_83 : decode cX8_nearestTraced 83 = .ok (.iload 4, 2) := by decide +kernel
theorem dX8_nearestTraced_85 : decode cX8_nearestTraced 85 = .ok (.ireturn, 1) := by decide +kernel
theorem dX8_traceDistance_0 : decode cX8_traceDistance 0 = .ok (.aload_n 0, 1) := by decide +kernel
theorem dX8_traceDistance_1 : decode cX8_traceDistance 1 = .ok (.iload_n 1, 1) := by decide +kernel
theorem dX8_traceDistance_2 : decode cX8_traceDistance 2 = .ok (.invokevirtual 117, 3) := by decide +kernel
theorem dX8_traceDistance_5 : decode cX8_traceDistance 5 = .ok (.astore_n 3, 1) := by decide +kernel
theorem dX8_traceDistance_6 : decode cX8_traceDistance 6 = .ok (.aload_n 0, 1) := by decide +kernel
theorem dX8_traceDistance_7 : decode cX8_traceDistance 7 = .ok (.iload_n 2, 1) := by decide +kernel
theorem dX8_traceDistance_8 : decode cX8_traceDistance 8 = .ok (.invokevirtual 117, 3) := by decide +kernel
theorem dX8_traceDistance_11 : decode cX8_traceDistance 11 = .ok (.astore 4, 2) := by decide +kernel
theorem dX8_traceDistance_13 : decode cX8_traceDistance 13 = .ok (.aload_n 3, 1) := by decide +kernel
theorem dX8_traceDistance_14 : decode cX8_traceDistance 14 = .ok (.ifnull 25, 3) := by decide +kernel
theorem dX8_traceDistance_17 : decode cX8_traceDistance 17 = .ok (.aload 4, 2) := by decide +kernel
theorem dX8_traceDistance_19 : decode cX8_traceDistance 19 = .ok (.ifnull 20, 3) := by decide +kernel
theorem dX8_traceDistance_22 : decode cX8_traceDistance 22 = .ok (.aload_n 3, 1) := by decide +kernel
theorem dX8_traceDistance_23 : decode cX8_traceDistance 23 = .ok (.getfield 174, 3) := by decide +kernel
theorem dX8_traceDistance_26 : decode cX8_traceDistance 26 = .ok (.iconst (-1), 1) := by decide +kernel
theorem dX8_traceDistance_27 : decode cX8_traceDistance 27 = .ok (.if_icmp .eq 12, 3) := by decide +kernel
theorem dX8_traceDistance_30 : decode cX8_traceDistance 30 = .ok (.aload 4, 2) := by decide +kernel
theorem dX8_traceDistance_32 : decode cX8_traceDistance 32 = .ok (.getfield 174, 3) := by decide +kernel
theorem dX8_traceDistance_35 : decode cX8_traceDistance 35 = .ok (.iconst (-1), 1) := by decide +kernel
theorem dX8_traceDistance_36 : decode cX8_traceDistance 36 = .ok (.if_icmp .ne 5, 3) := by decide +kernel
theorem dX8_traceDistance_39 : decode cX8_traceDistance 39 = .ok (.iconst (-1), 1) := by decide +kernel
theorem dX8_traceDistance_40 : decode cX8_traceDistance 40 = .ok (.ireturn, 1) := by decide +kernel
theorem dX8_traceDistance_41 : decode cX8_traceDistance 41 = .ok (.aload_n 3, 1) := by decide +kernel
theorem dX8_traceDistance_42 : decode cX8_traceDistance 42 = .ok (.getfield 174, 3) := by decide +kernel
theorem dX8_traceDistance_45 : decode cX8_traceDistance 45 = .ok (.aload 4, 2) := by decide +kernel
theorem dX8_traceDistance_47 : decode cX8_traceDistance 47 = .ok (.getfield 174, 3) := by decide +kernel
theorem dX8_traceDistance_50 : decode cX8_traceDistance 50 = .ok (.ixor, 1) := by decide +kernel
theorem dX8_traceDistance_51 : decode cX8_traceDistance 51 = .ok (.invokestatic 311, 3) := by decide +kernel
theorem dX8_traceDistance_54 : decode cX8_traceDistance 54 = .ok (.ireturn, 1) := by decide +kernel
theorem dX8_nearestHand_0 : decode cX8_nearestHand 0 = .ok (.iconst (-1), 1) := by decide +kernel
theorem dX8_nearestHand_1 : decode cX8_nearestHand 1 = .ok (.istore_n 3, 1) := by decide +kernel
theorem dX8_nearestHand_2 : decode cX8_nearestHand 2 = .ok (.iconst 0, 1) := by decide +kernel
theorem dX8_nearestHand_3 : decode cX8_nearestHand 3 = .ok (.istore 4, 2) := by decide +kernel
theorem dX8_nearestHand_5 : decode cX8_nearestHand 5 = .ok (.iconst 0, 1) := by decide +kernel
theorem dX8_nearestHand_6 : decode cX8_nearestHand 6 = .ok (.istore 5, 2) := by decide +kernel
theorem dX8_nearestHand_8 : decode cX8_nearestHand 8 = .ok (.iload 5, 2) := by decide +kernel
theorem dX8_nearestHand_10 : decode cX8_nearestHand 10 = .ok (.aload_n 0, 1) := by decide +kernel
theorem dX8_nearestHand_11 : decode cX8_nearestHand 11 = .ok (.getfield 60, 3) := by decide +kernel
theorem dX8_nearestHand_14 : decode cX8_nearestHand 14 = .ok (.if_icmp .ge 49, 3) := by decide +kernel
theorem dX8_nearestHand_17 : decode cX8_nearestHand 17 = .ok (.aload_n 0, 1) := by decide +kernel
theorem dX8_nearestHand_18 : decode cX8_nearestHand 18 = .ok (.iload 5, 2) := by decide +kernel
theorem dX8_nearestHand_20 : decode cX8_nearestHand 20 = .ok (.iload_n 1, 1) := by decide +kernel
theorem dX8_nearestHand_21 : decode cX8_nearestHand 21 = .ok (.invokevirtual 202, 3) := by decide +kernel
theorem dX8_nearestHand_24 : decode cX8_nearestHand 24 = .ok (.istore 6, 2) := by decide +kernel
theorem dX8_nearestHand_26 : decode cX8_nearestHand 26 = .ok (.iload 5, 2) := by decide +kernel
theorem dX8_nearestHand_28 : decode cX8_nearestHand 28 = .ok (.iload_n 2, 1) := by decide +kernel
theorem dX8_nearestHand_29 : decode cX8_nearestHand 29 = .ok (.if_icmp .eq 28, 3) := by decide +kernel
theorem dX8_nearestHand_32 : decode cX8_nearestHand 32 = .ok (.iload 6, 2) := by decide +kernel
theorem dX8_nearestHand_34 : decode cX8_nearestHand 34 = .ok (.iconst (-1), 1) := by decide +kernel
theorem dX8_nearestHand_35 : decode cX8_nearestHand 35 = .ok (.if_icmp .eq 22, 3) := by decide +kernel
theorem dX8_nearestHand_38 : decode cX8_nearestHand 38 = .ok (.iload_n 3, 1) := by decide +kernel
theorem dX8_nearestHand_39 : decode cX8_nearestHand 39 = .ok (.iconst (-1), 1) := by decide +kernel
theorem dX8_nearestHand_40 : decode cX8_nearestHand 40 = .ok (.if_icmp .eq 10, 3) := by decide +kernel
theorem dX8_nearestHand_43 : decode cX8_nearestHand 43 = .ok (.iload 6, 2) := by decide +kernel
theorem dX8_nearestHand_45 : decode cX8_nearestHand 45 = .ok (.iload 4, 2) := by decide +kernel
theorem dX8_nearestHand_47 : decode cX8_nearestHand 47 = .ok (.if_icmp .ge 10, 3) := by decide +kernel
theorem dX8_nearestHand_50 : decode cX8_nearestHand 50 = .ok (.iload 5, 2) := by decide +kernel
theorem dX8_nearestHand_52 : decode cX8_nearestHand 52 = .ok (.istore_n 3, 1) := by decide +kernel
theorem dX8_nearestHand_53 : decode cX8_nearestHand 53 = .ok (.iload 6, 2) := by decide +kernel
theorem dX8_nearestHand_55 : decode cX8_nearestHand 55 = .ok (.istore 4, 2) := by decide +kernel
theorem dX8_nearestHand_57 : decode cX8_nearestHand 57 = .ok (.iinc 5 1, 3) := by decide +kernel
theorem dX8_nearestHand_60 : decode cX8_nearestHand 60 = .ok (.goto (-52), 3) := by decide +kernel
theorem dX8_nearestHand_63 : decode cX8_nearestHand 63 = .ok (.iload_n 3, 1) := by decide +kernel
theorem dX8_nearestHand_64 : decode cX8_nearestHand 64 = .ok (.ireturn, 1) := by decide +kernel
theorem dX8_habitDistance_0 : decode cX8_habitDistance 0 = .ok (.aload_n 0, 1) := by decide +kernel
theorem dX8_habitDistance_1 : decode cX8_habitDistance 1 = .ok (.iload_n 1, 1) := by decide +kernel
theorem dX8_habitDistance_2 : decode cX8_habitDistance 2 = .ok (.invokevirtual 183, 3) := by decide +kernel
theorem dX8_habitDistance_5 : decode cX8_habitDistance 5 = .ok (.astore_n 3, 1) := by decide +kernel
theorem dX8_habitDistance_6 : decode cX8_habitDistance 6 = .ok (.aload_n 3, 1) := by decide +kernel
theorem dX8_habitDistance_7 : decode cX8_habitDistance 7 = .ok (.ifnull 11, 3) := by decide +kernel
theorem dX8_habitDistance_10 : decode cX8_habitDistance 10 = .ok (.aload_n 3, 1) := by decide +kernel
theorem dX8_habitDistance_11 : decode cX8_habitDistance 11 = .ok (.getfield 187, 3) := by decide +kernel
theorem dX8_habitDistance_14 : decode cX8_habitDistance 14 = .ok (.iconst (-1), 1) := by decide +kernel
theorem dX8_habitDistance_15 : decode cX8_habitDistance 15 = .ok (.if_icmp .ne 5, 3) := by decide +kernel
theorem dX8_habitDistance_18 : decode cX8_habitDistance 18 = .ok (.iconst (-1), 1) := by decide +kernel
theorem dX8_habitDistance_19 : decode cX8_habitDistance 19 = .ok (.ireturn, 1) := by decide +kernel
theorem dX8_habitDistance_20 : decode cX8_habitDistance 20 = .ok (.iconst 0, 1) := by decide +kernel
theorem dX8_habitDistance_21 : decode cX8_habitDistance 21 = .ok (.istore 4, 2) := by decide +kernel
theorem dX8_habitDistance_23 : decode cX8_habitDistance 23 = .ok (.aload_n 3, 1) := by decide +kernel
theorem dX8_habitDistance_24 : decode cX8_habitDistance 24 = .ok (.getfield 187, 3) := by decide +kernel
theorem dX8_habitDistance_27 : decode cX8_habitDistance 27 = .ok (.istore 5, 2) := by decide +kernel
theorem dX8_habitDistance_29 : decode cX8_habitDistance 29 = .ok (.iload_n 2, 1) := by decide +kernel
theorem dX8_habitDistance_30 : decode cX8_habitDistance 30 = .ok (.istore 6, 2) := by decide +kernel
theorem dX8_habitDistance_32 : decode cX8_habitDistance 32 = .ok (.iconst 0, 1) := by decide +kernel
theorem dX8_habitDistance_33 : decode cX8_habitDistance 33 = .ok (.istore 7, 2) := by decide +kernel
theorem dX8_habitDistance_35 : decode cX8_habitDistance 35 = .ok (.iload 7, 2) := by decide +kernel
theorem dX8_habitDistance_37 : decode cX8_habitDistance 37 = .ok (.iconst 4, 1) := by decide +kernel
theorem dX8_habitDistance_38 : decode cX8_habitDistance 38 = .ok (.if_icmp .ge 46, 3) := by decide +kernel
theorem dX8_habitDistance_41 : decode cX8_habitDistance 41 = .ok (.iload 5, 2) := by decide +kernel
theorem dX8_habitDistance_43 : decode cX8_habitDistance 43 = .ok (.bipush 10, 2) := by decide +kernel
theorem dX8_habitDistance_45 : decode cX8_habitDistance 45 = .ok (.irem, 1) := by decide +kernel
theorem dX8_habitDistance_46 : decode cX8_habitDistance 46 = .ok (.iload 6, 2) := by decide +kernel
theorem dX8_habitDistance_48 : decode cX8_habitDistance 48 = .ok (.bipush 10, 2) := by decide +kernel
theorem dX8_habitDistance_50 : decode cX8_habitDistance 50 = .ok (.irem, 1) := by decide +kernel
theorem dX8_habitDistance_51 : decode cX8_habitDistance 51 = .ok (.isub, 1) := by decide +kernel
theorem dX8_habitDistance_52 : decode cX8_habitDistance 52 = .ok (.istore 8, 2) := by decide +kernel
theorem dX8_habitDistance_54 : decode cX8_habitDistance 54 = .ok (.iload 4, 2) := by decide +kernel
theorem dX8_habitDistance_56 : decode cX8_habitDistance 56 = .ok (.iload 8, 2) := by decide +kernel
theorem dX8_habitDistance_58 : decode cX8_habitDistance 58 = .ok (.iload 8, 2) := by decide +kernel
theorem dX8_habitDistance_60 : decode cX8_habitDistance 60 = .ok (.imul, 1) := by decide +kernel
theorem dX8_habitDistance_61 : decode cX8_habitDistance 61 = .ok (.iadd, 1) := by decide +kernel
theorem dX8_habitDistance_62 : decode cX8_habitDistance 62 = .ok (.istore 4, 2) := by decide +kernel
theorem dX8_habitDistance_64 : decode cX8_habitDistance 64 = .ok (.iload 5, 2) := by decide +kernel
theorem dX8_habitDistance_66 : decode cX8_habitDistance 66 = .ok (.bipush 10, 2) := by decide +kernel
theorem dX8_habitDistance_68 : decode cX8_habitDistance 68 = .ok (.idiv, 1) := by decide +kernel
theorem dX8_habitDistance_69 : decode cX8_habitDistance 69 = .ok (.istore 5, 2) := by decide +kernel
theorem dX8_habitDistance_71 : decode cX8_habitDistance 71 = .ok (.iload 6, 2) := by decide +kernel
theorem dX8_habitDistance_73 : decode cX8_habitDistance 73 = .ok (.bipush 10, 2) := by decide +kernel
theorem dX8_habitDistance_75 : decode cX8_habitDistance 75 = .ok (.idiv, 1) := by decide +kernel
theorem dX8_habitDistance_76 : decode cX8_habitDistance 76 = .ok (.istore 6, 2) := by decide +kernel
theorem dX8_habitDistance_78 : decode cX8_habitDistance 78 = .ok (.iinc 7 1, 3) := by decide +kernel
theorem dX8_habitDistance_81 : decode cX8_habitDistance 81 = .ok (.goto (-46), 3) := by decide +kernel
theorem dX8_habitDistance_84 : decode cX8_habitDistance 84 = .ok (.iload 4, 2) := by decide +kernel
theorem dX8_habitDistance_86 : decode cX8_habitDistance 86 = .ok (.ireturn, 1) := by decide +kernel
theorem dX9_init_0 : decode cX9_init 0 = .ok (.aload_n 0, 1) := by decide +kernel
theorem dX9_init_1 : decode cX9_init 1 = .ok (.invokespecial 1, 3) := by decide +kernel
theorem dX9_init_4 : decode cX9_init 4 = .ok (.aload_n 0, 1) := by decide +kernel
theorem dX9_init_5 : decode cX9_init 5 = .ok (.bipush 60, 2) := by decide +kernel
theorem dX9_init_7 : decode cX9_init 7 = .ok (.newarray .int, 2) := by decide +kernel
theorem dX9_init_9 : decode cX9_init 9 = .ok (.putfield 9, 3) := by decide +kernel
theorem dX9_init_12 : decode cX9_init 12 = .ok (.aload_n 0, 1) := by decide +kernel
theorem dX9_init_13 : decode cX9_init 13 = .ok (.bipush 60, 2) := by decide +kernel
theorem dX9_init_15 : decode cX9_init 15 = .ok (.newarray .int, 2) := by decide +kernel
theorem dX9_init_17 : decode cX9_init 17 = .ok (.putfield 13, 3) := by decide +kernel
theorem dX9_init_20 : decode cX9_init 20 = .ok (.aload_n 0, 1) := by decide +kernel
theorem dX9_init_21 : decode cX9_init 21 = .ok (.bipush 60, 2) := by decide +kernel
theorem dX9_init_23 : decode cX9_init 23 = .ok (.newarray .int, 2) := by decide +kernel
theorem dX9_init_25 : decode cX9_init 25 = .ok (.putfield 16, 3) := by decide +kernel
theorem dX9_init_28 : decode cX9_init 28 = .ok (.aload_n 0, 1) := by decide +kernel
theorem dX9_init_29 : decode cX9_init 29 = .ok (.iconst 5, 1) := by decide +kernel
theorem dX9_init_30 : decode cX9_init 30 = .ok (.newarray .int, 2) := by decide +kernel
theorem dX9_init_32 : decode cX9_init 32 = .ok (.putfield 19, 3) := by decide +kernel
theorem dX9_init_35 : decode cX9_init 35 = .ok (.aload_n 0, 1) := by decide +kernel
theorem dX9_init_36 : decode cX9_init 36 = .ok (.bipush 7, 2) := by decide +kernel
theorem dX9_init_38 : decode cX9_init 38 = .ok (.newarray .int, 2) := by decide +kernel
theorem dX9_init_40 : decode cX9_init 40 = .ok (.putfield 22, 3) := by decide +kernel
theorem dX9_init_43 : decode cX9_init 43 = .ok (.aload_n 0, 1) := by decide +kernel
theorem dX9_init_44 : decode cX9_init 44 = .ok (.bipush 7, 2) := by decide +kernel
theorem dX9_init_46 : decode cX9_init 46 = .ok (.newarray .int, 2) := by decide +kernel
theorem dX9_init_48 : decode cX9_init 48 = .ok (.putfield 25, 3) := by decide +kernel
theorem dX9_init_51 : decode cX9_init 51 = .ok (.aload_n 0, 1) := by decide +kernel
theorem dX9_init_52 : decode cX9_init 52 = .ok (.bipush 7, 2) := by decide +kernel
theorem dX9_init_54 : decode cX9_init 54 = .ok (.newarray .int, 2) := by decide +kernel
theorem dX9_init_56 : decode cX9_init 56 = .ok (.putfield 28, 3) := by decide +kernel
theorem dX9_init_59 : decode cX9_init 59 = .ok (.aload_n 0, 1) := by decide +kernel
theorem dX9_init_60 : decode cX9_init 60 = .ok (.iconst 1, 1) := by decide +kernel
theorem dX9_init_61 : decode cX9_init 61 = .ok (.putfield 31, 3) := by decide +kernel
theorem dX9_init_64 : decode cX9_init 64 = .ok (.aload_n 0, 1) := by decide +kernel
theorem dX9_init_65 : decode cX9_init 65 = .ok (.bipush 20, 2) := by decide +kernel
theorem dX9_init_67 : decode cX9_init 67 = .ok (.newarray .int, 2) := by decide +kernel
theorem dX9_init_69 : decode cX9_init 69 = .ok (.putfield 35, 3) := by decide +kernel
theorem dX9_init_72 : decode cX9_init 72 = .ok (.aload_n 0, 1) := by decide +kernel
theorem dX9_init_73 : decode cX9_init 73 = .ok (.bipush 20, 2) := by decide +kernel
theorem dX9_init_75 : decode cX9_init 75 = .ok (.newarray .int, 2) := by decide +kernel
theorem dX9_init_77 : decode cX9_init 77 = .ok (.putfield 38, 3) := by decide +kernel
theorem dX9_init_80 : decode cX9_init 80 = .ok (.aload_n 0, 1) := by decide +kernel
theorem dX9_init_81 : decode cX9_init 81 = .ok (.bipush 20, 2) := by decide +kernel
theorem dX9_init_83 : decode cX9_init 83 = .ok (.newarray .int, 2) := by decide +kernel
theorem dX9_init_85 : decode cX9_init 85 = .ok (.putfield 41, 3) := by decide +kernel
theorem dX9_init_88 : decode cX9_init 88 = .ok (.aload_n 0, 1) := by decide +kernel
theorem dX9_init_89 : decode cX9_init 89 = .ok (.bipush 40, 2) := by decide +kernel
theorem dX9_init_91 : decode cX9_init 91 = .ok (.newarray .int, 2) := by decide +kernel
theorem dX9_init_93 : decode cX9_init 93 = .ok (.putfield 44, 3) := by decide +kernel
theorem dX9_init_96 : decode cX9_init 96 = .ok (.aload_n 0, 1) := by decide +kernel
theorem dX9_init_97 : decode cX9_init 97 = .ok (.bipush 40, 2) := by decide +kernel
theorem dX9_init_99 : decode cX9_init 99 = .ok (.newarray .int, 2) := by decide +kernel
theorem dX9_init_101 : decode cX9_init 101 = .ok (.putfield 47, 3) := by decide +kernel
theorem dX9_init_104 : decode cX9_init 104 = .ok (.aload_n 0, 1) := by decide +kernel
theorem dX9_init_105 : decode cX9_init 105 = .ok (.bipush 40, 2) := by decide +kernel
theorem dX9_init_107 : decode cX9_init 107 = .ok (.newarray .int, 2) := by decide +kernel
theorem dX9_init_109 : decode cX9_init 109 = .ok (.putfield 50, 3) := by decide +kernel
theorem dX9_init_112 : decode cX9_init 112 = .ok (.aload_n 0, 1) := by decide +kernel
theorem dX9_init_113 : decode cX9_init 113 = .ok (.bipush 40, 2) := by decide +kernel
theorem dX9_init_115 : decode cX9_init 115 = .ok (.newarray .int, 2) := by decide +kernel
theorem dX9_init_117 : decode cX9_init 117 = .ok (.putfield 53, 3) := by decide +kernel
theorem dX9_init_120 : decode cX9_init 120 = .ok (.aload_n 0, 1) := by decide +kernel
theorem dX9_init_121 : decode cX9_init 121 = .ok (.bipush 40, 2) := by decide +kernel
theorem dX9_init_123 : decode cX9_init 123 = .ok (.newarray .int, 2) := by decide +kernel
theorem dX9_init_125 : decode cX9_init 125 = .ok (.putfield 56, 3) := by decide +kernel
theorem dX9_init_128 : decode cX9_init 128 = .ok (.aload_n 0, 1) := by decide +kernel
theorem dX9_init_129 : decode cX9_init 129 = .ok (.bipush 40, 2) := by decide +kernel
theorem dX9_init_131 : decode cX9_init 131 = .ok (.newarray .int, 2) := by decide +kernel
theorem dX9_init_133 : decode cX9_init 133 = .ok (.putfield 59, 3) := by decide +kernel
theorem dX9_init_136 : decode cX9_init 136 = .ok (.aload_n 0, 1) := by decide +kernel
theorem dX9_init_137 : decode cX9_init 137 = .ok (.bipush 40, 2) := by decide +kernel
theorem dX9_init_139 : decode cX9_init 139 = .ok (.iconst 5, 1) := by decide +kernel
theorem dX9_init_140 : decode cX9_init 140 = .ok (.multianewarray 62 2, 4) := by decide +kernel
theorem dX9_init_144 : decode cX9_init 144 = .ok (.putfield 64, 3) := by decide +kernel
theorem dX9_init_147 : decode cX9_init 147 = .ok (.aload_n 0, 1) := by decide +kernel
theorem dX9_init_148 : decode cX9_init 148 = .ok (.bipush 40, 2) := by decide +kernel
theorem dX9_init_150 : decode cX9_init 150 = .ok (.iconst 5, 1) := by decide +kernel
theorem dX9_init_151 : decode cX9_init 151 = .ok (.multianewarray 62 2, 4) := by decide +kernel
theorem dX9_init_155 : decode cX9_init 155 = .ok (.putfield 67, 3) := by decide +kernel
theorem dX9_init_158 : decode cX9_init 158 = .ok (.aload_n 0, 1) := by decide +kernel
theorem dX9_init_159 : decode cX9_init 159 = .ok (.bipush 40, 2) := by decide +kernel
theorem dX9_init_161 : decode cX9_init 161 = .ok (.iconst 5, 1) := by decide +kernel
theorem dX9_init_162 : decode cX9_init 162 = .ok (.multianewarray 62 2, 4) := by decide +kernel
theorem dX9_init_166 : decode cX9_init 166 = .ok (.putfield 70, 3) := by decide +kernel
theorem dX9_init_169 : decode cX9_init 169 = .ok (.aload_n 0, 1) := by decide +kernel
theorem dX9_init_170 : decode cX9_init 170 = .ok (.bipush 40, 2) := by decide +kernel
theorem dX9_init_172 : decode cX9_init 172 = .ok (.iconst 5, 1) := by decide +kernel
theorem dX9_init_173 : decode cX9_init 173 = .ok (.multianewarray 62 2, 4) := by decide +kernel
theorem dX9_init_177 : decode cX9_init 177 = .ok (.putfield 73, 3) := by decide +kernel
theorem dX9_init_180 : decode cX9_init 180 = .ok (.aload_n 0, 1) := by decide +kernel
theorem dX9_init_181 : decode cX9_init 181 = .ok (.bipush 40, 2) := by decide +kernel
theorem dX9_init_183 : decode cX9_init 183 = .ok (.iconst 5, 1) := by decide +kernel
theorem dX9_init_184 : decode cX9_init 184 = .ok (.multianewarray 62 2, 4) := by decide +kernel
theorem dX9_init_188 : decode cX9_init 188 = .ok (.putfield 76, 3) := by decide +kernel
theorem dX9_init_191 : decode cX9_init 191 = .ok (.aload_n 0, 1) := by decide +kernel
theorem dX9_init_192 : decode cX9_init 192 = .ok (.iconst 5, 1) := by decide +kernel
theorem dX9_init_193 : decode cX9_init 193 = .ok (.newarray .int, 2) := by decide +kernel
theorem dX9_init_195 : decode cX9_init 195 = .ok (.putfield 79, 3) := by decide +kernel
theorem dX9_init_198 : decode cX9_init 198 = .ok (.aload_n 0, 1) := by decide +kernel
theorem dX9_init_199 : decode cX9_init 199 = .ok (.iconst 5, 1) := by decide +kernel
theorem dX9_init_200 : decode cX9_init 200 = .ok (.newarray .int, 2) := by decide +kernel
theorem dX9_init_202 : decode cX9_init 202 = .ok (.putfield 82, 3) := by decide +kernel
theorem dX9_init_205 : decode cX9_init 205 = .ok (.aload_n 0, 1) := by decide +kernel
theorem dX9_init_206 : decode cX9_init 206 = .ok (.sipush 200, 3) := by decide +kernel
theorem dX9_init_209 : decode cX9_init 209 = .ok (.newarray .int, 2) := by decide +kernel
theorem dX9_init_211 : decode cX9_init 211 = .ok (.putfield 85, 3) := by decide +kernel
theorem dX9_init_214 : decode cX9_init 214 = .ok (.aload_n 0, 1) := by decide +kernel
theorem dX9_init_215 : decode cX9_init 215 = .ok (.sipush 200, 3) := by decide +kernel
theorem dX9_init_218 : decode cX9_init 218 = .ok (.newarray .int, 2) := by decide +kernel
theorem dX9_init_220 : decode cX9_init 220 = .ok (.putfield 88, 3) := by decide +kernel
theorem dX9_init_223 : decode cX9_init 223 = .ok (.aload_n 0, 1) := by decide +kernel
theorem dX9_init_224 : decode cX9_init 224 = .ok (.sipush 200, 3) := by decide +kernel
theorem dX9_init_227 : decode cX9_init 227 = .ok (.newarray .int, 2) := by decide +kernel
theorem dX9_init_229 : decode cX9_init 229 = .ok (.putfield 91, 3) := by decide +kernel
theorem dX9_init_232 : decode cX9_init 232 = .ok (.aload_n 0, 1) := by decide +kernel
theorem dX9_init_233 : decode cX9_init 233 = .ok (.sipush 200, 3) := by decide +kernel
theorem dX9_init_236 : decode cX9_init 236 = .ok (.newarray .boolean, 2) := by decide +kernel
theorem dX9_init_238 : decode cX9_init 238 = .ok (.putfield 94, 3) := by decide +kernel
theorem dX9_init_241 : decode cX9_init 241 = .ok (.aload_n 0, 1) := by decide +kernel
theorem dX9_init_242 : decode cX9_init 242 = .ok (.iconst 5, 1) := by decide +kernel
theorem dX9_init_243 : decode cX9_init 243 = .ok (.putfield 98, 3) := by decide +kernel
theorem dX9_init_246 : decode cX9_init 246 = .ok (.aload_n 0, 1) := by decide +kernel
theorem dX9_init_247 : decode cX9_init 247 = .ok (.iconst 5, 1) := by decide +kernel
theorem dX9_init_248 : decode cX9_init 248 = .ok (.newarray .int, 2) := by decide +kernel
theorem dX9_init_250 : decode cX9_init 250 = .ok (.putfield 101, 3) := by decide +kernel
theorem dX9_init_253 : decode cX9_init 253 = .ok (.aload_n 0, 1) := by decide +kernel
theorem dX9_init_254 : decode cX9_init 254 = .ok (.iconst 5, 1) := by decide +kernel
theorem dX9_init_255 : decode cX9_init 255 = .ok (.newarray .int, 2) := by decide +kernel
theorem dX9_init_257 : decode cX9_init 257 = .ok (.putfield 104, 3) := by decide +kernel
theorem dX9_init_260 : decode cX9_init 260 = .ok (.aload_n 0, 1) := by decide +kernel
theorem dX9_init_261 : decode cX9_init 261 = .ok (.iconst 5, 1) := by decide +kernel
theorem dX9_init_262 : decode cX9_init 262 = .ok (.newarray .int, 2) := by decide +kernel
theorem dX9_init_264 : decode cX9_init 264 = .ok (.putfield 107, 3) := by decide +kernel
theorem dX9_init_267 : decode cX9_init 267 = .ok (.iconst 0, 1) := by decide +kernel
theorem dX9_init_268 : decode cX9_init 268 = .ok (.istore_n 1, 1) := by decide +kernel
theorem dX9_init_269 : decode cX9_init 269 = .ok (.iload_n 1, 1) := by decide +kernel
theorem dX9_init_270 : decode cX9_init 270 = .ok (.bipush 7, 2) := by decide +kernel
theorem dX9_init_272 : decode cX9_init 272 = .ok (.if_icmp .ge 23, 3) := by decide +kernel
theorem dX9_init_275 : decode cX9_init 275 = .ok (.aload_n 0, 1) := by decide +kernel
theorem dX9_init_276 : decode cX9_init 276 = .ok (.getfield 22, 3) := by decide +kernel
theorem dX9_init_279 : decode cX9_init 279 = .ok (.iload_n 1, 1) := by decide +kernel
theorem dX9_init_280 : decode cX9_init 280 = .ok (.iconst (-1), 1) := by decide +kernel
theorem dX9_init_281 : decode cX9_init 281 = .ok (.iastore, 1) := by decide +kernel
theorem dX9_init_282 : decode cX9_init 282 = .ok (.aload_n 0, 1) := by decide +kernel
theorem dX9_init_283 : decode cX9_init 283 = .ok (.getfield 28, 3) := by decide +kernel
theorem dX9_init_286 : decode cX9_init 286 = .ok (.iload_n 1, 1) := by decide +kernel
theorem dX9_init_287 : decode cX9_init 287 = .ok (.iconst (-1), 1) := by decide +kernel
theorem dX9_init_288 : decode cX9_init 288 = .ok (.iastore, 1) := by decide +kernel
theorem dX9_init_289 : decode cX9_init 289 = .ok (.iinc 1 1, 3) := by decide +kernel
theorem dX9_init_292 : decode cX9_init 292 = .ok (.goto (-23), 3) := by decide +kernel
theorem dX9_init_295 : decode cX9_init 295 = .ok (.iconst 0, 1) := by decide +kernel
theorem dX9_init_296 : decode cX9_init 296 = .ok (.istore_n 1, 1) := by decide +kernel
theorem dX9_init_297 : decode cX9_init 297 = .ok (.iload_n 1, 1) := by decide +kernel
theorem dX9_init_298 : decode cX9_init 298 = .ok (.iconst 5, 1) := by decide +kernel
theorem dX9_init_299 : decode cX9_init 299 = .ok (.if_icmp .ge 16, 3) := by decide +kernel
theorem dX9_init_302 : decode cX9_init 302 = .ok (.aload_n 0, 1) := by decide +kernel
theorem dX9_init_303 : decode cX9_init 303 = .ok (.getfield 79, 3) := by decide +kernel
theorem dX9_init_306 : decode cX9_init 306 = .ok (.iload_n 1, 1) := by decide +kernel
theorem dX9_init_307 : decode cX9_init 307 = .ok (.iconst (-1), 1) := by decide +kernel
theorem dX9_init_308 : decode cX9_init 308 = .ok (.iastore, 1) := by decide +kernel
theorem dX9_init_309 : decode cX9_init 309 = .ok (.iinc 1 1, 3) := by decide +kernel
theorem dX9_init_312 : decode cX9_init 312 = .ok (.goto (-15), 3) := by decide +kernel
theorem dX9_init_315 : decode cX9_init 315 = .ok (.return_, 1) := by decide +kernel
theorem dX9_in_0 : decode cX9_in 0 = .ok (.iload_n 0, 1) := by decide +kernel
theorem dX9_in_1 : decode cX9_in 1 = .ok (.iload_n 1, 1) := by decide +kernel
theorem dX9_in_2 : decode cX9_in 2 = .ok (.if_icmp .lt 12, 3) := by decide +kernel
theorem dX9_in_5 : decode cX9_in 5 = .ok (.iload_n 0, 1) := by decide +kernel
theorem dX9_in_6 : decode cX9_in 6 = .ok (.iload_n 2, 1) := by decide +kernel
theorem dX9_in_7 : decode cX9_in 7 = .ok (.if_icmp .gt 7, 3) := by decide +kernel
theorem dX9_in_10 : decode cX9_in 10 = .ok (.iconst 1, 1) := by decide +kernel
theorem dX9_in_11 : decode cX9_in 11 = .ok (.goto 4, 3) := by decide +kernel
theorem dX9_in_14 : decode cX9_in 14 = .ok (.iconst 0, 1) := by decide +kernel
theorem dX9_in_15 : decode cX9_in 15 = .ok (.ireturn, 1) := by decide +kernel
theorem dX9_isPicture_0 : decode cX9_isPicture 0 = .ok (.iload_n 1, 1) := by decide +kernel
theorem dX9_isPicture_1 : decode cX9_isPicture 1 = .ok (.iconst 0, 1) := by decide +kernel
theorem dX9_isPicture_2 : decode cX9_isPicture 2 = .ok (.aload_n 0, 1) := by decide +kernel
theorem dX9_isPicture_3 : decode cX9_isPicture 3 = .ok (.getfield 110, 3) := by decide +kernel
theorem dX9_isPicture_6 : decode cX9_isPicture 6 = .ok (.iconst 1, 1) := by decide +kernel
theorem dX9_isPicture_7 : decode cX9_isPicture 7 = .ok (.isub, 1) := by decide +kernel
theorem dX9_isPicture_8 : decode cX9_isPicture 8 = .ok (.invokestatic 113, 3) := by decide +kernel
theorem dX9_isPicture_11 : decode cX9_isPicture 11 = .ok (.ireturn, 1) := by decide +kernel
theorem dX9_isSitter_0 : decode cX9_isSitter 0 = .ok (.iload_n 1, 1) := by decide +kernel
theorem dX9_isSitter_1 : decode cX9_isSitter 1 = .ok (.iconst 0, 1) := by decide +kernel
theorem dX9_isSitter_2 : decode cX9_isSitter 2 = .ok (.aload_n 0, 1) := by decide +kernel
theorem dX9_isSitter_3 : decode cX9_isSitter 3 = .ok (.getfield 117, 3) := by decide +kernel
theorem dX9_isSitter_6 : decode cX9_isSitter 6 = .ok (.iconst 1, 1) := by decide +kernel
theorem dX9_isSitter_7 : decode cX9_isSitter 7 = .ok (.isub, 1) := by decide +kernel
theorem dX9_isSitter_8 : decode cX9_isSitter 8 = .ok (.invokestatic 113, 3) := by decide +kernel
theorem dX9_isSitter_11 : decode cX9_isSitter 11 = .ok (.ireturn, 1) := by decide +kernel
theorem dX9_isHand_0 : decode cX9_isHand 0 = .ok (.iload_n 1, 1) := by decide +kernel
theorem dX9_isHand_1 : decode cX9_isHand 1 = .ok (.iconst 0, 1) := by decide +kernel
theorem dX9_isHand_2 : decode cX9_isHand 2 = .ok (.aload_n 0, 1) := by decide +kernel
theorem dX9_isHand_3 : decode cX9_isHand 3 = .ok (.getfield 31, 3) := by decide +kernel
theorem dX9_isHand_6 : decode cX9_isHand 6 = .ok (.iconst 1, 1) := by decide +kernel
theorem dX9_isHand_7 : decode cX9_isHand 7 = .ok (.isub, 1) := by decide +kernel
theorem dX9_isHand_8 : decode cX9_isHand 8 = .ok (.invokestatic 113, 3) := by decide +kernel
theorem dX9_isHand_11 : decode cX9_isHand 11 = .ok (.ireturn, 1) := by decide +kernel
theorem dX9_list_0 : decode cX9_list 0 = .ok (.iload_n 1, 1) := by decide +kernel
theorem dX9_list_1 : decode cX9_list 1 = .ok (.iconst 0, 1) := by decide +kernel
theorem dX9_list_2 : decode cX9_list 2 = .ok (.bipush 54, 2) := by decide +kernel
theorem dX9_list_4 : decode cX9_list 4 = .ok (.invokestatic 113, 3) := by decide +kernel
theorem dX9_list_7 : decode cX9_list 7 = .ok (.ifCond .eq 32, 3) := by decide +kernel
theorem dX9_list_10 : decode cX9_list 10 = .ok (.iload_n 2, 1) := by decide +kernel
theorem dX9_list_11 : decode cX9_list 11 = .ok (.iconst 0, 1) := by decide +kernel
theorem dX9_list_12 : decode cX9_list 12 = .ok (.iconst 3, 1) := by decide +kernel
theorem dX9_list_13 : decode cX9_list 13 = .ok (.invokestatic 113, 3) := by decide +kernel
theorem dX9_list_16 : decode cX9_list 16 = .ok (.ifCond .eq 23, 3) := by decide +kernel
theorem dX9_list_19 : decode cX9_list 19 = .ok (.iload_n 3, 1) := by decide +kernel
theorem dX9_list_20 : decode cX9_list 20 = .ok (.iconst 0, 1) := by decide +kernel
theorem dX9_list_21 : decode cX9_list 21 = .ok (.sipush 9999, 3) := by decide +kernel
theorem dX9_list_24 : decode cX9_list 24 = .ok (.invokestatic 113, 3) := by decide +kernel
theorem dX9_list_27 : decode cX9_list 27 = .ok (.ifCond .eq 12, 3) := by decide +kernel
theorem dX9_list_30 : decode cX9_list 30 = .ok (.aload_n 0, 1) := by decide +kernel
theorem dX9_list_31 : decode cX9_list 31 = .ok (.getfield 120, 3) := by decide +kernel
theorem dX9_list_34 : decode cX9_list 34 = .ok (.bipush 60, 2) := by decide +kernel
theorem dX9_list_36 : decode cX9_list 36 = .ok (.if_icmp .ne 5, 3) := by decide +kernel
theorem dX9_list_39 : decode cX9_list 39 = .ok (.iconst 0, 1) := by decide +kernel
theorem dX9_list_40 : decode cX9_list 40 = .ok (.ireturn, 1) := by decide +kernel
theorem dX9_list_41 : decode cX9_list 41 = .ok (.aload_n 0, 1) := by decide +kernel
theorem dX9_list_42 : decode cX9_list 42 = .ok (.getfield 9, 3) := by decide +kernel
theorem dX9_list_45 : decode cX9_list 45 = .ok (.aload_n 0, 1) := by decide +kernel
theorem dX9_list_46 : decode cX9_list 46 = .ok (.getfield 120, 3) := by decide +kernel
theorem dX9_list_49 : decode cX9_list 49 = .ok (.iload_n 1, 1) := by decide +kernel
theorem dX9_list_50 : decode cX9_list 50 = .ok (.iastore, 1) := by decide +kernel
theorem dX9_list_51 : decode cX9_list 51 = .ok (.aload_n 0, 1) := by decide +kernel
theorem dX9_list_52 : decode cX9_list 52 = .ok (.getfield 13, 3) := by decide +kernel
theorem dX9_list_55 : decode cX9_list 55 = .ok (.aload_n 0, 1) := by decide +kernel
theorem dX9_list_56 : decode cX9_list 56 = .ok (.getfield 120, 3) := by decide +kernel
theorem dX9_list_59 : decode cX9_list 59 = .ok (.iload_n 2, 1) := by decide +kernel
theorem dX9_list_60 : decode cX9_list 60 = .ok (.iastore, 1) := by decide +kernel
theorem dX9_list_61 : decode cX9_list 61 = .ok (.aload_n 0, 1) := by decide +kernel
theorem dX9_list_62 : decode cX9_list 62 = .ok (.getfield 16, 3) := by decide +kernel
theorem dX9_list_65 : decode cX9_list 65 = .ok (.aload_n 0, 1) := by decide +kernel
theorem dX9_list_66 : decode cX9_list 66 = .ok (.getfield 120, 3) := by decide +kernel
theorem dX9_list_69 : decode cX9_list 69 = .ok (.iload_n 3, 1) := by decide +kernel
theorem dX9_list_70 : decode cX9_list 70 = .ok (.iastore, 1) := by decide +kernel
theorem dX9_list_71 : decode cX9_list 71 = .ok (.aload_n 0, 1) := by decide +kernel
theorem dX9_list_72 : decode cX9_list 72 = .ok (.dup, 1) := by decide +kernel
theorem dX9_list_73 : decode cX9_list 73 = .ok (.getfield 120, 3) := by decide +kernel
theorem dX9_list_76 : decode cX9_list 76 = .ok (.iconst 1, 1) := by decide +kernel
theorem dX9_list_77 : decode cX9_list 77 = .ok (.iadd, 1) := by decide +kernel
theorem dX9_list_78 : decode cX9_list 78 = .ok (.putfield 120, 3) := by decide +kernel
theorem dX9_list_81 : decode cX9_list 81 = .ok (.iconst 1, 1) := by decide +kernel
theorem dX9_list_82 : decode cX9_list 82 = .ok (.ireturn, 1) := by decide +kernel
theorem dX9_listed_0 : decode cX9_listed 0 = .ok (.iconst (-1), 1) := by decide +kernel
theorem dX9_listed_1 : decode cX9_listed 1 = .ok (.istore_n 3, 1) := by decide +kernel
theorem dX9_listed_2 : decode cX9_listed 2 = .ok (.iconst 0, 1) := by decide +kernel
theorem dX9_listed_3 : decode cX9_listed 3 = .ok (.istore 4, 2) := by decide +kernel
theorem dX9_listed_5 : decode cX9_listed 5 = .ok (.iload 4, 2) := by decide +kernel
theorem dX9_listed_7 : decode cX9_listed 7 = .ok (.aload_n 0, 1) := by decide +kernel
theorem dX9_listed_8 : decode cX9_listed 8 = .ok (.getfield 120, 3) := by decide +kernel
theorem dX9_listed_11 : decode cX9_listed 11 = .ok (.if_icmp .ge 55, 3) := by decide +kernel
theorem dX9_listed_14 : decode cX9_listed 14 = .ok (.aload_n 0, 1) := by decide +kernel
theorem dX9_listed_15 : decode cX9_listed 15 = .ok (.getfield 13, 3) := by decide +kernel
theorem dX9_listed_18 : decode cX9_listed 18 = .ok (.iload 4, 2) := by decide +kernel
theorem dX9_listed_20 : decode cX9_listed 20 = .ok (.iaload, 1) := by decide +kernel
theorem dX9_listed_21 : decode cX9_listed 21 = .ok (.iload_n 1, 1) := by decide +kernel
theorem dX9_listed_22 : decode cX9_listed 22 = .ok (.if_icmp .ne 38, 3) := by decide +kernel
theorem dX9_listed_25 : decode cX9_listed 25 = .ok (.aload_n 0, 1) := by decide +kernel
theorem dX9_listed_26 : decode cX9_listed 26 = .ok (.getfield 9, 3) := by decide +kernel
theorem dX9_listed_29 : decode cX9_listed 29 = .ok (.iload 4, 2) := by decide +kernel
theorem dX9_listed_31 : decode cX9_listed 31 = .ok (.iaload, 1) := by decide +kernel
theorem dX9_listed_32 : decode cX9_listed 32 = .ok (.iload_n 2, 1) := by decide +kernel
theorem dX9_listed_33 : decode cX9_listed 33 = .ok (.if_icmp .gt 27, 3) := by decide +kernel
theorem dX9_listed_36 : decode cX9_listed 36 = .ok (.iload_n 3, 1) := by decide +kernel
theorem dX9_listed_37 : decode cX9_listed 37 = .ok (.iconst (-1), 1) := by decide +kernel
theorem dX9_listed_38 : decode cX9_listed 38 = .ok (.if_icmp .eq 19, 3) := by decide +kernel
theorem dX9_listed_41 : decode cX9_listed 41 = .ok (.aload_n 0, 1) := by decide +kernel
theorem dX9_listed_42 : decode cX9_listed 42 = .ok (.getfield 9, 3) := by decide +kernel
theorem dX9_listed_45 : decode cX9_listed 45 = .ok (.iload 4, 2) := by decide +kernel
theorem dX9_listed_47 : decode cX9_listed 47 = .ok (.iaload, 1) := by decide +kernel
theorem dX9_listed_48 : decode cX9_listed 48 = .ok (.aload_n 0, 1) := by decide +kernel
theorem dX9_listed_49 : decode cX9_listed 49 = .ok (.getfield 9, 3) := by decide +kernel
theorem dX9_listed_52 : decode cX9_listed 52 = .ok (.iload_n 3, 1) := by decide +kernel
theorem dX9_listed_53 : decode cX9_listed 53 = .ok (.iaload, 1) := by decide +kernel
theorem dX9_listed_54 : decode cX9_listed 54 = .ok (.if_icmp .lt 6, 3) := by decide +kernel
theorem dX9_listed_57 : decode cX9_listed 57 = .ok (.iload 4, 2) := by decide +kernel
theorem dX9_listed_59 : decode cX9_listed 59 = .ok (.istore_n 3, 1) := by decide +kernel
end
section
theorem dX9_listed_60 : decode cX9_listed 60 = .ok (.iinc 4 1, 3) := by decide +kernel
theorem dX9_listed_63 : decode cX9_listed 63 = .ok (.goto (-58), 3) := by decide +kernel
theorem dX9_listed_66 : decode cX9_listed 66 = .ok (.iload_n 3, 1) := by decide +kernel
theorem dX9_listed_67 : decode cX9_listed 67 = .ok (.iconst (-1), 1) := by decide +kernel
theorem dX9_listed_68 : decode cX9_listed 68 = .ok (.if_icmp .ne 7, 3) := by decide +kernel
theorem dX9_listed_71 : decode cX9_listed 71 = .ok (.iconst 0, 1) := by decide +kernel
theorem dX9_listed_72 : decode cX9_listed 72 = .ok (.goto 9, 3) := by decide +kernel
theorem dX9_listed_75 : decode cX9_listed 75 = .ok (.aload_n 0, 1) := by decide +kernel
theorem dX9_listed_76 : decode cX9_listed 76 = .ok (.getfield 16, 3) := by decide +kernel
theorem dX9_listed_79 : decode cX9_listed 79 = .ok (.iload_n 3, 1) := by decide +kernel
theorem dX9_listed_80 : decode cX9_listed 80 = .ok (.iaload, 1) := by decide +kernel
theorem dX9_listed_81 : decode cX9_listed 81 = .ok (.ireturn, 1) := by decide +kernel
theorem dX9_dry_0 : decode cX9_dry 0 = .ok (.iload_n 1, 1) := by decide +kernel
theorem dX9_dry_1 : decode cX9_dry 1 = .ok (.iconst 0, 1) := by decide +kernel
theorem dX9_dry_2 : decode cX9_dry 2 = .ok (.iconst 4, 1) := by decide +kernel
theorem dX9_dry_3 : decode cX9_dry 3 = .ok (.invokestatic 113, 3) := by decide +kernel
theorem dX9_dry_6 : decode cX9_dry 6 = .ok (.ifCond .eq 13, 3) := by decide +kernel
theorem dX9_dry_9 : decode cX9_dry 9 = .ok (.iload_n 2, 1) := by decide +kernel
theorem dX9_dry_10 : decode cX9_dry 10 = .ok (.iconst 0, 1) := by decide +kernel
theorem dX9_dry_11 : decode cX9_dry 11 = .ok (.bipush 60, 2) := by decide +kernel
theorem dX9_dry_13 : decode cX9_dry 13 = .ok (.invokestatic 113, 3) := by decide +kernel
theorem dX9_dry_16 : decode cX9_dry 16 = .ok (.ifCond .ne 5, 3) := by decide +kernel
theorem dX9_dry_19 : decode cX9_dry 19 = .ok (.iconst 0, 1) := by decide +kernel
theorem dX9_dry_20 : decode cX9_dry 20 = .ok (.ireturn, 1) := by decide +kernel
theorem dX9_dry_21 : decode cX9_dry 21 = .ok (.aload_n 0, 1) := by decide +kernel
theorem dX9_dry_22 : decode cX9_dry 22 = .ok (.getfield 19, 3) := by decide +kernel
theorem dX9_dry_25 : decode cX9_dry 25 = .ok (.iload_n 1, 1) := by decide +kernel
theorem dX9_dry_26 : decode cX9_dry 26 = .ok (.iload_n 2, 1) := by decide +kernel
theorem dX9_dry_27 : decode cX9_dry 27 = .ok (.iastore, 1) := by decide +kernel
theorem dX9_dry_28 : decode cX9_dry 28 = .ok (.iconst 1, 1) := by decide +kernel
theorem dX9_dry_29 : decode cX9_dry 29 = .ok (.ireturn, 1) := by decide +kernel
theorem dX9_hand_0 : decode cX9_hand 0 = .ok (.aload_n 0, 1) := by decide +kernel
theorem dX9_hand_1 : decode cX9_hand 1 = .ok (.getfield 31, 3) := by decide +kernel
theorem dX9_hand_4 : decode cX9_hand 4 = .ok (.bipush 7, 2) := by decide +kernel
theorem dX9_hand_6 : decode cX9_hand 6 = .ok (.if_icmp .ne 5, 3) := by decide +kernel
theorem dX9_hand_9 : decode cX9_hand 9 = .ok (.iconst (-1), 1) := by decide +kernel
theorem dX9_hand_10 : decode cX9_hand 10 = .ok (.ireturn, 1) := by decide +kernel
theorem dX9_hand_11 : decode cX9_hand 11 = .ok (.aload_n 0, 1) := by decide +kernel
theorem dX9_hand_12 : decode cX9_hand 12 = .ok (.dup, 1) := by decide +kernel
theorem dX9_hand_13 : decode cX9_hand 13 = .ok (.getfield 31, 3) := by decide +kernel
theorem dX9_hand_16 : decode cX9_hand 16 = .ok (.iconst 1, 1) := by decide +kernel
theorem dX9_hand_17 : decode cX9_hand 17 = .ok (.iadd, 1) := by decide +kernel
theorem dX9_hand_18 : decode cX9_hand 18 = .ok (.putfield 31, 3) := by decide +kernel
theorem dX9_hand_21 : decode cX9_hand 21 = .ok (.aload_n 0, 1) := by decide +kernel
theorem dX9_hand_22 : decode cX9_hand 22 = .ok (.getfield 31, 3) := by decide +kernel
theorem dX9_hand_25 : decode cX9_hand 25 = .ok (.iconst 1, 1) := by decide +kernel
theorem dX9_hand_26 : decode cX9_hand 26 = .ok (.isub, 1) := by decide +kernel
theorem dX9_hand_27 : decode cX9_hand 27 = .ok (.ireturn, 1) := by decide +kernel
theorem dX9_sitter_0 : decode cX9_sitter 0 = .ok (.iload_n 1, 1) := by decide +kernel
theorem dX9_sitter_1 : decode cX9_sitter 1 = .ok (.iconst 0, 1) := by decide +kernel
theorem dX9_sitter_2 : decode cX9_sitter 2 = .ok (.iconst 5, 1) := by decide +kernel
theorem dX9_sitter_3 : decode cX9_sitter 3 = .ok (.invokestatic 113, 3) := by decide +kernel
theorem dX9_sitter_6 : decode cX9_sitter 6 = .ok (.ifCond .eq 21, 3) := by decide +kernel
theorem dX9_sitter_9 : decode cX9_sitter 9 = .ok (.iload_n 2, 1) := by decide +kernel
theorem dX9_sitter_10 : decode cX9_sitter 10 = .ok (.iload_n 1, 1) := by decide +kernel
theorem dX9_sitter_11 : decode cX9_sitter 11 = .ok (.iconst 5, 1) := by decide +kernel
theorem dX9_sitter_12 : decode cX9_sitter 12 = .ok (.invokestatic 113, 3) := by decide +kernel
theorem dX9_sitter_15 : decode cX9_sitter 15 = .ok (.ifCond .eq 12, 3) := by decide +kernel
theorem dX9_sitter_18 : decode cX9_sitter 18 = .ok (.aload_n 0, 1) := by decide +kernel
theorem dX9_sitter_19 : decode cX9_sitter 19 = .ok (.getfield 117, 3) := by decide +kernel
theorem dX9_sitter_22 : decode cX9_sitter 22 = .ok (.bipush 20, 2) := by decide +kernel
theorem dX9_sitter_24 : decode cX9_sitter 24 = .ok (.if_icmp .ne 5, 3) := by decide +kernel
theorem dX9_sitter_27 : decode cX9_sitter 27 = .ok (.iconst (-1), 1) := by decide +kernel
theorem dX9_sitter_28 : decode cX9_sitter 28 = .ok (.ireturn, 1) := by decide +kernel
theorem dX9_sitter_29 : decode cX9_sitter 29 = .ok (.aload_n 0, 1) := by decide +kernel
theorem dX9_sitter_30 : decode cX9_sitter 30 = .ok (.getfield 35, 3) := by decide +kernel
theorem dX9_sitter_33 : decode cX9_sitter 33 = .ok (.aload_n 0, 1) := by decide +kernel
theorem dX9_sitter_34 : decode cX9_sitter 34 = .ok (.getfield 117, 3) := by decide +kernel
theorem dX9_sitter_37 : decode cX9_sitter 37 = .ok (.iload_n 1, 1) := by decide +kernel
theorem dX9_sitter_38 : decode cX9_sitter 38 = .ok (.iastore, 1) := by decide +kernel
theorem dX9_sitter_39 : decode cX9_sitter 39 = .ok (.aload_n 0, 1) := by decide +kernel
theorem dX9_sitter_40 : decode cX9_sitter 40 = .ok (.getfield 38, 3) := by decide +kernel
theorem dX9_sitter_43 : decode cX9_sitter 43 = .ok (.aload_n 0, 1) := by decide +kernel
theorem dX9_sitter_44 : decode cX9_sitter 44 = .ok (.getfield 117, 3) := by decide +kernel
theorem dX9_sitter_47 : decode cX9_sitter 47 = .ok (.iload_n 2, 1) := by decide +kernel
theorem dX9_sitter_48 : decode cX9_sitter 48 = .ok (.iastore, 1) := by decide +kernel
theorem dX9_sitter_49 : decode cX9_sitter 49 = .ok (.aload_n 0, 1) := by decide +kernel
theorem dX9_sitter_50 : decode cX9_sitter 50 = .ok (.dup, 1) := by decide +kernel
theorem dX9_sitter_51 : decode cX9_sitter 51 = .ok (.getfield 117, 3) := by decide +kernel
theorem dX9_sitter_54 : decode cX9_sitter 54 = .ok (.iconst 1, 1) := by decide +kernel
theorem dX9_sitter_55 : decode cX9_sitter 55 = .ok (.iadd, 1) := by decide +kernel
theorem dX9_sitter_56 : decode cX9_sitter 56 = .ok (.putfield 117, 3) := by decide +kernel
theorem dX9_sitter_59 : decode cX9_sitter 59 = .ok (.aload_n 0, 1) := by decide +kernel
theorem dX9_sitter_60 : decode cX9_sitter 60 = .ok (.getfield 117, 3) := by decide +kernel
theorem dX9_sitter_63 : decode cX9_sitter 63 = .ok (.iconst 1, 1) := by decide +kernel
theorem dX9_sitter_64 : decode cX9_sitter 64 = .ok (.isub, 1) := by decide +kernel
theorem dX9_sitter_65 : decode cX9_sitter 65 = .ok (.ireturn, 1) := by decide +kernel
theorem dX9_picture_0 : decode cX9_picture 0 = .ok (.aload_n 0, 1) := by decide +kernel
theorem dX9_picture_1 : decode cX9_picture 1 = .ok (.iload_n 1, 1) := by decide +kernel
theorem dX9_picture_2 : decode cX9_picture 2 = .ok (.invokevirtual 123, 3) := by decide +kernel
theorem dX9_picture_5 : decode cX9_picture 5 = .ok (.ifCond .eq 43, 3) := by decide +kernel
theorem dX9_picture_8 : decode cX9_picture 8 = .ok (.iload_n 2, 1) := by decide +kernel
theorem dX9_picture_9 : decode cX9_picture 9 = .ok (.iconst 0, 1) := by decide +kernel
theorem dX9_picture_10 : decode cX9_picture 10 = .ok (.iconst 3, 1) := by decide +kernel
theorem dX9_picture_11 : decode cX9_picture 11 = .ok (.invokestatic 113, 3) := by decide +kernel
theorem dX9_picture_14 : decode cX9_picture 14 = .ok (.ifCond .eq 34, 3) := by decide +kernel
theorem dX9_picture_17 : decode cX9_picture 17 = .ok (.iload_n 3, 1) := by decide +kernel
theorem dX9_picture_18 : decode cX9_picture 18 = .ok (.sipush 10000, 3) := by decide +kernel
theorem dX9_picture_21 : decode cX9_picture 21 = .ok (.ldc 127, 2) := by decide +kernel
theorem dX9_picture_23 : decode cX9_picture 23 = .ok (.invokestatic 113, 3) := by decide +kernel
theorem dX9_picture_26 : decode cX9_picture 26 = .ok (.ifCond .eq 22, 3) := by decide +kernel
theorem dX9_picture_29 : decode cX9_picture 29 = .ok (.iload 4, 2) := by decide +kernel
theorem dX9_picture_31 : decode cX9_picture 31 = .ok (.iconst (-1), 1) := by decide +kernel
theorem dX9_picture_32 : decode cX9_picture 32 = .ok (.iconst 4, 1) := by decide +kernel
theorem dX9_picture_33 : decode cX9_picture 33 = .ok (.invokestatic 113, 3) := by decide +kernel
theorem dX9_picture_36 : decode cX9_picture 36 = .ok (.ifCond .eq 12, 3) := by decide +kernel
theorem dX9_picture_39 : decode cX9_picture 39 = .ok (.aload_n 0, 1) := by decide +kernel
theorem dX9_picture_40 : decode cX9_picture 40 = .ok (.getfield 110, 3) := by decide +kernel
theorem dX9_picture_43 : decode cX9_picture 43 = .ok (.bipush 40, 2) := by decide +kernel
theorem dX9_picture_45 : decode cX9_picture 45 = .ok (.if_icmp .ne 5, 3) := by decide +kernel
theorem dX9_picture_48 : decode cX9_picture 48 = .ok (.iconst (-1), 1) := by decide +kernel
theorem dX9_picture_49 : decode cX9_picture 49 = .ok (.ireturn, 1) := by decide +kernel
theorem dX9_picture_50 : decode cX9_picture 50 = .ok (.iload_n 3, 1) := by decide +kernel
theorem dX9_picture_51 : decode cX9_picture 51 = .ok (.istore 5, 2) := by decide +kernel
theorem dX9_picture_53 : decode cX9_picture 53 = .ok (.iconst 1, 1) := by decide +kernel
theorem dX9_picture_54 : decode cX9_picture 54 = .ok (.istore 6, 2) := by decide +kernel
theorem dX9_picture_56 : decode cX9_picture 56 = .ok (.iconst 4, 1) := by decide +kernel
theorem dX9_picture_57 : decode cX9_picture 57 = .ok (.istore 7, 2) := by decide +kernel
theorem dX9_picture_59 : decode cX9_picture 59 = .ok (.iload 7, 2) := by decide +kernel
theorem dX9_picture_61 : decode cX9_picture 61 = .ok (.ifCond .lt 54, 3) := by decide +kernel
theorem dX9_picture_64 : decode cX9_picture 64 = .ok (.iload 6, 2) := by decide +kernel
theorem dX9_picture_66 : decode cX9_picture 66 = .ok (.ifCond .eq 16, 3) := by decide +kernel
theorem dX9_picture_69 : decode cX9_picture 69 = .ok (.iload 5, 2) := by decide +kernel
theorem dX9_picture_71 : decode cX9_picture 71 = .ok (.bipush 10, 2) := by decide +kernel
theorem dX9_picture_73 : decode cX9_picture 73 = .ok (.irem, 1) := by decide +kernel
theorem dX9_picture_74 : decode cX9_picture 74 = .ok (.iconst 3, 1) := by decide +kernel
theorem dX9_picture_75 : decode cX9_picture 75 = .ok (.if_icmp .gt 7, 3) := by decide +kernel
theorem dX9_picture_78 : decode cX9_picture 78 = .ok (.iconst 1, 1) := by decide +kernel
theorem dX9_picture_79 : decode cX9_picture 79 = .ok (.goto 4, 3) := by decide +kernel
theorem dX9_picture_82 : decode cX9_picture 82 = .ok (.iconst 0, 1) := by decide +kernel
theorem dX9_picture_83 : decode cX9_picture 83 = .ok (.istore 6, 2) := by decide +kernel
theorem dX9_picture_85 : decode cX9_picture 85 = .ok (.aload_n 0, 1) := by decide +kernel
theorem dX9_picture_86 : decode cX9_picture 86 = .ok (.getfield 64, 3) := by decide +kernel
theorem dX9_picture_89 : decode cX9_picture 89 = .ok (.aload_n 0, 1) := by decide +kernel
theorem dX9_picture_90 : decode cX9_picture 90 = .ok (.getfield 110, 3) := by decide +kernel
theorem dX9_picture_93 : decode cX9_picture 93 = .ok (.aaload, 1) := by decide +kernel
theorem dX9_picture_94 : decode cX9_picture 94 = .ok (.iload 7, 2) := by decide +kernel
theorem dX9_picture_96 : decode cX9_picture 96 = .ok (.iload 5, 2) := by decide +kernel
theorem dX9_picture_98 : decode cX9_picture 98 = .ok (.bipush 10, 2) := by decide +kernel
theorem dX9_picture_100 : decode cX9_picture 100 = .ok (.irem, 1) := by decide +kernel
theorem dX9_picture_101 : decode cX9_picture 101 = .ok (.iastore, 1) := by decide +kernel
theorem dX9_picture_102 : decode cX9_picture 102 = .ok (.iload 5, 2) := by decide +kernel
theorem dX9_picture_104 : decode cX9_picture 104 = .ok (.bipush 10, 2) := by decide +kernel
theorem dX9_picture_106 : decode cX9_picture 106 = .ok (.idiv, 1) := by decide +kernel
theorem dX9_picture_107 : decode cX9_picture 107 = .ok (.istore 5, 2) := by decide +kernel
theorem dX9_picture_109 : decode cX9_picture 109 = .ok (.iinc 7 (-1), 3) := by decide +kernel
theorem dX9_picture_112 : decode cX9_picture 112 = .ok (.goto (-53), 3) := by decide +kernel
theorem dX9_picture_115 : decode cX9_picture 115 = .ok (.iload 6, 2) := by decide +kernel
theorem dX9_picture_117 : decode cX9_picture 117 = .ok (.ifCond .ne 5, 3) := by decide +kernel
theorem dX9_picture_120 : decode cX9_picture 120 = .ok (.iconst (-1), 1) := by decide +kernel
theorem dX9_picture_121 : decode cX9_picture 121 = .ok (.ireturn, 1) := by decide +kernel
theorem dX9_picture_122 : decode cX9_picture 122 = .ok (.aload_n 0, 1) := by decide +kernel
theorem dX9_picture_123 : decode cX9_picture 123 = .ok (.getfield 110, 3) := by decide +kernel
theorem dX9_picture_126 : decode cX9_picture 126 = .ok (.istore 7, 2) := by decide +kernel
theorem dX9_picture_128 : decode cX9_picture 128 = .ok (.aload_n 0, 1) := by decide +kernel
theorem dX9_picture_129 : decode cX9_picture 129 = .ok (.getfield 44, 3) := by decide +kernel
theorem dX9_picture_132 : decode cX9_picture 132 = .ok (.iload 7, 2) := by decide +kernel
theorem dX9_picture_134 : decode cX9_picture 134 = .ok (.iload_n 1, 1) := by decide +kernel
theorem dX9_picture_135 : decode cX9_picture 135 = .ok (.iastore, 1) := by decide +kernel
theorem dX9_picture_136 : decode cX9_picture 136 = .ok (.aload_n 0, 1) := by decide +kernel
theorem dX9_picture_137 : decode cX9_picture 137 = .ok (.getfield 56, 3) := by decide +kernel
theorem dX9_picture_140 : decode cX9_picture 140 = .ok (.iload 7, 2) := by decide +kernel
theorem dX9_picture_142 : decode cX9_picture 142 = .ok (.iload 4, 2) := by decide +kernel
theorem dX9_picture_144 : decode cX9_picture 144 = .ok (.iastore, 1) := by decide +kernel
theorem dX9_picture_145 : decode cX9_picture 145 = .ok (.aload_n 0, 1) := by decide +kernel
theorem dX9_picture_146 : decode cX9_picture 146 = .ok (.getfield 50, 3) := by decide +kernel
theorem dX9_picture_149 : decode cX9_picture 149 = .ok (.iload 7, 2) := by decide +kernel
theorem dX9_picture_151 : decode cX9_picture 151 = .ok (.aload_n 0, 1) := by decide +kernel
theorem dX9_picture_152 : decode cX9_picture 152 = .ok (.getfield 128, 3) := by decide +kernel
theorem dX9_picture_155 : decode cX9_picture 155 = .ok (.iastore, 1) := by decide +kernel
theorem dX9_picture_156 : decode cX9_picture 156 = .ok (.aload_n 0, 1) := by decide +kernel
theorem dX9_picture_157 : decode cX9_picture 157 = .ok (.getfield 53, 3) := by decide +kernel
theorem dX9_picture_160 : decode cX9_picture 160 = .ok (.iload 7, 2) := by decide +kernel
theorem dX9_picture_162 : decode cX9_picture 162 = .ok (.iconst (-1), 1) := by decide +kernel
theorem dX9_picture_163 : decode cX9_picture 163 = .ok (.iastore, 1) := by decide +kernel
theorem dX9_picture_164 : decode cX9_picture 164 = .ok (.aload_n 0, 1) := by decide +kernel
theorem dX9_picture_165 : decode cX9_picture 165 = .ok (.getfield 59, 3) := by decide +kernel
theorem dX9_picture_168 : decode cX9_picture 168 = .ok (.iload 7, 2) := by decide +kernel
theorem dX9_picture_170 : decode cX9_picture 170 = .ok (.iconst (-1), 1) := by decide +kernel
theorem dX9_picture_171 : decode cX9_picture 171 = .ok (.iastore, 1) := by decide +kernel
theorem dX9_picture_172 : decode cX9_picture 172 = .ok (.iconst 0, 1) := by decide +kernel
theorem dX9_picture_173 : decode cX9_picture 173 = .ok (.istore 8, 2) := by decide +kernel
theorem dX9_picture_175 : decode cX9_picture 175 = .ok (.iload 8, 2) := by decide +kernel
theorem dX9_picture_177 : decode cX9_picture 177 = .ok (.iconst 5, 1) := by decide +kernel
theorem dX9_picture_178 : decode cX9_picture 178 = .ok (.if_icmp .ge 42, 3) := by decide +kernel
theorem dX9_picture_181 : decode cX9_picture 181 = .ok (.aload_n 0, 1) := by decide +kernel
theorem dX9_picture_182 : decode cX9_picture 182 = .ok (.getfield 70, 3) := by decide +kernel
theorem dX9_picture_185 : decode cX9_picture 185 = .ok (.iload 7, 2) := by decide +kernel
theorem dX9_picture_187 : decode cX9_picture 187 = .ok (.aaload, 1) := by decide +kernel
theorem dX9_picture_188 : decode cX9_picture 188 = .ok (.iload 8, 2) := by decide +kernel
theorem dX9_picture_190 : decode cX9_picture 190 = .ok (.iconst (-1), 1) := by decide +kernel
theorem dX9_picture_191 : decode cX9_picture 191 = .ok (.iastore, 1) := by decide +kernel
theorem dX9_picture_192 : decode cX9_picture 192 = .ok (.aload_n 0, 1) := by decide +kernel
theorem dX9_picture_193 : decode cX9_picture 193 = .ok (.getfield 73, 3) := by decide +kernel
theorem dX9_picture_196 : decode cX9_picture 196 = .ok (.iload 7, 2) := by decide +kernel
theorem dX9_picture_198 : decode cX9_picture 198 = .ok (.aaload, 1) := by decide +kernel
theorem dX9_picture_199 : decode cX9_picture 199 = .ok (.iload 8, 2) := by decide +kernel
theorem dX9_picture_201 : decode cX9_picture 201 = .ok (.iconst (-1), 1) := by decide +kernel
theorem dX9_picture_202 : decode cX9_picture 202 = .ok (.iastore, 1) := by decide +kernel
theorem dX9_picture_203 : decode cX9_picture 203 = .ok (.aload_n 0, 1) := by decide +kernel
theorem dX9_picture_204 : decode cX9_picture 204 = .ok (.getfield 76, 3) := by decide +kernel
theorem dX9_picture_207 : decode cX9_picture 207 = .ok (.iload 7, 2) := by decide +kernel
theorem dX9_picture_209 : decode cX9_picture 209 = .ok (.aaload, 1) := by decide +kernel
theorem dX9_picture_210 : decode cX9_picture 210 = .ok (.iload 8, 2) := by decide +kernel
theorem dX9_picture_212 : decode cX9_picture 212 = .ok (.iconst (-1), 1) := by decide +kernel
theorem dX9_picture_213 : decode cX9_picture 213 = .ok (.iastore, 1) := by decide +kernel
theorem dX9_picture_214 : decode cX9_picture 214 = .ok (.iinc 8 1, 3) := by decide +kernel
theorem dX9_picture_217 : decode cX9_picture 217 = .ok (.goto (-42), 3) := by decide +kernel
theorem dX9_picture_220 : decode cX9_picture 220 = .ok (.aload_n 0, 1) := by decide +kernel
theorem dX9_picture_221 : decode cX9_picture 221 = .ok (.getfield 47, 3) := by decide +kernel
theorem dX9_picture_224 : decode cX9_picture 224 = .ok (.iload 7, 2) := by decide +kernel
theorem dX9_picture_226 : decode cX9_picture 226 = .ok (.aload_n 0, 1) := by decide +kernel
theorem dX9_picture_227 : decode cX9_picture 227 = .ok (.iload_n 2, 1) := by decide +kernel
theorem dX9_picture_228 : decode cX9_picture 228 = .ok (.aload_n 0, 1) := by decide +kernel
theorem dX9_picture_229 : decode cX9_picture 229 = .ok (.getfield 128, 3) := by decide +kernel
theorem dX9_picture_232 : decode cX9_picture 232 = .ok (.sipush 365, 3) := by decide +kernel
theorem dX9_picture_235 : decode cX9_picture 235 = .ok (.idiv, 1) := by decide +kernel
theorem dX9_picture_236 : decode cX9_picture 236 = .ok (.invokevirtual 131, 3) := by decide +kernel
theorem dX9_picture_239 : decode cX9_picture 239 = .ok (.iastore, 1) := by decide +kernel
theorem dX9_picture_240 : decode cX9_picture 240 = .ok (.aload_n 0, 1) := by decide +kernel
theorem dX9_picture_241 : decode cX9_picture 241 = .ok (.dup, 1) := by decide +kernel
theorem dX9_picture_242 : decode cX9_picture 242 = .ok (.getfield 135, 3) := by decide +kernel
theorem dX9_picture_245 : decode cX9_picture 245 = .ok (.aload_n 0, 1) := by decide +kernel
theorem dX9_picture_246 : decode cX9_picture 246 = .ok (.getfield 47, 3) := by decide +kernel
theorem dX9_picture_249 : decode cX9_picture 249 = .ok (.iload 7, 2) := by decide +kernel
theorem dX9_picture_251 : decode cX9_picture 251 = .ok (.iaload, 1) := by decide +kernel
theorem dX9_picture_252 : decode cX9_picture 252 = .ok (.iadd, 1) := by decide +kernel
theorem dX9_picture_253 : decode cX9_picture 253 = .ok (.putfield 135, 3) := by decide +kernel
theorem dX9_picture_256 : decode cX9_picture 256 = .ok (.aload_n 0, 1) := by decide +kernel
theorem dX9_picture_257 : decode cX9_picture 257 = .ok (.getfield 41, 3) := by decide +kernel
theorem dX9_picture_260 : decode cX9_picture 260 = .ok (.iload_n 1, 1) := by decide +kernel
theorem dX9_picture_261 : decode cX9_picture 261 = .ok (.dup2, 1) := by decide +kernel
theorem dX9_picture_262 : decode cX9_picture 262 = .ok (.iaload, 1) := by decide +kernel
theorem dX9_picture_263 : decode cX9_picture 263 = .ok (.aload_n 0, 1) := by decide +kernel
theorem dX9_picture_264 : decode cX9_picture 264 = .ok (.getfield 47, 3) := by decide +kernel
theorem dX9_picture_267 : decode cX9_picture 267 = .ok (.iload 7, 2) := by decide +kernel
theorem dX9_picture_269 : decode cX9_picture 269 = .ok (.iaload, 1) := by decide +kernel
theorem dX9_picture_270 : decode cX9_picture 270 = .ok (.iconst 2, 1) := by decide +kernel
theorem dX9_picture_271 : decode cX9_picture 271 = .ok (.idiv, 1) := by decide +kernel
theorem dX9_picture_272 : decode cX9_picture 272 = .ok (.iadd, 1) := by decide +kernel
theorem dX9_picture_273 : decode cX9_picture 273 = .ok (.iastore, 1) := by decide +kernel
theorem dX9_picture_274 : decode cX9_picture 274 = .ok (.aload_n 0, 1) := by decide +kernel
theorem dX9_picture_275 : decode cX9_picture 275 = .ok (.dup, 1) := by decide +kernel
theorem dX9_picture_276 : decode cX9_picture 276 = .ok (.getfield 110, 3) := by decide +kernel
theorem dX9_picture_279 : decode cX9_picture 279 = .ok (.iconst 1, 1) := by decide +kernel
theorem dX9_picture_280 : decode cX9_picture 280 = .ok (.iadd, 1) := by decide +kernel
theorem dX9_picture_281 : decode cX9_picture 281 = .ok (.putfield 110, 3) := by decide +kernel
theorem dX9_picture_284 : decode cX9_picture 284 = .ok (.iload 7, 2) := by decide +kernel
theorem dX9_picture_286 : decode cX9_picture 286 = .ok (.ireturn, 1) := by decide +kernel
theorem dX9_go_0 : decode cX9_go 0 = .ok (.iload_n 1, 1) := by decide +kernel
theorem dX9_go_1 : decode cX9_go 1 = .ok (.iconst 0, 1) := by decide +kernel
theorem dX9_go_2 : decode cX9_go 2 = .ok (.sipush 1000, 3) := by decide +kernel
theorem dX9_go_5 : decode cX9_go 5 = .ok (.invokestatic 113, 3) := by decide +kernel
theorem dX9_go_8 : decode cX9_go 8 = .ok (.ifCond .ne 5, 3) := by decide +kernel
theorem dX9_go_11 : decode cX9_go 11 = .ok (.iconst (-1), 1) := by decide +kernel
theorem dX9_go_12 : decode cX9_go 12 = .ok (.ireturn, 1) := by decide +kernel
theorem dX9_go_13 : decode cX9_go 13 = .ok (.aload_n 0, 1) := by decide +kernel
theorem dX9_go_14 : decode cX9_go 14 = .ok (.sipush 20000, 3) := by decide +kernel
theorem dX9_go_17 : decode cX9_go 17 = .ok (.aload_n 0, 1) := by decide +kernel
theorem dX9_go_18 : decode cX9_go 18 = .ok (.getfield 128, 3) := by decide +kernel
theorem dX9_go_21 : decode cX9_go 21 = .ok (.iload_n 1, 1) := by decide +kernel
theorem dX9_go_22 : decode cX9_go 22 = .ok (.iadd, 1) := by decide +kernel
theorem dX9_go_23 : decode cX9_go 23 = .ok (.invokestatic 138, 3) := by decide +kernel
theorem dX9_go_26 : decode cX9_go 26 = .ok (.putfield 128, 3) := by decide +kernel
theorem dX9_go_29 : decode cX9_go 29 = .ok (.aload_n 0, 1) := by decide +kernel
theorem dX9_go_30 : decode cX9_go 30 = .ok (.getfield 128, 3) := by decide +kernel
theorem dX9_go_33 : decode cX9_go 33 = .ok (.ireturn, 1) := by decide +kernel
theorem dX9_lightOf_0 : decode cX9_lightOf 0 = .ok (.bipush 6, 2) := by decide +kernel
theorem dX9_lightOf_2 : decode cX9_lightOf 2 = .ok (.iload_n 0, 1) := by decide +kernel
theorem dX9_lightOf_3 : decode cX9_lightOf 3 = .ok (.sipush 365, 3) := by decide +kernel
theorem dX9_lightOf_6 : decode cX9_lightOf 6 = .ok (.irem, 1) := by decide +kernel
theorem dX9_lightOf_7 : decode cX9_lightOf 7 = .ok (.sipush 182, 3) := by decide +kernel
theorem dX9_lightOf_10 : decode cX9_lightOf 10 = .ok (.isub, 1) := by decide +kernel
theorem dX9_lightOf_11 : decode cX9_lightOf 11 = .ok (.invokestatic 143, 3) := by decide +kernel
theorem dX9_lightOf_14 : decode cX9_lightOf 14 = .ok (.bipush 46, 2) := by decide +kernel
theorem dX9_lightOf_16 : decode cX9_lightOf 16 = .ok (.idiv, 1) := by decide +kernel
theorem dX9_lightOf_17 : decode cX9_lightOf 17 = .ok (.isub, 1) := by decide +kernel
theorem dX9_lightOf_18 : decode cX9_lightOf 18 = .ok (.ireturn, 1) := by decide +kernel
theorem dX9_light_0 : decode cX9_light 0 = .ok (.iload_n 1, 1) := by decide +kernel
theorem dX9_light_1 : decode cX9_light 1 = .ok (.iconst 0, 1) := by decide +kernel
theorem dX9_light_2 : decode cX9_light 2 = .ok (.sipush 20000, 3) := by decide +kernel
theorem dX9_light_5 : decode cX9_light 5 = .ok (.invokestatic 113, 3) := by decide +kernel
theorem dX9_light_8 : decode cX9_light 8 = .ok (.ifCond .eq 10, 3) := by decide +kernel
theorem dX9_light_11 : decode cX9_light 11 = .ok (.iload_n 1, 1) := by decide +kernel
theorem dX9_light_12 : decode cX9_light 12 = .ok (.invokestatic 147, 3) := by decide +kernel
theorem dX9_light_15 : decode cX9_light 15 = .ok (.goto 4, 3) := by decide +kernel
theorem dX9_light_18 : decode cX9_light 18 = .ok (.iconst (-1), 1) := by decide +kernel
theorem dX9_light_19 : decode cX9_light 19 = .ok (.ireturn, 1) := by decide +kernel
theorem dX9_isFree_0 : decode cX9_isFree 0 = .ok (.iconst 0, 1) := by decide +kernel
theorem dX9_isFree_1 : decode cX9_isFree 1 = .ok (.istore_n 3, 1) := by decide +kernel
theorem dX9_isFree_2 : decode cX9_isFree 2 = .ok (.iload_n 3, 1) := by decide +kernel
theorem dX9_isFree_3 : decode cX9_isFree 3 = .ok (.aload_n 0, 1) := by decide +kernel
theorem dX9_isFree_4 : decode cX9_isFree 4 = .ok (.getfield 150, 3) := by decide +kernel
theorem dX9_isFree_7 : decode cX9_isFree 7 = .ok (.if_icmp .ge 31, 3) := by decide +kernel
theorem dX9_isFree_10 : decode cX9_isFree 10 = .ok (.aload_n 0, 1) := by decide +kernel
theorem dX9_isFree_11 : decode cX9_isFree 11 = .ok (.getfield 88, 3) := by decide +kernel
theorem dX9_isFree_14 : decode cX9_isFree 14 = .ok (.iload_n 3, 1) := by decide +kernel
theorem dX9_isFree_15 : decode cX9_isFree 15 = .ok (.iaload, 1) := by decide +kernel
theorem dX9_isFree_16 : decode cX9_isFree 16 = .ok (.iload_n 1, 1) := by decide +kernel
theorem dX9_isFree_17 : decode cX9_isFree 17 = .ok (.if_icmp .ne 15, 3) := by decide +kernel
theorem dX9_isFree_20 : decode cX9_isFree 20 = .ok (.aload_n 0, 1) := by decide +kernel
theorem dX9_isFree_21 : decode cX9_isFree 21 = .ok (.getfield 91, 3) := by decide +kernel
theorem dX9_isFree_24 : decode cX9_isFree 24 = .ok (.iload_n 3, 1) := by decide +kernel
theorem dX9_isFree_25 : decode cX9_isFree 25 = .ok (.iaload, 1) := by decide +kernel
theorem dX9_isFree_26 : decode cX9_isFree 26 = .ok (.iload_n 2, 1) := by decide +kernel
theorem dX9_isFree_27 : decode cX9_isFree 27 = .ok (.if_icmp .ne 5, 3) := by decide +kernel
theorem dX9_isFree_30 : decode cX9_isFree 30 = .ok (.iconst 0, 1) := by decide +kernel
theorem dX9_isFree_31 : decode cX9_isFree 31 = .ok (.ireturn, 1) := by decide +kernel
theorem dX9_isFree_32 : decode cX9_isFree 32 = .ok (.iinc 3 1, 3) := by decide +kernel
theorem dX9_isFree_35 : decode cX9_isFree 35 = .ok (.goto (-33), 3) := by decide +kernel
theorem dX9_isFree_38 : decode cX9_isFree 38 = .ok (.iconst 1, 1) := by decide +kernel
theorem dX9_isFree_39 : decode cX9_isFree 39 = .ok (.ireturn, 1) := by decide +kernel
theorem dX9_sits_0 : decode cX9_sits 0 = .ok (.iconst 0, 1) := by decide +kernel
theorem dX9_sits_1 : decode cX9_sits 1 = .ok (.istore_n 3, 1) := by decide +kernel
theorem dX9_sits_2 : decode cX9_sits 2 = .ok (.iload_n 3, 1) := by decide +kernel
theorem dX9_sits_3 : decode cX9_sits 3 = .ok (.aload_n 0, 1) := by decide +kernel
theorem dX9_sits_4 : decode cX9_sits 4 = .ok (.getfield 150, 3) := by decide +kernel
theorem dX9_sits_7 : decode cX9_sits 7 = .ok (.if_icmp .ge 36, 3) := by decide +kernel
theorem dX9_sits_10 : decode cX9_sits 10 = .ok (.aload_n 0, 1) := by decide +kernel
theorem dX9_sits_11 : decode cX9_sits 11 = .ok (.getfield 88, 3) := by decide +kernel
theorem dX9_sits_14 : decode cX9_sits 14 = .ok (.iload_n 3, 1) := by decide +kernel
theorem dX9_sits_15 : decode cX9_sits 15 = .ok (.iaload, 1) := by decide +kernel
theorem dX9_sits_16 : decode cX9_sits 16 = .ok (.iload_n 2, 1) := by decide +kernel
theorem dX9_sits_17 : decode cX9_sits 17 = .ok (.if_icmp .ne 20, 3) := by decide +kernel
theorem dX9_sits_20 : decode cX9_sits 20 = .ok (.aload_n 0, 1) := by decide +kernel
theorem dX9_sits_21 : decode cX9_sits 21 = .ok (.getfield 44, 3) := by decide +kernel
theorem dX9_sits_24 : decode cX9_sits 24 = .ok (.aload_n 0, 1) := by decide +kernel
theorem dX9_sits_25 : decode cX9_sits 25 = .ok (.getfield 85, 3) := by decide +kernel
theorem dX9_sits_28 : decode cX9_sits 28 = .ok (.iload_n 3, 1) := by decide +kernel
theorem dX9_sits_29 : decode cX9_sits 29 = .ok (.iaload, 1) := by decide +kernel
theorem dX9_sits_30 : decode cX9_sits 30 = .ok (.iaload, 1) := by decide +kernel
theorem dX9_sits_31 : decode cX9_sits 31 = .ok (.iload_n 1, 1) := by decide +kernel
theorem dX9_sits_32 : decode cX9_sits 32 = .ok (.if_icmp .ne 5, 3) := by decide +kernel
theorem dX9_sits_35 : decode cX9_sits 35 = .ok (.iconst 1, 1) := by decide +kernel
theorem dX9_sits_36 : decode cX9_sits 36 = .ok (.ireturn, 1) := by decide +kernel
theorem dX9_sits_37 : decode cX9_sits 37 = .ok (.iinc 3 1, 3) := by decide +kernel
theorem dX9_sits_40 : decode cX9_sits 40 = .ok (.goto (-38), 3) := by decide +kernel
theorem dX9_sits_43 : decode cX9_sits 43 = .ok (.iconst 0, 1) := by decide +kernel
theorem dX9_sits_44 : decode cX9_sits 44 = .ok (.ireturn, 1) := by decide +kernel
theorem dX9_couldBe_0 : decode cX9_couldBe 0 = .ok (.iload_n 3, 1) := by decide +kernel
theorem dX9_couldBe_1 : decode cX9_couldBe 1 = .ok (.iconst 0, 1) := by decide +kernel
theorem dX9_couldBe_2 : decode cX9_couldBe 2 = .ok (.iload_n 2, 1) := by decide +kernel
theorem dX9_couldBe_3 : decode cX9_couldBe 3 = .ok (.invokestatic 147, 3) := by decide +kernel
theorem dX9_couldBe_6 : decode cX9_couldBe 6 = .ok (.iconst 1, 1) := by decide +kernel
theorem dX9_couldBe_7 : decode cX9_couldBe 7 = .ok (.isub, 1) := by decide +kernel
theorem dX9_couldBe_8 : decode cX9_couldBe 8 = .ok (.invokestatic 113, 3) := by decide +kernel
theorem dX9_couldBe_11 : decode cX9_couldBe 11 = .ok (.ifCond .eq 45, 3) := by decide +kernel
theorem dX9_couldBe_14 : decode cX9_couldBe 14 = .ok (.iload_n 3, 1) := by decide +kernel
theorem dX9_couldBe_15 : decode cX9_couldBe 15 = .ok (.aload_n 0, 1) := by decide +kernel
theorem dX9_couldBe_16 : decode cX9_couldBe 16 = .ok (.getfield 35, 3) := by decide +kernel
theorem dX9_couldBe_19 : decode cX9_couldBe 19 = .ok (.aload_n 0, 1) := by decide +kernel
theorem dX9_couldBe_20 : decode cX9_couldBe 20 = .ok (.getfield 44, 3) := by decide +kernel
theorem dX9_couldBe_23 : decode cX9_couldBe 23 = .ok (.iload_n 1, 1) := by decide +kernel
theorem dX9_couldBe_24 : decode cX9_couldBe 24 = .ok (.iaload, 1) := by decide +kernel
theorem dX9_couldBe_25 : decode cX9_couldBe 25 = .ok (.iaload, 1) := by decide +kernel
theorem dX9_couldBe_26 : decode cX9_couldBe 26 = .ok (.aload_n 0, 1) := by decide +kernel
theorem dX9_couldBe_27 : decode cX9_couldBe 27 = .ok (.getfield 38, 3) := by decide +kernel
theorem dX9_couldBe_30 : decode cX9_couldBe 30 = .ok (.aload_n 0, 1) := by decide +kernel
theorem dX9_couldBe_31 : decode cX9_couldBe 31 = .ok (.getfield 44, 3) := by decide +kernel
theorem dX9_couldBe_34 : decode cX9_couldBe 34 = .ok (.iload_n 1, 1) := by decide +kernel
theorem dX9_couldBe_35 : decode cX9_couldBe 35 = .ok (.iaload, 1) := by decide +kernel
theorem dX9_couldBe_36 : decode cX9_couldBe 36 = .ok (.iaload, 1) := by decide +kernel
theorem dX9_couldBe_37 : decode cX9_couldBe 37 = .ok (.invokestatic 113, 3) := by decide +kernel
theorem dX9_couldBe_40 : decode cX9_couldBe 40 = .ok (.ifCond .eq 16, 3) := by decide +kernel
theorem dX9_couldBe_43 : decode cX9_couldBe 43 = .ok (.aload_n 0, 1) := by decide +kernel
theorem dX9_couldBe_44 : decode cX9_couldBe 44 = .ok (.iload_n 2, 1) := by decide +kernel
theorem dX9_couldBe_45 : decode cX9_couldBe 45 = .ok (.iload_n 3, 1) := by decide +kernel
theorem dX9_couldBe_46 : decode cX9_couldBe 46 = .ok (.invokevirtual 153, 3) := by decide +kernel
theorem dX9_couldBe_49 : decode cX9_couldBe 49 = .ok (.ifCond .eq 7, 3) := by decide +kernel
theorem dX9_couldBe_52 : decode cX9_couldBe 52 = .ok (.iconst 1, 1) := by decide +kernel
theorem dX9_couldBe_53 : decode cX9_couldBe 53 = .ok (.goto 4, 3) := by decide +kernel
theorem dX9_couldBe_56 : decode cX9_couldBe 56 = .ok (.iconst 0, 1) := by decide +kernel
theorem dX9_couldBe_57 : decode cX9_couldBe 57 = .ok (.ireturn, 1) := by decide +kernel
theorem dX9_book_0 : decode cX9_book 0 = .ok (.aload_n 0, 1) := by decide +kernel
theorem dX9_book_1 : decode cX9_book 1 = .ok (.iload_n 1, 1) := by decide +kernel
theorem dX9_book_2 : decode cX9_book 2 = .ok (.invokevirtual 157, 3) := by decide +kernel
theorem dX9_book_5 : decode cX9_book 5 = .ok (.ifCond .eq 61, 3) := by decide +kernel
theorem dX9_book_8 : decode cX9_book 8 = .ok (.aload_n 0, 1) := by decide +kernel
theorem dX9_book_9 : decode cX9_book 9 = .ok (.getfield 53, 3) := by decide +kernel
theorem dX9_book_12 : decode cX9_book 12 = .ok (.iload_n 1, 1) := by decide +kernel
theorem dX9_book_13 : decode cX9_book 13 = .ok (.iaload, 1) := by decide +kernel
theorem dX9_book_14 : decode cX9_book 14 = .ok (.iconst (-1), 1) := by decide +kernel
theorem dX9_book_15 : decode cX9_book 15 = .ok (.if_icmp .ne 51, 3) := by decide +kernel
theorem dX9_book_18 : decode cX9_book 18 = .ok (.iload_n 2, 1) := by decide +kernel
theorem dX9_book_19 : decode cX9_book 19 = .ok (.aload_n 0, 1) := by decide +kernel
theorem dX9_book_20 : decode cX9_book 20 = .ok (.getfield 128, 3) := by decide +kernel
theorem dX9_book_23 : decode cX9_book 23 = .ok (.sipush 20000, 3) := by decide +kernel
theorem dX9_book_26 : decode cX9_book 26 = .ok (.invokestatic 113, 3) := by decide +kernel
theorem dX9_book_29 : decode cX9_book 29 = .ok (.ifCond .eq 37, 3) := by decide +kernel
theorem dX9_book_32 : decode cX9_book 32 = .ok (.aload_n 0, 1) := by decide +kernel
theorem dX9_book_33 : decode cX9_book 33 = .ok (.iload_n 1, 1) := by decide +kernel
theorem dX9_book_34 : decode cX9_book 34 = .ok (.iload_n 2, 1) := by decide +kernel
theorem dX9_book_35 : decode cX9_book 35 = .ok (.iload_n 3, 1) := by decide +kernel
theorem dX9_book_36 : decode cX9_book 36 = .ok (.invokevirtual 160, 3) := by decide +kernel
theorem dX9_book_39 : decode cX9_book 39 = .ok (.ifCond .eq 27, 3) := by decide +kernel
theorem dX9_book_42 : decode cX9_book 42 = .ok (.aload_n 0, 1) := by decide +kernel
theorem dX9_book_43 : decode cX9_book 43 = .ok (.aload_n 0, 1) := by decide +kernel
theorem dX9_book_44 : decode cX9_book 44 = .ok (.getfield 44, 3) := by decide +kernel
theorem dX9_book_47 : decode cX9_book 47 = .ok (.iload_n 1, 1) := by decide +kernel
theorem dX9_book_48 : decode cX9_book 48 = .ok (.iaload, 1) := by decide +kernel
theorem dX9_book_49 : decode cX9_book 49 = .ok (.iload_n 2, 1) := by decide +kernel
theorem dX9_book_50 : decode cX9_book 50 = .ok (.invokevirtual 163, 3) := by decide +kernel
theorem dX9_book_53 : decode cX9_book 53 = .ok (.ifCond .ne 13, 3) := by decide +kernel
theorem dX9_book_56 : decode cX9_book 56 = .ok (.aload_n 0, 1) := by decide +kernel
theorem dX9_book_57 : decode cX9_book 57 = .ok (.getfield 150, 3) := by decide +kernel
theorem dX9_book_60 : decode cX9_book 60 = .ok (.sipush 200, 3) := by decide +kernel
theorem dX9_book_63 : decode cX9_book 63 = .ok (.if_icmp .ne 5, 3) := by decide +kernel
theorem dX9_book_66 : decode cX9_book 66 = .ok (.iconst 0, 1) := by decide +kernel
theorem dX9_book_67 : decode cX9_book 67 = .ok (.ireturn, 1) := by decide +kernel
theorem dX9_book_68 : decode cX9_book 68 = .ok (.aload_n 0, 1) := by decide +kernel
theorem dX9_book_69 : decode cX9_book 69 = .ok (.getfield 85, 3) := by decide +kernel
theorem dX9_book_72 : decode cX9_book 72 = .ok (.aload_n 0, 1) := by decide +kernel
theorem dX9_book_73 : decode cX9_book 73 = .ok (.getfield 150, 3) := by decide +kernel
theorem dX9_book_76 : decode cX9_book 76 = .ok (.iload_n 1, 1) := by decide +kernel
theorem dX9_book_77 : decode cX9_book 77 = .ok (.iastore, 1) := by decide +kernel
theorem dX9_book_78 : decode cX9_book 78 = .ok (.aload_n 0, 1) := by decide +kernel
theorem dX9_book_79 : decode cX9_book 79 = .ok (.getfield 88, 3) := by decide +kernel
theorem dX9_book_82 : decode cX9_book 82 = .ok (.aload_n 0, 1) := by decide +kernel
theorem dX9_book_83 : decode cX9_book 83 = .ok (.getfield 150, 3) := by decide +kernel
theorem dX9_book_86 : decode cX9_book 86 = .ok (.iload_n 2, 1) := by decide +kernel
theorem dX9_book_87 : decode cX9_book 87 = .ok (.iastore, 1) := by decide +kernel
theorem dX9_book_88 : decode cX9_book 88 = .ok (.aload_n 0, 1) := by decide +kernel
theorem dX9_book_89 : decode cX9_book 89 = .ok (.getfield 91, 3) := by decide +kernel
theorem dX9_book_92 : decode cX9_book 92 = .ok (.aload_n 0, 1) := by decide +kernel
theorem dX9_book_93 : decode cX9_book 93 = .ok (.getfield 150, 3) := by decide +kernel
theorem dX9_book_96 : decode cX9_book 96 = .ok (.iload_n 3, 1) := by decide +kernel
theorem dX9_book_97 : decode cX9_book 97 = .ok (.iastore, 1) := by decide +kernel
theorem dX9_book_98 : decode cX9_book 98 = .ok (.aload_n 0, 1) := by decide +kernel
theorem dX9_book_99 : decode cX9_book 99 = .ok (.getfield 94, 3) := by decide +kernel
theorem dX9_book_102 : decode cX9_book 102 = .ok (.aload_n 0, 1) := by decide +kernel
theorem dX9_book_103 : decode cX9_book 103 = .ok (.getfield 150, 3) := by decide +kernel
theorem dX9_book_106 : decode cX9_book 106 = .ok (.iconst 0, 1) := by decide +kernel
theorem dX9_book_107 : decode cX9_book 107 = .ok (.bastore, 1) := by decide +kernel
theorem dX9_book_108 : decode cX9_book 108 = .ok (.aload_n 0, 1) := by decide +kernel
theorem dX9_book_109 : decode cX9_book 109 = .ok (.dup, 1) := by decide +kernel
theorem dX9_book_110 : decode cX9_book 110 = .ok (.getfield 150, 3) := by decide +kernel
theorem dX9_book_113 : decode cX9_book 113 = .ok (.iconst 1, 1) := by decide +kernel
theorem dX9_book_114 : decode cX9_book 114 = .ok (.iadd, 1) := by decide +kernel
theorem dX9_book_115 : decode cX9_book 115 = .ok (.putfield 150, 3) := by decide +kernel
theorem dX9_book_118 : decode cX9_book 118 = .ok (.iconst 1, 1) := by decide +kernel
theorem dX9_book_119 : decode cX9_book 119 = .ok (.ireturn, 1) := by decide +kernel
theorem dX9_unused_0 : decode cX9_unused 0 = .ok (.iconst 0, 1) := by decide +kernel
theorem dX9_unused_1 : decode cX9_unused 1 = .ok (.istore_n 3, 1) := by decide +kernel
theorem dX9_unused_2 : decode cX9_unused 2 = .ok (.iload_n 3, 1) := by decide +kernel
theorem dX9_unused_3 : decode cX9_unused 3 = .ok (.aload_n 0, 1) := by decide +kernel
theorem dX9_unused_4 : decode cX9_unused 4 = .ok (.getfield 150, 3) := by decide +kernel
theorem dX9_unused_7 : decode cX9_unused 7 = .ok (.if_icmp .ge 40, 3) := by decide +kernel
theorem dX9_unused_10 : decode cX9_unused 10 = .ok (.aload_n 0, 1) := by decide +kernel
theorem dX9_unused_11 : decode cX9_unused 11 = .ok (.getfield 85, 3) := by decide +kernel
theorem dX9_unused_14 : decode cX9_unused 14 = .ok (.iload_n 3, 1) := by decide +kernel
theorem dX9_unused_15 : decode cX9_unused 15 = .ok (.iaload, 1) := by decide +kernel
theorem dX9_unused_16 : decode cX9_unused 16 = .ok (.iload_n 1, 1) := by decide +kernel
theorem dX9_unused_17 : decode cX9_unused 17 = .ok (.if_icmp .ne 24, 3) := by decide +kernel
theorem dX9_unused_20 : decode cX9_unused 20 = .ok (.aload_n 0, 1) := by decide +kernel
theorem dX9_unused_21 : decode cX9_unused 21 = .ok (.getfield 88, 3) := by decide +kernel
theorem dX9_unused_24 : decode cX9_unused 24 = .ok (.iload_n 3, 1) := by decide +kernel
theorem dX9_unused_25 : decode cX9_unused 25 = .ok (.iaload, 1) := by decide +kernel
theorem dX9_unused_26 : decode cX9_unused 26 = .ok (.iload_n 2, 1) := by decide +kernel
theorem dX9_unused_27 : decode cX9_unused 27 = .ok (.if_icmp .ne 14, 3) := by decide +kernel
theorem dX9_unused_30 : decode cX9_unused 30 = .ok (.aload_n 0, 1) := by decide +kernel
theorem dX9_unused_31 : decode cX9_unused 31 = .ok (.getfield 94, 3) := by decide +kernel
theorem dX9_unused_34 : decode cX9_unused 34 = .ok (.iload_n 3, 1) := by decide +kernel
theorem dX9_unused_35 : decode cX9_unused 35 = .ok (.baload, 1) := by decide +kernel
theorem dX9_unused_36 : decode cX9_unused 36 = .ok (.ifCond .ne 5, 3) := by decide +kernel
theorem dX9_unused_39 : decode cX9_unused 39 = .ok (.iload_n 3, 1) := by decide +kernel
theorem dX9_unused_40 : decode cX9_unused 40 = .ok (.ireturn, 1) := by decide +kernel
theorem dX9_unused_41 : decode cX9_unused 41 = .ok (.iinc 3 1, 3) := by decide +kernel
theorem dX9_unused_44 : decode cX9_unused 44 = .ok (.goto (-42), 3) := by decide +kernel
theorem dX9_unused_47 : decode cX9_unused 47 = .ok (.iconst (-1), 1) := by decide +kernel
theorem dX9_unused_48 : decode cX9_unused 48 = .ok (.ireturn, 1) := by decide +kernel
theorem dX9_unbook_0 : decode cX9_unbook 0 = .ok (.iload_n 2, 1) := by decide +kernel
theorem dX9_unbook_1 : decode cX9_unbook 1 = .ok (.aload_n 0, 1) := by decide +kernel
theorem dX9_unbook_2 : decode cX9_unbook 2 = .ok (.getfield 128, 3) := by decide +kernel
theorem dX9_unbook_5 : decode cX9_unbook 5 = .ok (.if_icmp .ge 7, 3) := by decide +kernel
theorem dX9_unbook_8 : decode cX9_unbook 8 = .ok (.iconst (-1), 1) := by decide +kernel
theorem dX9_unbook_9 : decode cX9_unbook 9 = .ok (.goto 9, 3) := by decide +kernel
theorem dX9_unbook_12 : decode cX9_unbook 12 = .ok (.aload_n 0, 1) := by decide +kernel
theorem dX9_unbook_13 : decode cX9_unbook 13 = .ok (.iload_n 1, 1) := by decide +kernel
theorem dX9_unbook_14 : decode cX9_unbook 14 = .ok (.iload_n 2, 1) := by decide +kernel
theorem dX9_unbook_15 : decode cX9_unbook 15 = .ok (.invokevirtual 166, 3) := by decide +kernel
theorem dX9_unbook_18 : decode cX9_unbook 18 = .ok (.istore_n 3, 1) := by decide +kernel
theorem dX9_unbook_19 : decode cX9_unbook 19 = .ok (.iload_n 3, 1) := by decide +kernel
theorem dX9_unbook_20 : decode cX9_unbook 20 = .ok (.iconst (-1), 1) := by decide +kernel
theorem dX9_unbook_21 : decode cX9_unbook 21 = .ok (.if_icmp .ne 5, 3) := by decide +kernel
theorem dX9_unbook_24 : decode cX9_unbook 24 = .ok (.iconst 0, 1) := by decide +kernel
theorem dX9_unbook_25 : decode cX9_unbook 25 = .ok (.ireturn, 1) := by decide +kernel
theorem dX9_unbook_26 : decode cX9_unbook 26 = .ok (.aload_n 0, 1) := by decide +kernel
theorem dX9_unbook_27 : decode cX9_unbook 27 = .ok (.dup, 1) := by decide +kernel
theorem dX9_unbook_28 : decode cX9_unbook 28 = .ok (.getfield 150, 3) := by decide +kernel
theorem dX9_unbook_31 : decode cX9_unbook 31 = .ok (.iconst 1, 1) := by decide +kernel
theorem dX9_unbook_32 : decode cX9_unbook 32 = .ok (.isub, 1) := by decide +kernel
theorem dX9_unbook_33 : decode cX9_unbook 33 = .ok (.putfield 150, 3) := by decide +kernel
theorem dX9_unbook_36 : decode cX9_unbook 36 = .ok (.iload_n 3, 1) := by decide +kernel
theorem dX9_unbook_37 : decode cX9_unbook 37 = .ok (.istore 4, 2) := by decide +kernel
theorem dX9_unbook_39 : decode cX9_unbook 39 = .ok (.iload 4, 2) := by decide +kernel
theorem dX9_unbook_41 : decode cX9_unbook 41 = .ok (.aload_n 0, 1) := by decide +kernel
theorem dX9_unbook_42 : decode cX9_unbook 42 = .ok (.getfield 150, 3) := by decide +kernel
theorem dX9_unbook_45 : decode cX9_unbook 45 = .ok (.if_icmp .ge 73, 3) := by decide +kernel
theorem dX9_unbook_48 : decode cX9_unbook 48 = .ok (.aload_n 0, 1) := by decide +kernel
theorem dX9_unbook_49 : decode cX9_unbook 49 = .ok (.getfield 85, 3) := by decide +kernel
theorem dX9_unbook_52 : decode cX9_unbook 52 = .ok (.iload 4, 2) := by decide +kernel
theorem dX9_unbook_54 : decode cX9_unbook 54 = .ok (.aload_n 0, 1) := by decide +kernel
theorem dX9_unbook_55 : decode cX9_unbook 55 = .ok (.getfield 85, 3) := by decide +kernel
theorem dX9_unbook_58 : decode cX9_unbook 58 = .ok (.iload 4, 2) := by decide +kernel
theorem dX9_unbook_60 : decode cX9_unbook 60 = .ok (.iconst 1, 1) := by decide +kernel
theorem dX9_unbook_61 : decode cX9_unbook 61 = .ok (.iadd, 1) := by decide +kernel
theorem dX9_unbook_62 : decode cX9_unbook 62 = .ok (.iaload, 1) := by decide +kernel
theorem dX9_unbook_63 : decode cX9_unbook 63 = .ok (.iastore, 1) := by decide +kernel
theorem dX9_unbook_64 : decode cX9_unbook 64 = .ok (.aload_n 0, 1) := by decide +kernel
theorem dX9_unbook_65 : decode cX9_unbook 65 = .ok (.getfield 88, 3) := by decide +kernel
theorem dX9_unbook_68 : decode cX9_unbook 68 = .ok (.iload 4, 2) := by decide +kernel
theorem dX9_unbook_70 : decode cX9_unbook 70 = .ok (.aload_n 0, 1) := by decide +kernel
theorem dX9_unbook_71 : decode cX9_unbook 71 = .ok (.getfield 88, 3) := by decide +kernel
theorem dX9_unbook_74 : decode cX9_unbook 74 = .ok (.iload 4, 2) := by decide +kernel
theorem dX9_unbook_76 : decode cX9_unbook 76 = .ok (.iconst 1, 1) := by decide +kernel
theorem dX9_unbook_77 : decode cX9_unbook 77 = .ok (.iadd, 1) := by decide +kernel
theorem dX9_unbook_78 : decode cX9_unbook 78 = .ok (.iaload, 1) := by decide +kernel
theorem dX9_unbook_79 : decode cX9_unbook 79 = .ok (.iastore, 1) := by decide +kernel
theorem dX9_unbook_80 : decode cX9_unbook 80 = .ok (.aload_n 0, 1) := by decide +kernel
theorem dX9_unbook_81 : decode cX9_unbook 81 = .ok (.getfield 91, 3) := by decide +kernel
theorem dX9_unbook_84 : decode cX9_unbook 84 = .ok (.iload 4, 2) := by decide +kernel
theorem dX9_unbook_86 : decode cX9_unbook 86 = .ok (.aload_n 0, 1) := by decide +kernel
theorem dX9_unbook_87 : decode cX9_unbook 87 = .ok (.getfield 91, 3) := by decide +kernel
theorem dX9_unbook_90 : decode cX9_unbook 90 = .ok (.iload 4, 2) := by decide +kernel
theorem dX9_unbook_92 : decode cX9_unbook 92 = .ok (.iconst 1, 1) := by decide +kernel
theorem dX9_unbook_93 : decode cX9_unbook 93 = .ok (.iadd, 1) := by decide +kernel
theorem dX9_unbook_94 : decode cX9_unbook 94 = .ok (.iaload, 1) := by decide +kernel
theorem dX9_unbook_95 : decode cX9_unbook 95 = .ok (.iastore, 1) := by decide +kernel
theorem dX9_unbook_96 : decode cX9_unbook 96 = .ok (.aload_n 0, 1) := by decide +kernel
theorem dX9_unbook_97 : decode cX9_unbook 97 = .ok (.getfield 94, 3) := by decide +kernel
theorem dX9_unbook_100 : decode cX9_unbook 100 = .ok (.iload 4, 2) := by decide +kernel
theorem dX9_unbook_102 : decode cX9_unbook 102 = .ok (.aload_n 0, 1) := by decide +kernel
theorem dX9_unbook_103 : decode cX9_unbook 103 = .ok (.getfield 94, 3) := by decide +kernel
theorem dX9_unbook_106 : decode cX9_unbook 106 = .ok (.iload 4, 2) := by decide +kernel
theorem dX9_unbook_108 : decode cX9_unbook 108 = .ok (.iconst 1, 1) := by decide +kernel
theorem dX9_unbook_109 : decode cX9_unbook 109 = .ok (.iadd, 1) := by decide +kernel
theorem dX9_unbook_110 : decode cX9_unbook 110 = .ok (.baload, 1) := by decide +kernel
theorem dX9_unbook_111 : decode cX9_unbook 111 = .ok (.bastore, 1) := by decide +kernel
theorem dX9_unbook_112 : decode cX9_unbook 112 = .ok (.iinc 4 1, 3) := by decide +kernel
theorem dX9_unbook_115 : decode cX9_unbook 115 = .ok (.goto (-76), 3) := by decide +kernel
theorem dX9_unbook_118 : decode cX9_unbook 118 = .ok (.iconst 1, 1) := by decide +kernel
theorem dX9_unbook_119 : decode cX9_unbook 119 = .ok (.ireturn, 1) := by decide +kernel
theorem dX9_isWet_0 : decode cX9_isWet 0 = .ok (.aload_n 0, 1) := by decide +kernel
theorem dX9_isWet_1 : decode cX9_isWet 1 = .ok (.getfield 70, 3) := by decide +kernel
theorem dX9_isWet_4 : decode cX9_isWet 4 = .ok (.iload_n 1, 1) := by decide +kernel
theorem dX9_isWet_5 : decode cX9_isWet 5 = .ok (.aaload, 1) := by decide +kernel
theorem dX9_isWet_6 : decode cX9_isWet 6 = .ok (.iload_n 2, 1) := by decide +kernel
theorem dX9_isWet_7 : decode cX9_isWet 7 = .ok (.iaload, 1) := by decide +kernel
theorem dX9_isWet_8 : decode cX9_isWet 8 = .ok (.iconst (-1), 1) := by decide +kernel
theorem dX9_isWet_9 : decode cX9_isWet 9 = .ok (.if_icmp .eq 29, 3) := by decide +kernel
theorem dX9_isWet_12 : decode cX9_isWet 12 = .ok (.aload_n 0, 1) := by decide +kernel
theorem dX9_isWet_13 : decode cX9_isWet 13 = .ok (.getfield 128, 3) := by decide +kernel
theorem dX9_isWet_16 : decode cX9_isWet 16 = .ok (.aload_n 0, 1) := by decide +kernel
theorem dX9_isWet_17 : decode cX9_isWet 17 = .ok (.getfield 70, 3) := by decide +kernel
theorem dX9_isWet_20 : decode cX9_isWet 20 = .ok (.iload_n 1, 1) := by decide +kernel
theorem dX9_isWet_21 : decode cX9_isWet 21 = .ok (.aaload, 1) := by decide +kernel
theorem dX9_isWet_22 : decode cX9_isWet 22 = .ok (.iload_n 2, 1) := by decide +kernel
theorem dX9_isWet_23 : decode cX9_isWet 23 = .ok (.iaload, 1) := by decide +kernel
theorem dX9_isWet_24 : decode cX9_isWet 24 = .ok (.isub, 1) := by decide +kernel
theorem dX9_isWet_25 : decode cX9_isWet 25 = .ok (.aload_n 0, 1) := by decide +kernel
theorem dX9_isWet_26 : decode cX9_isWet 26 = .ok (.getfield 19, 3) := by decide +kernel
theorem dX9_isWet_29 : decode cX9_isWet 29 = .ok (.iload_n 2, 1) := by decide +kernel
theorem dX9_isWet_30 : decode cX9_isWet 30 = .ok (.iaload, 1) := by decide +kernel
theorem dX9_isWet_31 : decode cX9_isWet 31 = .ok (.if_icmp .ge 7, 3) := by decide +kernel
theorem dX9_isWet_34 : decode cX9_isWet 34 = .ok (.iconst 1, 1) := by decide +kernel
theorem dX9_isWet_35 : decode cX9_isWet 35 = .ok (.goto 4, 3) := by decide +kernel
theorem dX9_isWet_38 : decode cX9_isWet 38 = .ok (.iconst 0, 1) := by decide +kernel
theorem dX9_isWet_39 : decode cX9_isWet 39 = .ok (.ireturn, 1) := by decide +kernel
theorem dX9_against_0 : decode cX9_against 0 = .ok (.aload_n 0, 1) := by decide +kernel
theorem dX9_against_1 : decode cX9_against 1 = .ok (.getfield 67, 3) := by decide +kernel
theorem dX9_against_4 : decode cX9_against 4 = .ok (.iload_n 1, 1) := by decide +kernel
theorem dX9_against_5 : decode cX9_against 5 = .ok (.aaload, 1) := by decide +kernel
theorem dX9_against_6 : decode cX9_against 6 = .ok (.iload_n 2, 1) := by decide +kernel
theorem dX9_against_7 : decode cX9_against 7 = .ok (.iaload, 1) := by decide +kernel
theorem dX9_against_8 : decode cX9_against 8 = .ok (.aload_n 0, 1) := by decide +kernel
theorem dX9_against_9 : decode cX9_against 9 = .ok (.getfield 64, 3) := by decide +kernel
theorem dX9_against_12 : decode cX9_against 12 = .ok (.iload_n 1, 1) := by decide +kernel
theorem dX9_against_13 : decode cX9_against 13 = .ok (.aaload, 1) := by decide +kernel
theorem dX9_against_14 : decode cX9_against 14 = .ok (.iload_n 2, 1) := by decide +kernel
theorem dX9_against_15 : decode cX9_against 15 = .ok (.iaload, 1) := by decide +kernel
theorem dX9_against_16 : decode cX9_against 16 = .ok (.if_icmp .ne 5, 3) := by decide +kernel
theorem dX9_against_19 : decode cX9_against 19 = .ok (.iconst 1, 1) := by decide +kernel
theorem dX9_against_20 : decode cX9_against 20 = .ok (.ireturn, 1) := by decide +kernel
theorem dX9_against_21 : decode cX9_against 21 = .ok (.aload_n 0, 1) := by decide +kernel
theorem dX9_against_22 : decode cX9_against 22 = .ok (.iload_n 1, 1) := by decide +kernel
theorem dX9_against_23 : decode cX9_against 23 = .ok (.iload_n 2, 1) := by decide +kernel
theorem dX9_against_24 : decode cX9_against 24 = .ok (.invokevirtual 169, 3) := by decide +kernel
theorem dX9_against_27 : decode cX9_against 27 = .ok (.ifCond .eq 5, 3) := by decide +kernel
theorem dX9_against_30 : decode cX9_against 30 = .ok (.iconst 2, 1) := by decide +kernel
theorem dX9_against_31 : decode cX9_against 31 = .ok (.ireturn, 1) := by decide +kernel
theorem dX9_against_32 : decode cX9_against 32 = .ok (.iload_n 2, 1) := by decide +kernel
theorem dX9_against_33 : decode cX9_against 33 = .ok (.ifCond .ne 9, 3) := by decide +kernel
theorem dX9_against_36 : decode cX9_against 36 = .ok (.iload_n 3, 1) := by decide +kernel
theorem dX9_against_37 : decode cX9_against 37 = .ok (.ifCond .eq 5, 3) := by decide +kernel
theorem dX9_against_40 : decode cX9_against 40 = .ok (.iconst 3, 1) := by decide +kernel
theorem dX9_against_41 : decode cX9_against 41 = .ok (.ireturn, 1) := by decide +kernel
theorem dX9_against_42 : decode cX9_against 42 = .ok (.aload_n 0, 1) := by decide +kernel
theorem dX9_against_43 : decode cX9_against 43 = .ok (.getfield 22, 3) := by decide +kernel
theorem dX9_against_46 : decode cX9_against 46 = .ok (.iload_n 3, 1) := by decide +kernel
theorem dX9_against_47 : decode cX9_against 47 = .ok (.iaload, 1) := by decide +kernel
theorem dX9_against_48 : decode cX9_against 48 = .ok (.aload_n 0, 1) := by decide +kernel
theorem dX9_against_49 : decode cX9_against 49 = .ok (.getfield 128, 3) := by decide +kernel
theorem dX9_against_52 : decode cX9_against 52 = .ok (.if_icmp .ne 15, 3) := by decide +kernel
theorem dX9_against_55 : decode cX9_against 55 = .ok (.aload_n 0, 1) := by decide +kernel
theorem dX9_against_56 : decode cX9_against 56 = .ok (.getfield 25, 3) := by decide +kernel
theorem dX9_against_59 : decode cX9_against 59 = .ok (.iload_n 3, 1) := by decide +kernel
theorem dX9_against_60 : decode cX9_against 60 = .ok (.iaload, 1) := by decide +kernel
theorem dX9_against_61 : decode cX9_against 61 = .ok (.iconst 3, 1) := by decide +kernel
theorem dX9_against_62 : decode cX9_against 62 = .ok (.if_icmp .ne 5, 3) := by decide +kernel
theorem dX9_against_65 : decode cX9_against 65 = .ok (.iconst 4, 1) := by decide +kernel
theorem dX9_against_66 : decode cX9_against 66 = .ok (.ireturn, 1) := by decide +kernel
theorem dX9_against_67 : decode cX9_against 67 = .ok (.iload_n 2, 1) := by decide +kernel
theorem dX9_against_68 : decode cX9_against 68 = .ok (.ifCond .ne 18, 3) := by decide +kernel
theorem dX9_against_71 : decode cX9_against 71 = .ok (.aload_n 0, 1) := by decide +kernel
theorem dX9_against_72 : decode cX9_against 72 = .ok (.iload_n 1, 1) := by decide +kernel
theorem dX9_against_73 : decode cX9_against 73 = .ok (.aload_n 0, 1) := by decide +kernel
theorem dX9_against_74 : decode cX9_against 74 = .ok (.getfield 128, 3) := by decide +kernel
theorem dX9_against_77 : decode cX9_against 77 = .ok (.invokevirtual 166, 3) := by decide +kernel
theorem dX9_against_80 : decode cX9_against 80 = .ok (.iconst (-1), 1) := by decide +kernel
theorem dX9_against_81 : decode cX9_against 81 = .ok (.if_icmp .ne 5, 3) := by decide +kernel
theorem dX9_against_84 : decode cX9_against 84 = .ok (.iconst 5, 1) := by decide +kernel
theorem dX9_against_85 : decode cX9_against 85 = .ok (.ireturn, 1) := by decide +kernel
theorem dX9_against_86 : decode cX9_against 86 = .ok (.iload_n 2, 1) := by decide +kernel
theorem dX9_against_87 : decode cX9_against 87 = .ok (.iconst 2, 1) := by decide +kernel
theorem dX9_against_88 : decode cX9_against 88 = .ok (.if_icmp .ne 51, 3) := by decide +kernel
theorem dX9_against_91 : decode cX9_against 91 = .ok (.aload_n 0, 1) := by decide +kernel
theorem dX9_against_92 : decode cX9_against 92 = .ok (.getfield 56, 3) := by decide +kernel
theorem dX9_against_95 : decode cX9_against 95 = .ok (.iload_n 1, 1) := by decide +kernel
theorem dX9_against_96 : decode cX9_against 96 = .ok (.iaload, 1) := by decide +kernel
theorem dX9_against_97 : decode cX9_against 97 = .ok (.iconst (-1), 1) := by decide +kernel
theorem dX9_against_98 : decode cX9_against 98 = .ok (.if_icmp .eq 41, 3) := by decide +kernel
theorem dX9_against_101 : decode cX9_against 101 = .ok (.aload_n 0, 1) := by decide +kernel
theorem dX9_against_102 : decode cX9_against 102 = .ok (.getfield 79, 3) := by decide +kernel
theorem dX9_against_105 : decode cX9_against 105 = .ok (.aload_n 0, 1) := by decide +kernel
theorem dX9_against_106 : decode cX9_against 106 = .ok (.getfield 56, 3) := by decide +kernel
theorem dX9_against_109 : decode cX9_against 109 = .ok (.iload_n 1, 1) := by decide +kernel
theorem dX9_against_110 : decode cX9_against 110 = .ok (.iaload, 1) := by decide +kernel
theorem dX9_against_111 : decode cX9_against 111 = .ok (.iaload, 1) := by decide +kernel
theorem dX9_against_112 : decode cX9_against 112 = .ok (.aload_n 0, 1) := by decide +kernel
theorem dX9_against_113 : decode cX9_against 113 = .ok (.getfield 128, 3) := by decide +kernel
theorem dX9_against_116 : decode cX9_against 116 = .ok (.if_icmp .ne 23, 3) := by decide +kernel
theorem dX9_against_119 : decode cX9_against 119 = .ok (.aload_n 0, 1) := by decide +kernel
theorem dX9_against_120 : decode cX9_against 120 = .ok (.getfield 82, 3) := by decide +kernel
theorem dX9_against_123 : decode cX9_against 123 = .ok (.aload_n 0, 1) := by decide +kernel
theorem dX9_against_124 : decode cX9_against 124 = .ok (.getfield 56, 3) := by decide +kernel
theorem dX9_against_127 : decode cX9_against 127 = .ok (.iload_n 1, 1) := by decide +kernel
theorem dX9_against_128 : decode cX9_against 128 = .ok (.iaload, 1) := by decide +kernel
theorem dX9_against_129 : decode cX9_against 129 = .ok (.iaload, 1) := by decide +kernel
theorem dX9_against_130 : decode cX9_against 130 = .ok (.iload_n 1, 1) := by decide +kernel
theorem dX9_against_131 : decode cX9_against 131 = .ok (.if_icmp .eq 8, 3) := by decide +kernel
theorem dX9_against_134 : decode cX9_against 134 = .ok (.bipush 6, 2) := by decide +kernel
theorem dX9_against_136 : decode cX9_against 136 = .ok (.goto 4, 3) := by decide +kernel
theorem dX9_against_139 : decode cX9_against 139 = .ok (.iconst 0, 1) := by decide +kernel
theorem dX9_against_140 : decode cX9_against 140 = .ok (.ireturn, 1) := by decide +kernel
theorem dX9_isDone_0 : decode cX9_isDone 0 = .ok (.iconst 1, 1) := by decide +kernel
theorem dX9_isDone_1 : decode cX9_isDone 1 = .ok (.istore_n 2, 1) := by decide +kernel
theorem dX9_isDone_2 : decode cX9_isDone 2 = .ok (.iconst 0, 1) := by decide +kernel
theorem dX9_isDone_3 : decode cX9_isDone 3 = .ok (.istore_n 3, 1) := by decide +kernel
theorem dX9_isDone_4 : decode cX9_isDone 4 = .ok (.iload_n 3, 1) := by decide +kernel
theorem dX9_isDone_5 : decode cX9_isDone 5 = .ok (.iconst 5, 1) := by decide +kernel
theorem dX9_isDone_6 : decode cX9_isDone 6 = .ok (.if_icmp .ge 38, 3) := by decide +kernel
theorem dX9_isDone_9 : decode cX9_isDone 9 = .ok (.iload_n 2, 1) := by decide +kernel
theorem dX9_isDone_10 : decode cX9_isDone 10 = .ok (.ifCond .eq 26, 3) := by decide +kernel
theorem dX9_isDone_13 : decode cX9_isDone 13 = .ok (.aload_n 0, 1) := by decide +kernel
theorem dX9_isDone_14 : decode cX9_isDone 14 = .ok (.getfield 67, 3) := by decide +kernel
theorem dX9_isDone_17 : decode cX9_isDone 17 = .ok (.iload_n 1, 1) := by decide +kernel
theorem dX9_isDone_18 : decode cX9_isDone 18 = .ok (.aaload, 1) := by decide +kernel
theorem dX9_isDone_19 : decode cX9_isDone 19 = .ok (.iload_n 3, 1) := by decide +kernel
theorem dX9_isDone_20 : decode cX9_isDone 20 = .ok (.iaload, 1) := by decide +kernel
theorem dX9_isDone_21 : decode cX9_isDone 21 = .ok (.aload_n 0, 1) := by decide +kernel
theorem dX9_isDone_22 : decode cX9_isDone 22 = .ok (.getfield 64, 3) := by decide +kernel
theorem dX9_isDone_25 : decode cX9_isDone 25 = .ok (.iload_n 1, 1) := by decide +kernel
theorem dX9_isDone_26 : decode cX9_isDone 26 = .ok (.aaload, 1) := by decide +kernel
theorem dX9_isDone_27 : decode cX9_isDone 27 = .ok (.iload_n 3, 1) := by decide +kernel
theorem dX9_isDone_28 : decode cX9_isDone 28 = .ok (.iaload, 1) := by decide +kernel
theorem dX9_isDone_29 : decode cX9_isDone 29 = .ok (.if_icmp .ne 7, 3) := by decide +kernel
theorem dX9_isDone_32 : decode cX9_isDone 32 = .ok (.iconst 1, 1) := by decide +kernel
theorem dX9_isDone_33 : decode cX9_isDone 33 = .ok (.goto 4, 3) := by decide +kernel
theorem dX9_isDone_36 : decode cX9_isDone 36 = .ok (.iconst 0, 1) := by decide +kernel
theorem dX9_isDone_37 : decode cX9_isDone 37 = .ok (.istore_n 2, 1) := by decide +kernel
theorem dX9_isDone_38 : decode cX9_isDone 38 = .ok (.iinc 3 1, 3) := by decide +kernel
theorem dX9_isDone_41 : decode cX9_isDone 41 = .ok (.goto (-37), 3) := by decide +kernel
theorem dX9_isDone_44 : decode cX9_isDone 44 = .ok (.iload_n 2, 1) := by decide +kernel
theorem dX9_isDone_45 : decode cX9_isDone 45 = .ok (.ireturn, 1) := by decide +kernel
theorem dX9_paint_0 : decode cX9_paint 0 = .ok (.aload_n 0, 1) := by decide +kernel
theorem dX9_paint_1 : decode cX9_paint 1 = .ok (.iload_n 1, 1) := by decide +kernel
theorem dX9_paint_2 : decode cX9_paint 2 = .ok (.invokevirtual 157, 3) := by decide +kernel
theorem dX9_paint_5 : decode cX9_paint 5 = .ok (.ifCond .eq 20, 3) := by decide +kernel
theorem dX9_paint_8 : decode cX9_paint 8 = .ok (.iload_n 2, 1) := by decide +kernel
theorem dX9_paint_9 : decode cX9_paint 9 = .ok (.iconst 0, 1) := by decide +kernel
theorem dX9_paint_10 : decode cX9_paint 10 = .ok (.iconst 4, 1) := by decide +kernel
theorem dX9_paint_11 : decode cX9_paint 11 = .ok (.invokestatic 113, 3) := by decide +kernel
theorem dX9_paint_14 : decode cX9_paint 14 = .ok (.ifCond .eq 11, 3) := by decide +kernel
theorem dX9_paint_17 : decode cX9_paint 17 = .ok (.aload_n 0, 1) := by decide +kernel
theorem dX9_paint_18 : decode cX9_paint 18 = .ok (.iload_n 3, 1) := by decide +kernel
theorem dX9_paint_19 : decode cX9_paint 19 = .ok (.invokevirtual 172, 3) := by decide +kernel
theorem dX9_paint_22 : decode cX9_paint 22 = .ok (.ifCond .ne 5, 3) := by decide +kernel
theorem dX9_paint_25 : decode cX9_paint 25 = .ok (.iconst (-1), 1) := by decide +kernel
theorem dX9_paint_26 : decode cX9_paint 26 = .ok (.ireturn, 1) := by decide +kernel
theorem dX9_paint_27 : decode cX9_paint 27 = .ok (.aload_n 0, 1) := by decide +kernel
theorem dX9_paint_28 : decode cX9_paint 28 = .ok (.iload_n 1, 1) := by decide +kernel
theorem dX9_paint_29 : decode cX9_paint 29 = .ok (.iload_n 2, 1) := by decide +kernel
theorem dX9_paint_30 : decode cX9_paint 30 = .ok (.iload_n 3, 1) := by decide +kernel
theorem dX9_paint_31 : decode cX9_paint 31 = .ok (.invokevirtual 175, 3) := by decide +kernel
theorem dX9_paint_34 : decode cX9_paint 34 = .ok (.istore 4, 2) := by decide +kernel
theorem dX9_paint_36 : decode cX9_paint 36 = .ok (.iload 4, 2) := by decide +kernel
theorem dX9_paint_38 : decode cX9_paint 38 = .ok (.ifCond .le 6, 3) := by decide +kernel
theorem dX9_paint_41 : decode cX9_paint 41 = .ok (.iload 4, 2) := by decide +kernel
theorem dX9_paint_43 : decode cX9_paint 43 = .ok (.ireturn, 1) := by decide +kernel
theorem dX9_paint_44 : decode cX9_paint 44 = .ok (.iload_n 2, 1) := by decide +kernel
theorem dX9_paint_45 : decode cX9_paint 45 = .ok (.ifCond .ne 18, 3) := by decide +kernel
theorem dX9_paint_48 : decode cX9_paint 48 = .ok (.aload_n 0, 1) := by decide +kernel
theorem dX9_paint_49 : decode cX9_paint 49 = .ok (.getfield 94, 3) := by decide +kernel
theorem dX9_paint_52 : decode cX9_paint 52 = .ok (.aload_n 0, 1) := by decide +kernel
theorem dX9_paint_53 : decode cX9_paint 53 = .ok (.iload_n 1, 1) := by decide +kernel
theorem dX9_paint_54 : decode cX9_paint 54 = .ok (.aload_n 0, 1) := by decide +kernel
theorem dX9_paint_55 : decode cX9_paint 55 = .ok (.getfield 128, 3) := by decide +kernel
theorem dX9_paint_58 : decode cX9_paint 58 = .ok (.invokevirtual 166, 3) := by decide +kernel
theorem dX9_paint_61 : decode cX9_paint 61 = .ok (.iconst 1, 1) := by decide +kernel
theorem dX9_paint_62 : decode cX9_paint 62 = .ok (.bastore, 1) := by decide +kernel
theorem dX9_paint_63 : decode cX9_paint 63 = .ok (.iload_n 2, 1) := by decide +kernel
theorem dX9_paint_64 : decode cX9_paint 64 = .ok (.iconst 2, 1) := by decide +kernel
theorem dX9_paint_65 : decode cX9_paint 65 = .ok (.if_icmp .ne 40, 3) := by decide +kernel
theorem dX9_paint_68 : decode cX9_paint 68 = .ok (.aload_n 0, 1) := by decide +kernel
theorem dX9_paint_69 : decode cX9_paint 69 = .ok (.getfield 56, 3) := by decide +kernel
theorem dX9_paint_72 : decode cX9_paint 72 = .ok (.iload_n 1, 1) := by decide +kernel
theorem dX9_paint_73 : decode cX9_paint 73 = .ok (.iaload, 1) := by decide +kernel
theorem dX9_paint_74 : decode cX9_paint 74 = .ok (.iconst (-1), 1) := by decide +kernel
theorem dX9_paint_75 : decode cX9_paint 75 = .ok (.if_icmp .eq 30, 3) := by decide +kernel
theorem dX9_paint_78 : decode cX9_paint 78 = .ok (.aload_n 0, 1) := by decide +kernel
theorem dX9_paint_79 : decode cX9_paint 79 = .ok (.getfield 79, 3) := by decide +kernel
theorem dX9_paint_82 : decode cX9_paint 82 = .ok (.aload_n 0, 1) := by decide +kernel
theorem dX9_paint_83 : decode cX9_paint 83 = .ok (.getfield 56, 3) := by decide +kernel
theorem dX9_paint_86 : decode cX9_paint 86 = .ok (.iload_n 1, 1) := by decide +kernel
theorem dX9_paint_87 : decode cX9_paint 87 = .ok (.iaload, 1) := by decide +kernel
theorem dX9_paint_88 : decode cX9_paint 88 = .ok (.aload_n 0, 1) := by decide +kernel
theorem dX9_paint_89 : decode cX9_paint 89 = .ok (.getfield 128, 3) := by decide +kernel
theorem dX9_paint_92 : decode cX9_paint 92 = .ok (.iastore, 1) := by decide +kernel
theorem dX9_paint_93 : decode cX9_paint 93 = .ok (.aload_n 0, 1) := by decide +kernel
theorem dX9_paint_94 : decode cX9_paint 94 = .ok (.getfield 82, 3) := by decide +kernel
theorem dX9_paint_97 : decode cX9_paint 97 = .ok (.aload_n 0, 1) := by decide +kernel
theorem dX9_paint_98 : decode cX9_paint 98 = .ok (.getfield 56, 3) := by decide +kernel
theorem dX9_paint_101 : decode cX9_paint 101 = .ok (.iload_n 1, 1) := by decide +kernel
theorem dX9_paint_102 : decode cX9_paint 102 = .ok (.iaload, 1) := by decide +kernel
theorem dX9_paint_103 : decode cX9_paint 103 = .ok (.iload_n 1, 1) := by decide +kernel
theorem dX9_paint_104 : decode cX9_paint 104 = .ok (.iastore, 1) := by decide +kernel
theorem dX9_paint_105 : decode cX9_paint 105 = .ok (.aload_n 0, 1) := by decide +kernel
theorem dX9_paint_106 : decode cX9_paint 106 = .ok (.getfield 25, 3) := by decide +kernel
theorem dX9_paint_109 : decode cX9_paint 109 = .ok (.iload_n 3, 1) := by decide +kernel
theorem dX9_paint_110 : decode cX9_paint 110 = .ok (.aload_n 0, 1) := by decide +kernel
theorem dX9_paint_111 : decode cX9_paint 111 = .ok (.getfield 22, 3) := by decide +kernel
theorem dX9_paint_114 : decode cX9_paint 114 = .ok (.iload_n 3, 1) := by decide +kernel
theorem dX9_paint_115 : decode cX9_paint 115 = .ok (.iaload, 1) := by decide +kernel
theorem dX9_paint_116 : decode cX9_paint 116 = .ok (.aload_n 0, 1) := by decide +kernel
theorem dX9_paint_117 : decode cX9_paint 117 = .ok (.getfield 128, 3) := by decide +kernel
theorem dX9_paint_120 : decode cX9_paint 120 = .ok (.if_icmp .ne 14, 3) := by decide +kernel
theorem dX9_paint_123 : decode cX9_paint 123 = .ok (.aload_n 0, 1) := by decide +kernel
theorem dX9_paint_124 : decode cX9_paint 124 = .ok (.getfield 25, 3) := by decide +kernel
theorem dX9_paint_127 : decode cX9_paint 127 = .ok (.iload_n 3, 1) := by decide +kernel
theorem dX9_paint_128 : decode cX9_paint 128 = .ok (.iaload, 1) := by decide +kernel
theorem dX9_paint_129 : decode cX9_paint 129 = .ok (.iconst 1, 1) := by decide +kernel
theorem dX9_paint_130 : decode cX9_paint 130 = .ok (.iadd, 1) := by decide +kernel
theorem dX9_paint_131 : decode cX9_paint 131 = .ok (.goto 4, 3) := by decide +kernel
theorem dX9_paint_134 : decode cX9_paint 134 = .ok (.iconst 1, 1) := by decide +kernel
theorem dX9_paint_135 : decode cX9_paint 135 = .ok (.iastore, 1) := by decide +kernel
theorem dX9_paint_136 : decode cX9_paint 136 = .ok (.aload_n 0, 1) := by decide +kernel
theorem dX9_paint_137 : decode cX9_paint 137 = .ok (.getfield 22, 3) := by decide +kernel
theorem dX9_paint_140 : decode cX9_paint 140 = .ok (.iload_n 3, 1) := by decide +kernel
theorem dX9_paint_141 : decode cX9_paint 141 = .ok (.aload_n 0, 1) := by decide +kernel
theorem dX9_paint_142 : decode cX9_paint 142 = .ok (.getfield 128, 3) := by decide +kernel
theorem dX9_paint_145 : decode cX9_paint 145 = .ok (.iastore, 1) := by decide +kernel
theorem dX9_paint_146 : decode cX9_paint 146 = .ok (.aload_n 0, 1) := by decide +kernel
theorem dX9_paint_147 : decode cX9_paint 147 = .ok (.getfield 67, 3) := by decide +kernel
theorem dX9_paint_150 : decode cX9_paint 150 = .ok (.iload_n 1, 1) := by decide +kernel
theorem dX9_paint_151 : decode cX9_paint 151 = .ok (.aaload, 1) := by decide +kernel
theorem dX9_paint_152 : decode cX9_paint 152 = .ok (.iload_n 2, 1) := by decide +kernel
theorem dX9_paint_153 : decode cX9_paint 153 = .ok (.dup2, 1) := by decide +kernel
theorem dX9_paint_154 : decode cX9_paint 154 = .ok (.iaload, 1) := by decide +kernel
theorem dX9_paint_155 : decode cX9_paint 155 = .ok (.iconst 1, 1) := by decide +kernel
theorem dX9_paint_156 : decode cX9_paint 156 = .ok (.iadd, 1) := by decide +kernel
theorem dX9_paint_157 : decode cX9_paint 157 = .ok (.iastore, 1) := by decide +kernel
theorem dX9_paint_158 : decode cX9_paint 158 = .ok (.aload_n 0, 1) := by decide +kernel
theorem dX9_paint_159 : decode cX9_paint 159 = .ok (.getfield 70, 3) := by decide +kernel
theorem dX9_paint_162 : decode cX9_paint 162 = .ok (.iload_n 1, 1) := by decide +kernel
theorem dX9_paint_163 : decode cX9_paint 163 = .ok (.aaload, 1) := by decide +kernel
theorem dX9_paint_164 : decode cX9_paint 164 = .ok (.iload_n 2, 1) := by decide +kernel
theorem dX9_paint_165 : decode cX9_paint 165 = .ok (.aload_n 0, 1) := by decide +kernel
theorem dX9_paint_166 : decode cX9_paint 166 = .ok (.getfield 128, 3) := by decide +kernel
theorem dX9_paint_169 : decode cX9_paint 169 = .ok (.iastore, 1) := by decide +kernel
end
section
theorem dX9_paint_170 : decode cX9_paint 170 = .ok (.aload_n 0, 1) := by decide +kernel
theorem dX9_paint_171 : decode cX9_paint 171 = .ok (.getfield 73, 3) := by decide +kernel
theorem dX9_paint_174 : decode cX9_paint 174 = .ok (.iload_n 1, 1) := by decide +kernel
theorem dX9_paint_175 : decode cX9_paint 175 = .ok (.aaload, 1) := by decide +kernel
theorem dX9_paint_176 : decode cX9_paint 176 = .ok (.iload_n 2, 1) := by decide +kernel
theorem dX9_paint_177 : decode cX9_paint 177 = .ok (.iload_n 3, 1) := by decide +kernel
theorem dX9_paint_178 : decode cX9_paint 178 = .ok (.iastore, 1) := by decide +kernel
theorem dX9_paint_179 : decode cX9_paint 179 = .ok (.aload_n 0, 1) := by decide +kernel
theorem dX9_paint_180 : decode cX9_paint 180 = .ok (.dup, 1) := by decide +kernel
theorem dX9_paint_181 : decode cX9_paint 181 = .ok (.getfield 179, 3) := by decide +kernel
theorem dX9_paint_184 : decode cX9_paint 184 = .ok (.iconst 1, 1) := by decide +kernel
theorem dX9_paint_185 : decode cX9_paint 185 = .ok (.iadd, 1) := by decide +kernel
theorem dX9_paint_186 : decode cX9_paint 186 = .ok (.putfield 179, 3) := by decide +kernel
theorem dX9_paint_189 : decode cX9_paint 189 = .ok (.aload_n 0, 1) := by decide +kernel
theorem dX9_paint_190 : decode cX9_paint 190 = .ok (.iload_n 1, 1) := by decide +kernel
theorem dX9_paint_191 : decode cX9_paint 191 = .ok (.invokevirtual 182, 3) := by decide +kernel
theorem dX9_paint_194 : decode cX9_paint 194 = .ok (.ifCond .eq 42, 3) := by decide +kernel
theorem dX9_paint_197 : decode cX9_paint 197 = .ok (.aload_n 0, 1) := by decide +kernel
theorem dX9_paint_198 : decode cX9_paint 198 = .ok (.getfield 53, 3) := by decide +kernel
theorem dX9_paint_201 : decode cX9_paint 201 = .ok (.iload_n 1, 1) := by decide +kernel
theorem dX9_paint_202 : decode cX9_paint 202 = .ok (.aload_n 0, 1) := by decide +kernel
theorem dX9_paint_203 : decode cX9_paint 203 = .ok (.getfield 128, 3) := by decide +kernel
theorem dX9_paint_206 : decode cX9_paint 206 = .ok (.iastore, 1) := by decide +kernel
theorem dX9_paint_207 : decode cX9_paint 207 = .ok (.aload_n 0, 1) := by decide +kernel
theorem dX9_paint_208 : decode cX9_paint 208 = .ok (.getfield 41, 3) := by decide +kernel
theorem dX9_paint_211 : decode cX9_paint 211 = .ok (.aload_n 0, 1) := by decide +kernel
theorem dX9_paint_212 : decode cX9_paint 212 = .ok (.getfield 44, 3) := by decide +kernel
theorem dX9_paint_215 : decode cX9_paint 215 = .ok (.iload_n 1, 1) := by decide +kernel
theorem dX9_paint_216 : decode cX9_paint 216 = .ok (.iaload, 1) := by decide +kernel
theorem dX9_paint_217 : decode cX9_paint 217 = .ok (.dup2, 1) := by decide +kernel
theorem dX9_paint_218 : decode cX9_paint 218 = .ok (.iaload, 1) := by decide +kernel
theorem dX9_paint_219 : decode cX9_paint 219 = .ok (.aload_n 0, 1) := by decide +kernel
theorem dX9_paint_220 : decode cX9_paint 220 = .ok (.getfield 47, 3) := by decide +kernel
theorem dX9_paint_223 : decode cX9_paint 223 = .ok (.iload_n 1, 1) := by decide +kernel
theorem dX9_paint_224 : decode cX9_paint 224 = .ok (.iaload, 1) := by decide +kernel
theorem dX9_paint_225 : decode cX9_paint 225 = .ok (.aload_n 0, 1) := by decide +kernel
theorem dX9_paint_226 : decode cX9_paint 226 = .ok (.getfield 47, 3) := by decide +kernel
theorem dX9_paint_229 : decode cX9_paint 229 = .ok (.iload_n 1, 1) := by decide +kernel
theorem dX9_paint_230 : decode cX9_paint 230 = .ok (.iaload, 1) := by decide +kernel
theorem dX9_paint_231 : decode cX9_paint 231 = .ok (.iconst 2, 1) := by decide +kernel
theorem dX9_paint_232 : decode cX9_paint 232 = .ok (.idiv, 1) := by decide +kernel
theorem dX9_paint_233 : decode cX9_paint 233 = .ok (.isub, 1) := by decide +kernel
theorem dX9_paint_234 : decode cX9_paint 234 = .ok (.iadd, 1) := by decide +kernel
theorem dX9_paint_235 : decode cX9_paint 235 = .ok (.iastore, 1) := by decide +kernel
theorem dX9_paint_236 : decode cX9_paint 236 = .ok (.iconst 0, 1) := by decide +kernel
theorem dX9_paint_237 : decode cX9_paint 237 = .ok (.ireturn, 1) := by decide +kernel
theorem dX9_pay_0 : decode cX9_pay 0 = .ok (.aload_n 0, 1) := by decide +kernel
theorem dX9_pay_1 : decode cX9_pay 1 = .ok (.iload_n 1, 1) := by decide +kernel
theorem dX9_pay_2 : decode cX9_pay 2 = .ok (.invokevirtual 123, 3) := by decide +kernel
theorem dX9_pay_5 : decode cX9_pay 5 = .ok (.ifCond .eq 17, 3) := by decide +kernel
theorem dX9_pay_8 : decode cX9_pay 8 = .ok (.iload_n 2, 1) := by decide +kernel
theorem dX9_pay_9 : decode cX9_pay 9 = .ok (.iconst 1, 1) := by decide +kernel
theorem dX9_pay_10 : decode cX9_pay 10 = .ok (.aload_n 0, 1) := by decide +kernel
theorem dX9_pay_11 : decode cX9_pay 11 = .ok (.getfield 41, 3) := by decide +kernel
theorem dX9_pay_14 : decode cX9_pay 14 = .ok (.iload_n 1, 1) := by decide +kernel
theorem dX9_pay_15 : decode cX9_pay 15 = .ok (.iaload, 1) := by decide +kernel
theorem dX9_pay_16 : decode cX9_pay 16 = .ok (.invokestatic 113, 3) := by decide +kernel
theorem dX9_pay_19 : decode cX9_pay 19 = .ok (.ifCond .ne 5, 3) := by decide +kernel
theorem dX9_pay_22 : decode cX9_pay 22 = .ok (.iconst (-1), 1) := by decide +kernel
theorem dX9_pay_23 : decode cX9_pay 23 = .ok (.ireturn, 1) := by decide +kernel
theorem dX9_pay_24 : decode cX9_pay 24 = .ok (.aload_n 0, 1) := by decide +kernel
theorem dX9_pay_25 : decode cX9_pay 25 = .ok (.getfield 41, 3) := by decide +kernel
theorem dX9_pay_28 : decode cX9_pay 28 = .ok (.iload_n 1, 1) := by decide +kernel
theorem dX9_pay_29 : decode cX9_pay 29 = .ok (.dup2, 1) := by decide +kernel
theorem dX9_pay_30 : decode cX9_pay 30 = .ok (.iaload, 1) := by decide +kernel
theorem dX9_pay_31 : decode cX9_pay 31 = .ok (.iload_n 2, 1) := by decide +kernel
theorem dX9_pay_32 : decode cX9_pay 32 = .ok (.isub, 1) := by decide +kernel
theorem dX9_pay_33 : decode cX9_pay 33 = .ok (.iastore, 1) := by decide +kernel
theorem dX9_pay_34 : decode cX9_pay 34 = .ok (.aload_n 0, 1) := by decide +kernel
theorem dX9_pay_35 : decode cX9_pay 35 = .ok (.dup, 1) := by decide +kernel
theorem dX9_pay_36 : decode cX9_pay 36 = .ok (.getfield 185, 3) := by decide +kernel
theorem dX9_pay_39 : decode cX9_pay 39 = .ok (.iload_n 2, 1) := by decide +kernel
theorem dX9_pay_40 : decode cX9_pay 40 = .ok (.iadd, 1) := by decide +kernel
theorem dX9_pay_41 : decode cX9_pay 41 = .ok (.putfield 185, 3) := by decide +kernel
theorem dX9_pay_44 : decode cX9_pay 44 = .ok (.aload_n 0, 1) := by decide +kernel
theorem dX9_pay_45 : decode cX9_pay 45 = .ok (.getfield 41, 3) := by decide +kernel
theorem dX9_pay_48 : decode cX9_pay 48 = .ok (.iload_n 1, 1) := by decide +kernel
theorem dX9_pay_49 : decode cX9_pay 49 = .ok (.iaload, 1) := by decide +kernel
theorem dX9_pay_50 : decode cX9_pay 50 = .ok (.ireturn, 1) := by decide +kernel
theorem dX9_tries_0 : decode cX9_tries 0 = .ok (.iload_n 1, 1) := by decide +kernel
theorem dX9_tries_1 : decode cX9_tries 1 = .ok (.aload_n 0, 1) := by decide +kernel
theorem dX9_tries_2 : decode cX9_tries 2 = .ok (.getfield 188, 3) := by decide +kernel
theorem dX9_tries_5 : decode cX9_tries 5 = .ok (.if_icmp .ne 49, 3) := by decide +kernel
theorem dX9_tries_8 : decode cX9_tries 8 = .ok (.iload 4, 2) := by decide +kernel
theorem dX9_tries_10 : decode cX9_tries 10 = .ok (.aload_n 0, 1) := by decide +kernel
theorem dX9_tries_11 : decode cX9_tries 11 = .ok (.getfield 191, 3) := by decide +kernel
theorem dX9_tries_14 : decode cX9_tries 14 = .ok (.if_icmp .gt 4, 3) := by decide +kernel
theorem dX9_tries_17 : decode cX9_tries 17 = .ok (.return_, 1) := by decide +kernel
theorem dX9_tries_18 : decode cX9_tries 18 = .ok (.aload_n 0, 1) := by decide +kernel
theorem dX9_tries_19 : decode cX9_tries 19 = .ok (.iload 4, 2) := by decide +kernel
theorem dX9_tries_21 : decode cX9_tries 21 = .ok (.putfield 191, 3) := by decide +kernel
theorem dX9_tries_24 : decode cX9_tries 24 = .ok (.iconst 0, 1) := by decide +kernel
theorem dX9_tries_25 : decode cX9_tries 25 = .ok (.istore 5, 2) := by decide +kernel
theorem dX9_tries_27 : decode cX9_tries 27 = .ok (.iload 5, 2) := by decide +kernel
theorem dX9_tries_29 : decode cX9_tries 29 = .ok (.iload_n 1, 1) := by decide +kernel
theorem dX9_tries_30 : decode cX9_tries 30 = .ok (.if_icmp .ge 23, 3) := by decide +kernel
theorem dX9_tries_33 : decode cX9_tries 33 = .ok (.aload_n 0, 1) := by decide +kernel
theorem dX9_tries_34 : decode cX9_tries 34 = .ok (.getfield 107, 3) := by decide +kernel
theorem dX9_tries_37 : decode cX9_tries 37 = .ok (.iload 5, 2) := by decide +kernel
theorem dX9_tries_39 : decode cX9_tries 39 = .ok (.aload_n 0, 1) := by decide +kernel
theorem dX9_tries_40 : decode cX9_tries 40 = .ok (.getfield 104, 3) := by decide +kernel
theorem dX9_tries_43 : decode cX9_tries 43 = .ok (.iload 5, 2) := by decide +kernel
theorem dX9_tries_45 : decode cX9_tries 45 = .ok (.iaload, 1) := by decide +kernel
theorem dX9_tries_46 : decode cX9_tries 46 = .ok (.iastore, 1) := by decide +kernel
theorem dX9_tries_47 : decode cX9_tries 47 = .ok (.iinc 5 1, 3) := by decide +kernel
theorem dX9_tries_50 : decode cX9_tries 50 = .ok (.goto (-23), 3) := by decide +kernel
theorem dX9_tries_53 : decode cX9_tries 53 = .ok (.return_, 1) := by decide +kernel
theorem dX9_tries_54 : decode cX9_tries 54 = .ok (.aload_n 0, 1) := by decide +kernel
theorem dX9_tries_55 : decode cX9_tries 55 = .ok (.getfield 101, 3) := by decide +kernel
theorem dX9_tries_58 : decode cX9_tries 58 = .ok (.iload_n 1, 1) := by decide +kernel
theorem dX9_tries_59 : decode cX9_tries 59 = .ok (.iaload, 1) := by decide +kernel
theorem dX9_tries_60 : decode cX9_tries 60 = .ok (.istore 5, 2) := by decide +kernel
theorem dX9_tries_62 : decode cX9_tries 62 = .ok (.iconst 0, 1) := by decide +kernel
theorem dX9_tries_63 : decode cX9_tries 63 = .ok (.istore 6, 2) := by decide +kernel
theorem dX9_tries_65 : decode cX9_tries 65 = .ok (.iconst 0, 1) := by decide +kernel
theorem dX9_tries_66 : decode cX9_tries 66 = .ok (.istore 7, 2) := by decide +kernel
theorem dX9_tries_68 : decode cX9_tries 68 = .ok (.iload 7, 2) := by decide +kernel
theorem dX9_tries_70 : decode cX9_tries 70 = .ok (.iload_n 1, 1) := by decide +kernel
theorem dX9_tries_71 : decode cX9_tries 71 = .ok (.if_icmp .ge 54, 3) := by decide +kernel
theorem dX9_tries_74 : decode cX9_tries 74 = .ok (.iload 6, 2) := by decide +kernel
theorem dX9_tries_76 : decode cX9_tries 76 = .ok (.ifCond .ne 36, 3) := by decide +kernel
theorem dX9_tries_79 : decode cX9_tries 79 = .ok (.aload_n 0, 1) := by decide +kernel
theorem dX9_tries_80 : decode cX9_tries 80 = .ok (.getfield 104, 3) := by decide +kernel
theorem dX9_tries_83 : decode cX9_tries 83 = .ok (.iload 7, 2) := by decide +kernel
theorem dX9_tries_85 : decode cX9_tries 85 = .ok (.iaload, 1) := by decide +kernel
theorem dX9_tries_86 : decode cX9_tries 86 = .ok (.iconst (-1), 1) := by decide +kernel
theorem dX9_tries_87 : decode cX9_tries 87 = .ok (.if_icmp .eq 29, 3) := by decide +kernel
theorem dX9_tries_90 : decode cX9_tries 90 = .ok (.aload_n 0, 1) := by decide +kernel
theorem dX9_tries_91 : decode cX9_tries 91 = .ok (.getfield 44, 3) := by decide +kernel
theorem dX9_tries_94 : decode cX9_tries 94 = .ok (.aload_n 0, 1) := by decide +kernel
theorem dX9_tries_95 : decode cX9_tries 95 = .ok (.getfield 101, 3) := by decide +kernel
theorem dX9_tries_98 : decode cX9_tries 98 = .ok (.iload 7, 2) := by decide +kernel
theorem dX9_tries_100 : decode cX9_tries 100 = .ok (.iaload, 1) := by decide +kernel
theorem dX9_tries_101 : decode cX9_tries 101 = .ok (.iaload, 1) := by decide +kernel
theorem dX9_tries_102 : decode cX9_tries 102 = .ok (.aload_n 0, 1) := by decide +kernel
theorem dX9_tries_103 : decode cX9_tries 103 = .ok (.getfield 44, 3) := by decide +kernel
theorem dX9_tries_106 : decode cX9_tries 106 = .ok (.iload 5, 2) := by decide +kernel
theorem dX9_tries_108 : decode cX9_tries 108 = .ok (.iaload, 1) := by decide +kernel
theorem dX9_tries_109 : decode cX9_tries 109 = .ok (.if_icmp .ne 7, 3) := by decide +kernel
theorem dX9_tries_112 : decode cX9_tries 112 = .ok (.iconst 1, 1) := by decide +kernel
theorem dX9_tries_113 : decode cX9_tries 113 = .ok (.goto 4, 3) := by decide +kernel
theorem dX9_tries_116 : decode cX9_tries 116 = .ok (.iconst 0, 1) := by decide +kernel
theorem dX9_tries_117 : decode cX9_tries 117 = .ok (.istore 6, 2) := by decide +kernel
theorem dX9_tries_119 : decode cX9_tries 119 = .ok (.iinc 7 1, 3) := by decide +kernel
theorem dX9_tries_122 : decode cX9_tries 122 = .ok (.goto (-54), 3) := by decide +kernel
theorem dX9_tries_125 : decode cX9_tries 125 = .ok (.iconst 0, 1) := by decide +kernel
theorem dX9_tries_126 : decode cX9_tries 126 = .ok (.istore 7, 2) := by decide +kernel
theorem dX9_tries_128 : decode cX9_tries 128 = .ok (.iload 7, 2) := by decide +kernel
theorem dX9_tries_130 : decode cX9_tries 130 = .ok (.bipush 6, 2) := by decide +kernel
theorem dX9_tries_132 : decode cX9_tries 132 = .ok (.if_icmp .ge 78, 3) := by decide +kernel
theorem dX9_tries_135 : decode cX9_tries 135 = .ok (.iload 6, 2) := by decide +kernel
theorem dX9_tries_137 : decode cX9_tries 137 = .ok (.ifCond .ne 73, 3) := by decide +kernel
theorem dX9_tries_140 : decode cX9_tries 140 = .ok (.iload_n 3, 1) := by decide +kernel
theorem dX9_tries_141 : decode cX9_tries 141 = .ok (.iload 7, 2) := by decide +kernel
theorem dX9_tries_143 : decode cX9_tries 143 = .ok (.ishr, 1) := by decide +kernel
theorem dX9_tries_144 : decode cX9_tries 144 = .ok (.iconst 1, 1) := by decide +kernel
theorem dX9_tries_145 : decode cX9_tries 145 = .ok (.iand, 1) := by decide +kernel
theorem dX9_tries_146 : decode cX9_tries 146 = .ok (.iconst 1, 1) := by decide +kernel
theorem dX9_tries_147 : decode cX9_tries 147 = .ok (.if_icmp .eq 57, 3) := by decide +kernel
theorem dX9_tries_150 : decode cX9_tries 150 = .ok (.aload_n 0, 1) := by decide +kernel
theorem dX9_tries_151 : decode cX9_tries 151 = .ok (.iload 5, 2) := by decide +kernel
theorem dX9_tries_153 : decode cX9_tries 153 = .ok (.iload_n 2, 1) := by decide +kernel
theorem dX9_tries_154 : decode cX9_tries 154 = .ok (.iload 7, 2) := by decide +kernel
theorem dX9_tries_156 : decode cX9_tries 156 = .ok (.invokevirtual 160, 3) := by decide +kernel
theorem dX9_tries_159 : decode cX9_tries 159 = .ok (.ifCond .ne 6, 3) := by decide +kernel
theorem dX9_tries_162 : decode cX9_tries 162 = .ok (.goto 42, 3) := by decide +kernel
theorem dX9_tries_165 : decode cX9_tries 165 = .ok (.aload_n 0, 1) := by decide +kernel
theorem dX9_tries_166 : decode cX9_tries 166 = .ok (.getfield 104, 3) := by decide +kernel
theorem dX9_tries_169 : decode cX9_tries 169 = .ok (.iload_n 1, 1) := by decide +kernel
theorem dX9_tries_170 : decode cX9_tries 170 = .ok (.iload 7, 2) := by decide +kernel
theorem dX9_tries_172 : decode cX9_tries 172 = .ok (.iastore, 1) := by decide +kernel
theorem dX9_tries_173 : decode cX9_tries 173 = .ok (.aload_n 0, 1) := by decide +kernel
theorem dX9_tries_174 : decode cX9_tries 174 = .ok (.iload_n 1, 1) := by decide +kernel
theorem dX9_tries_175 : decode cX9_tries 175 = .ok (.iconst 1, 1) := by decide +kernel
theorem dX9_tries_176 : decode cX9_tries 176 = .ok (.iadd, 1) := by decide +kernel
theorem dX9_tries_177 : decode cX9_tries 177 = .ok (.iload_n 2, 1) := by decide +kernel
theorem dX9_tries_178 : decode cX9_tries 178 = .ok (.iload_n 3, 1) := by decide +kernel
theorem dX9_tries_179 : decode cX9_tries 179 = .ok (.iconst 1, 1) := by decide +kernel
theorem dX9_tries_180 : decode cX9_tries 180 = .ok (.iload 7, 2) := by decide +kernel
theorem dX9_tries_182 : decode cX9_tries 182 = .ok (.ishl, 1) := by decide +kernel
theorem dX9_tries_183 : decode cX9_tries 183 = .ok (.ior, 1) := by decide +kernel
theorem dX9_tries_184 : decode cX9_tries 184 = .ok (.iload 4, 2) := by decide +kernel
theorem dX9_tries_186 : decode cX9_tries 186 = .ok (.iconst 1, 1) := by decide +kernel
theorem dX9_tries_187 : decode cX9_tries 187 = .ok (.iadd, 1) := by decide +kernel
theorem dX9_tries_188 : decode cX9_tries 188 = .ok (.aload_n 0, 1) := by decide +kernel
theorem dX9_tries_189 : decode cX9_tries 189 = .ok (.getfield 128, 3) := by decide +kernel
theorem dX9_tries_192 : decode cX9_tries 192 = .ok (.iadd, 1) := by decide +kernel
theorem dX9_tries_193 : decode cX9_tries 193 = .ok (.aload_n 0, 1) := by decide +kernel
theorem dX9_tries_194 : decode cX9_tries 194 = .ok (.getfield 50, 3) := by decide +kernel
theorem dX9_tries_197 : decode cX9_tries 197 = .ok (.iload 5, 2) := by decide +kernel
theorem dX9_tries_199 : decode cX9_tries 199 = .ok (.iaload, 1) := by decide +kernel
theorem dX9_tries_200 : decode cX9_tries 200 = .ok (.isub, 1) := by decide +kernel
theorem dX9_tries_201 : decode cX9_tries 201 = .ok (.invokevirtual 194, 3) := by decide +kernel
theorem dX9_tries_204 : decode cX9_tries 204 = .ok (.iinc 7 1, 3) := by decide +kernel
theorem dX9_tries_207 : decode cX9_tries 207 = .ok (.goto (-79), 3) := by decide +kernel
theorem dX9_tries_210 : decode cX9_tries 210 = .ok (.aload_n 0, 1) := by decide +kernel
theorem dX9_tries_211 : decode cX9_tries 211 = .ok (.getfield 104, 3) := by decide +kernel
theorem dX9_tries_214 : decode cX9_tries 214 = .ok (.iload_n 1, 1) := by decide +kernel
theorem dX9_tries_215 : decode cX9_tries 215 = .ok (.iconst (-1), 1) := by decide +kernel
theorem dX9_tries_216 : decode cX9_tries 216 = .ok (.iastore, 1) := by decide +kernel
theorem dX9_tries_217 : decode cX9_tries 217 = .ok (.aload_n 0, 1) := by decide +kernel
theorem dX9_tries_218 : decode cX9_tries 218 = .ok (.iload_n 1, 1) := by decide +kernel
theorem dX9_tries_219 : decode cX9_tries 219 = .ok (.iconst 1, 1) := by decide +kernel
theorem dX9_tries_220 : decode cX9_tries 220 = .ok (.iadd, 1) := by decide +kernel
theorem dX9_tries_221 : decode cX9_tries 221 = .ok (.iload_n 2, 1) := by decide +kernel
theorem dX9_tries_222 : decode cX9_tries 222 = .ok (.iload_n 3, 1) := by decide +kernel
theorem dX9_tries_223 : decode cX9_tries 223 = .ok (.iload 4, 2) := by decide +kernel
theorem dX9_tries_225 : decode cX9_tries 225 = .ok (.invokevirtual 194, 3) := by decide +kernel
theorem dX9_tries_228 : decode cX9_tries 228 = .ok (.return_, 1) := by decide +kernel
theorem dX9_plans_0 : decode cX9_plans 0 = .ok (.iload_n 1, 1) := by decide +kernel
theorem dX9_plans_1 : decode cX9_plans 1 = .ok (.aload_n 0, 1) := by decide +kernel
theorem dX9_plans_2 : decode cX9_plans 2 = .ok (.getfield 128, 3) := by decide +kernel
theorem dX9_plans_5 : decode cX9_plans 5 = .ok (.sipush 20000, 3) := by decide +kernel
theorem dX9_plans_8 : decode cX9_plans 8 = .ok (.invokestatic 113, 3) := by decide +kernel
theorem dX9_plans_11 : decode cX9_plans 11 = .ok (.ifCond .ne 5, 3) := by decide +kernel
theorem dX9_plans_14 : decode cX9_plans 14 = .ok (.iconst 0, 1) := by decide +kernel
theorem dX9_plans_15 : decode cX9_plans 15 = .ok (.ireturn, 1) := by decide +kernel
theorem dX9_plans_16 : decode cX9_plans 16 = .ok (.aload_n 0, 1) := by decide +kernel
theorem dX9_plans_17 : decode cX9_plans 17 = .ok (.iconst 0, 1) := by decide +kernel
theorem dX9_plans_18 : decode cX9_plans 18 = .ok (.putfield 188, 3) := by decide +kernel
theorem dX9_plans_21 : decode cX9_plans 21 = .ok (.iconst 0, 1) := by decide +kernel
theorem dX9_plans_22 : decode cX9_plans 22 = .ok (.istore_n 2, 1) := by decide +kernel
theorem dX9_plans_23 : decode cX9_plans 23 = .ok (.iload_n 2, 1) := by decide +kernel
theorem dX9_plans_24 : decode cX9_plans 24 = .ok (.aload_n 0, 1) := by decide +kernel
theorem dX9_plans_25 : decode cX9_plans 25 = .ok (.getfield 110, 3) := by decide +kernel
theorem dX9_plans_28 : decode cX9_plans 28 = .ok (.if_icmp .ge 85, 3) := by decide +kernel
theorem dX9_plans_31 : decode cX9_plans 31 = .ok (.aload_n 0, 1) := by decide +kernel
theorem dX9_plans_32 : decode cX9_plans 32 = .ok (.getfield 53, 3) := by decide +kernel
theorem dX9_plans_35 : decode cX9_plans 35 = .ok (.iload_n 2, 1) := by decide +kernel
theorem dX9_plans_36 : decode cX9_plans 36 = .ok (.iaload, 1) := by decide +kernel
theorem dX9_plans_37 : decode cX9_plans 37 = .ok (.iconst (-1), 1) := by decide +kernel
theorem dX9_plans_38 : decode cX9_plans 38 = .ok (.if_icmp .ne 69, 3) := by decide +kernel
theorem dX9_plans_41 : decode cX9_plans 41 = .ok (.aload_n 0, 1) := by decide +kernel
theorem dX9_plans_42 : decode cX9_plans 42 = .ok (.getfield 67, 3) := by decide +kernel
theorem dX9_plans_45 : decode cX9_plans 45 = .ok (.iload_n 2, 1) := by decide +kernel
theorem dX9_plans_46 : decode cX9_plans 46 = .ok (.aaload, 1) := by decide +kernel
theorem dX9_plans_47 : decode cX9_plans 47 = .ok (.iconst 0, 1) := by decide +kernel
theorem dX9_plans_48 : decode cX9_plans 48 = .ok (.iaload, 1) := by decide +kernel
theorem dX9_plans_49 : decode cX9_plans 49 = .ok (.aload_n 0, 1) := by decide +kernel
theorem dX9_plans_50 : decode cX9_plans 50 = .ok (.getfield 64, 3) := by decide +kernel
theorem dX9_plans_53 : decode cX9_plans 53 = .ok (.iload_n 2, 1) := by decide +kernel
theorem dX9_plans_54 : decode cX9_plans 54 = .ok (.aaload, 1) := by decide +kernel
theorem dX9_plans_55 : decode cX9_plans 55 = .ok (.iconst 0, 1) := by decide +kernel
theorem dX9_plans_56 : decode cX9_plans 56 = .ok (.iaload, 1) := by decide +kernel
theorem dX9_plans_57 : decode cX9_plans 57 = .ok (.if_icmp .eq 50, 3) := by decide +kernel
theorem dX9_plans_60 : decode cX9_plans 60 = .ok (.aload_n 0, 1) := by decide +kernel
theorem dX9_plans_61 : decode cX9_plans 61 = .ok (.aload_n 0, 1) := by decide +kernel
theorem dX9_plans_62 : decode cX9_plans 62 = .ok (.getfield 44, 3) := by decide +kernel
theorem dX9_plans_65 : decode cX9_plans 65 = .ok (.iload_n 2, 1) := by decide +kernel
theorem dX9_plans_66 : decode cX9_plans 66 = .ok (.iaload, 1) := by decide +kernel
theorem dX9_plans_67 : decode cX9_plans 67 = .ok (.iload_n 1, 1) := by decide +kernel
theorem dX9_plans_68 : decode cX9_plans 68 = .ok (.invokevirtual 163, 3) := by decide +kernel
theorem dX9_plans_71 : decode cX9_plans 71 = .ok (.ifCond .eq 6, 3) := by decide +kernel
theorem dX9_plans_74 : decode cX9_plans 74 = .ok (.goto 33, 3) := by decide +kernel
theorem dX9_plans_77 : decode cX9_plans 77 = .ok (.aload_n 0, 1) := by decide +kernel
theorem dX9_plans_78 : decode cX9_plans 78 = .ok (.getfield 188, 3) := by decide +kernel
theorem dX9_plans_81 : decode cX9_plans 81 = .ok (.iconst 5, 1) := by decide +kernel
theorem dX9_plans_82 : decode cX9_plans 82 = .ok (.if_icmp .ne 5, 3) := by decide +kernel
theorem dX9_plans_85 : decode cX9_plans 85 = .ok (.iconst 0, 1) := by decide +kernel
theorem dX9_plans_86 : decode cX9_plans 86 = .ok (.ireturn, 1) := by decide +kernel
theorem dX9_plans_87 : decode cX9_plans 87 = .ok (.aload_n 0, 1) := by decide +kernel
theorem dX9_plans_88 : decode cX9_plans 88 = .ok (.getfield 101, 3) := by decide +kernel
theorem dX9_plans_91 : decode cX9_plans 91 = .ok (.aload_n 0, 1) := by decide +kernel
theorem dX9_plans_92 : decode cX9_plans 92 = .ok (.getfield 188, 3) := by decide +kernel
theorem dX9_plans_95 : decode cX9_plans 95 = .ok (.iload_n 2, 1) := by decide +kernel
theorem dX9_plans_96 : decode cX9_plans 96 = .ok (.iastore, 1) := by decide +kernel
theorem dX9_plans_97 : decode cX9_plans 97 = .ok (.aload_n 0, 1) := by decide +kernel
theorem dX9_plans_98 : decode cX9_plans 98 = .ok (.dup, 1) := by decide +kernel
theorem dX9_plans_99 : decode cX9_plans 99 = .ok (.getfield 188, 3) := by decide +kernel
theorem dX9_plans_102 : decode cX9_plans 102 = .ok (.iconst 1, 1) := by decide +kernel
theorem dX9_plans_103 : decode cX9_plans 103 = .ok (.iadd, 1) := by decide +kernel
theorem dX9_plans_104 : decode cX9_plans 104 = .ok (.putfield 188, 3) := by decide +kernel
theorem dX9_plans_107 : decode cX9_plans 107 = .ok (.iinc 2 1, 3) := by decide +kernel
theorem dX9_plans_110 : decode cX9_plans 110 = .ok (.goto (-87), 3) := by decide +kernel
theorem dX9_plans_113 : decode cX9_plans 113 = .ok (.aload_n 0, 1) := by decide +kernel
theorem dX9_plans_114 : decode cX9_plans 114 = .ok (.getfield 188, 3) := by decide +kernel
theorem dX9_plans_117 : decode cX9_plans 117 = .ok (.ifCond .ne 5, 3) := by decide +kernel
theorem dX9_plans_120 : decode cX9_plans 120 = .ok (.iconst 0, 1) := by decide +kernel
theorem dX9_plans_121 : decode cX9_plans 121 = .ok (.ireturn, 1) := by decide +kernel
theorem dX9_plans_122 : decode cX9_plans 122 = .ok (.aload_n 0, 1) := by decide +kernel
theorem dX9_plans_123 : decode cX9_plans 123 = .ok (.iconst (-1), 1) := by decide +kernel
theorem dX9_plans_124 : decode cX9_plans 124 = .ok (.putfield 191, 3) := by decide +kernel
theorem dX9_plans_127 : decode cX9_plans 127 = .ok (.aload_n 0, 1) := by decide +kernel
theorem dX9_plans_128 : decode cX9_plans 128 = .ok (.iconst 0, 1) := by decide +kernel
theorem dX9_plans_129 : decode cX9_plans 129 = .ok (.iload_n 1, 1) := by decide +kernel
theorem dX9_plans_130 : decode cX9_plans 130 = .ok (.iconst 0, 1) := by decide +kernel
theorem dX9_plans_131 : decode cX9_plans 131 = .ok (.iconst 0, 1) := by decide +kernel
theorem dX9_plans_132 : decode cX9_plans 132 = .ok (.invokevirtual 194, 3) := by decide +kernel
theorem dX9_plans_135 : decode cX9_plans 135 = .ok (.iconst 1, 1) := by decide +kernel
theorem dX9_plans_136 : decode cX9_plans 136 = .ok (.ireturn, 1) := by decide +kernel
theorem dX9_planned_0 : decode cX9_planned 0 = .ok (.aload_n 0, 1) := by decide +kernel
theorem dX9_planned_1 : decode cX9_planned 1 = .ok (.iload_n 1, 1) := by decide +kernel
theorem dX9_planned_2 : decode cX9_planned 2 = .ok (.invokevirtual 198, 3) := by decide +kernel
theorem dX9_planned_5 : decode cX9_planned 5 = .ok (.ifCond .ne 5, 3) := by decide +kernel
theorem dX9_planned_8 : decode cX9_planned 8 = .ok (.iconst (-1), 1) := by decide +kernel
theorem dX9_planned_9 : decode cX9_planned 9 = .ok (.ireturn, 1) := by decide +kernel
theorem dX9_planned_10 : decode cX9_planned 10 = .ok (.iconst 0, 1) := by decide +kernel
theorem dX9_planned_11 : decode cX9_planned 11 = .ok (.istore_n 3, 1) := by decide +kernel
theorem dX9_planned_12 : decode cX9_planned 12 = .ok (.iload_n 3, 1) := by decide +kernel
theorem dX9_planned_13 : decode cX9_planned 13 = .ok (.aload_n 0, 1) := by decide +kernel
theorem dX9_planned_14 : decode cX9_planned 14 = .ok (.getfield 188, 3) := by decide +kernel
theorem dX9_planned_17 : decode cX9_planned 17 = .ok (.if_icmp .ge 26, 3) := by decide +kernel
theorem dX9_planned_20 : decode cX9_planned 20 = .ok (.aload_n 0, 1) := by decide +kernel
theorem dX9_planned_21 : decode cX9_planned 21 = .ok (.getfield 101, 3) := by decide +kernel
theorem dX9_planned_24 : decode cX9_planned 24 = .ok (.iload_n 3, 1) := by decide +kernel
theorem dX9_planned_25 : decode cX9_planned 25 = .ok (.iaload, 1) := by decide +kernel
theorem dX9_planned_26 : decode cX9_planned 26 = .ok (.iload_n 2, 1) := by decide +kernel
theorem dX9_planned_27 : decode cX9_planned 27 = .ok (.if_icmp .ne 10, 3) := by decide +kernel
theorem dX9_planned_30 : decode cX9_planned 30 = .ok (.aload_n 0, 1) := by decide +kernel
theorem dX9_planned_31 : decode cX9_planned 31 = .ok (.getfield 107, 3) := by decide +kernel
theorem dX9_planned_34 : decode cX9_planned 34 = .ok (.iload_n 3, 1) := by decide +kernel
theorem dX9_planned_35 : decode cX9_planned 35 = .ok (.iaload, 1) := by decide +kernel
theorem dX9_planned_36 : decode cX9_planned 36 = .ok (.ireturn, 1) := by decide +kernel
theorem dX9_planned_37 : decode cX9_planned 37 = .ok (.iinc 3 1, 3) := by decide +kernel
theorem dX9_planned_40 : decode cX9_planned 40 = .ok (.goto (-28), 3) := by decide +kernel
theorem dX9_planned_43 : decode cX9_planned 43 = .ok (.iconst (-1), 1) := by decide +kernel
theorem dX9_planned_44 : decode cX9_planned 44 = .ok (.ireturn, 1) := by decide +kernel
theorem dX9_worth_0 : decode cX9_worth 0 = .ok (.aload_n 0, 1) := by decide +kernel
theorem dX9_worth_1 : decode cX9_worth 1 = .ok (.iload_n 1, 1) := by decide +kernel
theorem dX9_worth_2 : decode cX9_worth 2 = .ok (.invokevirtual 198, 3) := by decide +kernel
theorem dX9_worth_5 : decode cX9_worth 5 = .ok (.ifCond .eq 10, 3) := by decide +kernel
theorem dX9_worth_8 : decode cX9_worth 8 = .ok (.aload_n 0, 1) := by decide +kernel
theorem dX9_worth_9 : decode cX9_worth 9 = .ok (.getfield 191, 3) := by decide +kernel
theorem dX9_worth_12 : decode cX9_worth 12 = .ok (.goto 4, 3) := by decide +kernel
theorem dX9_worth_15 : decode cX9_worth 15 = .ok (.iconst (-1), 1) := by decide +kernel
theorem dX9_worth_16 : decode cX9_worth 16 = .ok (.ireturn, 1) := by decide +kernel
theorem dX9_trace_0 : decode cX9_trace 0 = .ok (.aload_n 0, 1) := by decide +kernel
theorem dX9_trace_1 : decode cX9_trace 1 = .ok (.iload_n 1, 1) := by decide +kernel
theorem dX9_trace_2 : decode cX9_trace 2 = .ok (.invokevirtual 157, 3) := by decide +kernel
theorem dX9_trace_5 : decode cX9_trace 5 = .ok (.ifCond .eq 13, 3) := by decide +kernel
theorem dX9_trace_8 : decode cX9_trace 8 = .ok (.iload_n 2, 1) := by decide +kernel
theorem dX9_trace_9 : decode cX9_trace 9 = .ok (.iconst 0, 1) := by decide +kernel
theorem dX9_trace_10 : decode cX9_trace 10 = .ok (.ldc 201, 2) := by decide +kernel
theorem dX9_trace_12 : decode cX9_trace 12 = .ok (.invokestatic 113, 3) := by decide +kernel
theorem dX9_trace_15 : decode cX9_trace 15 = .ok (.ifCond .ne 5, 3) := by decide +kernel
theorem dX9_trace_18 : decode cX9_trace 18 = .ok (.iconst 0, 1) := by decide +kernel
theorem dX9_trace_19 : decode cX9_trace 19 = .ok (.ireturn, 1) := by decide +kernel
theorem dX9_trace_20 : decode cX9_trace 20 = .ok (.aload_n 0, 1) := by decide +kernel
theorem dX9_trace_21 : decode cX9_trace 21 = .ok (.getfield 59, 3) := by decide +kernel
theorem dX9_trace_24 : decode cX9_trace 24 = .ok (.iload_n 1, 1) := by decide +kernel
theorem dX9_trace_25 : decode cX9_trace 25 = .ok (.iload_n 2, 1) := by decide +kernel
theorem dX9_trace_26 : decode cX9_trace 26 = .ok (.iastore, 1) := by decide +kernel
theorem dX9_trace_27 : decode cX9_trace 27 = .ok (.iconst 1, 1) := by decide +kernel
theorem dX9_trace_28 : decode cX9_trace 28 = .ok (.ireturn, 1) := by decide +kernel
theorem dX9_differ_0 : decode cX9_differ 0 = .ok (.aload_n 0, 1) := by decide +kernel
theorem dX9_differ_1 : decode cX9_differ 1 = .ok (.getfield 59, 3) := by decide +kernel
theorem dX9_differ_4 : decode cX9_differ 4 = .ok (.iload_n 1, 1) := by decide +kernel
theorem dX9_differ_5 : decode cX9_differ 5 = .ok (.iaload, 1) := by decide +kernel
theorem dX9_differ_6 : decode cX9_differ 6 = .ok (.aload_n 0, 1) := by decide +kernel
theorem dX9_differ_7 : decode cX9_differ 7 = .ok (.getfield 59, 3) := by decide +kernel
theorem dX9_differ_10 : decode cX9_differ 10 = .ok (.iload_n 2, 1) := by decide +kernel
theorem dX9_differ_11 : decode cX9_differ 11 = .ok (.iaload, 1) := by decide +kernel
theorem dX9_differ_12 : decode cX9_differ 12 = .ok (.ixor, 1) := by decide +kernel
theorem dX9_differ_13 : decode cX9_differ 13 = .ok (.istore_n 3, 1) := by decide +kernel
theorem dX9_differ_14 : decode cX9_differ 14 = .ok (.iconst 0, 1) := by decide +kernel
theorem dX9_differ_15 : decode cX9_differ 15 = .ok (.istore 4, 2) := by decide +kernel
theorem dX9_differ_17 : decode cX9_differ 17 = .ok (.iload_n 3, 1) := by decide +kernel
theorem dX9_differ_18 : decode cX9_differ 18 = .ok (.ifCond .eq 18, 3) := by decide +kernel
theorem dX9_differ_21 : decode cX9_differ 21 = .ok (.iload 4, 2) := by decide +kernel
theorem dX9_differ_23 : decode cX9_differ 23 = .ok (.iload_n 3, 1) := by decide +kernel
theorem dX9_differ_24 : decode cX9_differ 24 = .ok (.iconst 1, 1) := by decide +kernel
theorem dX9_differ_25 : decode cX9_differ 25 = .ok (.iand, 1) := by decide +kernel
theorem dX9_differ_26 : decode cX9_differ 26 = .ok (.iadd, 1) := by decide +kernel
theorem dX9_differ_27 : decode cX9_differ 27 = .ok (.istore 4, 2) := by decide +kernel
theorem dX9_differ_29 : decode cX9_differ 29 = .ok (.iload_n 3, 1) := by decide +kernel
theorem dX9_differ_30 : decode cX9_differ 30 = .ok (.iconst 1, 1) := by decide +kernel
theorem dX9_differ_31 : decode cX9_differ 31 = .ok (.ishr, 1) := by decide +kernel
theorem dX9_differ_32 : decode cX9_differ 32 = .ok (.istore_n 3, 1) := by decide +kernel
theorem dX9_differ_33 : decode cX9_differ 33 = .ok (.goto (-16), 3) := by decide +kernel
theorem dX9_differ_36 : decode cX9_differ 36 = .ok (.iload 4, 2) := by decide +kernel
theorem dX9_differ_38 : decode cX9_differ 38 = .ok (.ireturn, 1) := by decide +kernel
theorem dX9_from_0 : decode cX9_from 0 = .ok (.aload_n 0, 1) := by decide +kernel
theorem dX9_from_1 : decode cX9_from 1 = .ok (.iload_n 1, 1) := by decide +kernel
theorem dX9_from_2 : decode cX9_from 2 = .ok (.invokevirtual 157, 3) := by decide +kernel
theorem dX9_from_5 : decode cX9_from 5 = .ok (.ifCond .eq 13, 3) := by decide +kernel
theorem dX9_from_8 : decode cX9_from 8 = .ok (.aload_n 0, 1) := by decide +kernel
theorem dX9_from_9 : decode cX9_from 9 = .ok (.getfield 59, 3) := by decide +kernel
theorem dX9_from_12 : decode cX9_from 12 = .ok (.iload_n 1, 1) := by decide +kernel
theorem dX9_from_13 : decode cX9_from 13 = .ok (.iaload, 1) := by decide +kernel
theorem dX9_from_14 : decode cX9_from 14 = .ok (.iconst (-1), 1) := by decide +kernel
theorem dX9_from_15 : decode cX9_from 15 = .ok (.if_icmp .ne 5, 3) := by decide +kernel
theorem dX9_from_18 : decode cX9_from 18 = .ok (.iconst (-1), 1) := by decide +kernel
theorem dX9_from_19 : decode cX9_from 19 = .ok (.ireturn, 1) := by decide +kernel
theorem dX9_from_20 : decode cX9_from 20 = .ok (.iconst (-1), 1) := by decide +kernel
theorem dX9_from_21 : decode cX9_from 21 = .ok (.istore_n 2, 1) := by decide +kernel
theorem dX9_from_22 : decode cX9_from 22 = .ok (.iconst 0, 1) := by decide +kernel
theorem dX9_from_23 : decode cX9_from 23 = .ok (.istore_n 3, 1) := by decide +kernel
theorem dX9_from_24 : decode cX9_from 24 = .ok (.iload_n 3, 1) := by decide +kernel
theorem dX9_from_25 : decode cX9_from 25 = .ok (.iload_n 1, 1) := by decide +kernel
theorem dX9_from_26 : decode cX9_from 26 = .ok (.if_icmp .ge 41, 3) := by decide +kernel
theorem dX9_from_29 : decode cX9_from 29 = .ok (.aload_n 0, 1) := by decide +kernel
theorem dX9_from_30 : decode cX9_from 30 = .ok (.getfield 59, 3) := by decide +kernel
theorem dX9_from_33 : decode cX9_from 33 = .ok (.iload_n 3, 1) := by decide +kernel
theorem dX9_from_34 : decode cX9_from 34 = .ok (.iaload, 1) := by decide +kernel
theorem dX9_from_35 : decode cX9_from 35 = .ok (.iconst (-1), 1) := by decide +kernel
theorem dX9_from_36 : decode cX9_from 36 = .ok (.if_icmp .eq 25, 3) := by decide +kernel
theorem dX9_from_39 : decode cX9_from 39 = .ok (.iload_n 2, 1) := by decide +kernel
theorem dX9_from_40 : decode cX9_from 40 = .ok (.iconst (-1), 1) := by decide +kernel
theorem dX9_from_41 : decode cX9_from 41 = .ok (.if_icmp .eq 18, 3) := by decide +kernel
theorem dX9_from_44 : decode cX9_from 44 = .ok (.aload_n 0, 1) := by decide +kernel
theorem dX9_from_45 : decode cX9_from 45 = .ok (.iload_n 1, 1) := by decide +kernel
theorem dX9_from_46 : decode cX9_from 46 = .ok (.iload_n 3, 1) := by decide +kernel
theorem dX9_from_47 : decode cX9_from 47 = .ok (.invokevirtual 202, 3) := by decide +kernel
theorem dX9_from_50 : decode cX9_from 50 = .ok (.aload_n 0, 1) := by decide +kernel
theorem dX9_from_51 : decode cX9_from 51 = .ok (.iload_n 1, 1) := by decide +kernel
theorem dX9_from_52 : decode cX9_from 52 = .ok (.iload_n 2, 1) := by decide +kernel
theorem dX9_from_53 : decode cX9_from 53 = .ok (.invokevirtual 202, 3) := by decide +kernel
theorem dX9_from_56 : decode cX9_from 56 = .ok (.if_icmp .ge 5, 3) := by decide +kernel
theorem dX9_from_59 : decode cX9_from 59 = .ok (.iload_n 3, 1) := by decide +kernel
theorem dX9_from_60 : decode cX9_from 60 = .ok (.istore_n 2, 1) := by decide +kernel
theorem dX9_from_61 : decode cX9_from 61 = .ok (.iinc 3 1, 3) := by decide +kernel
theorem dX9_from_64 : decode cX9_from 64 = .ok (.goto (-40), 3) := by decide +kernel
theorem dX9_from_67 : decode cX9_from 67 = .ok (.iload_n 2, 1) := by decide +kernel
theorem dX9_from_68 : decode cX9_from 68 = .ok (.ireturn, 1) := by decide +kernel
theorem dX9_doubt_0 : decode cX9_doubt 0 = .ok (.aload_n 0, 1) := by decide +kernel
theorem dX9_doubt_1 : decode cX9_doubt 1 = .ok (.iload_n 1, 1) := by decide +kernel
theorem dX9_doubt_2 : decode cX9_doubt 2 = .ok (.invokevirtual 205, 3) := by decide +kernel
theorem dX9_doubt_5 : decode cX9_doubt 5 = .ok (.istore_n 2, 1) := by decide +kernel
theorem dX9_doubt_6 : decode cX9_doubt 6 = .ok (.iload_n 2, 1) := by decide +kernel
theorem dX9_doubt_7 : decode cX9_doubt 7 = .ok (.iconst (-1), 1) := by decide +kernel
theorem dX9_doubt_8 : decode cX9_doubt 8 = .ok (.if_icmp .ne 5, 3) := by decide +kernel
theorem dX9_doubt_11 : decode cX9_doubt 11 = .ok (.iconst 0, 1) := by decide +kernel
theorem dX9_doubt_12 : decode cX9_doubt 12 = .ok (.ireturn, 1) := by decide +kernel
theorem dX9_doubt_13 : decode cX9_doubt 13 = .ok (.iconst 0, 1) := by decide +kernel
theorem dX9_doubt_14 : decode cX9_doubt 14 = .ok (.istore_n 3, 1) := by decide +kernel
theorem dX9_doubt_15 : decode cX9_doubt 15 = .ok (.iload_n 3, 1) := by decide +kernel
theorem dX9_doubt_16 : decode cX9_doubt 16 = .ok (.iload_n 1, 1) := by decide +kernel
theorem dX9_doubt_17 : decode cX9_doubt 17 = .ok (.if_icmp .ge 41, 3) := by decide +kernel
theorem dX9_doubt_20 : decode cX9_doubt 20 = .ok (.iload_n 3, 1) := by decide +kernel
theorem dX9_doubt_21 : decode cX9_doubt 21 = .ok (.iload_n 2, 1) := by decide +kernel
theorem dX9_doubt_22 : decode cX9_doubt 22 = .ok (.if_icmp .eq 30, 3) := by decide +kernel
theorem dX9_doubt_25 : decode cX9_doubt 25 = .ok (.aload_n 0, 1) := by decide +kernel
theorem dX9_doubt_26 : decode cX9_doubt 26 = .ok (.getfield 59, 3) := by decide +kernel
theorem dX9_doubt_29 : decode cX9_doubt 29 = .ok (.iload_n 3, 1) := by decide +kernel
theorem dX9_doubt_30 : decode cX9_doubt 30 = .ok (.iaload, 1) := by decide +kernel
theorem dX9_doubt_31 : decode cX9_doubt 31 = .ok (.iconst (-1), 1) := by decide +kernel
theorem dX9_doubt_32 : decode cX9_doubt 32 = .ok (.if_icmp .eq 20, 3) := by decide +kernel
theorem dX9_doubt_35 : decode cX9_doubt 35 = .ok (.aload_n 0, 1) := by decide +kernel
theorem dX9_doubt_36 : decode cX9_doubt 36 = .ok (.iload_n 1, 1) := by decide +kernel
theorem dX9_doubt_37 : decode cX9_doubt 37 = .ok (.iload_n 3, 1) := by decide +kernel
theorem dX9_doubt_38 : decode cX9_doubt 38 = .ok (.invokevirtual 202, 3) := by decide +kernel
theorem dX9_doubt_41 : decode cX9_doubt 41 = .ok (.aload_n 0, 1) := by decide +kernel
theorem dX9_doubt_42 : decode cX9_doubt 42 = .ok (.iload_n 1, 1) := by decide +kernel
theorem dX9_doubt_43 : decode cX9_doubt 43 = .ok (.iload_n 2, 1) := by decide +kernel
theorem dX9_doubt_44 : decode cX9_doubt 44 = .ok (.invokevirtual 202, 3) := by decide +kernel
theorem dX9_doubt_47 : decode cX9_doubt 47 = .ok (.if_icmp .ne 5, 3) := by decide +kernel
theorem dX9_doubt_50 : decode cX9_doubt 50 = .ok (.iconst 1, 1) := by decide +kernel
theorem dX9_doubt_51 : decode cX9_doubt 51 = .ok (.ireturn, 1) := by decide +kernel
theorem dX9_doubt_52 : decode cX9_doubt 52 = .ok (.iinc 3 1, 3) := by decide +kernel
theorem dX9_doubt_55 : decode cX9_doubt 55 = .ok (.goto (-40), 3) := by decide +kernel
theorem dX9_doubt_58 : decode cX9_doubt 58 = .ok (.iconst 0, 1) := by decide +kernel
theorem dX9_doubt_59 : decode cX9_doubt 59 = .ok (.ireturn, 1) := by decide +kernel
theorem dX9_habit_0 : decode cX9_habit 0 = .ok (.aload_n 0, 1) := by decide +kernel
theorem dX9_habit_1 : decode cX9_habit 1 = .ok (.iload_n 1, 1) := by decide +kernel
theorem dX9_habit_2 : decode cX9_habit 2 = .ok (.invokevirtual 172, 3) := by decide +kernel
theorem dX9_habit_5 : decode cX9_habit 5 = .ok (.ifCond .eq 14, 3) := by decide +kernel
theorem dX9_habit_8 : decode cX9_habit 8 = .ok (.iload_n 2, 1) := by decide +kernel
theorem dX9_habit_9 : decode cX9_habit 9 = .ok (.iconst 0, 1) := by decide +kernel
theorem dX9_habit_10 : decode cX9_habit 10 = .ok (.sipush 9999, 3) := by decide +kernel
theorem dX9_habit_13 : decode cX9_habit 13 = .ok (.invokestatic 113, 3) := by decide +kernel
theorem dX9_habit_16 : decode cX9_habit 16 = .ok (.ifCond .ne 5, 3) := by decide +kernel
theorem dX9_habit_19 : decode cX9_habit 19 = .ok (.iconst 0, 1) := by decide +kernel
theorem dX9_habit_20 : decode cX9_habit 20 = .ok (.ireturn, 1) := by decide +kernel
theorem dX9_habit_21 : decode cX9_habit 21 = .ok (.aload_n 0, 1) := by decide +kernel
theorem dX9_habit_22 : decode cX9_habit 22 = .ok (.getfield 28, 3) := by decide +kernel
theorem dX9_habit_25 : decode cX9_habit 25 = .ok (.iload_n 1, 1) := by decide +kernel
theorem dX9_habit_26 : decode cX9_habit 26 = .ok (.iload_n 2, 1) := by decide +kernel
theorem dX9_habit_27 : decode cX9_habit 27 = .ok (.iastore, 1) := by decide +kernel
theorem dX9_habit_28 : decode cX9_habit 28 = .ok (.iconst 1, 1) := by decide +kernel
theorem dX9_habit_29 : decode cX9_habit 29 = .ok (.ireturn, 1) := by decide +kernel
theorem dX9_margin_0 : decode cX9_margin 0 = .ok (.iload_n 1, 1) := by decide +kernel
theorem dX9_margin_1 : decode cX9_margin 1 = .ok (.iconst 0, 1) := by decide +kernel
theorem dX9_margin_2 : decode cX9_margin 2 = .ok (.bipush 99, 2) := by decide +kernel
theorem dX9_margin_4 : decode cX9_margin 4 = .ok (.invokestatic 113, 3) := by decide +kernel
theorem dX9_margin_7 : decode cX9_margin 7 = .ok (.ifCond .ne 5, 3) := by decide +kernel
theorem dX9_margin_10 : decode cX9_margin 10 = .ok (.iconst 0, 1) := by decide +kernel
theorem dX9_margin_11 : decode cX9_margin 11 = .ok (.ireturn, 1) := by decide +kernel
theorem dX9_margin_12 : decode cX9_margin 12 = .ok (.aload_n 0, 1) := by decide +kernel
theorem dX9_margin_13 : decode cX9_margin 13 = .ok (.iload_n 1, 1) := by decide +kernel
theorem dX9_margin_14 : decode cX9_margin 14 = .ok (.putfield 98, 3) := by decide +kernel
theorem dX9_margin_17 : decode cX9_margin 17 = .ok (.iconst 1, 1) := by decide +kernel
theorem dX9_margin_18 : decode cX9_margin 18 = .ok (.ireturn, 1) := by decide +kernel
theorem dX9_strokes_0 : decode cX9_strokes 0 = .ok (.aload_n 0, 1) := by decide +kernel
theorem dX9_strokes_1 : decode cX9_strokes 1 = .ok (.iload_n 1, 1) := by decide +kernel
theorem dX9_strokes_2 : decode cX9_strokes 2 = .ok (.invokevirtual 157, 3) := by decide +kernel
theorem dX9_strokes_5 : decode cX9_strokes 5 = .ok (.ifCond .eq 23, 3) := by decide +kernel
theorem dX9_strokes_8 : decode cX9_strokes 8 = .ok (.iload_n 2, 1) := by decide +kernel
theorem dX9_strokes_9 : decode cX9_strokes 9 = .ok (.iconst 0, 1) := by decide +kernel
theorem dX9_strokes_10 : decode cX9_strokes 10 = .ok (.iconst 4, 1) := by decide +kernel
theorem dX9_strokes_11 : decode cX9_strokes 11 = .ok (.invokestatic 113, 3) := by decide +kernel
theorem dX9_strokes_14 : decode cX9_strokes 14 = .ok (.ifCond .eq 14, 3) := by decide +kernel
theorem dX9_strokes_17 : decode cX9_strokes 17 = .ok (.iload_n 3, 1) := by decide +kernel
theorem dX9_strokes_18 : decode cX9_strokes 18 = .ok (.iconst 0, 1) := by decide +kernel
theorem dX9_strokes_19 : decode cX9_strokes 19 = .ok (.sipush 9999, 3) := by decide +kernel
theorem dX9_strokes_22 : decode cX9_strokes 22 = .ok (.invokestatic 113, 3) := by decide +kernel
theorem dX9_strokes_25 : decode cX9_strokes 25 = .ok (.ifCond .ne 5, 3) := by decide +kernel
theorem dX9_strokes_28 : decode cX9_strokes 28 = .ok (.iconst 0, 1) := by decide +kernel
theorem dX9_strokes_29 : decode cX9_strokes 29 = .ok (.ireturn, 1) := by decide +kernel
theorem dX9_strokes_30 : decode cX9_strokes 30 = .ok (.aload_n 0, 1) := by decide +kernel
theorem dX9_strokes_31 : decode cX9_strokes 31 = .ok (.getfield 76, 3) := by decide +kernel
theorem dX9_strokes_34 : decode cX9_strokes 34 = .ok (.iload_n 1, 1) := by decide +kernel
theorem dX9_strokes_35 : decode cX9_strokes 35 = .ok (.aaload, 1) := by decide +kernel
theorem dX9_strokes_36 : decode cX9_strokes 36 = .ok (.iload_n 2, 1) := by decide +kernel
theorem dX9_strokes_37 : decode cX9_strokes 37 = .ok (.iload_n 3, 1) := by decide +kernel
theorem dX9_strokes_38 : decode cX9_strokes 38 = .ok (.iastore, 1) := by decide +kernel
theorem dX9_strokes_39 : decode cX9_strokes 39 = .ok (.iconst 1, 1) := by decide +kernel
theorem dX9_strokes_40 : decode cX9_strokes 40 = .ok (.ireturn, 1) := by decide +kernel
theorem dX9_squares_0 : decode cX9_squares 0 = .ok (.iload_n 0, 1) := by decide +kernel
theorem dX9_squares_1 : decode cX9_squares 1 = .ok (.istore_n 2, 1) := by decide +kernel
theorem dX9_squares_2 : decode cX9_squares 2 = .ok (.iload_n 1, 1) := by decide +kernel
theorem dX9_squares_3 : decode cX9_squares 3 = .ok (.istore_n 3, 1) := by decide +kernel
theorem dX9_squares_4 : decode cX9_squares 4 = .ok (.iconst 0, 1) := by decide +kernel
theorem dX9_squares_5 : decode cX9_squares 5 = .ok (.istore 4, 2) := by decide +kernel
theorem dX9_squares_7 : decode cX9_squares 7 = .ok (.iconst 0, 1) := by decide +kernel
theorem dX9_squares_8 : decode cX9_squares 8 = .ok (.istore 5, 2) := by decide +kernel
theorem dX9_squares_10 : decode cX9_squares 10 = .ok (.iload 5, 2) := by decide +kernel
theorem dX9_squares_12 : decode cX9_squares 12 = .ok (.iconst 4, 1) := by decide +kernel
theorem dX9_squares_13 : decode cX9_squares 13 = .ok (.if_icmp .ge 40, 3) := by decide +kernel
theorem dX9_squares_16 : decode cX9_squares 16 = .ok (.iload_n 2, 1) := by decide +kernel
theorem dX9_squares_17 : decode cX9_squares 17 = .ok (.bipush 10, 2) := by decide +kernel
theorem dX9_squares_19 : decode cX9_squares 19 = .ok (.irem, 1) := by decide +kernel
theorem dX9_squares_20 : decode cX9_squares 20 = .ok (.iload_n 3, 1) := by decide +kernel
theorem dX9_squares_21 : decode cX9_squares 21 = .ok (.bipush 10, 2) := by decide +kernel
theorem dX9_squares_23 : decode cX9_squares 23 = .ok (.irem, 1) := by decide +kernel
theorem dX9_squares_24 : decode cX9_squares 24 = .ok (.isub, 1) := by decide +kernel
theorem dX9_squares_25 : decode cX9_squares 25 = .ok (.istore 6, 2) := by decide +kernel
theorem dX9_squares_27 : decode cX9_squares 27 = .ok (.iload 4, 2) := by decide +kernel
theorem dX9_squares_29 : decode cX9_squares 29 = .ok (.iload 6, 2) := by decide +kernel
theorem dX9_squares_31 : decode cX9_squares 31 = .ok (.iload 6, 2) := by decide +kernel
theorem dX9_squares_33 : decode cX9_squares 33 = .ok (.imul, 1) := by decide +kernel
theorem dX9_squares_34 : decode cX9_squares 34 = .ok (.iadd, 1) := by decide +kernel
theorem dX9_squares_35 : decode cX9_squares 35 = .ok (.istore 4, 2) := by decide +kernel
theorem dX9_squares_37 : decode cX9_squares 37 = .ok (.iload_n 2, 1) := by decide +kernel
theorem dX9_squares_38 : decode cX9_squares 38 = .ok (.bipush 10, 2) := by decide +kernel
theorem dX9_squares_40 : decode cX9_squares 40 = .ok (.idiv, 1) := by decide +kernel
theorem dX9_squares_41 : decode cX9_squares 41 = .ok (.istore_n 2, 1) := by decide +kernel
theorem dX9_squares_42 : decode cX9_squares 42 = .ok (.iload_n 3, 1) := by decide +kernel
theorem dX9_squares_43 : decode cX9_squares 43 = .ok (.bipush 10, 2) := by decide +kernel
theorem dX9_squares_45 : decode cX9_squares 45 = .ok (.idiv, 1) := by decide +kernel
theorem dX9_squares_46 : decode cX9_squares 46 = .ok (.istore_n 3, 1) := by decide +kernel
theorem dX9_squares_47 : decode cX9_squares 47 = .ok (.iinc 5 1, 3) := by decide +kernel
theorem dX9_squares_50 : decode cX9_squares 50 = .ok (.goto (-40), 3) := by decide +kernel
theorem dX9_squares_53 : decode cX9_squares 53 = .ok (.iload 4, 2) := by decide +kernel
theorem dX9_squares_55 : decode cX9_squares 55 = .ok (.ireturn, 1) := by decide +kernel
theorem dX9_whose_0 : decode cX9_whose 0 = .ok (.aload_n 0, 1) := by decide +kernel
theorem dX9_whose_1 : decode cX9_whose 1 = .ok (.iload_n 1, 1) := by decide +kernel
theorem dX9_whose_2 : decode cX9_whose 2 = .ok (.invokevirtual 157, 3) := by decide +kernel
theorem dX9_whose_5 : decode cX9_whose 5 = .ok (.ifCond .eq 24, 3) := by decide +kernel
theorem dX9_whose_8 : decode cX9_whose 8 = .ok (.iload_n 2, 1) := by decide +kernel
theorem dX9_whose_9 : decode cX9_whose 9 = .ok (.iconst 0, 1) := by decide +kernel
theorem dX9_whose_10 : decode cX9_whose 10 = .ok (.iconst 4, 1) := by decide +kernel
theorem dX9_whose_11 : decode cX9_whose 11 = .ok (.invokestatic 113, 3) := by decide +kernel
theorem dX9_whose_14 : decode cX9_whose 14 = .ok (.ifCond .eq 15, 3) := by decide +kernel
theorem dX9_whose_17 : decode cX9_whose 17 = .ok (.aload_n 0, 1) := by decide +kernel
theorem dX9_whose_18 : decode cX9_whose 18 = .ok (.getfield 76, 3) := by decide +kernel
theorem dX9_whose_21 : decode cX9_whose 21 = .ok (.iload_n 1, 1) := by decide +kernel
theorem dX9_whose_22 : decode cX9_whose 22 = .ok (.aaload, 1) := by decide +kernel
theorem dX9_whose_23 : decode cX9_whose 23 = .ok (.iload_n 2, 1) := by decide +kernel
theorem dX9_whose_24 : decode cX9_whose 24 = .ok (.iaload, 1) := by decide +kernel
theorem dX9_whose_25 : decode cX9_whose 25 = .ok (.iconst (-1), 1) := by decide +kernel
theorem dX9_whose_26 : decode cX9_whose 26 = .ok (.if_icmp .ne 5, 3) := by decide +kernel
theorem dX9_whose_29 : decode cX9_whose 29 = .ok (.iconst (-1), 1) := by decide +kernel
theorem dX9_whose_30 : decode cX9_whose 30 = .ok (.ireturn, 1) := by decide +kernel
theorem dX9_whose_31 : decode cX9_whose 31 = .ok (.aload_n 0, 1) := by decide +kernel
theorem dX9_whose_32 : decode cX9_whose 32 = .ok (.getfield 76, 3) := by decide +kernel
theorem dX9_whose_35 : decode cX9_whose 35 = .ok (.iload_n 1, 1) := by decide +kernel
theorem dX9_whose_36 : decode cX9_whose 36 = .ok (.aaload, 1) := by decide +kernel
theorem dX9_whose_37 : decode cX9_whose 37 = .ok (.iload_n 2, 1) := by decide +kernel
theorem dX9_whose_38 : decode cX9_whose 38 = .ok (.iaload, 1) := by decide +kernel
theorem dX9_whose_39 : decode cX9_whose 39 = .ok (.istore_n 3, 1) := by decide +kernel
theorem dX9_whose_40 : decode cX9_whose 40 = .ok (.iconst (-1), 1) := by decide +kernel
theorem dX9_whose_41 : decode cX9_whose 41 = .ok (.istore 4, 2) := by decide +kernel
theorem dX9_whose_43 : decode cX9_whose 43 = .ok (.iconst 0, 1) := by decide +kernel
theorem dX9_whose_44 : decode cX9_whose 44 = .ok (.istore 5, 2) := by decide +kernel
theorem dX9_whose_46 : decode cX9_whose 46 = .ok (.iload 5, 2) := by decide +kernel
theorem dX9_whose_48 : decode cX9_whose 48 = .ok (.aload_n 0, 1) := by decide +kernel
theorem dX9_whose_49 : decode cX9_whose 49 = .ok (.getfield 31, 3) := by decide +kernel
theorem dX9_whose_52 : decode cX9_whose 52 = .ok (.if_icmp .ge 55, 3) := by decide +kernel
theorem dX9_whose_55 : decode cX9_whose 55 = .ok (.aload_n 0, 1) := by decide +kernel
theorem dX9_whose_56 : decode cX9_whose 56 = .ok (.getfield 28, 3) := by decide +kernel
theorem dX9_whose_59 : decode cX9_whose 59 = .ok (.iload 5, 2) := by decide +kernel
theorem dX9_whose_61 : decode cX9_whose 61 = .ok (.iaload, 1) := by decide +kernel
theorem dX9_whose_62 : decode cX9_whose 62 = .ok (.iconst (-1), 1) := by decide +kernel
theorem dX9_whose_63 : decode cX9_whose 63 = .ok (.if_icmp .eq 38, 3) := by decide +kernel
theorem dX9_whose_66 : decode cX9_whose 66 = .ok (.iload 4, 2) := by decide +kernel
theorem dX9_whose_68 : decode cX9_whose 68 = .ok (.iconst (-1), 1) := by decide +kernel
theorem dX9_whose_69 : decode cX9_whose 69 = .ok (.if_icmp .eq 28, 3) := by decide +kernel
theorem dX9_whose_72 : decode cX9_whose 72 = .ok (.iload_n 3, 1) := by decide +kernel
theorem dX9_whose_73 : decode cX9_whose 73 = .ok (.aload_n 0, 1) := by decide +kernel
theorem dX9_whose_74 : decode cX9_whose 74 = .ok (.getfield 28, 3) := by decide +kernel
theorem dX9_whose_77 : decode cX9_whose 77 = .ok (.iload 5, 2) := by decide +kernel
theorem dX9_whose_79 : decode cX9_whose 79 = .ok (.iaload, 1) := by decide +kernel
theorem dX9_whose_80 : decode cX9_whose 80 = .ok (.invokestatic 207, 3) := by decide +kernel
theorem dX9_whose_83 : decode cX9_whose 83 = .ok (.iload_n 3, 1) := by decide +kernel
theorem dX9_whose_84 : decode cX9_whose 84 = .ok (.aload_n 0, 1) := by decide +kernel
theorem dX9_whose_85 : decode cX9_whose 85 = .ok (.getfield 28, 3) := by decide +kernel
theorem dX9_whose_88 : decode cX9_whose 88 = .ok (.iload 4, 2) := by decide +kernel
theorem dX9_whose_90 : decode cX9_whose 90 = .ok (.iaload, 1) := by decide +kernel
theorem dX9_whose_91 : decode cX9_whose 91 = .ok (.invokestatic 207, 3) := by decide +kernel
theorem dX9_whose_94 : decode cX9_whose 94 = .ok (.if_icmp .ge 7, 3) := by decide +kernel
theorem dX9_whose_97 : decode cX9_whose 97 = .ok (.iload 5, 2) := by decide +kernel
theorem dX9_whose_99 : decode cX9_whose 99 = .ok (.istore 4, 2) := by decide +kernel
theorem dX9_whose_101 : decode cX9_whose 101 = .ok (.iinc 5 1, 3) := by decide +kernel
theorem dX9_whose_104 : decode cX9_whose 104 = .ok (.goto (-58), 3) := by decide +kernel
theorem dX9_whose_107 : decode cX9_whose 107 = .ok (.iconst 0, 1) := by decide +kernel
theorem dX9_whose_108 : decode cX9_whose 108 = .ok (.istore 5, 2) := by decide +kernel
theorem dX9_whose_110 : decode cX9_whose 110 = .ok (.iload 5, 2) := by decide +kernel
theorem dX9_whose_112 : decode cX9_whose 112 = .ok (.aload_n 0, 1) := by decide +kernel
theorem dX9_whose_113 : decode cX9_whose 113 = .ok (.getfield 31, 3) := by decide +kernel
theorem dX9_whose_116 : decode cX9_whose 116 = .ok (.if_icmp .ge 66, 3) := by decide +kernel
theorem dX9_whose_119 : decode cX9_whose 119 = .ok (.iload 4, 2) := by decide +kernel
theorem dX9_whose_121 : decode cX9_whose 121 = .ok (.iconst (-1), 1) := by decide +kernel
theorem dX9_whose_122 : decode cX9_whose 122 = .ok (.if_icmp .eq 60, 3) := by decide +kernel
theorem dX9_whose_125 : decode cX9_whose 125 = .ok (.iload 5, 2) := by decide +kernel
theorem dX9_whose_127 : decode cX9_whose 127 = .ok (.iload 4, 2) := by decide +kernel
theorem dX9_whose_129 : decode cX9_whose 129 = .ok (.if_icmp .eq 47, 3) := by decide +kernel
theorem dX9_whose_132 : decode cX9_whose 132 = .ok (.aload_n 0, 1) := by decide +kernel
theorem dX9_whose_133 : decode cX9_whose 133 = .ok (.getfield 28, 3) := by decide +kernel
theorem dX9_whose_136 : decode cX9_whose 136 = .ok (.iload 5, 2) := by decide +kernel
theorem dX9_whose_138 : decode cX9_whose 138 = .ok (.iaload, 1) := by decide +kernel
theorem dX9_whose_139 : decode cX9_whose 139 = .ok (.iconst (-1), 1) := by decide +kernel
theorem dX9_whose_140 : decode cX9_whose 140 = .ok (.if_icmp .eq 36, 3) := by decide +kernel
theorem dX9_whose_143 : decode cX9_whose 143 = .ok (.iload_n 3, 1) := by decide +kernel
theorem dX9_whose_144 : decode cX9_whose 144 = .ok (.aload_n 0, 1) := by decide +kernel
theorem dX9_whose_145 : decode cX9_whose 145 = .ok (.getfield 28, 3) := by decide +kernel
theorem dX9_whose_148 : decode cX9_whose 148 = .ok (.iload 5, 2) := by decide +kernel
theorem dX9_whose_150 : decode cX9_whose 150 = .ok (.iaload, 1) := by decide +kernel
theorem dX9_whose_151 : decode cX9_whose 151 = .ok (.invokestatic 207, 3) := by decide +kernel
theorem dX9_whose_154 : decode cX9_whose 154 = .ok (.iload_n 3, 1) := by decide +kernel
theorem dX9_whose_155 : decode cX9_whose 155 = .ok (.aload_n 0, 1) := by decide +kernel
theorem dX9_whose_156 : decode cX9_whose 156 = .ok (.getfield 28, 3) := by decide +kernel
theorem dX9_whose_159 : decode cX9_whose 159 = .ok (.iload 4, 2) := by decide +kernel
theorem dX9_whose_161 : decode cX9_whose 161 = .ok (.iaload, 1) := by decide +kernel
theorem dX9_whose_162 : decode cX9_whose 162 = .ok (.invokestatic 207, 3) := by decide +kernel
theorem dX9_whose_165 : decode cX9_whose 165 = .ok (.isub, 1) := by decide +kernel
theorem dX9_whose_166 : decode cX9_whose 166 = .ok (.aload_n 0, 1) := by decide +kernel
theorem dX9_whose_167 : decode cX9_whose 167 = .ok (.getfield 98, 3) := by decide +kernel
theorem dX9_whose_170 : decode cX9_whose 170 = .ok (.if_icmp .ge 6, 3) := by decide +kernel
theorem dX9_whose_173 : decode cX9_whose 173 = .ok (.bipush (-2), 2) := by decide +kernel
theorem dX9_whose_175 : decode cX9_whose 175 = .ok (.ireturn, 1) := by decide +kernel
theorem dX9_whose_176 : decode cX9_whose 176 = .ok (.iinc 5 1, 3) := by decide +kernel
theorem dX9_whose_179 : decode cX9_whose 179 = .ok (.goto (-69), 3) := by decide +kernel
theorem dX9_whose_182 : decode cX9_whose 182 = .ok (.iload 4, 2) := by decide +kernel
theorem dX9_whose_184 : decode cX9_whose 184 = .ok (.ireturn, 1) := by decide +kernel
theorem dX9_told_0 : decode cX9_told 0 = .ok (.aload_n 0, 1) := by decide +kernel
theorem dX9_told_1 : decode cX9_told 1 = .ok (.iload_n 1, 1) := by decide +kernel
theorem dX9_told_2 : decode cX9_told 2 = .ok (.invokevirtual 157, 3) := by decide +kernel
theorem dX9_told_5 : decode cX9_told 5 = .ok (.ifCond .ne 5, 3) := by decide +kernel
theorem dX9_told_8 : decode cX9_told 8 = .ok (.iconst (-1), 1) := by decide +kernel
theorem dX9_told_9 : decode cX9_told 9 = .ok (.ireturn, 1) := by decide +kernel
theorem dX9_told_10 : decode cX9_told 10 = .ok (.iconst 0, 1) := by decide +kernel
theorem dX9_told_11 : decode cX9_told 11 = .ok (.istore_n 3, 1) := by decide +kernel
theorem dX9_told_12 : decode cX9_told 12 = .ok (.iload_n 2, 1) := by decide +kernel
theorem dX9_told_13 : decode cX9_told 13 = .ok (.tableswitch 130 0 5 #[39, 55, 62, 69, 76, 76], 39) := by decide +kernel
theorem dX9_told_52 : decode cX9_told 52 = .ok (.aload_n 0, 1) := by decide +kernel
theorem dX9_told_53 : decode cX9_told 53 = .ok (.getfield 53, 3) := by decide +kernel
theorem dX9_told_56 : decode cX9_told 56 = .ok (.iload_n 1, 1) := by decide +kernel
theorem dX9_told_57 : decode cX9_told 57 = .ok (.iaload, 1) := by decide +kernel
theorem dX9_told_58 : decode cX9_told 58 = .ok (.iconst (-1), 1) := by decide +kernel
theorem dX9_told_59 : decode cX9_told 59 = .ok (.if_icmp .ne 7, 3) := by decide +kernel
theorem dX9_told_62 : decode cX9_told 62 = .ok (.iconst 0, 1) := by decide +kernel
theorem dX9_told_63 : decode cX9_told 63 = .ok (.goto 4, 3) := by decide +kernel
theorem dX9_told_66 : decode cX9_told 66 = .ok (.iconst 1, 1) := by decide +kernel
theorem dX9_told_67 : decode cX9_told 67 = .ok (.ireturn, 1) := by decide +kernel
theorem dX9_told_68 : decode cX9_told 68 = .ok (.aload_n 0, 1) := by decide +kernel
theorem dX9_told_69 : decode cX9_told 69 = .ok (.getfield 47, 3) := by decide +kernel
theorem dX9_told_72 : decode cX9_told 72 = .ok (.iload_n 1, 1) := by decide +kernel
theorem dX9_told_73 : decode cX9_told 73 = .ok (.iaload, 1) := by decide +kernel
theorem dX9_told_74 : decode cX9_told 74 = .ok (.ireturn, 1) := by decide +kernel
theorem dX9_told_75 : decode cX9_told 75 = .ok (.aload_n 0, 1) := by decide +kernel
theorem dX9_told_76 : decode cX9_told 76 = .ok (.getfield 50, 3) := by decide +kernel
theorem dX9_told_79 : decode cX9_told 79 = .ok (.iload_n 1, 1) := by decide +kernel
theorem dX9_told_80 : decode cX9_told 80 = .ok (.iaload, 1) := by decide +kernel
theorem dX9_told_81 : decode cX9_told 81 = .ok (.ireturn, 1) := by decide +kernel
theorem dX9_told_82 : decode cX9_told 82 = .ok (.aload_n 0, 1) := by decide +kernel
theorem dX9_told_83 : decode cX9_told 83 = .ok (.getfield 53, 3) := by decide +kernel
theorem dX9_told_86 : decode cX9_told 86 = .ok (.iload_n 1, 1) := by decide +kernel
theorem dX9_told_87 : decode cX9_told 87 = .ok (.iaload, 1) := by decide +kernel
theorem dX9_told_88 : decode cX9_told 88 = .ok (.ireturn, 1) := by decide +kernel
theorem dX9_told_89 : decode cX9_told 89 = .ok (.iconst 0, 1) := by decide +kernel
theorem dX9_told_90 : decode cX9_told 90 = .ok (.istore 4, 2) := by decide +kernel
theorem dX9_told_92 : decode cX9_told 92 = .ok (.iload 4, 2) := by decide +kernel
theorem dX9_told_94 : decode cX9_told 94 = .ok (.aload_n 0, 1) := by decide +kernel
theorem dX9_told_95 : decode cX9_told 95 = .ok (.getfield 150, 3) := by decide +kernel
theorem dX9_told_98 : decode cX9_told 98 = .ok (.if_icmp .ge 43, 3) := by decide +kernel
theorem dX9_told_101 : decode cX9_told 101 = .ok (.iload_n 3, 1) := by decide +kernel
theorem dX9_told_102 : decode cX9_told 102 = .ok (.aload_n 0, 1) := by decide +kernel
theorem dX9_told_103 : decode cX9_told 103 = .ok (.getfield 85, 3) := by decide +kernel
theorem dX9_told_106 : decode cX9_told 106 = .ok (.iload 4, 2) := by decide +kernel
theorem dX9_told_108 : decode cX9_told 108 = .ok (.iaload, 1) := by decide +kernel
theorem dX9_told_109 : decode cX9_told 109 = .ok (.iload_n 1, 1) := by decide +kernel
theorem dX9_told_110 : decode cX9_told 110 = .ok (.if_icmp .ne 22, 3) := by decide +kernel
theorem dX9_told_113 : decode cX9_told 113 = .ok (.iload_n 2, 1) := by decide +kernel
theorem dX9_told_114 : decode cX9_told 114 = .ok (.iconst 4, 1) := by decide +kernel
theorem dX9_told_115 : decode cX9_told 115 = .ok (.if_icmp .eq 13, 3) := by decide +kernel
theorem dX9_told_118 : decode cX9_told 118 = .ok (.aload_n 0, 1) := by decide +kernel
theorem dX9_told_119 : decode cX9_told 119 = .ok (.getfield 94, 3) := by decide +kernel
theorem dX9_told_122 : decode cX9_told 122 = .ok (.iload 4, 2) := by decide +kernel
theorem dX9_told_124 : decode cX9_told 124 = .ok (.baload, 1) := by decide +kernel
theorem dX9_told_125 : decode cX9_told 125 = .ok (.ifCond .eq 7, 3) := by decide +kernel
theorem dX9_told_128 : decode cX9_told 128 = .ok (.iconst 1, 1) := by decide +kernel
theorem dX9_told_129 : decode cX9_told 129 = .ok (.goto 4, 3) := by decide +kernel
theorem dX9_told_132 : decode cX9_told 132 = .ok (.iconst 0, 1) := by decide +kernel
theorem dX9_told_133 : decode cX9_told 133 = .ok (.iadd, 1) := by decide +kernel
theorem dX9_told_134 : decode cX9_told 134 = .ok (.istore_n 3, 1) := by decide +kernel
theorem dX9_told_135 : decode cX9_told 135 = .ok (.iinc 4 1, 3) := by decide +kernel
theorem dX9_told_138 : decode cX9_told 138 = .ok (.goto (-46), 3) := by decide +kernel
theorem dX9_told_141 : decode cX9_told 141 = .ok (.iload_n 3, 1) := by decide +kernel
theorem dX9_told_142 : decode cX9_told 142 = .ok (.ireturn, 1) := by decide +kernel
theorem dX9_told_143 : decode cX9_told 143 = .ok (.iconst (-1), 1) := by decide +kernel
theorem dX9_told_144 : decode cX9_told 144 = .ok (.ireturn, 1) := by decide +kernel
theorem dX9_part_0 : decode cX9_part 0 = .ok (.aload_n 0, 1) := by decide +kernel
theorem dX9_part_1 : decode cX9_part 1 = .ok (.iload_n 1, 1) := by decide +kernel
theorem dX9_part_2 : decode cX9_part 2 = .ok (.invokevirtual 157, 3) := by decide +kernel
theorem dX9_part_5 : decode cX9_part 5 = .ok (.ifCond .eq 12, 3) := by decide +kernel
theorem dX9_part_8 : decode cX9_part 8 = .ok (.iload_n 2, 1) := by decide +kernel
theorem dX9_part_9 : decode cX9_part 9 = .ok (.iconst 0, 1) := by decide +kernel
theorem dX9_part_10 : decode cX9_part 10 = .ok (.iconst 4, 1) := by decide +kernel
theorem dX9_part_11 : decode cX9_part 11 = .ok (.invokestatic 113, 3) := by decide +kernel
theorem dX9_part_14 : decode cX9_part 14 = .ok (.ifCond .ne 5, 3) := by decide +kernel
theorem dX9_part_17 : decode cX9_part 17 = .ok (.iconst (-1), 1) := by decide +kernel
theorem dX9_part_18 : decode cX9_part 18 = .ok (.ireturn, 1) := by decide +kernel
theorem dX9_part_19 : decode cX9_part 19 = .ok (.iload_n 3, 1) := by decide +kernel
theorem dX9_part_20 : decode cX9_part 20 = .ok (.tableswitch 96 0 4 #[36, 45, 63, 72, 81], 36) := by decide +kernel
theorem dX9_part_56 : decode cX9_part 56 = .ok (.aload_n 0, 1) := by decide +kernel
theorem dX9_part_57 : decode cX9_part 57 = .ok (.getfield 67, 3) := by decide +kernel
theorem dX9_part_60 : decode cX9_part 60 = .ok (.iload_n 1, 1) := by decide +kernel
theorem dX9_part_61 : decode cX9_part 61 = .ok (.aaload, 1) := by decide +kernel
theorem dX9_part_62 : decode cX9_part 62 = .ok (.iload_n 2, 1) := by decide +kernel
theorem dX9_part_63 : decode cX9_part 63 = .ok (.iaload, 1) := by decide +kernel
theorem dX9_part_64 : decode cX9_part 64 = .ok (.ireturn, 1) := by decide +kernel
theorem dX9_part_65 : decode cX9_part 65 = .ok (.aload_n 0, 1) := by decide +kernel
theorem dX9_part_66 : decode cX9_part 66 = .ok (.getfield 64, 3) := by decide +kernel
theorem dX9_part_69 : decode cX9_part 69 = .ok (.iload_n 1, 1) := by decide +kernel
theorem dX9_part_70 : decode cX9_part 70 = .ok (.aaload, 1) := by decide +kernel
theorem dX9_part_71 : decode cX9_part 71 = .ok (.iload_n 2, 1) := by decide +kernel
theorem dX9_part_72 : decode cX9_part 72 = .ok (.iaload, 1) := by decide +kernel
theorem dX9_part_73 : decode cX9_part 73 = .ok (.aload_n 0, 1) := by decide +kernel
theorem dX9_part_74 : decode cX9_part 74 = .ok (.getfield 67, 3) := by decide +kernel
theorem dX9_part_77 : decode cX9_part 77 = .ok (.iload_n 1, 1) := by decide +kernel
theorem dX9_part_78 : decode cX9_part 78 = .ok (.aaload, 1) := by decide +kernel
theorem dX9_part_79 : decode cX9_part 79 = .ok (.iload_n 2, 1) := by decide +kernel
theorem dX9_part_80 : decode cX9_part 80 = .ok (.iaload, 1) := by decide +kernel
theorem dX9_part_81 : decode cX9_part 81 = .ok (.isub, 1) := by decide +kernel
theorem dX9_part_82 : decode cX9_part 82 = .ok (.ireturn, 1) := by decide +kernel
theorem dX9_part_83 : decode cX9_part 83 = .ok (.aload_n 0, 1) := by decide +kernel
theorem dX9_part_84 : decode cX9_part 84 = .ok (.getfield 70, 3) := by decide +kernel
theorem dX9_part_87 : decode cX9_part 87 = .ok (.iload_n 1, 1) := by decide +kernel
theorem dX9_part_88 : decode cX9_part 88 = .ok (.aaload, 1) := by decide +kernel
theorem dX9_part_89 : decode cX9_part 89 = .ok (.iload_n 2, 1) := by decide +kernel
theorem dX9_part_90 : decode cX9_part 90 = .ok (.iaload, 1) := by decide +kernel
theorem dX9_part_91 : decode cX9_part 91 = .ok (.ireturn, 1) := by decide +kernel
theorem dX9_part_92 : decode cX9_part 92 = .ok (.aload_n 0, 1) := by decide +kernel
theorem dX9_part_93 : decode cX9_part 93 = .ok (.getfield 73, 3) := by decide +kernel
theorem dX9_part_96 : decode cX9_part 96 = .ok (.iload_n 1, 1) := by decide +kernel
theorem dX9_part_97 : decode cX9_part 97 = .ok (.aaload, 1) := by decide +kernel
theorem dX9_part_98 : decode cX9_part 98 = .ok (.iload_n 2, 1) := by decide +kernel
theorem dX9_part_99 : decode cX9_part 99 = .ok (.iaload, 1) := by decide +kernel
theorem dX9_part_100 : decode cX9_part 100 = .ok (.ireturn, 1) := by decide +kernel
theorem dX9_part_101 : decode cX9_part 101 = .ok (.aload_n 0, 1) := by decide +kernel
theorem dX9_part_102 : decode cX9_part 102 = .ok (.iload_n 1, 1) := by decide +kernel
theorem dX9_part_103 : decode cX9_part 103 = .ok (.iload_n 2, 1) := by decide +kernel
theorem dX9_part_104 : decode cX9_part 104 = .ok (.invokevirtual 169, 3) := by decide +kernel
theorem dX9_part_107 : decode cX9_part 107 = .ok (.ifCond .eq 7, 3) := by decide +kernel
theorem dX9_part_110 : decode cX9_part 110 = .ok (.iconst 1, 1) := by decide +kernel
theorem dX9_part_111 : decode cX9_part 111 = .ok (.goto 4, 3) := by decide +kernel
theorem dX9_part_114 : decode cX9_part 114 = .ok (.iconst 0, 1) := by decide +kernel
theorem dX9_part_115 : decode cX9_part 115 = .ok (.ireturn, 1) := by decide +kernel
theorem dX9_part_116 : decode cX9_part 116 = .ok (.iconst (-1), 1) := by decide +kernel
theorem dX9_part_117 : decode cX9_part 117 = .ok (.ireturn, 1) := by decide +kernel
theorem dX9_due_0 : decode cX9_due 0 = .ok (.aload_n 0, 1) := by decide +kernel
theorem dX9_due_1 : decode cX9_due 1 = .ok (.iload_n 1, 1) := by decide +kernel
theorem dX9_due_2 : decode cX9_due 2 = .ok (.invokevirtual 123, 3) := by decide +kernel
theorem dX9_due_5 : decode cX9_due 5 = .ok (.ifCond .eq 12, 3) := by decide +kernel
theorem dX9_due_8 : decode cX9_due 8 = .ok (.aload_n 0, 1) := by decide +kernel
theorem dX9_due_9 : decode cX9_due 9 = .ok (.getfield 41, 3) := by decide +kernel
theorem dX9_due_12 : decode cX9_due 12 = .ok (.iload_n 1, 1) := by decide +kernel
theorem dX9_due_13 : decode cX9_due 13 = .ok (.iaload, 1) := by decide +kernel
theorem dX9_due_14 : decode cX9_due 14 = .ok (.goto 4, 3) := by decide +kernel
theorem dX9_due_17 : decode cX9_due 17 = .ok (.iconst (-1), 1) := by decide +kernel
theorem dX9_due_18 : decode cX9_due 18 = .ok (.ireturn, 1) := by decide +kernel
theorem dX9_count_0 : decode cX9_count 0 = .ok (.iconst 0, 1) := by decide +kernel
theorem dX9_count_1 : decode cX9_count 1 = .ok (.istore_n 2, 1) := by decide +kernel
theorem dX9_count_2 : decode cX9_count 2 = .ok (.iload_n 1, 1) := by decide +kernel
theorem dX9_count_3 : decode cX9_count 3 = .ok (.tableswitch 125 0 8 #[49, 54, 59, 64, 69, 105, 110, 115, 120], 49) := by decide +kernel
theorem dX9_count_52 : decode cX9_count 52 = .ok (.aload_n 0, 1) := by decide +kernel
theorem dX9_count_53 : decode cX9_count 53 = .ok (.getfield 128, 3) := by decide +kernel
theorem dX9_count_56 : decode cX9_count 56 = .ok (.ireturn, 1) := by decide +kernel
theorem dX9_count_57 : decode cX9_count 57 = .ok (.aload_n 0, 1) := by decide +kernel
theorem dX9_count_58 : decode cX9_count 58 = .ok (.getfield 31, 3) := by decide +kernel
end
section
theorem dX9_count_61 : decode cX9_count 61 = .ok (.ireturn, 1) := by decide +kernel
theorem dX9_count_62 : decode cX9_count 62 = .ok (.aload_n 0, 1) := by decide +kernel
theorem dX9_count_63 : decode cX9_count 63 = .ok (.getfield 117, 3) := by decide +kernel
theorem dX9_count_66 : decode cX9_count 66 = .ok (.ireturn, 1) := by decide +kernel
theorem dX9_count_67 : decode cX9_count 67 = .ok (.aload_n 0, 1) := by decide +kernel
theorem dX9_count_68 : decode cX9_count 68 = .ok (.getfield 110, 3) := by decide +kernel
theorem dX9_count_71 : decode cX9_count 71 = .ok (.ireturn, 1) := by decide +kernel
theorem dX9_count_72 : decode cX9_count 72 = .ok (.iconst 0, 1) := by decide +kernel
theorem dX9_count_73 : decode cX9_count 73 = .ok (.istore_n 3, 1) := by decide +kernel
theorem dX9_count_74 : decode cX9_count 74 = .ok (.iload_n 3, 1) := by decide +kernel
theorem dX9_count_75 : decode cX9_count 75 = .ok (.aload_n 0, 1) := by decide +kernel
theorem dX9_count_76 : decode cX9_count 76 = .ok (.getfield 110, 3) := by decide +kernel
theorem dX9_count_79 : decode cX9_count 79 = .ok (.if_icmp .ge 27, 3) := by decide +kernel
theorem dX9_count_82 : decode cX9_count 82 = .ok (.iload_n 2, 1) := by decide +kernel
theorem dX9_count_83 : decode cX9_count 83 = .ok (.aload_n 0, 1) := by decide +kernel
theorem dX9_count_84 : decode cX9_count 84 = .ok (.getfield 53, 3) := by decide +kernel
theorem dX9_count_87 : decode cX9_count 87 = .ok (.iload_n 3, 1) := by decide +kernel
theorem dX9_count_88 : decode cX9_count 88 = .ok (.iaload, 1) := by decide +kernel
theorem dX9_count_89 : decode cX9_count 89 = .ok (.iconst (-1), 1) := by decide +kernel
theorem dX9_count_90 : decode cX9_count 90 = .ok (.if_icmp .ne 7, 3) := by decide +kernel
theorem dX9_count_93 : decode cX9_count 93 = .ok (.iconst 0, 1) := by decide +kernel
theorem dX9_count_94 : decode cX9_count 94 = .ok (.goto 4, 3) := by decide +kernel
theorem dX9_count_97 : decode cX9_count 97 = .ok (.iconst 1, 1) := by decide +kernel
theorem dX9_count_98 : decode cX9_count 98 = .ok (.iadd, 1) := by decide +kernel
theorem dX9_count_99 : decode cX9_count 99 = .ok (.istore_n 2, 1) := by decide +kernel
theorem dX9_count_100 : decode cX9_count 100 = .ok (.iinc 3 1, 3) := by decide +kernel
theorem dX9_count_103 : decode cX9_count 103 = .ok (.goto (-29), 3) := by decide +kernel
theorem dX9_count_106 : decode cX9_count 106 = .ok (.iload_n 2, 1) := by decide +kernel
theorem dX9_count_107 : decode cX9_count 107 = .ok (.ireturn, 1) := by decide +kernel
theorem dX9_count_108 : decode cX9_count 108 = .ok (.aload_n 0, 1) := by decide +kernel
theorem dX9_count_109 : decode cX9_count 109 = .ok (.getfield 150, 3) := by decide +kernel
theorem dX9_count_112 : decode cX9_count 112 = .ok (.ireturn, 1) := by decide +kernel
theorem dX9_count_113 : decode cX9_count 113 = .ok (.aload_n 0, 1) := by decide +kernel
theorem dX9_count_114 : decode cX9_count 114 = .ok (.getfield 179, 3) := by decide +kernel
theorem dX9_count_117 : decode cX9_count 117 = .ok (.ireturn, 1) := by decide +kernel
theorem dX9_count_118 : decode cX9_count 118 = .ok (.aload_n 0, 1) := by decide +kernel
theorem dX9_count_119 : decode cX9_count 119 = .ok (.getfield 185, 3) := by decide +kernel
theorem dX9_count_122 : decode cX9_count 122 = .ok (.ireturn, 1) := by decide +kernel
theorem dX9_count_123 : decode cX9_count 123 = .ok (.aload_n 0, 1) := by decide +kernel
theorem dX9_count_124 : decode cX9_count 124 = .ok (.getfield 135, 3) := by decide +kernel
theorem dX9_count_127 : decode cX9_count 127 = .ok (.ireturn, 1) := by decide +kernel
theorem dX9_count_128 : decode cX9_count 128 = .ok (.iconst (-1), 1) := by decide +kernel
theorem dX9_count_129 : decode cX9_count 129 = .ok (.ireturn, 1) := by decide +kernel
theorem dJ6_bitCount_0f7a4_0 : decode cJ6_bitCount_0f7a4 0 = .ok (.iload_n 0, 1) := by decide +kernel
theorem dJ6_bitCount_0f7a4_1 : decode cJ6_bitCount_0f7a4 1 = .ok (.iload_n 0, 1) := by decide +kernel
theorem dJ6_bitCount_0f7a4_2 : decode cJ6_bitCount_0f7a4 2 = .ok (.iconst 1, 1) := by decide +kernel
theorem dJ6_bitCount_0f7a4_3 : decode cJ6_bitCount_0f7a4 3 = .ok (.iushr, 1) := by decide +kernel
theorem dJ6_bitCount_0f7a4_4 : decode cJ6_bitCount_0f7a4 4 = .ok (.ldc_w 265, 3) := by decide +kernel
theorem dJ6_bitCount_0f7a4_7 : decode cJ6_bitCount_0f7a4 7 = .ok (.iand, 1) := by decide +kernel
theorem dJ6_bitCount_0f7a4_8 : decode cJ6_bitCount_0f7a4 8 = .ok (.isub, 1) := by decide +kernel
theorem dJ6_bitCount_0f7a4_9 : decode cJ6_bitCount_0f7a4 9 = .ok (.istore_n 0, 1) := by decide +kernel
theorem dJ6_bitCount_0f7a4_10 : decode cJ6_bitCount_0f7a4 10 = .ok (.iload_n 0, 1) := by decide +kernel
theorem dJ6_bitCount_0f7a4_11 : decode cJ6_bitCount_0f7a4 11 = .ok (.ldc_w 266, 3) := by decide +kernel
theorem dJ6_bitCount_0f7a4_14 : decode cJ6_bitCount_0f7a4 14 = .ok (.iand, 1) := by decide +kernel
theorem dJ6_bitCount_0f7a4_15 : decode cJ6_bitCount_0f7a4 15 = .ok (.iload_n 0, 1) := by decide +kernel
theorem dJ6_bitCount_0f7a4_16 : decode cJ6_bitCount_0f7a4 16 = .ok (.iconst 2, 1) := by decide +kernel
theorem dJ6_bitCount_0f7a4_17 : decode cJ6_bitCount_0f7a4 17 = .ok (.iushr, 1) := by decide +kernel
theorem dJ6_bitCount_0f7a4_18 : decode cJ6_bitCount_0f7a4 18 = .ok (.ldc_w 266, 3) := by decide +kernel
theorem dJ6_bitCount_0f7a4_21 : decode cJ6_bitCount_0f7a4 21 = .ok (.iand, 1) := by decide +kernel
theorem dJ6_bitCount_0f7a4_22 : decode cJ6_bitCount_0f7a4 22 = .ok (.iadd, 1) := by decide +kernel
theorem dJ6_bitCount_0f7a4_23 : decode cJ6_bitCount_0f7a4 23 = .ok (.istore_n 0, 1) := by decide +kernel
theorem dJ6_bitCount_0f7a4_24 : decode cJ6_bitCount_0f7a4 24 = .ok (.iload_n 0, 1) := by decide +kernel
theorem dJ6_bitCount_0f7a4_25 : decode cJ6_bitCount_0f7a4 25 = .ok (.iload_n 0, 1) := by decide +kernel
theorem dJ6_bitCount_0f7a4_26 : decode cJ6_bitCount_0f7a4 26 = .ok (.iconst 4, 1) := by decide +kernel
theorem dJ6_bitCount_0f7a4_27 : decode cJ6_bitCount_0f7a4 27 = .ok (.iushr, 1) := by decide +kernel
theorem dJ6_bitCount_0f7a4_28 : decode cJ6_bitCount_0f7a4 28 = .ok (.iadd, 1) := by decide +kernel
theorem dJ6_bitCount_0f7a4_29 : decode cJ6_bitCount_0f7a4 29 = .ok (.ldc_w 267, 3) := by decide +kernel
theorem dJ6_bitCount_0f7a4_32 : decode cJ6_bitCount_0f7a4 32 = .ok (.iand, 1) := by decide +kernel
theorem dJ6_bitCount_0f7a4_33 : decode cJ6_bitCount_0f7a4 33 = .ok (.istore_n 0, 1) := by decide +kernel
theorem dJ6_bitCount_0f7a4_34 : decode cJ6_bitCount_0f7a4 34 = .ok (.iload_n 0, 1) := by decide +kernel
theorem dJ6_bitCount_0f7a4_35 : decode cJ6_bitCount_0f7a4 35 = .ok (.iload_n 0, 1) := by decide +kernel
theorem dJ6_bitCount_0f7a4_36 : decode cJ6_bitCount_0f7a4 36 = .ok (.bipush 8, 2) := by decide +kernel
theorem dJ6_bitCount_0f7a4_38 : decode cJ6_bitCount_0f7a4 38 = .ok (.iushr, 1) := by decide +kernel
theorem dJ6_bitCount_0f7a4_39 : decode cJ6_bitCount_0f7a4 39 = .ok (.iadd, 1) := by decide +kernel
theorem dJ6_bitCount_0f7a4_40 : decode cJ6_bitCount_0f7a4 40 = .ok (.istore_n 0, 1) := by decide +kernel
theorem dJ6_bitCount_0f7a4_41 : decode cJ6_bitCount_0f7a4 41 = .ok (.iload_n 0, 1) := by decide +kernel
theorem dJ6_bitCount_0f7a4_42 : decode cJ6_bitCount_0f7a4 42 = .ok (.iload_n 0, 1) := by decide +kernel
theorem dJ6_bitCount_0f7a4_43 : decode cJ6_bitCount_0f7a4 43 = .ok (.bipush 16, 2) := by decide +kernel
theorem dJ6_bitCount_0f7a4_45 : decode cJ6_bitCount_0f7a4 45 = .ok (.iushr, 1) := by decide +kernel
theorem dJ6_bitCount_0f7a4_46 : decode cJ6_bitCount_0f7a4 46 = .ok (.iadd, 1) := by decide +kernel
theorem dJ6_bitCount_0f7a4_47 : decode cJ6_bitCount_0f7a4 47 = .ok (.istore_n 0, 1) := by decide +kernel
theorem dJ6_bitCount_0f7a4_48 : decode cJ6_bitCount_0f7a4 48 = .ok (.iload_n 0, 1) := by decide +kernel
theorem dJ6_bitCount_0f7a4_49 : decode cJ6_bitCount_0f7a4 49 = .ok (.bipush 63, 2) := by decide +kernel
theorem dJ6_bitCount_0f7a4_51 : decode cJ6_bitCount_0f7a4 51 = .ok (.iand, 1) := by decide +kernel
theorem dJ6_bitCount_0f7a4_52 : decode cJ6_bitCount_0f7a4 52 = .ok (.ireturn, 1) := by decide +kernel
theorem dJ9_abs_0f7a4_0 : decode cJ9_abs_0f7a4 0 = .ok (.iload_n 0, 1) := by decide +kernel
theorem dJ9_abs_0f7a4_1 : decode cJ9_abs_0f7a4 1 = .ok (.ifCond .ge 8, 3) := by decide +kernel
theorem dJ9_abs_0f7a4_4 : decode cJ9_abs_0f7a4 4 = .ok (.iload_n 0, 1) := by decide +kernel
theorem dJ9_abs_0f7a4_5 : decode cJ9_abs_0f7a4 5 = .ok (.ineg, 1) := by decide +kernel
theorem dJ9_abs_0f7a4_6 : decode cJ9_abs_0f7a4 6 = .ok (.goto 4, 3) := by decide +kernel
theorem dJ9_abs_0f7a4_9 : decode cJ9_abs_0f7a4 9 = .ok (.iload_n 0, 1) := by decide +kernel
theorem dJ9_abs_0f7a4_10 : decode cJ9_abs_0f7a4 10 = .ok (.ireturn, 1) := by decide +kernel
theorem dJ9_min_7cf53_0 : decode cJ9_min_7cf53 0 = .ok (.iload_n 0, 1) := by decide +kernel
theorem dJ9_min_7cf53_1 : decode cJ9_min_7cf53 1 = .ok (.iload_n 1, 1) := by decide +kernel
theorem dJ9_min_7cf53_2 : decode cJ9_min_7cf53 2 = .ok (.if_icmp .gt 7, 3) := by decide +kernel
theorem dJ9_min_7cf53_5 : decode cJ9_min_7cf53 5 = .ok (.iload_n 0, 1) := by decide +kernel
theorem dJ9_min_7cf53_6 : decode cJ9_min_7cf53 6 = .ok (.goto 4, 3) := by decide +kernel
theorem dJ9_min_7cf53_9 : decode cJ9_min_7cf53 9 = .ok (.iload_n 1, 1) := by decide +kernel
theorem dJ9_min_7cf53_10 : decode cJ9_min_7cf53 10 = .ok (.ireturn, 1) := by decide +kernel
theorem dL_law_0 : decode cL_law 0 = .ok (.new 7, 3) := by decide +kernel
theorem dL_law_3 : decode cL_law 3 = .ok (.dup, 1) := by decide +kernel
theorem dL_law_4 : decode cL_law 4 = .ok (.invokespecial 9, 3) := by decide +kernel
theorem dL_law_7 : decode cL_law 7 = .ok (.astore_n 1, 1) := by decide +kernel
theorem dL_law_8 : decode cL_law 8 = .ok (.new 10, 3) := by decide +kernel
theorem dL_law_11 : decode cL_law 11 = .ok (.dup, 1) := by decide +kernel
theorem dL_law_12 : decode cL_law 12 = .ok (.invokespecial 12, 3) := by decide +kernel
theorem dL_law_15 : decode cL_law 15 = .ok (.astore_n 2, 1) := by decide +kernel
theorem dL_law_16 : decode cL_law 16 = .ok (.iconst 0, 1) := by decide +kernel
theorem dL_law_17 : decode cL_law 17 = .ok (.istore_n 3, 1) := by decide +kernel
theorem dL_law_18 : decode cL_law 18 = .ok (.iload_n 3, 1) := by decide +kernel
theorem dL_law_19 : decode cL_law 19 = .ok (.aload_n 0, 1) := by decide +kernel
theorem dL_law_20 : decode cL_law 20 = .ok (.arraylength, 1) := by decide +kernel
theorem dL_law_21 : decode cL_law 21 = .ok (.iconst 5, 1) := by decide +kernel
theorem dL_law_22 : decode cL_law 22 = .ok (.isub, 1) := by decide +kernel
theorem dL_law_23 : decode cL_law 23 = .ok (.if_icmp .gt 889, 3) := by decide +kernel
theorem dL_law_26 : decode cL_law 26 = .ok (.aload_n 0, 1) := by decide +kernel
theorem dL_law_27 : decode cL_law 27 = .ok (.iload_n 3, 1) := by decide +kernel
theorem dL_law_28 : decode cL_law 28 = .ok (.iaload, 1) := by decide +kernel
theorem dL_law_29 : decode cL_law 29 = .ok (.bipush 31, 2) := by decide +kernel
theorem dL_law_31 : decode cL_law 31 = .ok (.iand, 1) := by decide +kernel
theorem dL_law_32 : decode cL_law 32 = .ok (.tableswitch 874 0 23 #[112, 155, 188, 201, 234, 287, 310, 333, 376, 409, 452, 485, 518, 541, 574, 597, 620, 653, 676, 719, 752, 785, 828, 851], 112) := by decide +kernel
theorem dL_law_144 : decode cL_law 144 = .ok (.aload_n 1, 1) := by decide +kernel
theorem dL_law_145 : decode cL_law 145 = .ok (.aload_n 0, 1) := by decide +kernel
theorem dL_law_146 : decode cL_law 146 = .ok (.iload_n 3, 1) := by decide +kernel
theorem dL_law_147 : decode cL_law 147 = .ok (.iconst 1, 1) := by decide +kernel
theorem dL_law_148 : decode cL_law 148 = .ok (.iadd, 1) := by decide +kernel
theorem dL_law_149 : decode cL_law 149 = .ok (.iaload, 1) := by decide +kernel
theorem dL_law_150 : decode cL_law 150 = .ok (.aload_n 0, 1) := by decide +kernel
theorem dL_law_151 : decode cL_law 151 = .ok (.iload_n 3, 1) := by decide +kernel
theorem dL_law_152 : decode cL_law 152 = .ok (.iconst 2, 1) := by decide +kernel
theorem dL_law_153 : decode cL_law 153 = .ok (.iadd, 1) := by decide +kernel
theorem dL_law_154 : decode cL_law 154 = .ok (.iaload, 1) := by decide +kernel
theorem dL_law_155 : decode cL_law 155 = .ok (.aload_n 0, 1) := by decide +kernel
theorem dL_law_156 : decode cL_law 156 = .ok (.iload_n 3, 1) := by decide +kernel
theorem dL_law_157 : decode cL_law 157 = .ok (.iconst 3, 1) := by decide +kernel
theorem dL_law_158 : decode cL_law 158 = .ok (.iadd, 1) := by decide +kernel
theorem dL_law_159 : decode cL_law 159 = .ok (.iaload, 1) := by decide +kernel
theorem dL_law_160 : decode cL_law 160 = .ok (.invokevirtual 13, 3) := by decide +kernel
theorem dL_law_163 : decode cL_law 163 = .ok (.aload_n 2, 1) := by decide +kernel
theorem dL_law_164 : decode cL_law 164 = .ok (.aload_n 0, 1) := by decide +kernel
theorem dL_law_165 : decode cL_law 165 = .ok (.iload_n 3, 1) := by decide +kernel
theorem dL_law_166 : decode cL_law 166 = .ok (.iconst 1, 1) := by decide +kernel
theorem dL_law_167 : decode cL_law 167 = .ok (.iadd, 1) := by decide +kernel
theorem dL_law_168 : decode cL_law 168 = .ok (.iaload, 1) := by decide +kernel
theorem dL_law_169 : decode cL_law 169 = .ok (.aload_n 0, 1) := by decide +kernel
theorem dL_law_170 : decode cL_law 170 = .ok (.iload_n 3, 1) := by decide +kernel
theorem dL_law_171 : decode cL_law 171 = .ok (.iconst 2, 1) := by decide +kernel
theorem dL_law_172 : decode cL_law 172 = .ok (.iadd, 1) := by decide +kernel
theorem dL_law_173 : decode cL_law 173 = .ok (.iaload, 1) := by decide +kernel
theorem dL_law_174 : decode cL_law 174 = .ok (.aload_n 0, 1) := by decide +kernel
theorem dL_law_175 : decode cL_law 175 = .ok (.iload_n 3, 1) := by decide +kernel
theorem dL_law_176 : decode cL_law 176 = .ok (.iconst 3, 1) := by decide +kernel
theorem dL_law_177 : decode cL_law 177 = .ok (.iadd, 1) := by decide +kernel
theorem dL_law_178 : decode cL_law 178 = .ok (.iaload, 1) := by decide +kernel
theorem dL_law_179 : decode cL_law 179 = .ok (.invokevirtual 17, 3) := by decide +kernel
theorem dL_law_182 : decode cL_law 182 = .ok (.if_icmp .eq 724, 3) := by decide +kernel
theorem dL_law_185 : decode cL_law 185 = .ok (.iconst 0, 1) := by decide +kernel
theorem dL_law_186 : decode cL_law 186 = .ok (.ireturn, 1) := by decide +kernel
theorem dL_law_187 : decode cL_law 187 = .ok (.aload_n 1, 1) := by decide +kernel
theorem dL_law_188 : decode cL_law 188 = .ok (.aload_n 0, 1) := by decide +kernel
theorem dL_law_189 : decode cL_law 189 = .ok (.iload_n 3, 1) := by decide +kernel
theorem dL_law_190 : decode cL_law 190 = .ok (.iconst 1, 1) := by decide +kernel
theorem dL_law_191 : decode cL_law 191 = .ok (.iadd, 1) := by decide +kernel
theorem dL_law_192 : decode cL_law 192 = .ok (.iaload, 1) := by decide +kernel
theorem dL_law_193 : decode cL_law 193 = .ok (.aload_n 0, 1) := by decide +kernel
theorem dL_law_194 : decode cL_law 194 = .ok (.iload_n 3, 1) := by decide +kernel
theorem dL_law_195 : decode cL_law 195 = .ok (.iconst 2, 1) := by decide +kernel
theorem dL_law_196 : decode cL_law 196 = .ok (.iadd, 1) := by decide +kernel
theorem dL_law_197 : decode cL_law 197 = .ok (.iaload, 1) := by decide +kernel
theorem dL_law_198 : decode cL_law 198 = .ok (.invokevirtual 18, 3) := by decide +kernel
theorem dL_law_201 : decode cL_law 201 = .ok (.aload_n 2, 1) := by decide +kernel
theorem dL_law_202 : decode cL_law 202 = .ok (.aload_n 0, 1) := by decide +kernel
theorem dL_law_203 : decode cL_law 203 = .ok (.iload_n 3, 1) := by decide +kernel
theorem dL_law_204 : decode cL_law 204 = .ok (.iconst 1, 1) := by decide +kernel
theorem dL_law_205 : decode cL_law 205 = .ok (.iadd, 1) := by decide +kernel
theorem dL_law_206 : decode cL_law 206 = .ok (.iaload, 1) := by decide +kernel
theorem dL_law_207 : decode cL_law 207 = .ok (.aload_n 0, 1) := by decide +kernel
theorem dL_law_208 : decode cL_law 208 = .ok (.iload_n 3, 1) := by decide +kernel
theorem dL_law_209 : decode cL_law 209 = .ok (.iconst 2, 1) := by decide +kernel
theorem dL_law_210 : decode cL_law 210 = .ok (.iadd, 1) := by decide +kernel
theorem dL_law_211 : decode cL_law 211 = .ok (.iaload, 1) := by decide +kernel
theorem dL_law_212 : decode cL_law 212 = .ok (.invokevirtual 22, 3) := by decide +kernel
theorem dL_law_215 : decode cL_law 215 = .ok (.if_icmp .eq 691, 3) := by decide +kernel
theorem dL_law_218 : decode cL_law 218 = .ok (.iconst 0, 1) := by decide +kernel
theorem dL_law_219 : decode cL_law 219 = .ok (.ireturn, 1) := by decide +kernel
theorem dL_law_220 : decode cL_law 220 = .ok (.aload_n 1, 1) := by decide +kernel
theorem dL_law_221 : decode cL_law 221 = .ok (.invokevirtual 23, 3) := by decide +kernel
theorem dL_law_224 : decode cL_law 224 = .ok (.aload_n 2, 1) := by decide +kernel
theorem dL_law_225 : decode cL_law 225 = .ok (.invokevirtual 27, 3) := by decide +kernel
theorem dL_law_228 : decode cL_law 228 = .ok (.if_icmp .eq 678, 3) := by decide +kernel
theorem dL_law_231 : decode cL_law 231 = .ok (.iconst 0, 1) := by decide +kernel
theorem dL_law_232 : decode cL_law 232 = .ok (.ireturn, 1) := by decide +kernel
theorem dL_law_233 : decode cL_law 233 = .ok (.aload_n 1, 1) := by decide +kernel
theorem dL_law_234 : decode cL_law 234 = .ok (.aload_n 0, 1) := by decide +kernel
theorem dL_law_235 : decode cL_law 235 = .ok (.iload_n 3, 1) := by decide +kernel
theorem dL_law_236 : decode cL_law 236 = .ok (.iconst 1, 1) := by decide +kernel
theorem dL_law_237 : decode cL_law 237 = .ok (.iadd, 1) := by decide +kernel
theorem dL_law_238 : decode cL_law 238 = .ok (.iaload, 1) := by decide +kernel
theorem dL_law_239 : decode cL_law 239 = .ok (.aload_n 0, 1) := by decide +kernel
theorem dL_law_240 : decode cL_law 240 = .ok (.iload_n 3, 1) := by decide +kernel
theorem dL_law_241 : decode cL_law 241 = .ok (.iconst 2, 1) := by decide +kernel
theorem dL_law_242 : decode cL_law 242 = .ok (.iadd, 1) := by decide +kernel
theorem dL_law_243 : decode cL_law 243 = .ok (.iaload, 1) := by decide +kernel
theorem dL_law_244 : decode cL_law 244 = .ok (.invokevirtual 28, 3) := by decide +kernel
theorem dL_law_247 : decode cL_law 247 = .ok (.aload_n 2, 1) := by decide +kernel
theorem dL_law_248 : decode cL_law 248 = .ok (.aload_n 0, 1) := by decide +kernel
theorem dL_law_249 : decode cL_law 249 = .ok (.iload_n 3, 1) := by decide +kernel
theorem dL_law_250 : decode cL_law 250 = .ok (.iconst 1, 1) := by decide +kernel
theorem dL_law_251 : decode cL_law 251 = .ok (.iadd, 1) := by decide +kernel
theorem dL_law_252 : decode cL_law 252 = .ok (.iaload, 1) := by decide +kernel
theorem dL_law_253 : decode cL_law 253 = .ok (.aload_n 0, 1) := by decide +kernel
theorem dL_law_254 : decode cL_law 254 = .ok (.iload_n 3, 1) := by decide +kernel
theorem dL_law_255 : decode cL_law 255 = .ok (.iconst 2, 1) := by decide +kernel
theorem dL_law_256 : decode cL_law 256 = .ok (.iadd, 1) := by decide +kernel
theorem dL_law_257 : decode cL_law 257 = .ok (.iaload, 1) := by decide +kernel
theorem dL_law_258 : decode cL_law 258 = .ok (.invokevirtual 32, 3) := by decide +kernel
theorem dL_law_261 : decode cL_law 261 = .ok (.if_icmp .eq 645, 3) := by decide +kernel
theorem dL_law_264 : decode cL_law 264 = .ok (.iconst 0, 1) := by decide +kernel
theorem dL_law_265 : decode cL_law 265 = .ok (.ireturn, 1) := by decide +kernel
theorem dL_law_266 : decode cL_law 266 = .ok (.aload_n 1, 1) := by decide +kernel
theorem dL_law_267 : decode cL_law 267 = .ok (.aload_n 0, 1) := by decide +kernel
theorem dL_law_268 : decode cL_law 268 = .ok (.iload_n 3, 1) := by decide +kernel
theorem dL_law_269 : decode cL_law 269 = .ok (.iconst 1, 1) := by decide +kernel
theorem dL_law_270 : decode cL_law 270 = .ok (.iadd, 1) := by decide +kernel
theorem dL_law_271 : decode cL_law 271 = .ok (.iaload, 1) := by decide +kernel
theorem dL_law_272 : decode cL_law 272 = .ok (.aload_n 0, 1) := by decide +kernel
theorem dL_law_273 : decode cL_law 273 = .ok (.iload_n 3, 1) := by decide +kernel
theorem dL_law_274 : decode cL_law 274 = .ok (.iconst 2, 1) := by decide +kernel
theorem dL_law_275 : decode cL_law 275 = .ok (.iadd, 1) := by decide +kernel
theorem dL_law_276 : decode cL_law 276 = .ok (.iaload, 1) := by decide +kernel
theorem dL_law_277 : decode cL_law 277 = .ok (.aload_n 0, 1) := by decide +kernel
theorem dL_law_278 : decode cL_law 278 = .ok (.iload_n 3, 1) := by decide +kernel
theorem dL_law_279 : decode cL_law 279 = .ok (.iconst 3, 1) := by decide +kernel
theorem dL_law_280 : decode cL_law 280 = .ok (.iadd, 1) := by decide +kernel
theorem dL_law_281 : decode cL_law 281 = .ok (.iaload, 1) := by decide +kernel
theorem dL_law_282 : decode cL_law 282 = .ok (.aload_n 0, 1) := by decide +kernel
theorem dL_law_283 : decode cL_law 283 = .ok (.iload_n 3, 1) := by decide +kernel
theorem dL_law_284 : decode cL_law 284 = .ok (.iconst 4, 1) := by decide +kernel
theorem dL_law_285 : decode cL_law 285 = .ok (.iadd, 1) := by decide +kernel
theorem dL_law_286 : decode cL_law 286 = .ok (.iaload, 1) := by decide +kernel
theorem dL_law_287 : decode cL_law 287 = .ok (.invokevirtual 33, 3) := by decide +kernel
theorem dL_law_290 : decode cL_law 290 = .ok (.aload_n 2, 1) := by decide +kernel
theorem dL_law_291 : decode cL_law 291 = .ok (.aload_n 0, 1) := by decide +kernel
theorem dL_law_292 : decode cL_law 292 = .ok (.iload_n 3, 1) := by decide +kernel
theorem dL_law_293 : decode cL_law 293 = .ok (.iconst 1, 1) := by decide +kernel
theorem dL_law_294 : decode cL_law 294 = .ok (.iadd, 1) := by decide +kernel
theorem dL_law_295 : decode cL_law 295 = .ok (.iaload, 1) := by decide +kernel
theorem dL_law_296 : decode cL_law 296 = .ok (.aload_n 0, 1) := by decide +kernel
theorem dL_law_297 : decode cL_law 297 = .ok (.iload_n 3, 1) := by decide +kernel
theorem dL_law_298 : decode cL_law 298 = .ok (.iconst 2, 1) := by decide +kernel
theorem dL_law_299 : decode cL_law 299 = .ok (.iadd, 1) := by decide +kernel
theorem dL_law_300 : decode cL_law 300 = .ok (.iaload, 1) := by decide +kernel
theorem dL_law_301 : decode cL_law 301 = .ok (.aload_n 0, 1) := by decide +kernel
theorem dL_law_302 : decode cL_law 302 = .ok (.iload_n 3, 1) := by decide +kernel
theorem dL_law_303 : decode cL_law 303 = .ok (.iconst 3, 1) := by decide +kernel
theorem dL_law_304 : decode cL_law 304 = .ok (.iadd, 1) := by decide +kernel
theorem dL_law_305 : decode cL_law 305 = .ok (.iaload, 1) := by decide +kernel
theorem dL_law_306 : decode cL_law 306 = .ok (.aload_n 0, 1) := by decide +kernel
theorem dL_law_307 : decode cL_law 307 = .ok (.iload_n 3, 1) := by decide +kernel
theorem dL_law_308 : decode cL_law 308 = .ok (.iconst 4, 1) := by decide +kernel
theorem dL_law_309 : decode cL_law 309 = .ok (.iadd, 1) := by decide +kernel
theorem dL_law_310 : decode cL_law 310 = .ok (.iaload, 1) := by decide +kernel
theorem dL_law_311 : decode cL_law 311 = .ok (.invokevirtual 37, 3) := by decide +kernel
theorem dL_law_314 : decode cL_law 314 = .ok (.if_icmp .eq 592, 3) := by decide +kernel
theorem dL_law_317 : decode cL_law 317 = .ok (.iconst 0, 1) := by decide +kernel
theorem dL_law_318 : decode cL_law 318 = .ok (.ireturn, 1) := by decide +kernel
theorem dL_law_319 : decode cL_law 319 = .ok (.aload_n 1, 1) := by decide +kernel
theorem dL_law_320 : decode cL_law 320 = .ok (.aload_n 0, 1) := by decide +kernel
theorem dL_law_321 : decode cL_law 321 = .ok (.iload_n 3, 1) := by decide +kernel
theorem dL_law_322 : decode cL_law 322 = .ok (.iconst 1, 1) := by decide +kernel
theorem dL_law_323 : decode cL_law 323 = .ok (.iadd, 1) := by decide +kernel
theorem dL_law_324 : decode cL_law 324 = .ok (.iaload, 1) := by decide +kernel
theorem dL_law_325 : decode cL_law 325 = .ok (.invokevirtual 38, 3) := by decide +kernel
theorem dL_law_328 : decode cL_law 328 = .ok (.aload_n 2, 1) := by decide +kernel
theorem dL_law_329 : decode cL_law 329 = .ok (.aload_n 0, 1) := by decide +kernel
theorem dL_law_330 : decode cL_law 330 = .ok (.iload_n 3, 1) := by decide +kernel
theorem dL_law_331 : decode cL_law 331 = .ok (.iconst 1, 1) := by decide +kernel
theorem dL_law_332 : decode cL_law 332 = .ok (.iadd, 1) := by decide +kernel
theorem dL_law_333 : decode cL_law 333 = .ok (.iaload, 1) := by decide +kernel
theorem dL_law_334 : decode cL_law 334 = .ok (.invokevirtual 42, 3) := by decide +kernel
theorem dL_law_337 : decode cL_law 337 = .ok (.if_icmp .eq 569, 3) := by decide +kernel
theorem dL_law_340 : decode cL_law 340 = .ok (.iconst 0, 1) := by decide +kernel
theorem dL_law_341 : decode cL_law 341 = .ok (.ireturn, 1) := by decide +kernel
theorem dL_law_342 : decode cL_law 342 = .ok (.aload_n 1, 1) := by decide +kernel
theorem dL_law_343 : decode cL_law 343 = .ok (.aload_n 0, 1) := by decide +kernel
theorem dL_law_344 : decode cL_law 344 = .ok (.iload_n 3, 1) := by decide +kernel
theorem dL_law_345 : decode cL_law 345 = .ok (.iconst 1, 1) := by decide +kernel
theorem dL_law_346 : decode cL_law 346 = .ok (.iadd, 1) := by decide +kernel
theorem dL_law_347 : decode cL_law 347 = .ok (.iaload, 1) := by decide +kernel
theorem dL_law_348 : decode cL_law 348 = .ok (.invokevirtual 43, 3) := by decide +kernel
theorem dL_law_351 : decode cL_law 351 = .ok (.aload_n 2, 1) := by decide +kernel
theorem dL_law_352 : decode cL_law 352 = .ok (.aload_n 0, 1) := by decide +kernel
theorem dL_law_353 : decode cL_law 353 = .ok (.iload_n 3, 1) := by decide +kernel
theorem dL_law_354 : decode cL_law 354 = .ok (.iconst 1, 1) := by decide +kernel
theorem dL_law_355 : decode cL_law 355 = .ok (.iadd, 1) := by decide +kernel
theorem dL_law_356 : decode cL_law 356 = .ok (.iaload, 1) := by decide +kernel
theorem dL_law_357 : decode cL_law 357 = .ok (.invokevirtual 46, 3) := by decide +kernel
theorem dL_law_360 : decode cL_law 360 = .ok (.if_icmp .eq 546, 3) := by decide +kernel
theorem dL_law_363 : decode cL_law 363 = .ok (.iconst 0, 1) := by decide +kernel
theorem dL_law_364 : decode cL_law 364 = .ok (.ireturn, 1) := by decide +kernel
theorem dL_law_365 : decode cL_law 365 = .ok (.aload_n 1, 1) := by decide +kernel
theorem dL_law_366 : decode cL_law 366 = .ok (.aload_n 0, 1) := by decide +kernel
theorem dL_law_367 : decode cL_law 367 = .ok (.iload_n 3, 1) := by decide +kernel
theorem dL_law_368 : decode cL_law 368 = .ok (.iconst 1, 1) := by decide +kernel
theorem dL_law_369 : decode cL_law 369 = .ok (.iadd, 1) := by decide +kernel
theorem dL_law_370 : decode cL_law 370 = .ok (.iaload, 1) := by decide +kernel
theorem dL_law_371 : decode cL_law 371 = .ok (.aload_n 0, 1) := by decide +kernel
theorem dL_law_372 : decode cL_law 372 = .ok (.iload_n 3, 1) := by decide +kernel
theorem dL_law_373 : decode cL_law 373 = .ok (.iconst 2, 1) := by decide +kernel
theorem dL_law_374 : decode cL_law 374 = .ok (.iadd, 1) := by decide +kernel
theorem dL_law_375 : decode cL_law 375 = .ok (.iaload, 1) := by decide +kernel
theorem dL_law_376 : decode cL_law 376 = .ok (.aload_n 0, 1) := by decide +kernel
theorem dL_law_377 : decode cL_law 377 = .ok (.iload_n 3, 1) := by decide +kernel
theorem dL_law_378 : decode cL_law 378 = .ok (.iconst 3, 1) := by decide +kernel
theorem dL_law_379 : decode cL_law 379 = .ok (.iadd, 1) := by decide +kernel
theorem dL_law_380 : decode cL_law 380 = .ok (.iaload, 1) := by decide +kernel
theorem dL_law_381 : decode cL_law 381 = .ok (.invokevirtual 47, 3) := by decide +kernel
theorem dL_law_384 : decode cL_law 384 = .ok (.aload_n 2, 1) := by decide +kernel
theorem dL_law_385 : decode cL_law 385 = .ok (.aload_n 0, 1) := by decide +kernel
theorem dL_law_386 : decode cL_law 386 = .ok (.iload_n 3, 1) := by decide +kernel
theorem dL_law_387 : decode cL_law 387 = .ok (.iconst 1, 1) := by decide +kernel
theorem dL_law_388 : decode cL_law 388 = .ok (.iadd, 1) := by decide +kernel
theorem dL_law_389 : decode cL_law 389 = .ok (.iaload, 1) := by decide +kernel
theorem dL_law_390 : decode cL_law 390 = .ok (.aload_n 0, 1) := by decide +kernel
theorem dL_law_391 : decode cL_law 391 = .ok (.iload_n 3, 1) := by decide +kernel
theorem dL_law_392 : decode cL_law 392 = .ok (.iconst 2, 1) := by decide +kernel
theorem dL_law_393 : decode cL_law 393 = .ok (.iadd, 1) := by decide +kernel
theorem dL_law_394 : decode cL_law 394 = .ok (.iaload, 1) := by decide +kernel
theorem dL_law_395 : decode cL_law 395 = .ok (.aload_n 0, 1) := by decide +kernel
theorem dL_law_396 : decode cL_law 396 = .ok (.iload_n 3, 1) := by decide +kernel
theorem dL_law_397 : decode cL_law 397 = .ok (.iconst 3, 1) := by decide +kernel
theorem dL_law_398 : decode cL_law 398 = .ok (.iadd, 1) := by decide +kernel
theorem dL_law_399 : decode cL_law 399 = .ok (.iaload, 1) := by decide +kernel
theorem dL_law_400 : decode cL_law 400 = .ok (.invokevirtual 50, 3) := by decide +kernel
theorem dL_law_403 : decode cL_law 403 = .ok (.if_icmp .eq 503, 3) := by decide +kernel
theorem dL_law_406 : decode cL_law 406 = .ok (.iconst 0, 1) := by decide +kernel
theorem dL_law_407 : decode cL_law 407 = .ok (.ireturn, 1) := by decide +kernel
theorem dL_law_408 : decode cL_law 408 = .ok (.aload_n 1, 1) := by decide +kernel
theorem dL_law_409 : decode cL_law 409 = .ok (.aload_n 0, 1) := by decide +kernel
theorem dL_law_410 : decode cL_law 410 = .ok (.iload_n 3, 1) := by decide +kernel
theorem dL_law_411 : decode cL_law 411 = .ok (.iconst 1, 1) := by decide +kernel
theorem dL_law_412 : decode cL_law 412 = .ok (.iadd, 1) := by decide +kernel
theorem dL_law_413 : decode cL_law 413 = .ok (.iaload, 1) := by decide +kernel
theorem dL_law_414 : decode cL_law 414 = .ok (.aload_n 0, 1) := by decide +kernel
theorem dL_law_415 : decode cL_law 415 = .ok (.iload_n 3, 1) := by decide +kernel
theorem dL_law_416 : decode cL_law 416 = .ok (.iconst 2, 1) := by decide +kernel
theorem dL_law_417 : decode cL_law 417 = .ok (.iadd, 1) := by decide +kernel
theorem dL_law_418 : decode cL_law 418 = .ok (.iaload, 1) := by decide +kernel
theorem dL_law_419 : decode cL_law 419 = .ok (.invokevirtual 51, 3) := by decide +kernel
theorem dL_law_422 : decode cL_law 422 = .ok (.aload_n 2, 1) := by decide +kernel
theorem dL_law_423 : decode cL_law 423 = .ok (.aload_n 0, 1) := by decide +kernel
theorem dL_law_424 : decode cL_law 424 = .ok (.iload_n 3, 1) := by decide +kernel
theorem dL_law_425 : decode cL_law 425 = .ok (.iconst 1, 1) := by decide +kernel
theorem dL_law_426 : decode cL_law 426 = .ok (.iadd, 1) := by decide +kernel
theorem dL_law_427 : decode cL_law 427 = .ok (.iaload, 1) := by decide +kernel
theorem dL_law_428 : decode cL_law 428 = .ok (.aload_n 0, 1) := by decide +kernel
theorem dL_law_429 : decode cL_law 429 = .ok (.iload_n 3, 1) := by decide +kernel
theorem dL_law_430 : decode cL_law 430 = .ok (.iconst 2, 1) := by decide +kernel
theorem dL_law_431 : decode cL_law 431 = .ok (.iadd, 1) := by decide +kernel
theorem dL_law_432 : decode cL_law 432 = .ok (.iaload, 1) := by decide +kernel
theorem dL_law_433 : decode cL_law 433 = .ok (.invokevirtual 54, 3) := by decide +kernel
theorem dL_law_436 : decode cL_law 436 = .ok (.if_icmp .eq 470, 3) := by decide +kernel
theorem dL_law_439 : decode cL_law 439 = .ok (.iconst 0, 1) := by decide +kernel
theorem dL_law_440 : decode cL_law 440 = .ok (.ireturn, 1) := by decide +kernel
theorem dL_law_441 : decode cL_law 441 = .ok (.aload_n 1, 1) := by decide +kernel
theorem dL_law_442 : decode cL_law 442 = .ok (.aload_n 0, 1) := by decide +kernel
theorem dL_law_443 : decode cL_law 443 = .ok (.iload_n 3, 1) := by decide +kernel
theorem dL_law_444 : decode cL_law 444 = .ok (.iconst 1, 1) := by decide +kernel
theorem dL_law_445 : decode cL_law 445 = .ok (.iadd, 1) := by decide +kernel
theorem dL_law_446 : decode cL_law 446 = .ok (.iaload, 1) := by decide +kernel
theorem dL_law_447 : decode cL_law 447 = .ok (.aload_n 0, 1) := by decide +kernel
theorem dL_law_448 : decode cL_law 448 = .ok (.iload_n 3, 1) := by decide +kernel
theorem dL_law_449 : decode cL_law 449 = .ok (.iconst 2, 1) := by decide +kernel
theorem dL_law_450 : decode cL_law 450 = .ok (.iadd, 1) := by decide +kernel
theorem dL_law_451 : decode cL_law 451 = .ok (.iaload, 1) := by decide +kernel
theorem dL_law_452 : decode cL_law 452 = .ok (.aload_n 0, 1) := by decide +kernel
theorem dL_law_453 : decode cL_law 453 = .ok (.iload_n 3, 1) := by decide +kernel
theorem dL_law_454 : decode cL_law 454 = .ok (.iconst 3, 1) := by decide +kernel
theorem dL_law_455 : decode cL_law 455 = .ok (.iadd, 1) := by decide +kernel
theorem dL_law_456 : decode cL_law 456 = .ok (.iaload, 1) := by decide +kernel
theorem dL_law_457 : decode cL_law 457 = .ok (.invokevirtual 55, 3) := by decide +kernel
theorem dL_law_460 : decode cL_law 460 = .ok (.aload_n 2, 1) := by decide +kernel
theorem dL_law_461 : decode cL_law 461 = .ok (.aload_n 0, 1) := by decide +kernel
theorem dL_law_462 : decode cL_law 462 = .ok (.iload_n 3, 1) := by decide +kernel
theorem dL_law_463 : decode cL_law 463 = .ok (.iconst 1, 1) := by decide +kernel
theorem dL_law_464 : decode cL_law 464 = .ok (.iadd, 1) := by decide +kernel
theorem dL_law_465 : decode cL_law 465 = .ok (.iaload, 1) := by decide +kernel
theorem dL_law_466 : decode cL_law 466 = .ok (.aload_n 0, 1) := by decide +kernel
theorem dL_law_467 : decode cL_law 467 = .ok (.iload_n 3, 1) := by decide +kernel
theorem dL_law_468 : decode cL_law 468 = .ok (.iconst 2, 1) := by decide +kernel
theorem dL_law_469 : decode cL_law 469 = .ok (.iadd, 1) := by decide +kernel
theorem dL_law_470 : decode cL_law 470 = .ok (.iaload, 1) := by decide +kernel
theorem dL_law_471 : decode cL_law 471 = .ok (.aload_n 0, 1) := by decide +kernel
theorem dL_law_472 : decode cL_law 472 = .ok (.iload_n 3, 1) := by decide +kernel
theorem dL_law_473 : decode cL_law 473 = .ok (.iconst 3, 1) := by decide +kernel
theorem dL_law_474 : decode cL_law 474 = .ok (.iadd, 1) := by decide +kernel
theorem dL_law_475 : decode cL_law 475 = .ok (.iaload, 1) := by decide +kernel
theorem dL_law_476 : decode cL_law 476 = .ok (.invokevirtual 59, 3) := by decide +kernel
theorem dL_law_479 : decode cL_law 479 = .ok (.if_icmp .eq 427, 3) := by decide +kernel
theorem dL_law_482 : decode cL_law 482 = .ok (.iconst 0, 1) := by decide +kernel
theorem dL_law_483 : decode cL_law 483 = .ok (.ireturn, 1) := by decide +kernel
theorem dL_law_484 : decode cL_law 484 = .ok (.aload_n 1, 1) := by decide +kernel
theorem dL_law_485 : decode cL_law 485 = .ok (.aload_n 0, 1) := by decide +kernel
theorem dL_law_486 : decode cL_law 486 = .ok (.iload_n 3, 1) := by decide +kernel
theorem dL_law_487 : decode cL_law 487 = .ok (.iconst 1, 1) := by decide +kernel
theorem dL_law_488 : decode cL_law 488 = .ok (.iadd, 1) := by decide +kernel
theorem dL_law_489 : decode cL_law 489 = .ok (.iaload, 1) := by decide +kernel
theorem dL_law_490 : decode cL_law 490 = .ok (.aload_n 0, 1) := by decide +kernel
theorem dL_law_491 : decode cL_law 491 = .ok (.iload_n 3, 1) := by decide +kernel
theorem dL_law_492 : decode cL_law 492 = .ok (.iconst 2, 1) := by decide +kernel
theorem dL_law_493 : decode cL_law 493 = .ok (.iadd, 1) := by decide +kernel
theorem dL_law_494 : decode cL_law 494 = .ok (.iaload, 1) := by decide +kernel
theorem dL_law_495 : decode cL_law 495 = .ok (.invokevirtual 60, 3) := by decide +kernel
theorem dL_law_498 : decode cL_law 498 = .ok (.aload_n 2, 1) := by decide +kernel
theorem dL_law_499 : decode cL_law 499 = .ok (.aload_n 0, 1) := by decide +kernel
theorem dL_law_500 : decode cL_law 500 = .ok (.iload_n 3, 1) := by decide +kernel
theorem dL_law_501 : decode cL_law 501 = .ok (.iconst 1, 1) := by decide +kernel
theorem dL_law_502 : decode cL_law 502 = .ok (.iadd, 1) := by decide +kernel
theorem dL_law_503 : decode cL_law 503 = .ok (.iaload, 1) := by decide +kernel
theorem dL_law_504 : decode cL_law 504 = .ok (.aload_n 0, 1) := by decide +kernel
theorem dL_law_505 : decode cL_law 505 = .ok (.iload_n 3, 1) := by decide +kernel
theorem dL_law_506 : decode cL_law 506 = .ok (.iconst 2, 1) := by decide +kernel
theorem dL_law_507 : decode cL_law 507 = .ok (.iadd, 1) := by decide +kernel
theorem dL_law_508 : decode cL_law 508 = .ok (.iaload, 1) := by decide +kernel
theorem dL_law_509 : decode cL_law 509 = .ok (.invokevirtual 63, 3) := by decide +kernel
theorem dL_law_512 : decode cL_law 512 = .ok (.if_icmp .eq 394, 3) := by decide +kernel
theorem dL_law_515 : decode cL_law 515 = .ok (.iconst 0, 1) := by decide +kernel
theorem dL_law_516 : decode cL_law 516 = .ok (.ireturn, 1) := by decide +kernel
theorem dL_law_517 : decode cL_law 517 = .ok (.aload_n 1, 1) := by decide +kernel
theorem dL_law_518 : decode cL_law 518 = .ok (.aload_n 0, 1) := by decide +kernel
theorem dL_law_519 : decode cL_law 519 = .ok (.iload_n 3, 1) := by decide +kernel
theorem dL_law_520 : decode cL_law 520 = .ok (.iconst 1, 1) := by decide +kernel
theorem dL_law_521 : decode cL_law 521 = .ok (.iadd, 1) := by decide +kernel
theorem dL_law_522 : decode cL_law 522 = .ok (.iaload, 1) := by decide +kernel
theorem dL_law_523 : decode cL_law 523 = .ok (.aload_n 0, 1) := by decide +kernel
theorem dL_law_524 : decode cL_law 524 = .ok (.iload_n 3, 1) := by decide +kernel
theorem dL_law_525 : decode cL_law 525 = .ok (.iconst 2, 1) := by decide +kernel
theorem dL_law_526 : decode cL_law 526 = .ok (.iadd, 1) := by decide +kernel
theorem dL_law_527 : decode cL_law 527 = .ok (.iaload, 1) := by decide +kernel
theorem dL_law_528 : decode cL_law 528 = .ok (.invokevirtual 64, 3) := by decide +kernel
theorem dL_law_531 : decode cL_law 531 = .ok (.aload_n 2, 1) := by decide +kernel
theorem dL_law_532 : decode cL_law 532 = .ok (.aload_n 0, 1) := by decide +kernel
theorem dL_law_533 : decode cL_law 533 = .ok (.iload_n 3, 1) := by decide +kernel
theorem dL_law_534 : decode cL_law 534 = .ok (.iconst 1, 1) := by decide +kernel
theorem dL_law_535 : decode cL_law 535 = .ok (.iadd, 1) := by decide +kernel
theorem dL_law_536 : decode cL_law 536 = .ok (.iaload, 1) := by decide +kernel
theorem dL_law_537 : decode cL_law 537 = .ok (.aload_n 0, 1) := by decide +kernel
theorem dL_law_538 : decode cL_law 538 = .ok (.iload_n 3, 1) := by decide +kernel
theorem dL_law_539 : decode cL_law 539 = .ok (.iconst 2, 1) := by decide +kernel
theorem dL_law_540 : decode cL_law 540 = .ok (.iadd, 1) := by decide +kernel
theorem dL_law_541 : decode cL_law 541 = .ok (.iaload, 1) := by decide +kernel
theorem dL_law_542 : decode cL_law 542 = .ok (.invokevirtual 67, 3) := by decide +kernel
theorem dL_law_545 : decode cL_law 545 = .ok (.if_icmp .eq 361, 3) := by decide +kernel
theorem dL_law_548 : decode cL_law 548 = .ok (.iconst 0, 1) := by decide +kernel
theorem dL_law_549 : decode cL_law 549 = .ok (.ireturn, 1) := by decide +kernel
theorem dL_law_550 : decode cL_law 550 = .ok (.aload_n 1, 1) := by decide +kernel
theorem dL_law_551 : decode cL_law 551 = .ok (.aload_n 0, 1) := by decide +kernel
theorem dL_law_552 : decode cL_law 552 = .ok (.iload_n 3, 1) := by decide +kernel
theorem dL_law_553 : decode cL_law 553 = .ok (.iconst 1, 1) := by decide +kernel
theorem dL_law_554 : decode cL_law 554 = .ok (.iadd, 1) := by decide +kernel
theorem dL_law_555 : decode cL_law 555 = .ok (.iaload, 1) := by decide +kernel
theorem dL_law_556 : decode cL_law 556 = .ok (.invokevirtual 68, 3) := by decide +kernel
theorem dL_law_559 : decode cL_law 559 = .ok (.aload_n 2, 1) := by decide +kernel
theorem dL_law_560 : decode cL_law 560 = .ok (.aload_n 0, 1) := by decide +kernel
theorem dL_law_561 : decode cL_law 561 = .ok (.iload_n 3, 1) := by decide +kernel
theorem dL_law_562 : decode cL_law 562 = .ok (.iconst 1, 1) := by decide +kernel
theorem dL_law_563 : decode cL_law 563 = .ok (.iadd, 1) := by decide +kernel
theorem dL_law_564 : decode cL_law 564 = .ok (.iaload, 1) := by decide +kernel
theorem dL_law_565 : decode cL_law 565 = .ok (.invokevirtual 71, 3) := by decide +kernel
theorem dL_law_568 : decode cL_law 568 = .ok (.if_icmp .eq 338, 3) := by decide +kernel
theorem dL_law_571 : decode cL_law 571 = .ok (.iconst 0, 1) := by decide +kernel
theorem dL_law_572 : decode cL_law 572 = .ok (.ireturn, 1) := by decide +kernel
theorem dL_law_573 : decode cL_law 573 = .ok (.aload_n 1, 1) := by decide +kernel
theorem dL_law_574 : decode cL_law 574 = .ok (.aload_n 0, 1) := by decide +kernel
theorem dL_law_575 : decode cL_law 575 = .ok (.iload_n 3, 1) := by decide +kernel
theorem dL_law_576 : decode cL_law 576 = .ok (.iconst 1, 1) := by decide +kernel
theorem dL_law_577 : decode cL_law 577 = .ok (.iadd, 1) := by decide +kernel
theorem dL_law_578 : decode cL_law 578 = .ok (.iaload, 1) := by decide +kernel
theorem dL_law_579 : decode cL_law 579 = .ok (.aload_n 0, 1) := by decide +kernel
theorem dL_law_580 : decode cL_law 580 = .ok (.iload_n 3, 1) := by decide +kernel
theorem dL_law_581 : decode cL_law 581 = .ok (.iconst 2, 1) := by decide +kernel
theorem dL_law_582 : decode cL_law 582 = .ok (.iadd, 1) := by decide +kernel
theorem dL_law_583 : decode cL_law 583 = .ok (.iaload, 1) := by decide +kernel
theorem dL_law_584 : decode cL_law 584 = .ok (.invokevirtual 72, 3) := by decide +kernel
theorem dL_law_587 : decode cL_law 587 = .ok (.aload_n 2, 1) := by decide +kernel
theorem dL_law_588 : decode cL_law 588 = .ok (.aload_n 0, 1) := by decide +kernel
theorem dL_law_589 : decode cL_law 589 = .ok (.iload_n 3, 1) := by decide +kernel
theorem dL_law_590 : decode cL_law 590 = .ok (.iconst 1, 1) := by decide +kernel
theorem dL_law_591 : decode cL_law 591 = .ok (.iadd, 1) := by decide +kernel
theorem dL_law_592 : decode cL_law 592 = .ok (.iaload, 1) := by decide +kernel
theorem dL_law_593 : decode cL_law 593 = .ok (.aload_n 0, 1) := by decide +kernel
theorem dL_law_594 : decode cL_law 594 = .ok (.iload_n 3, 1) := by decide +kernel
theorem dL_law_595 : decode cL_law 595 = .ok (.iconst 2, 1) := by decide +kernel
theorem dL_law_596 : decode cL_law 596 = .ok (.iadd, 1) := by decide +kernel
theorem dL_law_597 : decode cL_law 597 = .ok (.iaload, 1) := by decide +kernel
theorem dL_law_598 : decode cL_law 598 = .ok (.invokevirtual 75, 3) := by decide +kernel
theorem dL_law_601 : decode cL_law 601 = .ok (.if_icmp .eq 305, 3) := by decide +kernel
theorem dL_law_604 : decode cL_law 604 = .ok (.iconst 0, 1) := by decide +kernel
theorem dL_law_605 : decode cL_law 605 = .ok (.ireturn, 1) := by decide +kernel
theorem dL_law_606 : decode cL_law 606 = .ok (.aload_n 1, 1) := by decide +kernel
theorem dL_law_607 : decode cL_law 607 = .ok (.aload_n 0, 1) := by decide +kernel
theorem dL_law_608 : decode cL_law 608 = .ok (.iload_n 3, 1) := by decide +kernel
theorem dL_law_609 : decode cL_law 609 = .ok (.iconst 1, 1) := by decide +kernel
theorem dL_law_610 : decode cL_law 610 = .ok (.iadd, 1) := by decide +kernel
theorem dL_law_611 : decode cL_law 611 = .ok (.iaload, 1) := by decide +kernel
theorem dL_law_612 : decode cL_law 612 = .ok (.invokevirtual 76, 3) := by decide +kernel
theorem dL_law_615 : decode cL_law 615 = .ok (.aload_n 2, 1) := by decide +kernel
theorem dL_law_616 : decode cL_law 616 = .ok (.aload_n 0, 1) := by decide +kernel
theorem dL_law_617 : decode cL_law 617 = .ok (.iload_n 3, 1) := by decide +kernel
theorem dL_law_618 : decode cL_law 618 = .ok (.iconst 1, 1) := by decide +kernel
theorem dL_law_619 : decode cL_law 619 = .ok (.iadd, 1) := by decide +kernel
theorem dL_law_620 : decode cL_law 620 = .ok (.iaload, 1) := by decide +kernel
theorem dL_law_621 : decode cL_law 621 = .ok (.invokevirtual 79, 3) := by decide +kernel
theorem dL_law_624 : decode cL_law 624 = .ok (.if_icmp .eq 282, 3) := by decide +kernel
theorem dL_law_627 : decode cL_law 627 = .ok (.iconst 0, 1) := by decide +kernel
theorem dL_law_628 : decode cL_law 628 = .ok (.ireturn, 1) := by decide +kernel
theorem dL_law_629 : decode cL_law 629 = .ok (.aload_n 1, 1) := by decide +kernel
theorem dL_law_630 : decode cL_law 630 = .ok (.aload_n 0, 1) := by decide +kernel
theorem dL_law_631 : decode cL_law 631 = .ok (.iload_n 3, 1) := by decide +kernel
theorem dL_law_632 : decode cL_law 632 = .ok (.iconst 1, 1) := by decide +kernel
theorem dL_law_633 : decode cL_law 633 = .ok (.iadd, 1) := by decide +kernel
theorem dL_law_634 : decode cL_law 634 = .ok (.iaload, 1) := by decide +kernel
theorem dL_law_635 : decode cL_law 635 = .ok (.invokevirtual 80, 3) := by decide +kernel
theorem dL_law_638 : decode cL_law 638 = .ok (.aload_n 2, 1) := by decide +kernel
theorem dL_law_639 : decode cL_law 639 = .ok (.aload_n 0, 1) := by decide +kernel
theorem dL_law_640 : decode cL_law 640 = .ok (.iload_n 3, 1) := by decide +kernel
theorem dL_law_641 : decode cL_law 641 = .ok (.iconst 1, 1) := by decide +kernel
theorem dL_law_642 : decode cL_law 642 = .ok (.iadd, 1) := by decide +kernel
theorem dL_law_643 : decode cL_law 643 = .ok (.iaload, 1) := by decide +kernel
theorem dL_law_644 : decode cL_law 644 = .ok (.invokevirtual 84, 3) := by decide +kernel
theorem dL_law_647 : decode cL_law 647 = .ok (.if_icmp .eq 259, 3) := by decide +kernel
theorem dL_law_650 : decode cL_law 650 = .ok (.iconst 0, 1) := by decide +kernel
theorem dL_law_651 : decode cL_law 651 = .ok (.ireturn, 1) := by decide +kernel
theorem dL_law_652 : decode cL_law 652 = .ok (.aload_n 1, 1) := by decide +kernel
theorem dL_law_653 : decode cL_law 653 = .ok (.aload_n 0, 1) := by decide +kernel
theorem dL_law_654 : decode cL_law 654 = .ok (.iload_n 3, 1) := by decide +kernel
theorem dL_law_655 : decode cL_law 655 = .ok (.iconst 1, 1) := by decide +kernel
theorem dL_law_656 : decode cL_law 656 = .ok (.iadd, 1) := by decide +kernel
theorem dL_law_657 : decode cL_law 657 = .ok (.iaload, 1) := by decide +kernel
theorem dL_law_658 : decode cL_law 658 = .ok (.aload_n 0, 1) := by decide +kernel
theorem dL_law_659 : decode cL_law 659 = .ok (.iload_n 3, 1) := by decide +kernel
theorem dL_law_660 : decode cL_law 660 = .ok (.iconst 2, 1) := by decide +kernel
theorem dL_law_661 : decode cL_law 661 = .ok (.iadd, 1) := by decide +kernel
theorem dL_law_662 : decode cL_law 662 = .ok (.iaload, 1) := by decide +kernel
theorem dL_law_663 : decode cL_law 663 = .ok (.invokevirtual 85, 3) := by decide +kernel
theorem dL_law_666 : decode cL_law 666 = .ok (.aload_n 2, 1) := by decide +kernel
theorem dL_law_667 : decode cL_law 667 = .ok (.aload_n 0, 1) := by decide +kernel
theorem dL_law_668 : decode cL_law 668 = .ok (.iload_n 3, 1) := by decide +kernel
theorem dL_law_669 : decode cL_law 669 = .ok (.iconst 1, 1) := by decide +kernel
theorem dL_law_670 : decode cL_law 670 = .ok (.iadd, 1) := by decide +kernel
theorem dL_law_671 : decode cL_law 671 = .ok (.iaload, 1) := by decide +kernel
theorem dL_law_672 : decode cL_law 672 = .ok (.aload_n 0, 1) := by decide +kernel
theorem dL_law_673 : decode cL_law 673 = .ok (.iload_n 3, 1) := by decide +kernel
theorem dL_law_674 : decode cL_law 674 = .ok (.iconst 2, 1) := by decide +kernel
theorem dL_law_675 : decode cL_law 675 = .ok (.iadd, 1) := by decide +kernel
theorem dL_law_676 : decode cL_law 676 = .ok (.iaload, 1) := by decide +kernel
theorem dL_law_677 : decode cL_law 677 = .ok (.invokevirtual 88, 3) := by decide +kernel
theorem dL_law_680 : decode cL_law 680 = .ok (.if_icmp .eq 226, 3) := by decide +kernel
theorem dL_law_683 : decode cL_law 683 = .ok (.iconst 0, 1) := by decide +kernel
theorem dL_law_684 : decode cL_law 684 = .ok (.ireturn, 1) := by decide +kernel
theorem dL_law_685 : decode cL_law 685 = .ok (.aload_n 1, 1) := by decide +kernel
theorem dL_law_686 : decode cL_law 686 = .ok (.aload_n 0, 1) := by decide +kernel
theorem dL_law_687 : decode cL_law 687 = .ok (.iload_n 3, 1) := by decide +kernel
theorem dL_law_688 : decode cL_law 688 = .ok (.iconst 1, 1) := by decide +kernel
theorem dL_law_689 : decode cL_law 689 = .ok (.iadd, 1) := by decide +kernel
theorem dL_law_690 : decode cL_law 690 = .ok (.iaload, 1) := by decide +kernel
theorem dL_law_691 : decode cL_law 691 = .ok (.invokevirtual 89, 3) := by decide +kernel
theorem dL_law_694 : decode cL_law 694 = .ok (.aload_n 2, 1) := by decide +kernel
theorem dL_law_695 : decode cL_law 695 = .ok (.aload_n 0, 1) := by decide +kernel
theorem dL_law_696 : decode cL_law 696 = .ok (.iload_n 3, 1) := by decide +kernel
theorem dL_law_697 : decode cL_law 697 = .ok (.iconst 1, 1) := by decide +kernel
theorem dL_law_698 : decode cL_law 698 = .ok (.iadd, 1) := by decide +kernel
theorem dL_law_699 : decode cL_law 699 = .ok (.iaload, 1) := by decide +kernel
theorem dL_law_700 : decode cL_law 700 = .ok (.invokevirtual 92, 3) := by decide +kernel
theorem dL_law_703 : decode cL_law 703 = .ok (.if_icmp .eq 203, 3) := by decide +kernel
theorem dL_law_706 : decode cL_law 706 = .ok (.iconst 0, 1) := by decide +kernel
theorem dL_law_707 : decode cL_law 707 = .ok (.ireturn, 1) := by decide +kernel
theorem dL_law_708 : decode cL_law 708 = .ok (.aload_n 1, 1) := by decide +kernel
theorem dL_law_709 : decode cL_law 709 = .ok (.aload_n 0, 1) := by decide +kernel
theorem dL_law_710 : decode cL_law 710 = .ok (.iload_n 3, 1) := by decide +kernel
theorem dL_law_711 : decode cL_law 711 = .ok (.iconst 1, 1) := by decide +kernel
theorem dL_law_712 : decode cL_law 712 = .ok (.iadd, 1) := by decide +kernel
theorem dL_law_713 : decode cL_law 713 = .ok (.iaload, 1) := by decide +kernel
theorem dL_law_714 : decode cL_law 714 = .ok (.aload_n 0, 1) := by decide +kernel
theorem dL_law_715 : decode cL_law 715 = .ok (.iload_n 3, 1) := by decide +kernel
theorem dL_law_716 : decode cL_law 716 = .ok (.iconst 2, 1) := by decide +kernel
theorem dL_law_717 : decode cL_law 717 = .ok (.iadd, 1) := by decide +kernel
theorem dL_law_718 : decode cL_law 718 = .ok (.iaload, 1) := by decide +kernel
theorem dL_law_719 : decode cL_law 719 = .ok (.aload_n 0, 1) := by decide +kernel
theorem dL_law_720 : decode cL_law 720 = .ok (.iload_n 3, 1) := by decide +kernel
theorem dL_law_721 : decode cL_law 721 = .ok (.iconst 3, 1) := by decide +kernel
theorem dL_law_722 : decode cL_law 722 = .ok (.iadd, 1) := by decide +kernel
theorem dL_law_723 : decode cL_law 723 = .ok (.iaload, 1) := by decide +kernel
theorem dL_law_724 : decode cL_law 724 = .ok (.invokevirtual 93, 3) := by decide +kernel
theorem dL_law_727 : decode cL_law 727 = .ok (.aload_n 2, 1) := by decide +kernel
theorem dL_law_728 : decode cL_law 728 = .ok (.aload_n 0, 1) := by decide +kernel
theorem dL_law_729 : decode cL_law 729 = .ok (.iload_n 3, 1) := by decide +kernel
theorem dL_law_730 : decode cL_law 730 = .ok (.iconst 1, 1) := by decide +kernel
theorem dL_law_731 : decode cL_law 731 = .ok (.iadd, 1) := by decide +kernel
theorem dL_law_732 : decode cL_law 732 = .ok (.iaload, 1) := by decide +kernel
theorem dL_law_733 : decode cL_law 733 = .ok (.aload_n 0, 1) := by decide +kernel
theorem dL_law_734 : decode cL_law 734 = .ok (.iload_n 3, 1) := by decide +kernel
theorem dL_law_735 : decode cL_law 735 = .ok (.iconst 2, 1) := by decide +kernel
theorem dL_law_736 : decode cL_law 736 = .ok (.iadd, 1) := by decide +kernel
theorem dL_law_737 : decode cL_law 737 = .ok (.iaload, 1) := by decide +kernel
theorem dL_law_738 : decode cL_law 738 = .ok (.aload_n 0, 1) := by decide +kernel
theorem dL_law_739 : decode cL_law 739 = .ok (.iload_n 3, 1) := by decide +kernel
theorem dL_law_740 : decode cL_law 740 = .ok (.iconst 3, 1) := by decide +kernel
theorem dL_law_741 : decode cL_law 741 = .ok (.iadd, 1) := by decide +kernel
theorem dL_law_742 : decode cL_law 742 = .ok (.iaload, 1) := by decide +kernel
theorem dL_law_743 : decode cL_law 743 = .ok (.invokevirtual 96, 3) := by decide +kernel
theorem dL_law_746 : decode cL_law 746 = .ok (.if_icmp .eq 160, 3) := by decide +kernel
theorem dL_law_749 : decode cL_law 749 = .ok (.iconst 0, 1) := by decide +kernel
theorem dL_law_750 : decode cL_law 750 = .ok (.ireturn, 1) := by decide +kernel
theorem dL_law_751 : decode cL_law 751 = .ok (.aload_n 1, 1) := by decide +kernel
theorem dL_law_752 : decode cL_law 752 = .ok (.aload_n 0, 1) := by decide +kernel
theorem dL_law_753 : decode cL_law 753 = .ok (.iload_n 3, 1) := by decide +kernel
theorem dL_law_754 : decode cL_law 754 = .ok (.iconst 1, 1) := by decide +kernel
theorem dL_law_755 : decode cL_law 755 = .ok (.iadd, 1) := by decide +kernel
theorem dL_law_756 : decode cL_law 756 = .ok (.iaload, 1) := by decide +kernel
theorem dL_law_757 : decode cL_law 757 = .ok (.aload_n 0, 1) := by decide +kernel
theorem dL_law_758 : decode cL_law 758 = .ok (.iload_n 3, 1) := by decide +kernel
theorem dL_law_759 : decode cL_law 759 = .ok (.iconst 2, 1) := by decide +kernel
theorem dL_law_760 : decode cL_law 760 = .ok (.iadd, 1) := by decide +kernel
theorem dL_law_761 : decode cL_law 761 = .ok (.iaload, 1) := by decide +kernel
theorem dL_law_762 : decode cL_law 762 = .ok (.invokevirtual 97, 3) := by decide +kernel
theorem dL_law_765 : decode cL_law 765 = .ok (.aload_n 2, 1) := by decide +kernel
theorem dL_law_766 : decode cL_law 766 = .ok (.aload_n 0, 1) := by decide +kernel
theorem dL_law_767 : decode cL_law 767 = .ok (.iload_n 3, 1) := by decide +kernel
theorem dL_law_768 : decode cL_law 768 = .ok (.iconst 1, 1) := by decide +kernel
theorem dL_law_769 : decode cL_law 769 = .ok (.iadd, 1) := by decide +kernel
theorem dL_law_770 : decode cL_law 770 = .ok (.iaload, 1) := by decide +kernel
theorem dL_law_771 : decode cL_law 771 = .ok (.aload_n 0, 1) := by decide +kernel
theorem dL_law_772 : decode cL_law 772 = .ok (.iload_n 3, 1) := by decide +kernel
theorem dL_law_773 : decode cL_law 773 = .ok (.iconst 2, 1) := by decide +kernel
theorem dL_law_774 : decode cL_law 774 = .ok (.iadd, 1) := by decide +kernel
theorem dL_law_775 : decode cL_law 775 = .ok (.iaload, 1) := by decide +kernel
theorem dL_law_776 : decode cL_law 776 = .ok (.invokevirtual 100, 3) := by decide +kernel
theorem dL_law_779 : decode cL_law 779 = .ok (.if_icmp .eq 127, 3) := by decide +kernel
theorem dL_law_782 : decode cL_law 782 = .ok (.iconst 0, 1) := by decide +kernel
theorem dL_law_783 : decode cL_law 783 = .ok (.ireturn, 1) := by decide +kernel
theorem dL_law_784 : decode cL_law 784 = .ok (.aload_n 1, 1) := by decide +kernel
theorem dL_law_785 : decode cL_law 785 = .ok (.aload_n 0, 1) := by decide +kernel
theorem dL_law_786 : decode cL_law 786 = .ok (.iload_n 3, 1) := by decide +kernel
theorem dL_law_787 : decode cL_law 787 = .ok (.iconst 1, 1) := by decide +kernel
theorem dL_law_788 : decode cL_law 788 = .ok (.iadd, 1) := by decide +kernel
theorem dL_law_789 : decode cL_law 789 = .ok (.iaload, 1) := by decide +kernel
theorem dL_law_790 : decode cL_law 790 = .ok (.aload_n 0, 1) := by decide +kernel
theorem dL_law_791 : decode cL_law 791 = .ok (.iload_n 3, 1) := by decide +kernel
theorem dL_law_792 : decode cL_law 792 = .ok (.iconst 2, 1) := by decide +kernel
theorem dL_law_793 : decode cL_law 793 = .ok (.iadd, 1) := by decide +kernel
theorem dL_law_794 : decode cL_law 794 = .ok (.iaload, 1) := by decide +kernel
theorem dL_law_795 : decode cL_law 795 = .ok (.invokevirtual 101, 3) := by decide +kernel
theorem dL_law_798 : decode cL_law 798 = .ok (.aload_n 2, 1) := by decide +kernel
theorem dL_law_799 : decode cL_law 799 = .ok (.aload_n 0, 1) := by decide +kernel
theorem dL_law_800 : decode cL_law 800 = .ok (.iload_n 3, 1) := by decide +kernel
theorem dL_law_801 : decode cL_law 801 = .ok (.iconst 1, 1) := by decide +kernel
theorem dL_law_802 : decode cL_law 802 = .ok (.iadd, 1) := by decide +kernel
theorem dL_law_803 : decode cL_law 803 = .ok (.iaload, 1) := by decide +kernel
theorem dL_law_804 : decode cL_law 804 = .ok (.aload_n 0, 1) := by decide +kernel
theorem dL_law_805 : decode cL_law 805 = .ok (.iload_n 3, 1) := by decide +kernel
theorem dL_law_806 : decode cL_law 806 = .ok (.iconst 2, 1) := by decide +kernel
theorem dL_law_807 : decode cL_law 807 = .ok (.iadd, 1) := by decide +kernel
theorem dL_law_808 : decode cL_law 808 = .ok (.iaload, 1) := by decide +kernel
theorem dL_law_809 : decode cL_law 809 = .ok (.invokevirtual 104, 3) := by decide +kernel
theorem dL_law_812 : decode cL_law 812 = .ok (.if_icmp .eq 94, 3) := by decide +kernel
theorem dL_law_815 : decode cL_law 815 = .ok (.iconst 0, 1) := by decide +kernel
theorem dL_law_816 : decode cL_law 816 = .ok (.ireturn, 1) := by decide +kernel
theorem dL_law_817 : decode cL_law 817 = .ok (.aload_n 1, 1) := by decide +kernel
theorem dL_law_818 : decode cL_law 818 = .ok (.aload_n 0, 1) := by decide +kernel
theorem dL_law_819 : decode cL_law 819 = .ok (.iload_n 3, 1) := by decide +kernel
theorem dL_law_820 : decode cL_law 820 = .ok (.iconst 1, 1) := by decide +kernel
theorem dL_law_821 : decode cL_law 821 = .ok (.iadd, 1) := by decide +kernel
theorem dL_law_822 : decode cL_law 822 = .ok (.iaload, 1) := by decide +kernel
theorem dL_law_823 : decode cL_law 823 = .ok (.aload_n 0, 1) := by decide +kernel
theorem dL_law_824 : decode cL_law 824 = .ok (.iload_n 3, 1) := by decide +kernel
theorem dL_law_825 : decode cL_law 825 = .ok (.iconst 2, 1) := by decide +kernel
theorem dL_law_826 : decode cL_law 826 = .ok (.iadd, 1) := by decide +kernel
theorem dL_law_827 : decode cL_law 827 = .ok (.iaload, 1) := by decide +kernel
theorem dL_law_828 : decode cL_law 828 = .ok (.aload_n 0, 1) := by decide +kernel
theorem dL_law_829 : decode cL_law 829 = .ok (.iload_n 3, 1) := by decide +kernel
theorem dL_law_830 : decode cL_law 830 = .ok (.iconst 3, 1) := by decide +kernel
theorem dL_law_831 : decode cL_law 831 = .ok (.iadd, 1) := by decide +kernel
theorem dL_law_832 : decode cL_law 832 = .ok (.iaload, 1) := by decide +kernel
theorem dL_law_833 : decode cL_law 833 = .ok (.invokevirtual 105, 3) := by decide +kernel
theorem dL_law_836 : decode cL_law 836 = .ok (.aload_n 2, 1) := by decide +kernel
theorem dL_law_837 : decode cL_law 837 = .ok (.aload_n 0, 1) := by decide +kernel
theorem dL_law_838 : decode cL_law 838 = .ok (.iload_n 3, 1) := by decide +kernel
theorem dL_law_839 : decode cL_law 839 = .ok (.iconst 1, 1) := by decide +kernel
theorem dL_law_840 : decode cL_law 840 = .ok (.iadd, 1) := by decide +kernel
theorem dL_law_841 : decode cL_law 841 = .ok (.iaload, 1) := by decide +kernel
theorem dL_law_842 : decode cL_law 842 = .ok (.aload_n 0, 1) := by decide +kernel
theorem dL_law_843 : decode cL_law 843 = .ok (.iload_n 3, 1) := by decide +kernel
theorem dL_law_844 : decode cL_law 844 = .ok (.iconst 2, 1) := by decide +kernel
theorem dL_law_845 : decode cL_law 845 = .ok (.iadd, 1) := by decide +kernel
theorem dL_law_846 : decode cL_law 846 = .ok (.iaload, 1) := by decide +kernel
theorem dL_law_847 : decode cL_law 847 = .ok (.aload_n 0, 1) := by decide +kernel
theorem dL_law_848 : decode cL_law 848 = .ok (.iload_n 3, 1) := by decide +kernel
theorem dL_law_849 : decode cL_law 849 = .ok (.iconst 3, 1) := by decide +kernel
theorem dL_law_850 : decode cL_law 850 = .ok (.iadd, 1) := by decide +kernel
theorem dL_law_851 : decode cL_law 851 = .ok (.iaload, 1) := by decide +kernel
theorem dL_law_852 : decode cL_law 852 = .ok (.invokevirtual 108, 3) := by decide +kernel
theorem dL_law_855 : decode cL_law 855 = .ok (.if_icmp .eq 51, 3) := by decide +kernel
theorem dL_law_858 : decode cL_law 858 = .ok (.iconst 0, 1) := by decide +kernel
theorem dL_law_859 : decode cL_law 859 = .ok (.ireturn, 1) := by decide +kernel
theorem dL_law_860 : decode cL_law 860 = .ok (.aload_n 1, 1) := by decide +kernel
theorem dL_law_861 : decode cL_law 861 = .ok (.aload_n 0, 1) := by decide +kernel
theorem dL_law_862 : decode cL_law 862 = .ok (.iload_n 3, 1) := by decide +kernel
theorem dL_law_863 : decode cL_law 863 = .ok (.iconst 1, 1) := by decide +kernel
theorem dL_law_864 : decode cL_law 864 = .ok (.iadd, 1) := by decide +kernel
theorem dL_law_865 : decode cL_law 865 = .ok (.iaload, 1) := by decide +kernel
theorem dL_law_866 : decode cL_law 866 = .ok (.invokevirtual 109, 3) := by decide +kernel
theorem dL_law_869 : decode cL_law 869 = .ok (.aload_n 2, 1) := by decide +kernel
theorem dL_law_870 : decode cL_law 870 = .ok (.aload_n 0, 1) := by decide +kernel
theorem dL_law_871 : decode cL_law 871 = .ok (.iload_n 3, 1) := by decide +kernel
theorem dL_law_872 : decode cL_law 872 = .ok (.iconst 1, 1) := by decide +kernel
theorem dL_law_873 : decode cL_law 873 = .ok (.iadd, 1) := by decide +kernel
theorem dL_law_874 : decode cL_law 874 = .ok (.iaload, 1) := by decide +kernel
theorem dL_law_875 : decode cL_law 875 = .ok (.invokevirtual 112, 3) := by decide +kernel
theorem dL_law_878 : decode cL_law 878 = .ok (.if_icmp .eq 28, 3) := by decide +kernel
theorem dL_law_881 : decode cL_law 881 = .ok (.iconst 0, 1) := by decide +kernel
theorem dL_law_882 : decode cL_law 882 = .ok (.ireturn, 1) := by decide +kernel
theorem dL_law_883 : decode cL_law 883 = .ok (.aload_n 1, 1) := by decide +kernel
theorem dL_law_884 : decode cL_law 884 = .ok (.aload_n 0, 1) := by decide +kernel
theorem dL_law_885 : decode cL_law 885 = .ok (.iload_n 3, 1) := by decide +kernel
theorem dL_law_886 : decode cL_law 886 = .ok (.iconst 1, 1) := by decide +kernel
theorem dL_law_887 : decode cL_law 887 = .ok (.iadd, 1) := by decide +kernel
theorem dL_law_888 : decode cL_law 888 = .ok (.iaload, 1) := by decide +kernel
theorem dL_law_889 : decode cL_law 889 = .ok (.invokevirtual 113, 3) := by decide +kernel
theorem dL_law_892 : decode cL_law 892 = .ok (.aload_n 2, 1) := by decide +kernel
theorem dL_law_893 : decode cL_law 893 = .ok (.aload_n 0, 1) := by decide +kernel
theorem dL_law_894 : decode cL_law 894 = .ok (.iload_n 3, 1) := by decide +kernel
theorem dL_law_895 : decode cL_law 895 = .ok (.iconst 1, 1) := by decide +kernel
theorem dL_law_896 : decode cL_law 896 = .ok (.iadd, 1) := by decide +kernel
theorem dL_law_897 : decode cL_law 897 = .ok (.iaload, 1) := by decide +kernel
theorem dL_law_898 : decode cL_law 898 = .ok (.invokevirtual 116, 3) := by decide +kernel
theorem dL_law_901 : decode cL_law 901 = .ok (.if_icmp .eq 5, 3) := by decide +kernel
theorem dL_law_904 : decode cL_law 904 = .ok (.iconst 0, 1) := by decide +kernel
theorem dL_law_905 : decode cL_law 905 = .ok (.ireturn, 1) := by decide +kernel
theorem dL_law_906 : decode cL_law 906 = .ok (.iinc 3 5, 3) := by decide +kernel
theorem dL_law_909 : decode cL_law 909 = .ok (.goto (-891), 3) := by decide +kernel
theorem dL_law_912 : decode cL_law 912 = .ok (.iconst 1, 1) := by decide +kernel
theorem dL_law_913 : decode cL_law 913 = .ok (.ireturn, 1) := by decide +kernel
end
section
/-! THE STATE: numbers by tag, instance and index; cells by kind, instance and index. Kinds 0..9: the objects of vwCl's classes; 20..69 int arrays; 70, 71 boolean arrays; 80..88 arrays of references. -/
abbrev pr_Sg : Type := Nat → Nat → Nat → Int32
abbrev pr_Ad : Type := Nat → Nat → Nat → Nat
def pr_up (σ : pr_Sg) (t i j : Nat) (v : Int32) : pr_Sg := fun t' i' j' => if t' = t ∧ i' = i ∧ j' = j then v else σ t' i' j'
def pr_nf (k : Nat) : Nat := ([3, 4, 5, 10, 9, 2, 3, 6, 17, 42] : List Nat).getD k 0
def pr_rt (k f : Nat) : Nat := (([[0, 0, 0], [20, 21, 22, 0], [0, 0, 0, 0, 0], [0, 0, 0, 0, 83, 0, 0, 0, 0, 0], [30, 31, 32, 33, 34, 35, 0, 0, 0], [28, 29], [0, 0, 0], [24, 25, 26, 27, 70, 0], [1, 23, 80, 81, 82, 7, 5, 4, 0, 0, 0, 0, 0, 0, 0, 0, 0], [0, 40, 41, 42, 0, 43, 44, 45, 46, 0, 47, 48, 49, 0, 50, 51, 52, 53, 54, 55, 84, 85, 86, 87, 88, 0, 56, 57, 58, 59, 60, 71, 0, 0, 0, 0, 0, 61, 62, 63, 0, 0]] : List (List Nat)).getD k []).getD f 0
def pr_ln (k : Nat) : Nat := if k < 23 then 60 else if k = 23 then 5 else if k < 28 then 200 else if k < 36 then 5 else if k < 43 then 60 else if k = 43 then 5 else if k < 47 then 7 else if k < 50 then 20 else if k < 56 then 40 else if k < 58 then 5 else if k < 61 then 200 else if k < 69 then 5 else if k < 80 then 200 else if k = 80 then 7 else if k = 81 then 20 else if k = 82 then 40 else if k = 83 then 5 else 40
def pr_fv (ad : pr_Ad) (σ : pr_Sg) (k i j f : Nat) : Value := if pr_rt k f = 0 then .int (σ (64 * k + f) i j) else .ref (ad (pr_rt k f) i 0)
def pr_rc (g : Nat → Nat) (k : Nat) : Nat := if k = 80 then g 0 else if k = 81 then g 1 else if k = 82 then g 2 else if k = 83 then 5 else 40
def pr_ek (k : Nat) : Nat := if k = 80 then 0 else if k = 81 then 6 else if k = 82 then 3 else k - 20
def pr_rr (ad : pr_Ad) (g : Nat → Nat) (k i q : Nat) : Option Nat := if q < pr_rc g k then some (if k = 83 then ad 2 i q else ad (pr_ek k) q 0) else none
def pr_ct (cs : Nat → ClassId) (ad : pr_Ad) (g : Nat → Nat) (σ : pr_Sg) (k i j : Nat) : va_E :=
  if k < 10 then .inr (k, (List.range (pr_nf k)).map (pr_fv ad σ k i j))
  else if k < 70 then .inl (cs 0, pr_ln k, .inl (σ (1000 + k) i))
  else if k < 80 then .inl (cs 1, pr_ln k, .inl (σ (1000 + k) i))
  else .inl (cs (if k < 84 then k - 78 else 6), pr_ln k, .inr (.inr (.inr (.inr (pr_rr ad g k i)))))
def pr_ok (k : Nat) : Prop := k < 10 ∨ (20 ≤ k ∧ k < 36) ∨ (40 ≤ k ∧ k < 69) ∨ (70 ≤ k ∧ k < 72) ∨ (80 ≤ k ∧ k < 89)
def pr_lv (g : Nat → Nat) (k i j : Nat) : Prop := pr_ok k ∧ (if k = 0 then i < g 0 ∧ j = 0 else if k = 6 then i < g 1 ∧ j = 0 else if k = 3 ∨ k = 83 then i < g 2 ∧ j = 0 else if k = 2 then i < g 2 ∧ j < 5 else if 64 ≤ k ∧ k < 69 then i < 40 ∧ j = 0 else i = 0 ∧ j = 0)
def pr_R (D : va_G) (cs : Nat → ClassId) (A : Nat → Prop) (ad : pr_Ad) (g : Nat → Nat) (σ : pr_Sg) (H : Heap) : Prop :=
  (∀ k i j, pr_lv g k i j → va_at D vwCl (ad k i j, pr_ct cs ad g σ k i j) H ∧ A (ad k i j)) ∧ ∀ k i j k' i' j', pr_lv g k i j → pr_lv g k' i' j' → ad k i j = ad k' i' j' → k = k' ∧ i = i' ∧ j = j'
def pr_tys (cs : Nat → ClassId) : List (ClassId × FieldType) := [(cs 0, .int), (cs 1, .boolean), (cs 2, .object RX0), (cs 3, .object RX6), (cs 4, .object RX3), (cs 5, .object RX2), (cs 6, .array .int)]
def pr_K (D : va_G) (cs : Nat → ClassId) (s : State) : Prop := va_K D vwCl (pr_tys cs) s ∧ va_Nw (.methodLinkNest RX5 18 yX8_within RX8) s
theorem pr_up_s (σ : pr_Sg) (t i j : Nat) (v : Int32) : pr_up σ t i j v t i j = v := by simp [pr_up]
theorem pr_K.warm {D : va_G} {cs : Nat → ClassId} {s U : State} (h : pr_K D cs s) (hW : s.WarmedH U.vm) : pr_K D cs U := ⟨va_K.moved hW.alike h.1, va_Nw.warmM hW h.2⟩
theorem pr_K.call {D : va_G} {cs : Nat → ClassId} {U : State} (h : pr_K D cs U) (f : JFrame) (mk : MethodId) (a : Array Value) : pr_K D cs (U.calling f mk a) := ⟨va_K.moved (u := U) (U := U.calling f mk a) (Vm.Alike.refl U.vm) h.1, va_Nw.same rfl rfl h.2⟩
/-- one cell changes, and the state's numbers with it -/
theorem pr_R.set {D : va_G} {cs : Nat → ClassId} {A : Nat → Prop} {ad : pr_Ad} {g : Nat → Nat} {σ σ' : pr_Sg} {H H1 : Heap} (h : pr_R D cs A ad g σ H) {k i j : Nat} (hl : pr_lv g k i j)
    (he : va_at D vwCl (ad k i j, pr_ct cs ad g σ' k i j) H1) (oq : ∀ q : Nat, q ≠ ad k i j → H1[q]? = H[q]?) (ho : ∀ k' i' j', pr_lv g k' i' j' → ¬ (k' = k ∧ i' = i ∧ j' = j) → pr_ct cs ad g σ' k' i' j' = pr_ct cs ad g σ k' i' j') : pr_R D cs A ad g σ' H1 := by
  refine ⟨fun k' i' j' hl' => ?_, h.2⟩
  by_cases e : k' = k ∧ i' = i ∧ j' = j
  · obtain ⟨rfl, rfl, rfl⟩ := e
    exact ⟨he, (h.1 _ _ _ hl).2⟩
  · rw [ho k' i' j' hl' e]
    refine ⟨(h.1 _ _ _ hl').1.kept (oq _ (fun q => e ?_)), (h.1 _ _ _ hl').2⟩
    exact h.2 _ _ _ _ _ _ hl' hl q
theorem pr_one {D : va_G} {cs : Nat → ClassId} {A : Nat → Prop} {ad : pr_Ad} {g : Nat → Nat} {σ : pr_Sg} {H : Heap} (h : pr_R D cs A ad g σ H) {k i j : Nat} (hl : pr_lv g k i j) {e : va_E} (he : pr_ct cs ad g σ k i j = e) : va_P D vwCl [(ad k i j, e)] H := by
  intro n q hq
  match n, hq with
  | 0, hq => cases hq; rw [← he]; exact (h.1 _ _ _ hl).1
  | n + 1, hq => simp at hq
theorem pr_ctO {cs : Nat → ClassId} {ad : pr_Ad} {g : Nat → Nat} {σ : pr_Sg} {k i j : Nat} (hk : k < 10) : pr_ct cs ad g σ k i j = .inr (k, (List.range (pr_nf k)).map (pr_fv ad σ k i j)) := by simp [pr_ct, hk]
theorem pr_ctI {cs : Nat → ClassId} {ad : pr_Ad} {g : Nat → Nat} {σ : pr_Sg} {k i j : Nat} (hk : 10 ≤ k) (hk2 : k < 70) : pr_ct cs ad g σ k i j = .inl (cs 0, pr_ln k, .inl (σ (1000 + k) i)) := by simp [pr_ct, hk2, show ¬ k < 10 by omega]
theorem pr_ctZ {cs : Nat → ClassId} {ad : pr_Ad} {g : Nat → Nat} {σ : pr_Sg} {k i j : Nat} (hk : 70 ≤ k) (hk2 : k < 80) : pr_ct cs ad g σ k i j = .inl (cs 1, pr_ln k, .inl (σ (1000 + k) i)) := by simp [pr_ct, hk2, show ¬ k < 10 by omega, show ¬ k < 70 by omega]
theorem pr_ctR {cs : Nat → ClassId} {ad : pr_Ad} {g : Nat → Nat} {σ : pr_Sg} {k i j : Nat} (hk : 80 ≤ k) : pr_ct cs ad g σ k i j = .inl (cs (if k < 84 then k - 78 else 6), pr_ln k, .inr (.inr (.inr (.inr (pr_rr ad g k i))))) := by simp only [pr_ct, show ¬ k < 10 by omega, show ¬ k < 70 by omega, show ¬ k < 80 by omega, if_false]
theorem pr_lv0 {g : Nat → Nat} {k i j : Nat} (hk : 10 ≤ k) (h : pr_lv g k i j) : j = 0 := by
  have h2 := h.2
  rw [if_neg (by omega), if_neg (by omega)] at h2
  by_cases e : k = 3 ∨ k = 83
  · rw [if_pos e] at h2
    exact h2.2
  · rw [if_neg e, if_neg (by omega)] at h2
    by_cases e2 : 64 ≤ k ∧ k < 69
    · rw [if_pos e2] at h2
      exact h2.2
    · rw [if_neg e2] at h2
      exact h2.2
section PRW
variable {p : Program} {l : Launch} {e : Env} {R : Room} {s : State} {m : MethodId} {args : Array Value} {below : List Frame} {meth : Method} {c : Code} {H : Heap} {locs : List Loc} {cells slots : Nat} {Q : State → Prop}
variable {cc : ByteArray} {pc : Nat} {ls : Array Slot} {rest : List Value} {D : va_G} {cs : Nat → ClassId} {A : Nat → Prop} {ad : pr_Ad} {g : Nat → Nat} {σ : pr_Sg} {H0 : Heap}
theorem pr_get (hexec : p.tables.exec = Jvm.exec) (hb : c.code = cc) {own ref C : String} {T : u_T} {N index : Nat} (hts : ∀ w ∈ wsL_law, w.before args s = true) (hin : ∀ w ∈ u_ws C T N, w ∈ wsL_law) (hown : s.vm.findClass own = some m.cls) (hK : pr_K D cs s) (hR : pr_R D cs A ad g σ H)
    {k i j : Nat} (hl : pr_lv g k i j) (hk : k < 10) (hc : vwCl[k]? = some (C, T, N)) (f : Nat) (hf : f < N) (hfn : f < pr_nf k) (hlink : Cond.fieldLink own index ref (T f).2.1 (T f).2.2.1 ∈ wsL_law) (href : (T f).1 = ref) {v : Value} (hv : pr_fv ad σ k i j f = v) (hdg : decode cc pc = .ok (.getfield index, 3))
    (kk : W p l e R s m args below meth c H locs cells slots Q (F0 m (pc + 3) ls (v :: rest))) : W p l e R s m args below meth c H locs cells slots Q (F0 m pc ls (.ref (ad k i j) :: rest)) := by
  subst href
  refine va_get (D := D) (cl := vwCl) (ci := k) (v := v) hexec hb hts hin hown hK.1 (pr_one hR hl (pr_ctO hk)) 0 rfl hc f hf (hts _ hlink) (fun _ h => h) ?_ hdg kk
  rw [List.getElem?_map, List.getElem?_range hfn, ← hv]
  rfl
theorem pr_put (hexec : p.tables.exec = Jvm.exec) (hb : c.code = cc) {own ref C : String} {T : u_T} {N index : Nat} (hts : ∀ w ∈ wsL_law, w.before args s = true) (hin : ∀ w ∈ u_ws C T N, w ∈ wsL_law) (ty0 : Nat → FieldType) (hty : ∀ k, k < N → parseFieldDescriptor (T k).2.2.1 = some (ty0 k)) (hnm : ∀ a, a < N → ∀ b, b < N → a ≠ b → (T a).2.1 ≠ (T b).2.1) (hown : s.vm.findClass own = some m.cls) (hK : pr_K D cs s) (hR : pr_R D cs A ad g σ H) (hS0 : va_S A H0 H locs)
    {k i j : Nat} (hl : pr_lv g k i j) (hk : k < 10) (hc : vwCl[k]? = some (C, T, N)) (f : Nat) (hf : f < N) (hfn : f < pr_nf k) (hf64 : f < 64) (hrt : pr_rt k f = 0) (hlink : Cond.fieldLink own index ref (T f).2.1 (T f).2.2.1 ∈ wsL_law) (href : (T f).1 = ref) (hfin : (T f).2.2.2 = false) (hd : parseFieldDescriptor (T f).2.2.1 = some .int) {v : Int32} (hdg : decode cc pc = .ok (.putfield index, 3))
    (kk : ∀ (H1 : Heap) (locs1 : List Loc) (u : pr_Sg), u = pr_up σ (64 * k + f) i j v → pr_R D cs A ad g u H1 → va_S A H0 H1 locs1 → W p l e R s m args below meth c H1 locs1 cells slots Q (F0 m (pc + 3) ls rest)) : W p l e R s m args below meth c H locs cells slots Q (F0 m pc ls (.int v :: .ref (ad k i j) :: rest)) := by
  subst href
  have hap := va_apart (own := own) hts hin ty0 hty hnm hK.1 hc
  obtain ⟨h0, hA0⟩ := hR.1 _ _ _ hl
  rw [pr_ctO hk] at h0
  obtain ⟨r, h1, cell, q1, q2, q3, q4⟩ := h0
  have hr : r = (C, T, N) := Option.some.inj (h1.symm.trans hc)
  subst hr
  obtain ⟨hS, hfc, kC, hkC, hkind⟩ := hK.1.1 k _ hc
  obtain ⟨cf, kf, fi, fd, hi, hsl⟩ := hS f hf
  have hlay := hts _ (hin _ (u_in_lay hf))
  unfold u_lay at hlay
  rw [if_neg (by rw [hfin]; decide)] at hlay
  have hst := (u_facts hfc hkC (u_lays hts hin hf) hi).1
  have h6 := u_store hfc hkC hkind hlay hi hd (show narrow .int (.int v) = .int v from rfl) (show fits .int (.int v) = true from rfl)
  refine W.putK hexec hb (f := fd) ⟨hown, hts _ hlink, ⟨_, _, _, hi⟩, hst⟩ (by rw [q2]; exact h6) q1 q3 (by rw [hsl]; exact k2_hasslot (q4 f hf)) rfl rfl hdg fun H' e1 e2 e3 => ?_
  rw [hsl] at e1 ⊢
  refine kk H' _ _ rfl (hR.set hl ?_ e3 ?_) (hS0.put e2 e3 hA0)
  · rw [pr_ctO hk]
    have hlen : f < ((List.range (pr_nf k)).map (pr_fv ad σ k i j)).length := by rw [List.length_map, List.length_range]; exact hfn
    have hset : (List.range (pr_nf k)).map (pr_fv ad (pr_up σ (64 * k + f) i j v) k i j) = ((List.range (pr_nf k)).map (pr_fv ad σ k i j)).set f (.int v) := by
      apply List.ext_getElem?
      intro n
      rw [List.getElem?_set, List.getElem?_map, List.getElem?_map, List.length_map, List.length_range]
      by_cases hn : n < pr_nf k
      · rw [List.getElem?_range hn]
        by_cases e : f = n
        · subst e
          simp [hfn, pr_fv, hrt, pr_up]
        · simp only [if_neg e, Option.map_some, Option.some.injEq]
          unfold pr_fv pr_up
          by_cases e0 : pr_rt k n = 0
          · rw [if_pos e0, if_pos e0, if_neg (by omega)]
          · rw [if_neg e0, if_neg e0]
      · rw [List.getElem?_eq_none (by rw [List.length_range]; omega)]
        rw [if_neg (by omega)]
        rfl
    rw [hset]
    exact ⟨_, hc, t_OB.to (V := updV (vp_V ((List.range (pr_nf k)).map (pr_fv ad σ k i j))) f (.int v)) ⟨_, e1, q2, q3, t_set q4 hap hf (.int v)⟩ (fun j _ => vp_updV_set hlen (.int v) j)⟩
  · intro k' i' j' _ hne
    unfold pr_ct
    by_cases hk' : k' < 10
    · rw [if_pos hk', if_pos hk']
      congr 2
      apply List.map_congr_left
      intro n hn
      have hn := List.mem_range.mp hn
      have hn64 : n < 64 := by
        have : pr_nf k' ≤ 42 := by
          have : ∀ q, q < 10 → pr_nf q ≤ 42 := by decide
          exact this k' hk'
        omega
      unfold pr_fv pr_up
      by_cases e0 : pr_rt k' n = 0
      · rw [if_pos e0, if_pos e0, if_neg (fun q => hne ⟨by omega, q.2.1, q.2.2⟩)]
      · rw [if_neg e0, if_neg e0]
    · have h7 : ∀ i2 : Nat, pr_up σ (64 * k + f) i j v (1000 + k') i2 = σ (1000 + k') i2 := fun i2 => by
        funext j2
        unfold pr_up
        rw [if_neg (by omega)]
      rw [if_neg hk', if_neg hk', h7]
theorem pr_upI {cs : Nat → ClassId} {ad : pr_Ad} {g : Nat → Nat} {σ : pr_Sg} {k i n : Nat} {v : Int32} (hk : 10 ≤ k) (k' i' j' : Nat) (hne : ¬ (k' = k ∧ i' = i)) : pr_ct cs ad g (pr_up σ (1000 + k) i n v) k' i' j' = pr_ct cs ad g σ k' i' j' := by
  unfold pr_ct
  by_cases hk' : k' < 10
  · rw [if_pos hk', if_pos hk']
    congr 2
    apply List.map_congr_left
    intro q hq
    have hq := List.mem_range.mp hq
    have hq64 : q < 64 := by
      have : pr_nf k' ≤ 42 := by
        have : ∀ q, q < 10 → pr_nf q ≤ 42 := by decide
        exact this k' hk'
      omega
    unfold pr_fv pr_up
    by_cases e0 : pr_rt k' q = 0
    · rw [if_pos e0, if_pos e0, if_neg (by omega)]
    · rw [if_neg e0, if_neg e0]
  · have h7 : pr_up σ (1000 + k) i n v (1000 + k') i' = σ (1000 + k') i' := by
      funext j2
      unfold pr_up
      rw [if_neg (fun q => hne ⟨by omega, q.2.1⟩)]
    rw [if_neg hk', if_neg hk', h7]
theorem pr_ctJ {cs : Nat → ClassId} {ad : pr_Ad} {g : Nat → Nat} {σ : pr_Sg} {k i : Nat} (hk : 10 ≤ k) (j j' : Nat) : pr_ct cs ad g σ k i j = pr_ct cs ad g σ k i j' := by simp [pr_ct, show ¬ k < 10 by omega]
theorem pr_ald (hexec : p.tables.exec = Jvm.exec) (hb : c.code = cc) (hK : pr_K D cs s) (hR : pr_R D cs A ad g σ H) {k i j : Nat} (hl : pr_lv g k i j) (hk : 10 ≤ k) (hk2 : k < 70) {n : Nat} (hn : pr_ln k = n) {x : Int32} (hin : vp_in x n) (hdg : decode cc pc = .ok (.iaload, 1))
    {t : Nat} (ht : 1000 + k = t) (kk : W p l e R s m args below meth c H locs cells slots Q (F0 m (pc + 1) ls (.int (σ t i x.toNatClampNeg) :: rest))) : W p l e R s m args below meth c H locs cells slots Q (F0 m pc ls (.int x :: .ref (ad k i j) :: rest)) :=
  va_iald hexec hb hK.1 (pr_one hR hl (pr_ctI hk hk2)) 0 0 rfl rfl (by rw [hn]; exact hin) hdg (by subst ht; exact kk)
theorem pr_zld (hexec : p.tables.exec = Jvm.exec) (hb : c.code = cc) (hK : pr_K D cs s) (hR : pr_R D cs A ad g σ H) {k i j : Nat} (hl : pr_lv g k i j) (hk : 70 ≤ k) (hk2 : k < 80) {n : Nat} (hn : pr_ln k = n) {x : Int32} (hin : vp_in x n) (hdg : decode cc pc = .ok (.baload, 1))
    {t : Nat} (ht : 1000 + k = t) (kk : W p l e R s m args below meth c H locs cells slots Q (F0 m (pc + 1) ls (.int (σ t i x.toNatClampNeg) :: rest))) : W p l e R s m args below meth c H locs cells slots Q (F0 m pc ls (.int x :: .ref (ad k i j) :: rest)) :=
  va_zald hexec hb hK.1 (pr_one hR hl (pr_ctZ hk hk2)) 0 1 rfl rfl (by rw [hn]; exact hin) hdg (by subst ht; exact kk)
theorem pr_ast (hexec : p.tables.exec = Jvm.exec) (hb : c.code = cc) (hK : pr_K D cs s) (hR : pr_R D cs A ad g σ H) (hS0 : va_S A H0 H locs) {k i j : Nat} (hl : pr_lv g k i j) (hk : 10 ≤ k) (hk2 : k < 70) {n : Nat} (hn : pr_ln k = n) {x v : Int32} (hin : vp_in x n) (hdg : decode cc pc = .ok (.iastore, 1))
    {t : Nat} (ht : 1000 + k = t) (kk : ∀ (H1 : Heap) (locs1 : List Loc) (u : pr_Sg), u = pr_up σ t i x.toNatClampNeg v → pr_R D cs A ad g u H1 → va_S A H0 H1 locs1 → W p l e R s m args below meth c H1 locs1 cells slots Q (F0 m (pc + 1) ls rest)) : W p l e R s m args below meth c H locs cells slots Q (F0 m pc ls (.int v :: .int x :: .ref (ad k i j) :: rest)) := by
  obtain ⟨h0, hA0⟩ := hR.1 _ _ _ hl
  rw [pr_ctI hk hk2] at h0
  subst hn
  refine W.iast hexec hb h0 ((hK.1.2 0 _ rfl).1 (pr_ln k) (fun j => .int (σ (1000 + k) i j))) (fun q => by cases q) (by show ¬ (x < 0 ∨ (arrV _ _ _).slots.size ≤ _); rw [arrV_size]; exact hin) rfl rfl hdg fun H1 e z oq => ?_
  subst ht
  refine kk H1 _ _ rfl (hR.set hl ?_ oq ?_) (hS0.put z oq hA0)
  · rw [pr_ctI hk hk2]
    show H1[ad k i j]? = some (vp_cell _ _)
    rw [e]
    rw [vp_cell_i, vp_cell_i, arrV_store]
    congr 2
    funext q
    by_cases hq : q = x.toNatClampNeg
    · subst hq
      simp [updV, pr_up]
    · simp [updV, pr_up, hq]
  · intro k' i' j' hl' hne
    refine pr_upI hk k' i' j' (fun q => hne ⟨q.1, q.2, ?_⟩)
    obtain ⟨rfl, rfl⟩ := q
    exact (pr_lv0 (by omega) hl').trans (pr_lv0 (by omega) hl).symm
theorem pr_zst (hexec : p.tables.exec = Jvm.exec) (hb : c.code = cc) (hK : pr_K D cs s) (hR : pr_R D cs A ad g σ H) (hS0 : va_S A H0 H locs) {k i j : Nat} (hl : pr_lv g k i j) (hk : 70 ≤ k) (hk2 : k < 80) {n : Nat} (hn : pr_ln k = n) {x v : Int32} (hin : vp_in x n) (hdg : decode cc pc = .ok (.bastore, 1))
    {t : Nat} (ht : 1000 + k = t) (kk : ∀ (H1 : Heap) (locs1 : List Loc) (u : pr_Sg), u = pr_up σ t i x.toNatClampNeg (vp_nar .boolean v) → pr_R D cs A ad g u H1 → va_S A H0 H1 locs1 → W p l e R s m args below meth c H1 locs1 cells slots Q (F0 m (pc + 1) ls rest)) : W p l e R s m args below meth c H locs cells slots Q (F0 m pc ls (.int v :: .int x :: .ref (ad k i j) :: rest)) := by
  obtain ⟨h0, hA0⟩ := hR.1 _ _ _ hl
  rw [pr_ctZ hk hk2] at h0
  subst hn
  refine W.zast hexec hb h0 ((hK.1.2 1 _ rfl).1 (pr_ln k) (fun j => .int (σ (1000 + k) i j))) (fun q => by cases q) (by show ¬ (x < 0 ∨ (arrV _ _ _).slots.size ≤ _); rw [arrV_size]; exact hin) rfl rfl hdg fun H1 e z oq => ?_
  subst ht
  refine kk H1 _ _ rfl (hR.set hl ?_ oq ?_) (hS0.put z oq hA0)
  · rw [pr_ctZ hk hk2]
    show H1[ad k i j]? = some (vp_cell _ _)
    rw [e]
    rw [vp_cell_i, vp_cell_i, arrV_store]
    congr 2
    funext q
    by_cases hq : q = x.toNatClampNeg
    · subst hq
      simp [updV, pr_up, vp_nar]
      try rfl
    · simp [updV, pr_up, hq]
  · intro k' i' j' hl' hne
    refine pr_upI (by omega) k' i' j' (fun q => hne ⟨q.1, q.2, ?_⟩)
    obtain ⟨rfl, rfl⟩ := q
    exact (pr_lv0 (by omega) hl').trans (pr_lv0 (by omega) hl).symm
/-- the cell of an array of references: null, or the cell of its kind -/
def pr_rv (ad : pr_Ad) (k : Nat) (o : Option (Nat × Nat)) : Value := match o with
  | none => .null
  | some q => .ref (ad k q.1 q.2)
theorem pr_ldq (hexec : p.tables.exec = Jvm.exec) (hb : c.code = cc) (hK : pr_K D cs s) (hR : pr_R D cs A ad g σ H) {k i j : Nat} (hl : pr_lv g k i j) (hk : 80 ≤ k) {n t0 : Nat} (hn : pr_ln k = n) {ty : FieldType} (hty : ty.isReference = true) (ht : (pr_tys cs)[t0]? = some (cs (if k < 84 then k - 78 else 6), ty)) {x : Int32} (hin : vp_in x n) {v : Value} (hv : va_rf (pr_rr ad g k i x.toNatClampNeg) = v) (hdg : decode cc pc = .ok (.aaload, 1))
    (kk : W p l e R s m args below meth c H locs cells slots Q (F0 m (pc + 1) ls (v :: rest))) : W p l e R s m args below meth c H locs cells slots Q (F0 m pc ls (.int x :: .ref (ad k i j) :: rest)) := by
  have h0 := (hR.1 _ _ _ hl).1
  rw [pr_ctR hk] at h0
  subst hn
  subst hv
  have hlt : x.toNatClampNeg < pr_ln k := Nat.not_le.mp fun q => hin (Or.inr q)
  exact W.aald (v := va_rf (pr_rr ad g k i x.toNatClampNeg)) (ty := ty) hexec hb h0 ((hK.1.2 t0 _ ht).1 (pr_ln k) (fun j => va_rf (pr_rr ad g k i j))) hty (fun q => by cases q) (by show ¬ (x < 0 ∨ (arrV _ _ _).slots.size ≤ _); rw [arrV_size]; exact hin) (by show (arrV _ _ _).slots[_]? = _; rw [arrV_read _ _ hlt]) rfl rfl hdg kk
end PRW
end
section
theorem pr_in1 : ∀ w ∈ wsL_law_r1, w ∈ wsL_law := fun _ h => List.mem_append_left _ (List.mem_append_left _ (List.mem_append_left _ (List.mem_append_left _ (List.mem_append_left _ (List.mem_append_left _ (List.mem_append_left _ (List.mem_append_left _ (List.mem_append_left _ (List.mem_append_left _ (List.mem_append_left _ (List.mem_append_left _ h)))))))))))
theorem pr_in2 : ∀ w ∈ wsL_law_r2, w ∈ wsL_law := fun _ h => List.mem_append_left _ (List.mem_append_left _ (List.mem_append_left _ (List.mem_append_left _ (List.mem_append_left _ (List.mem_append_left _ (List.mem_append_left _ (List.mem_append_left _ (List.mem_append_left _ (List.mem_append_left _ (List.mem_append_left _ (List.mem_append_right _ (List.mem_append_left _ h))))))))))))
theorem pr_in3 : ∀ w ∈ wsL_law_r3, w ∈ wsL_law := fun _ h => List.mem_append_left _ (List.mem_append_left _ (List.mem_append_left _ (List.mem_append_left _ (List.mem_append_left _ (List.mem_append_left _ (List.mem_append_left _ (List.mem_append_left _ (List.mem_append_left _ (List.mem_append_left _ (List.mem_append_left _ (List.mem_append_right _ (List.mem_append_right _ (List.mem_append_left _ h)))))))))))))
theorem pr_in4 : ∀ w ∈ wsL_law_r4, w ∈ wsL_law := fun _ h => List.mem_append_left _ (List.mem_append_left _ (List.mem_append_left _ (List.mem_append_left _ (List.mem_append_left _ (List.mem_append_left _ (List.mem_append_left _ (List.mem_append_left _ (List.mem_append_left _ (List.mem_append_left _ (List.mem_append_left _ (List.mem_append_right _ (List.mem_append_right _ (List.mem_append_right _ (List.mem_append_left _ h))))))))))))))
theorem pr_in5 : ∀ w ∈ wsL_law_r5, w ∈ wsL_law := fun _ h => List.mem_append_left _ (List.mem_append_left _ (List.mem_append_left _ (List.mem_append_left _ (List.mem_append_left _ (List.mem_append_left _ (List.mem_append_left _ (List.mem_append_left _ (List.mem_append_left _ (List.mem_append_left _ (List.mem_append_left _ (List.mem_append_right _ (List.mem_append_right _ (List.mem_append_right _ (List.mem_append_right _ (List.mem_append_left _ h)))))))))))))))
theorem pr_in6 : ∀ w ∈ wsL_law_r6, w ∈ wsL_law := fun _ h => List.mem_append_left _ (List.mem_append_left _ (List.mem_append_left _ (List.mem_append_left _ (List.mem_append_left _ (List.mem_append_left _ (List.mem_append_left _ (List.mem_append_left _ (List.mem_append_left _ (List.mem_append_left _ (List.mem_append_left _ (List.mem_append_right _ (List.mem_append_right _ (List.mem_append_right _ (List.mem_append_right _ (List.mem_append_right _ (List.mem_append_left _ h))))))))))))))))
theorem pr_in7 : ∀ w ∈ wsL_law_r7, w ∈ wsL_law := fun _ h => List.mem_append_left _ (List.mem_append_left _ (List.mem_append_left _ (List.mem_append_left _ (List.mem_append_left _ (List.mem_append_left _ (List.mem_append_left _ (List.mem_append_left _ (List.mem_append_left _ (List.mem_append_left _ (List.mem_append_left _ (List.mem_append_right _ (List.mem_append_right _ (List.mem_append_right _ (List.mem_append_right _ (List.mem_append_right _ (List.mem_append_right _ (List.mem_append_left _ h)))))))))))))))))
theorem pr_in8 : ∀ w ∈ wsL_law_r8, w ∈ wsL_law := fun _ h => List.mem_append_left _ (List.mem_append_left _ (List.mem_append_left _ (List.mem_append_left _ (List.mem_append_left _ (List.mem_append_left _ (List.mem_append_left _ (List.mem_append_left _ (List.mem_append_left _ (List.mem_append_left _ (List.mem_append_left _ (List.mem_append_right _ (List.mem_append_right _ (List.mem_append_right _ (List.mem_append_right _ (List.mem_append_right _ (List.mem_append_right _ (List.mem_append_right _ (List.mem_append_left _ h))))))))))))))))))
theorem pr_in9 : ∀ w ∈ wsL_law_r9, w ∈ wsL_law := fun _ h => List.mem_append_left _ (List.mem_append_left _ (List.mem_append_left _ (List.mem_append_left _ (List.mem_append_left _ (List.mem_append_left _ (List.mem_append_left _ (List.mem_append_left _ (List.mem_append_left _ (List.mem_append_left _ (List.mem_append_left _ (List.mem_append_right _ (List.mem_append_right _ (List.mem_append_right _ (List.mem_append_right _ (List.mem_append_right _ (List.mem_append_right _ (List.mem_append_right _ (List.mem_append_right _ (List.mem_append_left _ h)))))))))))))))))))
theorem pr_in10 : ∀ w ∈ wsL_law_r10, w ∈ wsL_law := fun _ h => List.mem_append_left _ (List.mem_append_left _ (List.mem_append_left _ (List.mem_append_left _ (List.mem_append_left _ (List.mem_append_left _ (List.mem_append_left _ (List.mem_append_left _ (List.mem_append_left _ (List.mem_append_left _ (List.mem_append_left _ (List.mem_append_right _ (List.mem_append_right _ (List.mem_append_right _ (List.mem_append_right _ (List.mem_append_right _ (List.mem_append_right _ (List.mem_append_right _ (List.mem_append_right _ (List.mem_append_right _ (List.mem_append_left _ h))))))))))))))))))))
theorem pr_in11 : ∀ w ∈ wsL_law_r11, w ∈ wsL_law := fun _ h => List.mem_append_left _ (List.mem_append_left _ (List.mem_append_left _ (List.mem_append_left _ (List.mem_append_left _ (List.mem_append_left _ (List.mem_append_left _ (List.mem_append_left _ (List.mem_append_left _ (List.mem_append_left _ (List.mem_append_left _ (List.mem_append_right _ (List.mem_append_right _ (List.mem_append_right _ (List.mem_append_right _ (List.mem_append_right _ (List.mem_append_right _ (List.mem_append_right _ (List.mem_append_right _ (List.mem_append_right _ (List.mem_append_right _ (List.mem_append_left _ h)))))))))))))))))))))
theorem pr_in12 : ∀ w ∈ wsL_law_r12, w ∈ wsL_law := fun _ h => List.mem_append_left _ (List.mem_append_left _ (List.mem_append_left _ (List.mem_append_left _ (List.mem_append_left _ (List.mem_append_left _ (List.mem_append_left _ (List.mem_append_left _ (List.mem_append_left _ (List.mem_append_left _ (List.mem_append_left _ (List.mem_append_right _ (List.mem_append_right _ (List.mem_append_right _ (List.mem_append_right _ (List.mem_append_right _ (List.mem_append_right _ (List.mem_append_right _ (List.mem_append_right _ (List.mem_append_right _ (List.mem_append_right _ (List.mem_append_right _ (List.mem_append_left _ h))))))))))))))))))))))
theorem pr_in13 : ∀ w ∈ wsL_law_r13, w ∈ wsL_law := fun _ h => List.mem_append_left _ (List.mem_append_left _ (List.mem_append_left _ (List.mem_append_left _ (List.mem_append_left _ (List.mem_append_left _ (List.mem_append_left _ (List.mem_append_left _ (List.mem_append_left _ (List.mem_append_left _ (List.mem_append_left _ (List.mem_append_right _ (List.mem_append_right _ (List.mem_append_right _ (List.mem_append_right _ (List.mem_append_right _ (List.mem_append_right _ (List.mem_append_right _ (List.mem_append_right _ (List.mem_append_right _ (List.mem_append_right _ (List.mem_append_right _ (List.mem_append_right _ (List.mem_append_left _ h)))))))))))))))))))))))
theorem pr_in14 : ∀ w ∈ wsL_law_r14, w ∈ wsL_law := fun _ h => List.mem_append_left _ (List.mem_append_left _ (List.mem_append_left _ (List.mem_append_left _ (List.mem_append_left _ (List.mem_append_left _ (List.mem_append_left _ (List.mem_append_left _ (List.mem_append_left _ (List.mem_append_left _ (List.mem_append_left _ (List.mem_append_right _ (List.mem_append_right _ (List.mem_append_right _ (List.mem_append_right _ (List.mem_append_right _ (List.mem_append_right _ (List.mem_append_right _ (List.mem_append_right _ (List.mem_append_right _ (List.mem_append_right _ (List.mem_append_right _ (List.mem_append_right _ (List.mem_append_right _ (List.mem_append_left _ h))))))))))))))))))))))))
theorem pr_in15 : ∀ w ∈ wsL_law_r15, w ∈ wsL_law := fun _ h => List.mem_append_left _ (List.mem_append_left _ (List.mem_append_left _ (List.mem_append_left _ (List.mem_append_left _ (List.mem_append_left _ (List.mem_append_left _ (List.mem_append_left _ (List.mem_append_left _ (List.mem_append_left _ (List.mem_append_left _ (List.mem_append_right _ (List.mem_append_right _ (List.mem_append_right _ (List.mem_append_right _ (List.mem_append_right _ (List.mem_append_right _ (List.mem_append_right _ (List.mem_append_right _ (List.mem_append_right _ (List.mem_append_right _ (List.mem_append_right _ (List.mem_append_right _ (List.mem_append_right _ (List.mem_append_right _ (List.mem_append_left _ h)))))))))))))))))))))))))
theorem pr_in16 : ∀ w ∈ wsL_law_r16, w ∈ wsL_law := fun _ h => List.mem_append_left _ (List.mem_append_left _ (List.mem_append_left _ (List.mem_append_left _ (List.mem_append_left _ (List.mem_append_left _ (List.mem_append_left _ (List.mem_append_left _ (List.mem_append_left _ (List.mem_append_left _ (List.mem_append_left _ (List.mem_append_right _ (List.mem_append_right _ (List.mem_append_right _ (List.mem_append_right _ (List.mem_append_right _ (List.mem_append_right _ (List.mem_append_right _ (List.mem_append_right _ (List.mem_append_right _ (List.mem_append_right _ (List.mem_append_right _ (List.mem_append_right _ (List.mem_append_right _ (List.mem_append_right _ (List.mem_append_right _ (List.mem_append_left _ h))))))))))))))))))))))))))
theorem pr_in17 : ∀ w ∈ wsL_law_r17, w ∈ wsL_law := fun _ h => List.mem_append_left _ (List.mem_append_left _ (List.mem_append_left _ (List.mem_append_left _ (List.mem_append_left _ (List.mem_append_left _ (List.mem_append_left _ (List.mem_append_left _ (List.mem_append_left _ (List.mem_append_left _ (List.mem_append_left _ (List.mem_append_right _ (List.mem_append_right _ (List.mem_append_right _ (List.mem_append_right _ (List.mem_append_right _ (List.mem_append_right _ (List.mem_append_right _ (List.mem_append_right _ (List.mem_append_right _ (List.mem_append_right _ (List.mem_append_right _ (List.mem_append_right _ (List.mem_append_right _ (List.mem_append_right _ (List.mem_append_right _ (List.mem_append_right _ (List.mem_append_left _ h)))))))))))))))))))))))))))
theorem pr_in18 : ∀ w ∈ wsL_law_r18, w ∈ wsL_law := fun _ h => List.mem_append_left _ (List.mem_append_left _ (List.mem_append_left _ (List.mem_append_left _ (List.mem_append_left _ (List.mem_append_left _ (List.mem_append_left _ (List.mem_append_left _ (List.mem_append_left _ (List.mem_append_left _ (List.mem_append_left _ (List.mem_append_right _ (List.mem_append_right _ (List.mem_append_right _ (List.mem_append_right _ (List.mem_append_right _ (List.mem_append_right _ (List.mem_append_right _ (List.mem_append_right _ (List.mem_append_right _ (List.mem_append_right _ (List.mem_append_right _ (List.mem_append_right _ (List.mem_append_right _ (List.mem_append_right _ (List.mem_append_right _ (List.mem_append_right _ (List.mem_append_right _ (List.mem_append_left _ h))))))))))))))))))))))))))))
theorem pr_in19 : ∀ w ∈ wsL_law_r19, w ∈ wsL_law := fun _ h => List.mem_append_left _ (List.mem_append_left _ (List.mem_append_left _ (List.mem_append_left _ (List.mem_append_left _ (List.mem_append_left _ (List.mem_append_left _ (List.mem_append_left _ (List.mem_append_left _ (List.mem_append_left _ (List.mem_append_left _ (List.mem_append_right _ (List.mem_append_right _ (List.mem_append_right _ (List.mem_append_right _ (List.mem_append_right _ (List.mem_append_right _ (List.mem_append_right _ (List.mem_append_right _ (List.mem_append_right _ (List.mem_append_right _ (List.mem_append_right _ (List.mem_append_right _ (List.mem_append_right _ (List.mem_append_right _ (List.mem_append_right _ (List.mem_append_right _ (List.mem_append_right _ (List.mem_append_right _ (List.mem_append_left _ h)))))))))))))))))))))))))))))
theorem pr_in20 : ∀ w ∈ wsL_law_r20, w ∈ wsL_law := fun _ h => List.mem_append_left _ (List.mem_append_left _ (List.mem_append_left _ (List.mem_append_left _ (List.mem_append_left _ (List.mem_append_left _ (List.mem_append_left _ (List.mem_append_left _ (List.mem_append_left _ (List.mem_append_left _ (List.mem_append_left _ (List.mem_append_right _ (List.mem_append_right _ (List.mem_append_right _ (List.mem_append_right _ (List.mem_append_right _ (List.mem_append_right _ (List.mem_append_right _ (List.mem_append_right _ (List.mem_append_right _ (List.mem_append_right _ (List.mem_append_right _ (List.mem_append_right _ (List.mem_append_right _ (List.mem_append_right _ (List.mem_append_right _ (List.mem_append_right _ (List.mem_append_right _ (List.mem_append_right _ (List.mem_append_right _ (List.mem_append_left _ h))))))))))))))))))))))))))))))
theorem pr_in21 : ∀ w ∈ wsL_law_r21, w ∈ wsL_law := fun _ h => List.mem_append_left _ (List.mem_append_left _ (List.mem_append_left _ (List.mem_append_left _ (List.mem_append_left _ (List.mem_append_left _ (List.mem_append_left _ (List.mem_append_left _ (List.mem_append_left _ (List.mem_append_left _ (List.mem_append_left _ (List.mem_append_right _ (List.mem_append_right _ (List.mem_append_right _ (List.mem_append_right _ (List.mem_append_right _ (List.mem_append_right _ (List.mem_append_right _ (List.mem_append_right _ (List.mem_append_right _ (List.mem_append_right _ (List.mem_append_right _ (List.mem_append_right _ (List.mem_append_right _ (List.mem_append_right _ (List.mem_append_right _ (List.mem_append_right _ (List.mem_append_right _ (List.mem_append_right _ (List.mem_append_right _ (List.mem_append_right _ (List.mem_append_left _ h)))))))))))))))))))))))))))))))
theorem pr_in22 : ∀ w ∈ wsL_law_r22, w ∈ wsL_law := fun _ h => List.mem_append_left _ (List.mem_append_left _ (List.mem_append_left _ (List.mem_append_left _ (List.mem_append_left _ (List.mem_append_left _ (List.mem_append_left _ (List.mem_append_left _ (List.mem_append_left _ (List.mem_append_left _ (List.mem_append_left _ (List.mem_append_right _ (List.mem_append_right _ (List.mem_append_right _ (List.mem_append_right _ (List.mem_append_right _ (List.mem_append_right _ (List.mem_append_right _ (List.mem_append_right _ (List.mem_append_right _ (List.mem_append_right _ (List.mem_append_right _ (List.mem_append_right _ (List.mem_append_right _ (List.mem_append_right _ (List.mem_append_right _ (List.mem_append_right _ (List.mem_append_right _ (List.mem_append_right _ (List.mem_append_right _ (List.mem_append_right _ (List.mem_append_right _ (List.mem_append_left _ h))))))))))))))))))))))))))))))))
theorem pr_in23 : ∀ w ∈ wsL_law_r23, w ∈ wsL_law := fun _ h => List.mem_append_left _ (List.mem_append_left _ (List.mem_append_left _ (List.mem_append_left _ (List.mem_append_left _ (List.mem_append_left _ (List.mem_append_left _ (List.mem_append_left _ (List.mem_append_left _ (List.mem_append_left _ (List.mem_append_left _ (List.mem_append_right _ (List.mem_append_right _ (List.mem_append_right _ (List.mem_append_right _ (List.mem_append_right _ (List.mem_append_right _ (List.mem_append_right _ (List.mem_append_right _ (List.mem_append_right _ (List.mem_append_right _ (List.mem_append_right _ (List.mem_append_right _ (List.mem_append_right _ (List.mem_append_right _ (List.mem_append_right _ (List.mem_append_right _ (List.mem_append_right _ (List.mem_append_right _ (List.mem_append_right _ (List.mem_append_right _ (List.mem_append_right _ (List.mem_append_right _ (List.mem_append_left _ h)))))))))))))))))))))))))))))))))
theorem pr_in24 : ∀ w ∈ wsL_law_r24, w ∈ wsL_law := fun _ h => List.mem_append_left _ (List.mem_append_left _ (List.mem_append_left _ (List.mem_append_left _ (List.mem_append_left _ (List.mem_append_left _ (List.mem_append_left _ (List.mem_append_left _ (List.mem_append_left _ (List.mem_append_left _ (List.mem_append_left _ (List.mem_append_right _ (List.mem_append_right _ (List.mem_append_right _ (List.mem_append_right _ (List.mem_append_right _ (List.mem_append_right _ (List.mem_append_right _ (List.mem_append_right _ (List.mem_append_right _ (List.mem_append_right _ (List.mem_append_right _ (List.mem_append_right _ (List.mem_append_right _ (List.mem_append_right _ (List.mem_append_right _ (List.mem_append_right _ (List.mem_append_right _ (List.mem_append_right _ (List.mem_append_right _ (List.mem_append_right _ (List.mem_append_right _ (List.mem_append_right _ (List.mem_append_right _ (List.mem_append_left _ h))))))))))))))))))))))))))))))))))
theorem pr_in25 : ∀ w ∈ wsL_law_r25, w ∈ wsL_law := fun _ h => List.mem_append_left _ (List.mem_append_left _ (List.mem_append_left _ (List.mem_append_left _ (List.mem_append_left _ (List.mem_append_left _ (List.mem_append_left _ (List.mem_append_left _ (List.mem_append_left _ (List.mem_append_left _ (List.mem_append_left _ (List.mem_append_right _ (List.mem_append_right _ (List.mem_append_right _ (List.mem_append_right _ (List.mem_append_right _ (List.mem_append_right _ (List.mem_append_right _ (List.mem_append_right _ (List.mem_append_right _ (List.mem_append_right _ (List.mem_append_right _ (List.mem_append_right _ (List.mem_append_right _ (List.mem_append_right _ (List.mem_append_right _ (List.mem_append_right _ (List.mem_append_right _ (List.mem_append_right _ (List.mem_append_right _ (List.mem_append_right _ (List.mem_append_right _ (List.mem_append_right _ (List.mem_append_right _ (List.mem_append_right _ (List.mem_append_left _ h)))))))))))))))))))))))))))))))))))
theorem pr_in26 : ∀ w ∈ wsL_law_r26, w ∈ wsL_law := fun _ h => List.mem_append_left _ (List.mem_append_left _ (List.mem_append_left _ (List.mem_append_left _ (List.mem_append_left _ (List.mem_append_left _ (List.mem_append_left _ (List.mem_append_left _ (List.mem_append_left _ (List.mem_append_left _ (List.mem_append_left _ (List.mem_append_right _ (List.mem_append_right _ (List.mem_append_right _ (List.mem_append_right _ (List.mem_append_right _ (List.mem_append_right _ (List.mem_append_right _ (List.mem_append_right _ (List.mem_append_right _ (List.mem_append_right _ (List.mem_append_right _ (List.mem_append_right _ (List.mem_append_right _ (List.mem_append_right _ (List.mem_append_right _ (List.mem_append_right _ (List.mem_append_right _ (List.mem_append_right _ (List.mem_append_right _ (List.mem_append_right _ (List.mem_append_right _ (List.mem_append_right _ (List.mem_append_right _ (List.mem_append_right _ (List.mem_append_right _ (List.mem_append_left _ h))))))))))))))))))))))))))))))))))))
theorem pr_in27 : ∀ w ∈ wsL_law_r27, w ∈ wsL_law := fun _ h => List.mem_append_left _ (List.mem_append_left _ (List.mem_append_left _ (List.mem_append_left _ (List.mem_append_left _ (List.mem_append_left _ (List.mem_append_left _ (List.mem_append_left _ (List.mem_append_left _ (List.mem_append_left _ (List.mem_append_left _ (List.mem_append_right _ (List.mem_append_right _ (List.mem_append_right _ (List.mem_append_right _ (List.mem_append_right _ (List.mem_append_right _ (List.mem_append_right _ (List.mem_append_right _ (List.mem_append_right _ (List.mem_append_right _ (List.mem_append_right _ (List.mem_append_right _ (List.mem_append_right _ (List.mem_append_right _ (List.mem_append_right _ (List.mem_append_right _ (List.mem_append_right _ (List.mem_append_right _ (List.mem_append_right _ (List.mem_append_right _ (List.mem_append_right _ (List.mem_append_right _ (List.mem_append_right _ (List.mem_append_right _ (List.mem_append_right _ (List.mem_append_right _ h))))))))))))))))))))))))))))))))))))
set_option maxRecDepth 100000 in
theorem pr_good : GoodIn wsL_law wsL_law := goodIn_sub (fun _ h => h) (by decide +kernel)
abbrev pr_ws (y : MethodName) (cc : ByteArray) (n : Nat) (ret : Option FieldType) : List Cond := Cond.code y cc n ret :: wsL_law
theorem pr_gV {own C : String} {idx n : Nat} {y : MethodName} {cc : ByteArray} {ret : Option FieldType} (h1 : Cond.methodLink own idx y ∈ wsL_law) (h2 : Cond.instanceMethod y ∈ wsL_law) (h3 : Cond.selects C y y ∈ wsL_law) (h4 : Cond.initialized C ∈ wsL_law) (h5 : Cond.code y cc n ret ∈ wsL_law) : GoodIn wsL_law (wsV own idx C y (pr_ws y cc n ret)) := by
  intro w hw
  unfold wsV at hw
  refine pr_good w ?_
  simp only [List.mem_append, List.mem_cons, List.not_mem_nil, or_false] at hw
  rcases hw with (rfl | rfl | rfl | rfl) | rfl | h <;> assumption
theorem pr_gS {own : String} {idx n : Nat} {y : MethodName} {cc : ByteArray} {ret : Option FieldType} (h1 : Cond.methodLink own idx y ∈ wsL_law) (h2 : Cond.static y ∈ wsL_law) (h4 : Cond.initialized y.cls ∈ wsL_law) (h5 : Cond.code y cc n ret ∈ wsL_law) : GoodIn wsL_law (va_wsS own idx y (pr_ws y cc n ret)) := by
  intro w hw
  unfold va_wsS at hw
  refine pr_good w ?_
  simp only [List.mem_append, List.mem_cons, List.not_mem_nil, or_false] at hw
  rcases hw with (rfl | rfl | rfl) | rfl | h <;> assumption
theorem pr_gI {n : Nat} {y : MethodName} {cc : ByteArray} {ret : Option FieldType} (h5 : Cond.code y cc n ret ∈ wsL_law) : GoodIn wsL_law (pr_ws y cc n ret) := by
  intro w hw
  refine pr_good w ?_
  rcases List.mem_cons.mp hw with rfl | h
  · exact h5
  · exact h
/-- a contract's start, and its end: a number, nothing, a cell of a kind or null -/
def pr_B (D : va_G) (cs : Nat → ClassId) (A : Nat → Prop) (ad : pr_Ad) (g : Nat → Nat) (σ : pr_Sg) (U : State) : Prop := pr_R D cs A ad g σ U.heap ∧ pr_K D cs U
def pr_E (D : va_G) (cs : Nat → ClassId) (A : Nat → Prop) (ad : pr_Ad) (g : Nat → Nat) (σ : pr_Sg) (U : State) : Prop := pr_R D cs A ad g σ U.heap
def pr_Qz (Q : Int32 → pr_Sg → Prop) : Int32 → pr_Sg → Prop := fun r σ => (r = 0 ∨ r = 1) ∧ Q r σ
def pr_Qr (g : Nat → Nat) (ad : pr_Ad) (k : Nat) (Q : Option (Nat × Nat) → pr_Sg → Prop) (B : pr_Sg → State → Prop) (A : Nat → Prop) : Array Value → State → Outcome → State → Prop := fun _ st oc t => (∃ (x : Option (Nat × Nat)) (u : pr_Sg), oc = .returned (some (pr_rv ad k x)) ∧ (∀ q, x = some q → pr_lv g k q.1 q.2) ∧ Q x u ∧ B u t) ∧ va_F A st t
abbrev pr_Mi (l : Launch) (D : va_G) (cs : Nat → ClassId) (A : Nat → Prop) (ad : pr_Ad) (g : Nat → Nat) (y : MethodName) (cc : ByteArray) (n : Nat) (ret : Option FieldType) (rm : Room) (vs : List Value) (σ : pr_Sg) (Q : Int32 → pr_Sg → Prop) : Prop := Met l y (pr_ws y cc n ret) rm (va_Pc vs (pr_B D cs A ad g σ)) (va_Qi Q (pr_E D cs A ad g) A) 0 0 A
abbrev pr_Mv (l : Launch) (D : va_G) (cs : Nat → ClassId) (A : Nat → Prop) (ad : pr_Ad) (g : Nat → Nat) (y : MethodName) (cc : ByteArray) (n : Nat) (rm : Room) (vs : List Value) (σ : pr_Sg) (Q : pr_Sg → Prop) : Prop := Met l y (pr_ws y cc n none) rm (va_Pc vs (pr_B D cs A ad g σ)) (va_Qv Q (pr_E D cs A ad g) A) 0 0 A
abbrev pr_Mr (l : Launch) (D : va_G) (cs : Nat → ClassId) (A : Nat → Prop) (ad : pr_Ad) (g : Nat → Nat) (k : Nat) (y : MethodName) (cc : ByteArray) (n : Nat) (ret : Option FieldType) (rm : Room) (vs : List Value) (σ : pr_Sg) (Q : Option (Nat × Nat) → pr_Sg → Prop) : Prop := Met l y (pr_ws y cc n ret) rm (va_Pc vs (pr_B D cs A ad g σ)) (pr_Qr g ad k Q (pr_E D cs A ad g) A) 0 0 A
/-- what stands fast in a method's walk -/
def pr_C (own : String) (cc : ByteArray) (nL : Nat) (ret : Option FieldType) (D : va_G) (cs : Nat → ClassId) (p : Program) (s : State) (m : MethodId) (args : Array Value) (meth : Method) (c : Code) : Prop :=
  p.tables.exec = Jvm.exec ∧ c.code = cc ∧ c.maxLocals = nL ∧ s.vm.findClass own = some m.cls ∧ (∀ w ∈ wsL_law, w.before args s = true) ∧ pr_K D cs s ∧ meth.sig.returnType = ret ∧ meth.locks = false
theorem pr_C.of {l : Launch} {D : va_G} {cs : Nat → ClassId} {y : MethodName} {cc : ByteArray} {n : Nat} {ret : Option FieldType} {rm : Room} {p : Program} {e : Env} {s : State} {m : MethodId} {args : Array Value} {below : List Frame} {meth : Method} {c : Code} {s₁ : State} (B : BodyLoose p l y (headSpec (pr_ws y cc n ret) rm) cc n ret e s m args below meth c s₁) (hml : c.maxLocals = n) (hK : pr_K D cs s) : pr_C y.cls cc n ret D cs p s m args meth c :=
  ⟨B.exec, B.bytes, hml, findClass_of_methodNamed B.named, fun w h => atoms_spec (ws := pr_ws y cc n ret) B.pre w (List.mem_cons_of_mem _ h), hK, B.returns, B.notSynchronized⟩
theorem pr_blind {D : va_G} {cs : Nat → ClassId} {A : Nat → Prop} {ad : pr_Ad} {g : Nat → Nat} {σ : pr_Sg} {vs : List Value} : FrameBlind (va_Pc vs (pr_B D cs A ad g σ)) := fun a _ f mk q => ⟨q.1, q.2.1, q.2.2.call f mk a⟩
section PRC
variable {p : Program} {l : Launch} {e : Env} {R : Room} {s : State} {m : MethodId} {args : Array Value} {below : List Frame} {meth : Method} {c : Code} {H : Heap} {locs : List Loc} {cells slots : Nat} {Qf : State → Prop}
variable {own C : String} {cc bytes : ByteArray} {nL pc maxL index n : Nat} {rt0 ret : Option FieldType} {ls : Array Slot} {As st0 rest : List Value} {D : va_G} {cs : Nat → ClassId} {A : Nat → Prop} {ad : pr_Ad} {g : Nat → Nat} {σ : pr_Sg} {H0 : Heap} {y : MethodName} {rm : Room} {Qc : Array Value → State → Outcome → State → Prop}
theorem pr_runV {k i j : Nat} {T : u_T} {N : Nat} (S : pr_C own cc nL rt0 D cs p s m args meth c) (hR : pr_R D cs A ad g σ H) (hlv : pr_lv g k i j) (hk : k < 10) (hc : vwCl[k]? = some (C, T, N)) (hM : Met l y (pr_ws y bytes maxL ret) rm (va_Pc (.ref (ad k i j) :: As) (pr_B D cs A ad g σ)) Qc 0 0 A)
    (hG : GoodIn wsL_law (wsV own index C y (pr_ws y bytes maxL ret))) (hrc : rm.cells = 0) (hrs : rm.slots = 0) (hd : y.cls = C ∧ y.cls ≠ "java/lang/invoke/MethodHandle" ∧ y.cls ≠ "java/lang/invoke/VarHandle" ∧ (parseMethodDescriptor y.desc).map (fun d => d.parameters.length) = some n)
    (hRm : rm.frames + 1 ≤ R.frames ∧ 8 + (maxL + 11) + rm.locals ≤ R.locals) (hn : As.length = n) (hsize : ls.size = nL) (hstack : st0 = As.reverse ++ .ref (ad k i j) :: rest) (hW : (rest.map fun v => v.category).sum ≤ 8) (hdg : decode cc pc = .ok (.invokevirtual index, 3)) (hf : cells ≤ R.cells ∧ slots ≤ R.slots) :
    va_Run p l e R s m args below meth c H locs cells slots 0 0 (F0 m pc ls st0) rest (Qc (Value.ref (ad k i j) :: As).toArray) A := by
  obtain ⟨hx, hb, hml, hown, hts, hK, -, -⟩ := S
  refine va_runV (As := As) (rest := rest) ⟨hx, hb, hml, hown, hts⟩ hM (cwV n hts hG rfl hrc hrs hd hRm) ⟨pr_blind, ?_, fun U hU hW => ⟨rfl, by rw [hU]; exact hR, hK.warm hW⟩⟩ rfl hn hsize hstack (lv_room hW) hdg hf
  exact va_recv hK.1 (pr_one hR hlv (pr_ctO hk)) hc (q0 := 0) rfl
theorem pr_runS (S : pr_C own cc nL rt0 D cs p s m args meth c) (hR : pr_R D cs A ad g σ H) (hM : Met l y (pr_ws y bytes maxL ret) rm (va_Pc As (pr_B D cs A ad g σ)) Qc 0 0 A)
    (hG : GoodIn wsL_law (va_wsS own index y (pr_ws y bytes maxL ret))) (hrc : rm.cells = 0) (hrs : rm.slots = 0) (hd : y.cls ≠ "java/lang/invoke/MethodHandle" ∧ y.cls ≠ "java/lang/invoke/VarHandle" ∧ (parseMethodDescriptor y.desc).map (fun d => d.parameters.length) = some n)
    (hRm : rm.frames + 1 ≤ R.frames ∧ 8 + (maxL + 11) + rm.locals ≤ R.locals) (hn : As.length = n) (hsize : ls.size = nL) (hstack : st0 = As.reverse ++ rest) (hW : (rest.map fun v => v.category).sum ≤ 8) (hdg : decode cc pc = .ok (.invokestatic index, 3)) (hf : cells ≤ R.cells ∧ slots ≤ R.slots) :
    va_Run p l e R s m args below meth c H locs cells slots 0 0 (F0 m pc ls st0) rest (Qc As.toArray) A := by
  obtain ⟨hx, hb, hml, hown, hts, hK, -, -⟩ := S
  exact va_runS (As := As) (rest := rest) ⟨hx, hb, hml, hown, hts⟩ hM (va_cwS n hts hG rfl hrc hrs hd hRm) ⟨pr_blind, fun U hU hW => ⟨rfl, by rw [hU]; exact hR, hK.warm hW⟩⟩ rfl hn hsize hstack (lv_room hW) hdg hf
/-- Robes asks PortraitRooms.within: a nest mate's private static -/
theorem pr_runN (S : pr_C RX5 cc nL rt0 D cs p s m args meth c) (hR : pr_R D cs A ad g σ H) (hM : Met l yX8_within (pr_ws yX8_within bytes maxL ret) rm (va_Pc As (pr_B D cs A ad g σ)) Qc 0 0 A)
    (hst : Cond.static yX8_within ∈ wsL_law) (hini : Cond.initialized yX8_within.cls ∈ wsL_law) (hco : Cond.code yX8_within bytes maxL ret ∈ wsL_law) (hrc : rm.cells = 0) (hrs : rm.slots = 0)
    (hRm : rm.frames + 1 ≤ R.frames ∧ 8 + (maxL + 11) + rm.locals ≤ R.locals) (hn : As.length = 2) (hsize : ls.size = nL) (hstack : st0 = As.reverse ++ rest) (hW : (rest.map fun v => v.category).sum ≤ 8) (hdg : decode cc pc = .ok (.invokestatic 18, 3)) (hf : cells ≤ R.cells ∧ slots ≤ R.slots) :
    va_Run p l e R s m args below meth c H locs cells slots 0 0 (F0 m pc ls st0) rest (Qc As.toArray) A := by
  obtain ⟨hx, hb, hml, hown, hts, hK, -, -⟩ := S
  exact va_runSN (As := As) (rest := rest) ⟨hx, hb, hml, hown, hts⟩ hM ⟨va_cnB 2 hts (pr_gI hco) rfl hrc hrs hK.2 (hts _ hini) ⟨by decide, by decide, by decide +kernel⟩ hRm, hts _ hst, trivial⟩ ⟨pr_blind, fun U hU hW => ⟨rfl, by rw [hU]; exact hR, hK.warm hW⟩⟩ rfl hn hsize hstack (lv_room hW) hdg hf
theorem pr_calli {Q : Int32 → pr_Sg → Prop} {a : Array Value} (hS : va_S A H0 H locs) (hr : va_Run p l e R s m args below meth c H locs cells slots 0 0 (F0 m pc ls st0) rest (va_Qi Q (pr_E D cs A ad g) A a) A)
    (kk : ∀ (r : Int32) (u : pr_Sg) (H1 : Heap) (locs1 : List Loc), Q r u → pr_R D cs A ad g u H1 → va_S A H0 H1 locs1 → W p l e R s m args below meth c H1 locs1 cells slots Qf (F0 m (pc + 3) ls (.int r :: rest))) : W p l e R s m args below meth c H locs cells slots Qf (F0 m pc ls st0) :=
  va_calli hr hS (fun _ _ h => h) (fun _ h => h) (fun r u t H1 locs1 ht _ hp hb _ _ hS1 => kk r u H1 locs1 hp (by rw [← ht]; exact hb) hS1)
theorem pr_callv {Q : pr_Sg → Prop} {a : Array Value} (hS : va_S A H0 H locs) (hr : va_Run p l e R s m args below meth c H locs cells slots 0 0 (F0 m pc ls st0) rest (va_Qv Q (pr_E D cs A ad g) A a) A)
    (kk : ∀ (u : pr_Sg) (H1 : Heap) (locs1 : List Loc), Q u → pr_R D cs A ad g u H1 → va_S A H0 H1 locs1 → W p l e R s m args below meth c H1 locs1 cells slots Qf (F0 m (pc + 3) ls rest)) : W p l e R s m args below meth c H locs cells slots Qf (F0 m pc ls st0) :=
  va_callv hr hS (fun _ _ h => h) (fun _ h => h) (fun u t H1 locs1 ht _ hp hb _ _ hS1 => kk u H1 locs1 hp (by rw [← ht]; exact hb) hS1)
theorem pr_callr {k : Nat} {Q : Option (Nat × Nat) → pr_Sg → Prop} {a : Array Value} (hS : va_S A H0 H locs) (hr : va_Run p l e R s m args below meth c H locs cells slots 0 0 (F0 m pc ls st0) rest (pr_Qr g ad k Q (pr_E D cs A ad g) A a) A)
    (kn : ∀ (u : pr_Sg) (H1 : Heap) (locs1 : List Loc), Q none u → pr_R D cs A ad g u H1 → va_S A H0 H1 locs1 → W p l e R s m args below meth c H1 locs1 cells slots Qf (F0 m (pc + 3) ls (.null :: rest)))
    (kk : ∀ (i j : Nat) (u : pr_Sg) (H1 : Heap) (locs1 : List Loc), Q (some (i, j)) u → pr_lv g k i j → pr_R D cs A ad g u H1 → va_S A H0 H1 locs1 → W p l e R s m args below meth c H1 locs1 cells slots Qf (F0 m (pc + 3) ls (.ref (ad k i j) :: rest))) : W p l e R s m args below meth c H locs cells slots Qf (F0 m pc ls st0) := by
  intro T hT X
  obtain ⟨v, st₀, t, T', L, h0, X', hL, e1, e2, ⟨⟨x, u, hv, hlv, hp, hb⟩, hz, hk⟩, st⟩ := hr T hT X
  rw [h0] at hz hk
  have hS1 : va_S A H0 T'.heap (locs ++ L) := ⟨Nat.le_trans hS.1 (by rw [e1]; exact hz), fun q h1 h2 => by rw [e1, hk q (Nat.lt_of_lt_of_le h1 hS.1) h2]; exact hS.2.1 q h1 h2, fun q hq => by
      rcases List.mem_append.mp hq with h | h
      · exact hS.2.2 q h
      · exact hL q h⟩
  have hb : pr_R D cs A ad g u T'.heap := by rw [e1]; exact hb
  cases hv
  match x, hlv, hp with
  | none, _, hp =>
    obtain ⟨t2, a1, b1⟩ := kn u T'.heap (locs ++ L) hp hb hS1 T' rfl X'
    exact ⟨t2, st t2 a1, b1⟩
  | some (i, j), hlv, hp =>
    obtain ⟨t2, a1, b1⟩ := kk i j u T'.heap (locs ++ L) hp (hlv _ rfl) hb hS1 T' rfl X'
    exact ⟨t2, st t2 a1, b1⟩
theorem pr_reti {Q : Int32 → pr_Sg → Prop} {v : Int32} (S : pr_C own cc nL (some .int) D cs p s m args meth c) (h : Q v σ) (hR : pr_R D cs A ad g σ H) (hS : va_S A s.heap H locs) (hdg : decode cc pc = .ok (.ireturn, 1)) : W p l e R s m args below meth c H locs 0 0 (MQ below (va_Qi Q (pr_E D cs A ad g) A) args s 0 0 A) (F0 m pc ls [.int v]) := by
  obtain ⟨hx, hb, -, -, -, -, hr, hlocks⟩ := S
  exact W.iret hx hb hr (fun t ht hW => ⟨⟨v, σ, rfl, h, by show pr_R D cs A ad g σ t.heap; rw [ht]; exact hR⟩, hS.F ht⟩) hS.2.2 hdg hlocks
theorem pr_retz {Q : Int32 → pr_Sg → Prop} {v : Int32} (S : pr_C own cc nL (some .boolean) D cs p s m args meth c) (hz : v = 0 ∨ v = 1) (h : Q v σ) (hR : pr_R D cs A ad g σ H) (hS : va_S A s.heap H locs) (hdg : decode cc pc = .ok (.ireturn, 1)) : W p l e R s m args below meth c H locs 0 0 (MQ below (va_Qi (pr_Qz Q) (pr_E D cs A ad g) A) args s 0 0 A) (F0 m pc ls [.int v]) := by
  obtain ⟨hx, hb, -, -, -, -, hr, hlocks⟩ := S
  exact W.zret hx hb hr (by rcases hz with rfl | rfl <;> decide) (fun t ht hW => ⟨⟨v, σ, rfl, ⟨hz, h⟩, by show pr_R D cs A ad g σ t.heap; rw [ht]; exact hR⟩, hS.F ht⟩) hS.2.2 hdg hlocks
theorem pr_retv {Q : pr_Sg → Prop} (S : pr_C own cc nL none D cs p s m args meth c) (h : Q σ) (hR : pr_R D cs A ad g σ H) (hS : va_S A s.heap H locs) (hdg : decode cc pc = .ok (.return_, 1)) : W p l e R s m args below meth c H locs 0 0 (MQ below (va_Qv Q (pr_E D cs A ad g) A) args s 0 0 A) (F0 m pc ls []) := by
  obtain ⟨hx, hb, -, -, -, -, hr, hlocks⟩ := S
  exact W.vret hx hb hr (fun t ht hW => ⟨⟨σ, rfl, h, by show pr_R D cs A ad g σ t.heap; rw [ht]; exact hR⟩, hS.F ht⟩) hS.2.2 hdg hlocks
theorem pr_retr {k : Nat} {Q : Option (Nat × Nat) → pr_Sg → Prop} {n0 : String} (S : pr_C own cc nL (some (.object n0)) D cs p s m args meth c) (x : Option (Nat × Nat)) (hlv : ∀ q, x = some q → pr_lv g k q.1 q.2) (h : Q x σ) (hR : pr_R D cs A ad g σ H) (hS : va_S A s.heap H locs) (hdg : decode cc pc = .ok (.areturn, 1)) : W p l e R s m args below meth c H locs 0 0 (MQ below (pr_Qr g ad k Q (pr_E D cs A ad g) A) args s 0 0 A) (F0 m pc ls [pr_rv ad k x]) := by
  obtain ⟨hx, hb, -, -, -, -, hr, hlocks⟩ := S
  exact W.aret hx hb hr (Or.inl ⟨_, rfl⟩) (by cases x; exact Or.inl rfl; exact Or.inr ⟨_, rfl⟩) (fun t ht hW => ⟨⟨x, σ, rfl, hlv, h, by show pr_R D cs A ad g σ t.heap; rw [ht]; exact hR⟩, hS.F ht⟩) hS.2.2 hdg hlocks
/-- a cell of an array of references, null or not: two ways -/
theorem pr_ldo (hexec : p.tables.exec = Jvm.exec) (hb : c.code = cc) (hK : pr_K D cs s) (hR : pr_R D cs A ad g σ H) (k : Nat) (hk : k = 80 ∨ k = 81 ∨ k = 82) {n t0 kd cn : Nat} (hn : pr_ln k = n) (hkd : pr_ek k = kd) (hcn : pr_rc g k = cn) {C : String} (ht : (pr_tys cs)[t0]? = some (cs (if k < 84 then k - 78 else 6), .object C)) {x : Int32} (hin : vp_in x n) (hdg : decode cc pc = .ok (.aaload, 1))
    (kn : ¬ x.toNatClampNeg < cn → W p l e R s m args below meth c H locs cells slots Qf (F0 m (pc + 1) ls (.null :: rest)))
    (kk : x.toNatClampNeg < cn → pr_lv g kd x.toNatClampNeg 0 → W p l e R s m args below meth c H locs cells slots Qf (F0 m (pc + 1) ls (.ref (ad kd x.toNatClampNeg 0) :: rest))) : W p l e R s m args below meth c H locs cells slots Qf (F0 m pc ls (.int x :: .ref (ad k 0 0) :: rest)) := by
  have hl : pr_lv g k 0 0 := by rcases hk with rfl | rfl | rfl <;> exact ⟨by unfold pr_ok; omega, by simp⟩
  subst hkd
  subst hcn
  by_cases e0 : x.toNatClampNeg < pr_rc g k
  · refine pr_ldq hexec hb hK hR hl (by omega) hn rfl ht hin (v := .ref (ad (pr_ek k) x.toNatClampNeg 0)) ?_ hdg (kk e0 ?_)
    · unfold pr_rr
      rw [if_pos e0, if_neg (by omega)]
      rfl
    · rcases hk with rfl | rfl | rfl
      · exact ⟨by unfold pr_ok pr_ek; omega, by simpa [pr_ek, pr_rc] using e0⟩
      · exact ⟨by unfold pr_ok pr_ek; omega, by simpa [pr_ek, pr_rc] using e0⟩
      · exact ⟨by unfold pr_ok pr_ek; omega, by simpa [pr_ek, pr_rc] using e0⟩
  · refine pr_ldq hexec hb hK hR hl (by omega) hn rfl ht hin (v := .null) ?_ hdg (kn e0)
    unfold pr_rr
    rw [if_neg e0]
    rfl
theorem pr_ldp (hexec : p.tables.exec = Jvm.exec) (hb : c.code = cc) (hK : pr_K D cs s) (hR : pr_R D cs A ad g σ H) {i : Nat} (hl : pr_lv g 83 i 0) {x : Int32} (hin : vp_in x 5) (hdg : decode cc pc = .ok (.aaload, 1))
    (kk : pr_lv g 2 i x.toNatClampNeg → W p l e R s m args below meth c H locs cells slots Qf (F0 m (pc + 1) ls (.ref (ad 2 i x.toNatClampNeg) :: rest))) : W p l e R s m args below meth c H locs cells slots Qf (F0 m pc ls (.int x :: .ref (ad 83 i 0) :: rest)) := by
  have hlt : x.toNatClampNeg < 5 := Nat.not_le.mp fun q => hin (Or.inr q)
  refine pr_ldq hexec hb hK hR hl (by omega) (n := 5) rfl rfl (t0 := 5) rfl hin (v := .ref (ad 2 i x.toNatClampNeg)) ?_ hdg (kk ?_)
  · unfold pr_rr
    rw [if_pos (show x.toNatClampNeg < pr_rc g 83 from hlt), if_pos rfl]
    rfl
  · have h2 := hl.2
    simp at h2
    exact ⟨by unfold pr_ok; omega, by simp [h2, hlt]⟩
theorem pr_ldg (hexec : p.tables.exec = Jvm.exec) (hb : c.code = cc) (hK : pr_K D cs s) (hR : pr_R D cs A ad g σ H) (k : Nat) (hk : 84 ≤ k ∧ k < 89) {kd : Nat} (hkd : k - 20 = kd) {x : Int32} (hin : vp_in x 40) (hdg : decode cc pc = .ok (.aaload, 1))
    (kk : pr_lv g kd x.toNatClampNeg 0 → W p l e R s m args below meth c H locs cells slots Qf (F0 m (pc + 1) ls (.ref (ad kd x.toNatClampNeg 0) :: rest))) : W p l e R s m args below meth c H locs cells slots Qf (F0 m pc ls (.int x :: .ref (ad k 0 0) :: rest)) := by
  have hlt : x.toNatClampNeg < 40 := Nat.not_le.mp fun q => hin (Or.inr q)
  have hl : pr_lv g k 0 0 := ⟨by unfold pr_ok; omega, by
    rw [if_neg (by omega), if_neg (by omega), if_neg (by omega), if_neg (by omega), if_neg (by omega)]
    exact ⟨rfl, rfl⟩⟩
  subst hkd
  refine pr_ldq hexec hb hK hR hl (by omega) (n := 40) ?_ rfl (t0 := 6) (ty := .array .int) ?_ hin (v := .ref (ad (k - 20) x.toNatClampNeg 0)) ?_ hdg (kk ?_)
  · unfold pr_ln
    repeat rw [if_neg (by omega)]
  · rw [if_neg (by omega)]
    rfl
  · have e1 : pr_rc g k = 40 := by
      unfold pr_rc
      repeat rw [if_neg (by omega)]
    have e2 : pr_ek k = k - 20 := by
      unfold pr_ek
      repeat rw [if_neg (by omega)]
    unfold pr_rr
    rw [e1, e2, if_pos hlt, if_neg (by omega)]
    rfl
  · refine ⟨by unfold pr_ok; omega, ?_⟩
    rw [if_neg (by omega), if_neg (by omega), if_neg (by omega), if_neg (by omega), if_pos (by omega)]
    exact ⟨hlt, rfl⟩
end PRC
theorem pr_ne {x k : Int32} {n : Int} (hk : k.toInt = n) (h : ¬ x = k) : x.toInt ≠ n := fun q => h (Int32.toInt_inj.mp (q.trans hk.symm))
theorem pr_l1 {g : Nat → Nat} : pr_lv g 1 0 0 := ⟨by unfold pr_ok; omega, by simp⟩
theorem pr_l4 {g : Nat → Nat} : pr_lv g 4 0 0 := ⟨by unfold pr_ok; omega, by simp⟩
theorem pr_l5 {g : Nat → Nat} : pr_lv g 5 0 0 := ⟨by unfold pr_ok; omega, by simp⟩
theorem pr_l7 {g : Nat → Nat} : pr_lv g 7 0 0 := ⟨by unfold pr_ok; omega, by simp⟩
theorem pr_l8 {g : Nat → Nat} : pr_lv g 8 0 0 := ⟨by unfold pr_ok; omega, by simp⟩
theorem pr_l9 {g : Nat → Nat} : pr_lv g 9 0 0 := ⟨by unfold pr_ok; omega, by simp⟩
theorem pr_l20 {g : Nat → Nat} : pr_lv g 20 0 0 := ⟨by unfold pr_ok; omega, by simp⟩
theorem pr_l21 {g : Nat → Nat} : pr_lv g 21 0 0 := ⟨by unfold pr_ok; omega, by simp⟩
theorem pr_l22 {g : Nat → Nat} : pr_lv g 22 0 0 := ⟨by unfold pr_ok; omega, by simp⟩
theorem pr_l23 {g : Nat → Nat} : pr_lv g 23 0 0 := ⟨by unfold pr_ok; omega, by simp⟩
theorem pr_l24 {g : Nat → Nat} : pr_lv g 24 0 0 := ⟨by unfold pr_ok; omega, by simp⟩
theorem pr_l25 {g : Nat → Nat} : pr_lv g 25 0 0 := ⟨by unfold pr_ok; omega, by simp⟩
theorem pr_l26 {g : Nat → Nat} : pr_lv g 26 0 0 := ⟨by unfold pr_ok; omega, by simp⟩
theorem pr_l27 {g : Nat → Nat} : pr_lv g 27 0 0 := ⟨by unfold pr_ok; omega, by simp⟩
theorem pr_l28 {g : Nat → Nat} : pr_lv g 28 0 0 := ⟨by unfold pr_ok; omega, by simp⟩
theorem pr_l29 {g : Nat → Nat} : pr_lv g 29 0 0 := ⟨by unfold pr_ok; omega, by simp⟩
theorem pr_l30 {g : Nat → Nat} : pr_lv g 30 0 0 := ⟨by unfold pr_ok; omega, by simp⟩
theorem pr_l31 {g : Nat → Nat} : pr_lv g 31 0 0 := ⟨by unfold pr_ok; omega, by simp⟩
theorem pr_l32 {g : Nat → Nat} : pr_lv g 32 0 0 := ⟨by unfold pr_ok; omega, by simp⟩
theorem pr_l33 {g : Nat → Nat} : pr_lv g 33 0 0 := ⟨by unfold pr_ok; omega, by simp⟩
theorem pr_l34 {g : Nat → Nat} : pr_lv g 34 0 0 := ⟨by unfold pr_ok; omega, by simp⟩
theorem pr_l35 {g : Nat → Nat} : pr_lv g 35 0 0 := ⟨by unfold pr_ok; omega, by simp⟩
theorem pr_l40 {g : Nat → Nat} : pr_lv g 40 0 0 := ⟨by unfold pr_ok; omega, by simp⟩
theorem pr_l41 {g : Nat → Nat} : pr_lv g 41 0 0 := ⟨by unfold pr_ok; omega, by simp⟩
theorem pr_l42 {g : Nat → Nat} : pr_lv g 42 0 0 := ⟨by unfold pr_ok; omega, by simp⟩
theorem pr_l43 {g : Nat → Nat} : pr_lv g 43 0 0 := ⟨by unfold pr_ok; omega, by simp⟩
theorem pr_l44 {g : Nat → Nat} : pr_lv g 44 0 0 := ⟨by unfold pr_ok; omega, by simp⟩
theorem pr_l45 {g : Nat → Nat} : pr_lv g 45 0 0 := ⟨by unfold pr_ok; omega, by simp⟩
theorem pr_l46 {g : Nat → Nat} : pr_lv g 46 0 0 := ⟨by unfold pr_ok; omega, by simp⟩
theorem pr_l47 {g : Nat → Nat} : pr_lv g 47 0 0 := ⟨by unfold pr_ok; omega, by simp⟩
theorem pr_l48 {g : Nat → Nat} : pr_lv g 48 0 0 := ⟨by unfold pr_ok; omega, by simp⟩
theorem pr_l49 {g : Nat → Nat} : pr_lv g 49 0 0 := ⟨by unfold pr_ok; omega, by simp⟩
theorem pr_l50 {g : Nat → Nat} : pr_lv g 50 0 0 := ⟨by unfold pr_ok; omega, by simp⟩
theorem pr_l51 {g : Nat → Nat} : pr_lv g 51 0 0 := ⟨by unfold pr_ok; omega, by simp⟩
theorem pr_l52 {g : Nat → Nat} : pr_lv g 52 0 0 := ⟨by unfold pr_ok; omega, by simp⟩
theorem pr_l53 {g : Nat → Nat} : pr_lv g 53 0 0 := ⟨by unfold pr_ok; omega, by simp⟩
theorem pr_l54 {g : Nat → Nat} : pr_lv g 54 0 0 := ⟨by unfold pr_ok; omega, by simp⟩
theorem pr_l55 {g : Nat → Nat} : pr_lv g 55 0 0 := ⟨by unfold pr_ok; omega, by simp⟩
theorem pr_l56 {g : Nat → Nat} : pr_lv g 56 0 0 := ⟨by unfold pr_ok; omega, by simp⟩
theorem pr_l57 {g : Nat → Nat} : pr_lv g 57 0 0 := ⟨by unfold pr_ok; omega, by simp⟩
theorem pr_l58 {g : Nat → Nat} : pr_lv g 58 0 0 := ⟨by unfold pr_ok; omega, by simp⟩
theorem pr_l59 {g : Nat → Nat} : pr_lv g 59 0 0 := ⟨by unfold pr_ok; omega, by simp⟩
theorem pr_l60 {g : Nat → Nat} : pr_lv g 60 0 0 := ⟨by unfold pr_ok; omega, by simp⟩
theorem pr_l61 {g : Nat → Nat} : pr_lv g 61 0 0 := ⟨by unfold pr_ok; omega, by simp⟩
theorem pr_l62 {g : Nat → Nat} : pr_lv g 62 0 0 := ⟨by unfold pr_ok; omega, by simp⟩
theorem pr_l63 {g : Nat → Nat} : pr_lv g 63 0 0 := ⟨by unfold pr_ok; omega, by simp⟩
theorem pr_l70 {g : Nat → Nat} : pr_lv g 70 0 0 := ⟨by unfold pr_ok; omega, by simp⟩
theorem pr_l71 {g : Nat → Nat} : pr_lv g 71 0 0 := ⟨by unfold pr_ok; omega, by simp⟩
theorem pr_l80 {g : Nat → Nat} : pr_lv g 80 0 0 := ⟨by unfold pr_ok; omega, by simp⟩
theorem pr_l81 {g : Nat → Nat} : pr_lv g 81 0 0 := ⟨by unfold pr_ok; omega, by simp⟩
theorem pr_l82 {g : Nat → Nat} : pr_lv g 82 0 0 := ⟨by unfold pr_ok; omega, by simp⟩
theorem pr_l84 {g : Nat → Nat} : pr_lv g 84 0 0 := ⟨by unfold pr_ok; omega, by simp⟩
theorem pr_l85 {g : Nat → Nat} : pr_lv g 85 0 0 := ⟨by unfold pr_ok; omega, by simp⟩
theorem pr_l86 {g : Nat → Nat} : pr_lv g 86 0 0 := ⟨by unfold pr_ok; omega, by simp⟩
theorem pr_l87 {g : Nat → Nat} : pr_lv g 87 0 0 := ⟨by unfold pr_ok; omega, by simp⟩
theorem pr_l88 {g : Nat → Nat} : pr_lv g 88 0 0 := ⟨by unfold pr_ok; omega, by simp⟩
theorem pr_l83 {g : Nat → Nat} {i j : Nat} (h : pr_lv g 3 i j) : pr_lv g 83 i 0 := by
  have h2 := h.2
  simp at h2
  exact ⟨by unfold pr_ok; omega, by simp [h2]⟩
theorem gf_RX0_9 {p : Program} {l : Launch} {e : Env} {R : Room} {s : State} {m : MethodId} {args : Array Value} {below : List Frame} {meth : Method} {c : Code} {H : Heap} {locs : List Loc} {cells slots : Nat} {Q : State → Prop} {cc : ByteArray} {pc : Nat} {ls : Array Slot} {rest : List Value} {D : va_G} {cs : Nat → ClassId} {A : Nat → Prop} {ad : pr_Ad} {g : Nat → Nat} {σ : pr_Sg} {nL : Nat} {rt0 : Option FieldType} {i j : Nat} (S : pr_C RX0 cc nL rt0 D cs p s m args meth c) (hR : pr_R D cs A ad g σ H) (hl : pr_lv g 0 i j) (hdg : decode cc pc = .ok (.getfield 9, 3)) (kk : W p l e R s m args below meth c H locs cells slots Q (F0 m (pc + 3) ls (.int (σ 0 i j) :: rest))) : W p l e R s m args below meth c H locs cells slots Q (F0 m pc ls (.ref (ad 0 i j) :: rest)) :=
  pr_get S.1 S.2.1 S.2.2.2.2.1 inlX0 S.2.2.2.1 S.2.2.2.2.2.1 hR hl (by omega) rfl 0 (by omega) (by decide) (pr_in4 _ (List.mem_of_getElem? (i := 5) rfl)) rfl (v := .int (σ 0 i j)) rfl hdg kk
theorem pf_RX0_9 {p : Program} {l : Launch} {e : Env} {R : Room} {s : State} {m : MethodId} {args : Array Value} {below : List Frame} {meth : Method} {c : Code} {H : Heap} {locs : List Loc} {cells slots : Nat} {Q : State → Prop} {cc : ByteArray} {pc : Nat} {ls : Array Slot} {rest : List Value} {D : va_G} {cs : Nat → ClassId} {A : Nat → Prop} {ad : pr_Ad} {g : Nat → Nat} {σ : pr_Sg} {nL : Nat} {rt0 : Option FieldType} {H0 : Heap} {i j : Nat} {v : Int32} (S : pr_C RX0 cc nL rt0 D cs p s m args meth c) (hR : pr_R D cs A ad g σ H) (hS : va_S A H0 H locs) (hl : pr_lv g 0 i j) (hdg : decode cc pc = .ok (.putfield 9, 3)) (kk : ∀ (H1 : Heap) (locs1 : List Loc) (u : pr_Sg), u = pr_up σ 0 i j v → pr_R D cs A ad g u H1 → va_S A H0 H1 locs1 → W p l e R s m args below meth c H1 locs1 cells slots Q (F0 m (pc + 3) ls rest)) : W p l e R s m args below meth c H locs cells slots Q (F0 m pc ls (.int v :: .ref (ad 0 i j) :: rest)) :=
  pr_put S.1 S.2.1 S.2.2.2.2.1 inlX0 tyX0 tyX0_ok nmX0 S.2.2.2.1 S.2.2.2.2.2.1 hR hS hl (by omega) rfl 0 (by omega) (by decide) (by omega) (by decide) (pr_in4 _ (List.mem_of_getElem? (i := 5) rfl)) rfl rfl (by decide +kernel) hdg kk
theorem gf_RX0_15 {p : Program} {l : Launch} {e : Env} {R : Room} {s : State} {m : MethodId} {args : Array Value} {below : List Frame} {meth : Method} {c : Code} {H : Heap} {locs : List Loc} {cells slots : Nat} {Q : State → Prop} {cc : ByteArray} {pc : Nat} {ls : Array Slot} {rest : List Value} {D : va_G} {cs : Nat → ClassId} {A : Nat → Prop} {ad : pr_Ad} {g : Nat → Nat} {σ : pr_Sg} {nL : Nat} {rt0 : Option FieldType} {i j : Nat} (S : pr_C RX0 cc nL rt0 D cs p s m args meth c) (hR : pr_R D cs A ad g σ H) (hl : pr_lv g 0 i j) (hdg : decode cc pc = .ok (.getfield 15, 3)) (kk : W p l e R s m args below meth c H locs cells slots Q (F0 m (pc + 3) ls (.int (σ 1 i j) :: rest))) : W p l e R s m args below meth c H locs cells slots Q (F0 m pc ls (.ref (ad 0 i j) :: rest)) :=
  pr_get S.1 S.2.1 S.2.2.2.2.1 inlX0 S.2.2.2.1 S.2.2.2.2.2.1 hR hl (by omega) rfl 1 (by omega) (by decide) (pr_in4 _ (List.mem_of_getElem? (i := 6) rfl)) rfl (v := .int (σ 1 i j)) rfl hdg kk
theorem pf_RX0_15 {p : Program} {l : Launch} {e : Env} {R : Room} {s : State} {m : MethodId} {args : Array Value} {below : List Frame} {meth : Method} {c : Code} {H : Heap} {locs : List Loc} {cells slots : Nat} {Q : State → Prop} {cc : ByteArray} {pc : Nat} {ls : Array Slot} {rest : List Value} {D : va_G} {cs : Nat → ClassId} {A : Nat → Prop} {ad : pr_Ad} {g : Nat → Nat} {σ : pr_Sg} {nL : Nat} {rt0 : Option FieldType} {H0 : Heap} {i j : Nat} {v : Int32} (S : pr_C RX0 cc nL rt0 D cs p s m args meth c) (hR : pr_R D cs A ad g σ H) (hS : va_S A H0 H locs) (hl : pr_lv g 0 i j) (hdg : decode cc pc = .ok (.putfield 15, 3)) (kk : ∀ (H1 : Heap) (locs1 : List Loc) (u : pr_Sg), u = pr_up σ 1 i j v → pr_R D cs A ad g u H1 → va_S A H0 H1 locs1 → W p l e R s m args below meth c H1 locs1 cells slots Q (F0 m (pc + 3) ls rest)) : W p l e R s m args below meth c H locs cells slots Q (F0 m pc ls (.int v :: .ref (ad 0 i j) :: rest)) :=
  pr_put S.1 S.2.1 S.2.2.2.2.1 inlX0 tyX0 tyX0_ok nmX0 S.2.2.2.1 S.2.2.2.2.2.1 hR hS hl (by omega) rfl 1 (by omega) (by decide) (by omega) (by decide) (pr_in4 _ (List.mem_of_getElem? (i := 6) rfl)) rfl rfl (by decide +kernel) hdg kk
theorem gf_RX0_18 {p : Program} {l : Launch} {e : Env} {R : Room} {s : State} {m : MethodId} {args : Array Value} {below : List Frame} {meth : Method} {c : Code} {H : Heap} {locs : List Loc} {cells slots : Nat} {Q : State → Prop} {cc : ByteArray} {pc : Nat} {ls : Array Slot} {rest : List Value} {D : va_G} {cs : Nat → ClassId} {A : Nat → Prop} {ad : pr_Ad} {g : Nat → Nat} {σ : pr_Sg} {nL : Nat} {rt0 : Option FieldType} {i j : Nat} (S : pr_C RX0 cc nL rt0 D cs p s m args meth c) (hR : pr_R D cs A ad g σ H) (hl : pr_lv g 0 i j) (hdg : decode cc pc = .ok (.getfield 18, 3)) (kk : W p l e R s m args below meth c H locs cells slots Q (F0 m (pc + 3) ls (.int (σ 2 i j) :: rest))) : W p l e R s m args below meth c H locs cells slots Q (F0 m pc ls (.ref (ad 0 i j) :: rest)) :=
  pr_get S.1 S.2.1 S.2.2.2.2.1 inlX0 S.2.2.2.1 S.2.2.2.2.2.1 hR hl (by omega) rfl 2 (by omega) (by decide) (pr_in16 _ (List.mem_of_getElem? (i := 8) rfl)) rfl (v := .int (σ 2 i j)) rfl hdg kk
theorem pf_RX0_18 {p : Program} {l : Launch} {e : Env} {R : Room} {s : State} {m : MethodId} {args : Array Value} {below : List Frame} {meth : Method} {c : Code} {H : Heap} {locs : List Loc} {cells slots : Nat} {Q : State → Prop} {cc : ByteArray} {pc : Nat} {ls : Array Slot} {rest : List Value} {D : va_G} {cs : Nat → ClassId} {A : Nat → Prop} {ad : pr_Ad} {g : Nat → Nat} {σ : pr_Sg} {nL : Nat} {rt0 : Option FieldType} {H0 : Heap} {i j : Nat} {v : Int32} (S : pr_C RX0 cc nL rt0 D cs p s m args meth c) (hR : pr_R D cs A ad g σ H) (hS : va_S A H0 H locs) (hl : pr_lv g 0 i j) (hdg : decode cc pc = .ok (.putfield 18, 3)) (kk : ∀ (H1 : Heap) (locs1 : List Loc) (u : pr_Sg), u = pr_up σ 2 i j v → pr_R D cs A ad g u H1 → va_S A H0 H1 locs1 → W p l e R s m args below meth c H1 locs1 cells slots Q (F0 m (pc + 3) ls rest)) : W p l e R s m args below meth c H locs cells slots Q (F0 m pc ls (.int v :: .ref (ad 0 i j) :: rest)) :=
  pr_put S.1 S.2.1 S.2.2.2.2.1 inlX0 tyX0 tyX0_ok nmX0 S.2.2.2.1 S.2.2.2.2.2.1 hR hS hl (by omega) rfl 2 (by omega) (by decide) (by omega) (by decide) (pr_in16 _ (List.mem_of_getElem? (i := 8) rfl)) rfl rfl (by decide +kernel) hdg kk
theorem gf_RX1_9 {p : Program} {l : Launch} {e : Env} {R : Room} {s : State} {m : MethodId} {args : Array Value} {below : List Frame} {meth : Method} {c : Code} {H : Heap} {locs : List Loc} {cells slots : Nat} {Q : State → Prop} {cc : ByteArray} {pc : Nat} {ls : Array Slot} {rest : List Value} {D : va_G} {cs : Nat → ClassId} {A : Nat → Prop} {ad : pr_Ad} {g : Nat → Nat} {σ : pr_Sg} {nL : Nat} {rt0 : Option FieldType} {i j : Nat} (S : pr_C RX1 cc nL rt0 D cs p s m args meth c) (hR : pr_R D cs A ad g σ H) (hl : pr_lv g 1 i j) (hdg : decode cc pc = .ok (.getfield 9, 3)) (kk : W p l e R s m args below meth c H locs cells slots Q (F0 m (pc + 3) ls (.ref (ad 20 i 0) :: rest))) : W p l e R s m args below meth c H locs cells slots Q (F0 m pc ls (.ref (ad 1 i j) :: rest)) :=
  pr_get S.1 S.2.1 S.2.2.2.2.1 inlX1 S.2.2.2.1 S.2.2.2.2.2.1 hR hl (by omega) rfl 0 (by omega) (by decide) (pr_in2 _ (List.mem_of_getElem? (i := 20) rfl)) rfl (v := .ref (ad 20 i 0)) rfl hdg kk
theorem gf_RX1_15 {p : Program} {l : Launch} {e : Env} {R : Room} {s : State} {m : MethodId} {args : Array Value} {below : List Frame} {meth : Method} {c : Code} {H : Heap} {locs : List Loc} {cells slots : Nat} {Q : State → Prop} {cc : ByteArray} {pc : Nat} {ls : Array Slot} {rest : List Value} {D : va_G} {cs : Nat → ClassId} {A : Nat → Prop} {ad : pr_Ad} {g : Nat → Nat} {σ : pr_Sg} {nL : Nat} {rt0 : Option FieldType} {i j : Nat} (S : pr_C RX1 cc nL rt0 D cs p s m args meth c) (hR : pr_R D cs A ad g σ H) (hl : pr_lv g 1 i j) (hdg : decode cc pc = .ok (.getfield 15, 3)) (kk : W p l e R s m args below meth c H locs cells slots Q (F0 m (pc + 3) ls (.ref (ad 21 i 0) :: rest))) : W p l e R s m args below meth c H locs cells slots Q (F0 m pc ls (.ref (ad 1 i j) :: rest)) :=
  pr_get S.1 S.2.1 S.2.2.2.2.1 inlX1 S.2.2.2.1 S.2.2.2.2.2.1 hR hl (by omega) rfl 1 (by omega) (by decide) (pr_in2 _ (List.mem_of_getElem? (i := 21) rfl)) rfl (v := .ref (ad 21 i 0)) rfl hdg kk
theorem gf_RX1_18 {p : Program} {l : Launch} {e : Env} {R : Room} {s : State} {m : MethodId} {args : Array Value} {below : List Frame} {meth : Method} {c : Code} {H : Heap} {locs : List Loc} {cells slots : Nat} {Q : State → Prop} {cc : ByteArray} {pc : Nat} {ls : Array Slot} {rest : List Value} {D : va_G} {cs : Nat → ClassId} {A : Nat → Prop} {ad : pr_Ad} {g : Nat → Nat} {σ : pr_Sg} {nL : Nat} {rt0 : Option FieldType} {i j : Nat} (S : pr_C RX1 cc nL rt0 D cs p s m args meth c) (hR : pr_R D cs A ad g σ H) (hl : pr_lv g 1 i j) (hdg : decode cc pc = .ok (.getfield 18, 3)) (kk : W p l e R s m args below meth c H locs cells slots Q (F0 m (pc + 3) ls (.ref (ad 22 i 0) :: rest))) : W p l e R s m args below meth c H locs cells slots Q (F0 m pc ls (.ref (ad 1 i j) :: rest)) :=
  pr_get S.1 S.2.1 S.2.2.2.2.1 inlX1 S.2.2.2.1 S.2.2.2.2.2.1 hR hl (by omega) rfl 2 (by omega) (by decide) (pr_in2 _ (List.mem_of_getElem? (i := 22) rfl)) rfl (v := .ref (ad 22 i 0)) rfl hdg kk
theorem gf_RX1_21 {p : Program} {l : Launch} {e : Env} {R : Room} {s : State} {m : MethodId} {args : Array Value} {below : List Frame} {meth : Method} {c : Code} {H : Heap} {locs : List Loc} {cells slots : Nat} {Q : State → Prop} {cc : ByteArray} {pc : Nat} {ls : Array Slot} {rest : List Value} {D : va_G} {cs : Nat → ClassId} {A : Nat → Prop} {ad : pr_Ad} {g : Nat → Nat} {σ : pr_Sg} {nL : Nat} {rt0 : Option FieldType} {i j : Nat} (S : pr_C RX1 cc nL rt0 D cs p s m args meth c) (hR : pr_R D cs A ad g σ H) (hl : pr_lv g 1 i j) (hdg : decode cc pc = .ok (.getfield 21, 3)) (kk : W p l e R s m args below meth c H locs cells slots Q (F0 m (pc + 3) ls (.int (σ 67 i j) :: rest))) : W p l e R s m args below meth c H locs cells slots Q (F0 m pc ls (.ref (ad 1 i j) :: rest)) :=
  pr_get S.1 S.2.1 S.2.2.2.2.1 inlX1 S.2.2.2.1 S.2.2.2.2.2.1 hR hl (by omega) rfl 3 (by omega) (by decide) (pr_in6 _ (List.mem_of_getElem? (i := 7) rfl)) rfl (v := .int (σ 67 i j)) rfl hdg kk
theorem pf_RX1_21 {p : Program} {l : Launch} {e : Env} {R : Room} {s : State} {m : MethodId} {args : Array Value} {below : List Frame} {meth : Method} {c : Code} {H : Heap} {locs : List Loc} {cells slots : Nat} {Q : State → Prop} {cc : ByteArray} {pc : Nat} {ls : Array Slot} {rest : List Value} {D : va_G} {cs : Nat → ClassId} {A : Nat → Prop} {ad : pr_Ad} {g : Nat → Nat} {σ : pr_Sg} {nL : Nat} {rt0 : Option FieldType} {H0 : Heap} {i j : Nat} {v : Int32} (S : pr_C RX1 cc nL rt0 D cs p s m args meth c) (hR : pr_R D cs A ad g σ H) (hS : va_S A H0 H locs) (hl : pr_lv g 1 i j) (hdg : decode cc pc = .ok (.putfield 21, 3)) (kk : ∀ (H1 : Heap) (locs1 : List Loc) (u : pr_Sg), u = pr_up σ 67 i j v → pr_R D cs A ad g u H1 → va_S A H0 H1 locs1 → W p l e R s m args below meth c H1 locs1 cells slots Q (F0 m (pc + 3) ls rest)) : W p l e R s m args below meth c H locs cells slots Q (F0 m pc ls (.int v :: .ref (ad 1 i j) :: rest)) :=
  pr_put S.1 S.2.1 S.2.2.2.2.1 inlX1 tyX1 tyX1_ok nmX1 S.2.2.2.1 S.2.2.2.2.2.1 hR hS hl (by omega) rfl 3 (by omega) (by decide) (by omega) (by decide) (pr_in6 _ (List.mem_of_getElem? (i := 7) rfl)) rfl rfl (by decide +kernel) hdg kk
theorem gf_RX2_9 {p : Program} {l : Launch} {e : Env} {R : Room} {s : State} {m : MethodId} {args : Array Value} {below : List Frame} {meth : Method} {c : Code} {H : Heap} {locs : List Loc} {cells slots : Nat} {Q : State → Prop} {cc : ByteArray} {pc : Nat} {ls : Array Slot} {rest : List Value} {D : va_G} {cs : Nat → ClassId} {A : Nat → Prop} {ad : pr_Ad} {g : Nat → Nat} {σ : pr_Sg} {nL : Nat} {rt0 : Option FieldType} {i j : Nat} (S : pr_C RX2 cc nL rt0 D cs p s m args meth c) (hR : pr_R D cs A ad g σ H) (hl : pr_lv g 2 i j) (hdg : decode cc pc = .ok (.getfield 9, 3)) (kk : W p l e R s m args below meth c H locs cells slots Q (F0 m (pc + 3) ls (.int (σ 128 i j) :: rest))) : W p l e R s m args below meth c H locs cells slots Q (F0 m pc ls (.ref (ad 2 i j) :: rest)) :=
  pr_get S.1 S.2.1 S.2.2.2.2.1 inlX2 S.2.2.2.1 S.2.2.2.2.2.1 hR hl (by omega) rfl 0 (by omega) (by decide) (pr_in9 _ (List.mem_of_getElem? (i := 18) rfl)) rfl (v := .int (σ 128 i j)) rfl hdg kk
theorem gf_RX2_15 {p : Program} {l : Launch} {e : Env} {R : Room} {s : State} {m : MethodId} {args : Array Value} {below : List Frame} {meth : Method} {c : Code} {H : Heap} {locs : List Loc} {cells slots : Nat} {Q : State → Prop} {cc : ByteArray} {pc : Nat} {ls : Array Slot} {rest : List Value} {D : va_G} {cs : Nat → ClassId} {A : Nat → Prop} {ad : pr_Ad} {g : Nat → Nat} {σ : pr_Sg} {nL : Nat} {rt0 : Option FieldType} {i j : Nat} (S : pr_C RX2 cc nL rt0 D cs p s m args meth c) (hR : pr_R D cs A ad g σ H) (hl : pr_lv g 2 i j) (hdg : decode cc pc = .ok (.getfield 15, 3)) (kk : W p l e R s m args below meth c H locs cells slots Q (F0 m (pc + 3) ls (.int (σ 130 i j) :: rest))) : W p l e R s m args below meth c H locs cells slots Q (F0 m pc ls (.ref (ad 2 i j) :: rest)) :=
  pr_get S.1 S.2.1 S.2.2.2.2.1 inlX2 S.2.2.2.1 S.2.2.2.2.2.1 hR hl (by omega) rfl 2 (by omega) (by decide) (pr_in9 _ (List.mem_of_getElem? (i := 19) rfl)) rfl (v := .int (σ 130 i j)) rfl hdg kk
theorem pf_RX2_15 {p : Program} {l : Launch} {e : Env} {R : Room} {s : State} {m : MethodId} {args : Array Value} {below : List Frame} {meth : Method} {c : Code} {H : Heap} {locs : List Loc} {cells slots : Nat} {Q : State → Prop} {cc : ByteArray} {pc : Nat} {ls : Array Slot} {rest : List Value} {D : va_G} {cs : Nat → ClassId} {A : Nat → Prop} {ad : pr_Ad} {g : Nat → Nat} {σ : pr_Sg} {nL : Nat} {rt0 : Option FieldType} {H0 : Heap} {i j : Nat} {v : Int32} (S : pr_C RX2 cc nL rt0 D cs p s m args meth c) (hR : pr_R D cs A ad g σ H) (hS : va_S A H0 H locs) (hl : pr_lv g 2 i j) (hdg : decode cc pc = .ok (.putfield 15, 3)) (kk : ∀ (H1 : Heap) (locs1 : List Loc) (u : pr_Sg), u = pr_up σ 130 i j v → pr_R D cs A ad g u H1 → va_S A H0 H1 locs1 → W p l e R s m args below meth c H1 locs1 cells slots Q (F0 m (pc + 3) ls rest)) : W p l e R s m args below meth c H locs cells slots Q (F0 m pc ls (.int v :: .ref (ad 2 i j) :: rest)) :=
  pr_put S.1 S.2.1 S.2.2.2.2.1 inlX2 tyX2 tyX2_ok nmX2 S.2.2.2.1 S.2.2.2.2.2.1 hR hS hl (by omega) rfl 2 (by omega) (by decide) (by omega) (by decide) (pr_in9 _ (List.mem_of_getElem? (i := 19) rfl)) rfl rfl (by decide +kernel) hdg kk
theorem gf_RX2_18 {p : Program} {l : Launch} {e : Env} {R : Room} {s : State} {m : MethodId} {args : Array Value} {below : List Frame} {meth : Method} {c : Code} {H : Heap} {locs : List Loc} {cells slots : Nat} {Q : State → Prop} {cc : ByteArray} {pc : Nat} {ls : Array Slot} {rest : List Value} {D : va_G} {cs : Nat → ClassId} {A : Nat → Prop} {ad : pr_Ad} {g : Nat → Nat} {σ : pr_Sg} {nL : Nat} {rt0 : Option FieldType} {i j : Nat} (S : pr_C RX2 cc nL rt0 D cs p s m args meth c) (hR : pr_R D cs A ad g σ H) (hl : pr_lv g 2 i j) (hdg : decode cc pc = .ok (.getfield 18, 3)) (kk : W p l e R s m args below meth c H locs cells slots Q (F0 m (pc + 3) ls (.int (σ 131 i j) :: rest))) : W p l e R s m args below meth c H locs cells slots Q (F0 m pc ls (.ref (ad 2 i j) :: rest)) :=
  pr_get S.1 S.2.1 S.2.2.2.2.1 inlX2 S.2.2.2.1 S.2.2.2.2.2.1 hR hl (by omega) rfl 3 (by omega) (by decide) (pr_in9 _ (List.mem_of_getElem? (i := 20) rfl)) rfl (v := .int (σ 131 i j)) rfl hdg kk
theorem pf_RX2_18 {p : Program} {l : Launch} {e : Env} {R : Room} {s : State} {m : MethodId} {args : Array Value} {below : List Frame} {meth : Method} {c : Code} {H : Heap} {locs : List Loc} {cells slots : Nat} {Q : State → Prop} {cc : ByteArray} {pc : Nat} {ls : Array Slot} {rest : List Value} {D : va_G} {cs : Nat → ClassId} {A : Nat → Prop} {ad : pr_Ad} {g : Nat → Nat} {σ : pr_Sg} {nL : Nat} {rt0 : Option FieldType} {H0 : Heap} {i j : Nat} {v : Int32} (S : pr_C RX2 cc nL rt0 D cs p s m args meth c) (hR : pr_R D cs A ad g σ H) (hS : va_S A H0 H locs) (hl : pr_lv g 2 i j) (hdg : decode cc pc = .ok (.putfield 18, 3)) (kk : ∀ (H1 : Heap) (locs1 : List Loc) (u : pr_Sg), u = pr_up σ 131 i j v → pr_R D cs A ad g u H1 → va_S A H0 H1 locs1 → W p l e R s m args below meth c H1 locs1 cells slots Q (F0 m (pc + 3) ls rest)) : W p l e R s m args below meth c H locs cells slots Q (F0 m pc ls (.int v :: .ref (ad 2 i j) :: rest)) :=
  pr_put S.1 S.2.1 S.2.2.2.2.1 inlX2 tyX2 tyX2_ok nmX2 S.2.2.2.1 S.2.2.2.2.2.1 hR hS hl (by omega) rfl 3 (by omega) (by decide) (by omega) (by decide) (pr_in9 _ (List.mem_of_getElem? (i := 20) rfl)) rfl rfl (by decide +kernel) hdg kk
theorem gf_RX2_21 {p : Program} {l : Launch} {e : Env} {R : Room} {s : State} {m : MethodId} {args : Array Value} {below : List Frame} {meth : Method} {c : Code} {H : Heap} {locs : List Loc} {cells slots : Nat} {Q : State → Prop} {cc : ByteArray} {pc : Nat} {ls : Array Slot} {rest : List Value} {D : va_G} {cs : Nat → ClassId} {A : Nat → Prop} {ad : pr_Ad} {g : Nat → Nat} {σ : pr_Sg} {nL : Nat} {rt0 : Option FieldType} {i j : Nat} (S : pr_C RX2 cc nL rt0 D cs p s m args meth c) (hR : pr_R D cs A ad g σ H) (hl : pr_lv g 2 i j) (hdg : decode cc pc = .ok (.getfield 21, 3)) (kk : W p l e R s m args below meth c H locs cells slots Q (F0 m (pc + 3) ls (.int (σ 132 i j) :: rest))) : W p l e R s m args below meth c H locs cells slots Q (F0 m pc ls (.ref (ad 2 i j) :: rest)) :=
  pr_get S.1 S.2.1 S.2.2.2.2.1 inlX2 S.2.2.2.1 S.2.2.2.2.2.1 hR hl (by omega) rfl 4 (by omega) (by decide) (pr_in9 _ (List.mem_of_getElem? (i := 21) rfl)) rfl (v := .int (σ 132 i j)) rfl hdg kk
theorem pf_RX2_21 {p : Program} {l : Launch} {e : Env} {R : Room} {s : State} {m : MethodId} {args : Array Value} {below : List Frame} {meth : Method} {c : Code} {H : Heap} {locs : List Loc} {cells slots : Nat} {Q : State → Prop} {cc : ByteArray} {pc : Nat} {ls : Array Slot} {rest : List Value} {D : va_G} {cs : Nat → ClassId} {A : Nat → Prop} {ad : pr_Ad} {g : Nat → Nat} {σ : pr_Sg} {nL : Nat} {rt0 : Option FieldType} {H0 : Heap} {i j : Nat} {v : Int32} (S : pr_C RX2 cc nL rt0 D cs p s m args meth c) (hR : pr_R D cs A ad g σ H) (hS : va_S A H0 H locs) (hl : pr_lv g 2 i j) (hdg : decode cc pc = .ok (.putfield 21, 3)) (kk : ∀ (H1 : Heap) (locs1 : List Loc) (u : pr_Sg), u = pr_up σ 132 i j v → pr_R D cs A ad g u H1 → va_S A H0 H1 locs1 → W p l e R s m args below meth c H1 locs1 cells slots Q (F0 m (pc + 3) ls rest)) : W p l e R s m args below meth c H locs cells slots Q (F0 m pc ls (.int v :: .ref (ad 2 i j) :: rest)) :=
  pr_put S.1 S.2.1 S.2.2.2.2.1 inlX2 tyX2 tyX2_ok nmX2 S.2.2.2.1 S.2.2.2.2.2.1 hR hS hl (by omega) rfl 4 (by omega) (by decide) (by omega) (by decide) (pr_in9 _ (List.mem_of_getElem? (i := 21) rfl)) rfl rfl (by decide +kernel) hdg kk
theorem gf_RX2_24 {p : Program} {l : Launch} {e : Env} {R : Room} {s : State} {m : MethodId} {args : Array Value} {below : List Frame} {meth : Method} {c : Code} {H : Heap} {locs : List Loc} {cells slots : Nat} {Q : State → Prop} {cc : ByteArray} {pc : Nat} {ls : Array Slot} {rest : List Value} {D : va_G} {cs : Nat → ClassId} {A : Nat → Prop} {ad : pr_Ad} {g : Nat → Nat} {σ : pr_Sg} {nL : Nat} {rt0 : Option FieldType} {i j : Nat} (S : pr_C RX2 cc nL rt0 D cs p s m args meth c) (hR : pr_R D cs A ad g σ H) (hl : pr_lv g 2 i j) (hdg : decode cc pc = .ok (.getfield 24, 3)) (kk : W p l e R s m args below meth c H locs cells slots Q (F0 m (pc + 3) ls (.int (σ 129 i j) :: rest))) : W p l e R s m args below meth c H locs cells slots Q (F0 m pc ls (.ref (ad 2 i j) :: rest)) :=
  pr_get S.1 S.2.1 S.2.2.2.2.1 inlX2 S.2.2.2.1 S.2.2.2.2.2.1 hR hl (by omega) rfl 1 (by omega) (by decide) (pr_in15 _ (List.mem_of_getElem? (i := 23) rfl)) rfl (v := .int (σ 129 i j)) rfl hdg kk
theorem pf_RX2_24 {p : Program} {l : Launch} {e : Env} {R : Room} {s : State} {m : MethodId} {args : Array Value} {below : List Frame} {meth : Method} {c : Code} {H : Heap} {locs : List Loc} {cells slots : Nat} {Q : State → Prop} {cc : ByteArray} {pc : Nat} {ls : Array Slot} {rest : List Value} {D : va_G} {cs : Nat → ClassId} {A : Nat → Prop} {ad : pr_Ad} {g : Nat → Nat} {σ : pr_Sg} {nL : Nat} {rt0 : Option FieldType} {H0 : Heap} {i j : Nat} {v : Int32} (S : pr_C RX2 cc nL rt0 D cs p s m args meth c) (hR : pr_R D cs A ad g σ H) (hS : va_S A H0 H locs) (hl : pr_lv g 2 i j) (hdg : decode cc pc = .ok (.putfield 24, 3)) (kk : ∀ (H1 : Heap) (locs1 : List Loc) (u : pr_Sg), u = pr_up σ 129 i j v → pr_R D cs A ad g u H1 → va_S A H0 H1 locs1 → W p l e R s m args below meth c H1 locs1 cells slots Q (F0 m (pc + 3) ls rest)) : W p l e R s m args below meth c H locs cells slots Q (F0 m pc ls (.int v :: .ref (ad 2 i j) :: rest)) :=
  pr_put S.1 S.2.1 S.2.2.2.2.1 inlX2 tyX2 tyX2_ok nmX2 S.2.2.2.1 S.2.2.2.2.2.1 hR hS hl (by omega) rfl 1 (by omega) (by decide) (by omega) (by decide) (pr_in15 _ (List.mem_of_getElem? (i := 23) rfl)) rfl rfl (by decide +kernel) hdg kk
theorem gf_RX3_9 {p : Program} {l : Launch} {e : Env} {R : Room} {s : State} {m : MethodId} {args : Array Value} {below : List Frame} {meth : Method} {c : Code} {H : Heap} {locs : List Loc} {cells slots : Nat} {Q : State → Prop} {cc : ByteArray} {pc : Nat} {ls : Array Slot} {rest : List Value} {D : va_G} {cs : Nat → ClassId} {A : Nat → Prop} {ad : pr_Ad} {g : Nat → Nat} {σ : pr_Sg} {nL : Nat} {rt0 : Option FieldType} {i j : Nat} (S : pr_C RX3 cc nL rt0 D cs p s m args meth c) (hR : pr_R D cs A ad g σ H) (hl : pr_lv g 3 i j) (hdg : decode cc pc = .ok (.getfield 9, 3)) (kk : W p l e R s m args below meth c H locs cells slots Q (F0 m (pc + 3) ls (.int (σ 192 i j) :: rest))) : W p l e R s m args below meth c H locs cells slots Q (F0 m pc ls (.ref (ad 3 i j) :: rest)) :=
  pr_get S.1 S.2.1 S.2.2.2.2.1 inlX3 S.2.2.2.1 S.2.2.2.2.2.1 hR hl (by omega) rfl 0 (by omega) (by decide) (pr_in9 _ (List.mem_of_getElem? (i := 3) rfl)) rfl (v := .int (σ 192 i j)) rfl hdg kk
theorem gf_RX3_15 {p : Program} {l : Launch} {e : Env} {R : Room} {s : State} {m : MethodId} {args : Array Value} {below : List Frame} {meth : Method} {c : Code} {H : Heap} {locs : List Loc} {cells slots : Nat} {Q : State → Prop} {cc : ByteArray} {pc : Nat} {ls : Array Slot} {rest : List Value} {D : va_G} {cs : Nat → ClassId} {A : Nat → Prop} {ad : pr_Ad} {g : Nat → Nat} {σ : pr_Sg} {nL : Nat} {rt0 : Option FieldType} {i j : Nat} (S : pr_C RX3 cc nL rt0 D cs p s m args meth c) (hR : pr_R D cs A ad g σ H) (hl : pr_lv g 3 i j) (hdg : decode cc pc = .ok (.getfield 15, 3)) (kk : W p l e R s m args below meth c H locs cells slots Q (F0 m (pc + 3) ls (.int (σ 193 i j) :: rest))) : W p l e R s m args below meth c H locs cells slots Q (F0 m pc ls (.ref (ad 3 i j) :: rest)) :=
  pr_get S.1 S.2.1 S.2.2.2.2.1 inlX3 S.2.2.2.1 S.2.2.2.2.2.1 hR hl (by omega) rfl 1 (by omega) (by decide) (pr_in9 _ (List.mem_of_getElem? (i := 4) rfl)) rfl (v := .int (σ 193 i j)) rfl hdg kk
theorem gf_RX3_18 {p : Program} {l : Launch} {e : Env} {R : Room} {s : State} {m : MethodId} {args : Array Value} {below : List Frame} {meth : Method} {c : Code} {H : Heap} {locs : List Loc} {cells slots : Nat} {Q : State → Prop} {cc : ByteArray} {pc : Nat} {ls : Array Slot} {rest : List Value} {D : va_G} {cs : Nat → ClassId} {A : Nat → Prop} {ad : pr_Ad} {g : Nat → Nat} {σ : pr_Sg} {nL : Nat} {rt0 : Option FieldType} {i j : Nat} (S : pr_C RX3 cc nL rt0 D cs p s m args meth c) (hR : pr_R D cs A ad g σ H) (hl : pr_lv g 3 i j) (hdg : decode cc pc = .ok (.getfield 18, 3)) (kk : W p l e R s m args below meth c H locs cells slots Q (F0 m (pc + 3) ls (.int (σ 194 i j) :: rest))) : W p l e R s m args below meth c H locs cells slots Q (F0 m pc ls (.ref (ad 3 i j) :: rest)) :=
  pr_get S.1 S.2.1 S.2.2.2.2.1 inlX3 S.2.2.2.1 S.2.2.2.2.2.1 hR hl (by omega) rfl 2 (by omega) (by decide) (pr_in9 _ (List.mem_of_getElem? (i := 5) rfl)) rfl (v := .int (σ 194 i j)) rfl hdg kk
theorem gf_RX3_21 {p : Program} {l : Launch} {e : Env} {R : Room} {s : State} {m : MethodId} {args : Array Value} {below : List Frame} {meth : Method} {c : Code} {H : Heap} {locs : List Loc} {cells slots : Nat} {Q : State → Prop} {cc : ByteArray} {pc : Nat} {ls : Array Slot} {rest : List Value} {D : va_G} {cs : Nat → ClassId} {A : Nat → Prop} {ad : pr_Ad} {g : Nat → Nat} {σ : pr_Sg} {nL : Nat} {rt0 : Option FieldType} {i j : Nat} (S : pr_C RX3 cc nL rt0 D cs p s m args meth c) (hR : pr_R D cs A ad g σ H) (hl : pr_lv g 3 i j) (hdg : decode cc pc = .ok (.getfield 21, 3)) (kk : W p l e R s m args below meth c H locs cells slots Q (F0 m (pc + 3) ls (.int (σ 195 i j) :: rest))) : W p l e R s m args below meth c H locs cells slots Q (F0 m pc ls (.ref (ad 3 i j) :: rest)) :=
  pr_get S.1 S.2.1 S.2.2.2.2.1 inlX3 S.2.2.2.1 S.2.2.2.2.2.1 hR hl (by omega) rfl 3 (by omega) (by decide) (pr_in9 _ (List.mem_of_getElem? (i := 6) rfl)) rfl (v := .int (σ 195 i j)) rfl hdg kk
theorem gf_RX3_26 {p : Program} {l : Launch} {e : Env} {R : Room} {s : State} {m : MethodId} {args : Array Value} {below : List Frame} {meth : Method} {c : Code} {H : Heap} {locs : List Loc} {cells slots : Nat} {Q : State → Prop} {cc : ByteArray} {pc : Nat} {ls : Array Slot} {rest : List Value} {D : va_G} {cs : Nat → ClassId} {A : Nat → Prop} {ad : pr_Ad} {g : Nat → Nat} {σ : pr_Sg} {nL : Nat} {rt0 : Option FieldType} {i j : Nat} (S : pr_C RX3 cc nL rt0 D cs p s m args meth c) (hR : pr_R D cs A ad g σ H) (hl : pr_lv g 3 i j) (hdg : decode cc pc = .ok (.getfield 26, 3)) (kk : W p l e R s m args below meth c H locs cells slots Q (F0 m (pc + 3) ls (.ref (ad 83 i 0) :: rest))) : W p l e R s m args below meth c H locs cells slots Q (F0 m pc ls (.ref (ad 3 i j) :: rest)) :=
  pr_get S.1 S.2.1 S.2.2.2.2.1 inlX3 S.2.2.2.1 S.2.2.2.2.2.1 hR hl (by omega) rfl 4 (by omega) (by decide) (pr_in9 _ (List.mem_of_getElem? (i := 8) rfl)) rfl (v := .ref (ad 83 i 0)) rfl hdg kk
theorem gf_RX3_33 {p : Program} {l : Launch} {e : Env} {R : Room} {s : State} {m : MethodId} {args : Array Value} {below : List Frame} {meth : Method} {c : Code} {H : Heap} {locs : List Loc} {cells slots : Nat} {Q : State → Prop} {cc : ByteArray} {pc : Nat} {ls : Array Slot} {rest : List Value} {D : va_G} {cs : Nat → ClassId} {A : Nat → Prop} {ad : pr_Ad} {g : Nat → Nat} {σ : pr_Sg} {nL : Nat} {rt0 : Option FieldType} {i j : Nat} (S : pr_C RX3 cc nL rt0 D cs p s m args meth c) (hR : pr_R D cs A ad g σ H) (hl : pr_lv g 3 i j) (hdg : decode cc pc = .ok (.getfield 33, 3)) (kk : W p l e R s m args below meth c H locs cells slots Q (F0 m (pc + 3) ls (.int (σ 198 i j) :: rest))) : W p l e R s m args below meth c H locs cells slots Q (F0 m pc ls (.ref (ad 3 i j) :: rest)) :=
  pr_get S.1 S.2.1 S.2.2.2.2.1 inlX3 S.2.2.2.1 S.2.2.2.2.2.1 hR hl (by omega) rfl 6 (by omega) (by decide) (pr_in9 _ (List.mem_of_getElem? (i := 11) rfl)) rfl (v := .int (σ 198 i j)) rfl hdg kk
theorem pf_RX3_33 {p : Program} {l : Launch} {e : Env} {R : Room} {s : State} {m : MethodId} {args : Array Value} {below : List Frame} {meth : Method} {c : Code} {H : Heap} {locs : List Loc} {cells slots : Nat} {Q : State → Prop} {cc : ByteArray} {pc : Nat} {ls : Array Slot} {rest : List Value} {D : va_G} {cs : Nat → ClassId} {A : Nat → Prop} {ad : pr_Ad} {g : Nat → Nat} {σ : pr_Sg} {nL : Nat} {rt0 : Option FieldType} {H0 : Heap} {i j : Nat} {v : Int32} (S : pr_C RX3 cc nL rt0 D cs p s m args meth c) (hR : pr_R D cs A ad g σ H) (hS : va_S A H0 H locs) (hl : pr_lv g 3 i j) (hdg : decode cc pc = .ok (.putfield 33, 3)) (kk : ∀ (H1 : Heap) (locs1 : List Loc) (u : pr_Sg), u = pr_up σ 198 i j v → pr_R D cs A ad g u H1 → va_S A H0 H1 locs1 → W p l e R s m args below meth c H1 locs1 cells slots Q (F0 m (pc + 3) ls rest)) : W p l e R s m args below meth c H locs cells slots Q (F0 m pc ls (.int v :: .ref (ad 3 i j) :: rest)) :=
  pr_put S.1 S.2.1 S.2.2.2.2.1 inlX3 tyX3 tyX3_ok nmX3 S.2.2.2.1 S.2.2.2.2.2.1 hR hS hl (by omega) rfl 6 (by omega) (by decide) (by omega) (by decide) (pr_in9 _ (List.mem_of_getElem? (i := 11) rfl)) rfl rfl (by decide +kernel) hdg kk
theorem gf_RX3_36 {p : Program} {l : Launch} {e : Env} {R : Room} {s : State} {m : MethodId} {args : Array Value} {below : List Frame} {meth : Method} {c : Code} {H : Heap} {locs : List Loc} {cells slots : Nat} {Q : State → Prop} {cc : ByteArray} {pc : Nat} {ls : Array Slot} {rest : List Value} {D : va_G} {cs : Nat → ClassId} {A : Nat → Prop} {ad : pr_Ad} {g : Nat → Nat} {σ : pr_Sg} {nL : Nat} {rt0 : Option FieldType} {i j : Nat} (S : pr_C RX3 cc nL rt0 D cs p s m args meth c) (hR : pr_R D cs A ad g σ H) (hl : pr_lv g 3 i j) (hdg : decode cc pc = .ok (.getfield 36, 3)) (kk : W p l e R s m args below meth c H locs cells slots Q (F0 m (pc + 3) ls (.int (σ 197 i j) :: rest))) : W p l e R s m args below meth c H locs cells slots Q (F0 m pc ls (.ref (ad 3 i j) :: rest)) :=
  pr_get S.1 S.2.1 S.2.2.2.2.1 inlX3 S.2.2.2.1 S.2.2.2.2.2.1 hR hl (by omega) rfl 5 (by omega) (by decide) (pr_in9 _ (List.mem_of_getElem? (i := 12) rfl)) rfl (v := .int (σ 197 i j)) rfl hdg kk
theorem pf_RX3_36 {p : Program} {l : Launch} {e : Env} {R : Room} {s : State} {m : MethodId} {args : Array Value} {below : List Frame} {meth : Method} {c : Code} {H : Heap} {locs : List Loc} {cells slots : Nat} {Q : State → Prop} {cc : ByteArray} {pc : Nat} {ls : Array Slot} {rest : List Value} {D : va_G} {cs : Nat → ClassId} {A : Nat → Prop} {ad : pr_Ad} {g : Nat → Nat} {σ : pr_Sg} {nL : Nat} {rt0 : Option FieldType} {H0 : Heap} {i j : Nat} {v : Int32} (S : pr_C RX3 cc nL rt0 D cs p s m args meth c) (hR : pr_R D cs A ad g σ H) (hS : va_S A H0 H locs) (hl : pr_lv g 3 i j) (hdg : decode cc pc = .ok (.putfield 36, 3)) (kk : ∀ (H1 : Heap) (locs1 : List Loc) (u : pr_Sg), u = pr_up σ 197 i j v → pr_R D cs A ad g u H1 → va_S A H0 H1 locs1 → W p l e R s m args below meth c H1 locs1 cells slots Q (F0 m (pc + 3) ls rest)) : W p l e R s m args below meth c H locs cells slots Q (F0 m pc ls (.int v :: .ref (ad 3 i j) :: rest)) :=
  pr_put S.1 S.2.1 S.2.2.2.2.1 inlX3 tyX3 tyX3_ok nmX3 S.2.2.2.1 S.2.2.2.2.2.1 hR hS hl (by omega) rfl 5 (by omega) (by decide) (by omega) (by decide) (pr_in9 _ (List.mem_of_getElem? (i := 12) rfl)) rfl rfl (by decide +kernel) hdg kk
theorem gf_RX3_39 {p : Program} {l : Launch} {e : Env} {R : Room} {s : State} {m : MethodId} {args : Array Value} {below : List Frame} {meth : Method} {c : Code} {H : Heap} {locs : List Loc} {cells slots : Nat} {Q : State → Prop} {cc : ByteArray} {pc : Nat} {ls : Array Slot} {rest : List Value} {D : va_G} {cs : Nat → ClassId} {A : Nat → Prop} {ad : pr_Ad} {g : Nat → Nat} {σ : pr_Sg} {nL : Nat} {rt0 : Option FieldType} {i j : Nat} (S : pr_C RX3 cc nL rt0 D cs p s m args meth c) (hR : pr_R D cs A ad g σ H) (hl : pr_lv g 3 i j) (hdg : decode cc pc = .ok (.getfield 39, 3)) (kk : W p l e R s m args below meth c H locs cells slots Q (F0 m (pc + 3) ls (.int (σ 201 i j) :: rest))) : W p l e R s m args below meth c H locs cells slots Q (F0 m pc ls (.ref (ad 3 i j) :: rest)) :=
  pr_get S.1 S.2.1 S.2.2.2.2.1 inlX3 S.2.2.2.1 S.2.2.2.2.2.1 hR hl (by omega) rfl 9 (by omega) (by decide) (pr_in9 _ (List.mem_of_getElem? (i := 13) rfl)) rfl (v := .int (σ 201 i j)) rfl hdg kk
theorem pf_RX3_39 {p : Program} {l : Launch} {e : Env} {R : Room} {s : State} {m : MethodId} {args : Array Value} {below : List Frame} {meth : Method} {c : Code} {H : Heap} {locs : List Loc} {cells slots : Nat} {Q : State → Prop} {cc : ByteArray} {pc : Nat} {ls : Array Slot} {rest : List Value} {D : va_G} {cs : Nat → ClassId} {A : Nat → Prop} {ad : pr_Ad} {g : Nat → Nat} {σ : pr_Sg} {nL : Nat} {rt0 : Option FieldType} {H0 : Heap} {i j : Nat} {v : Int32} (S : pr_C RX3 cc nL rt0 D cs p s m args meth c) (hR : pr_R D cs A ad g σ H) (hS : va_S A H0 H locs) (hl : pr_lv g 3 i j) (hdg : decode cc pc = .ok (.putfield 39, 3)) (kk : ∀ (H1 : Heap) (locs1 : List Loc) (u : pr_Sg), u = pr_up σ 201 i j v → pr_R D cs A ad g u H1 → va_S A H0 H1 locs1 → W p l e R s m args below meth c H1 locs1 cells slots Q (F0 m (pc + 3) ls rest)) : W p l e R s m args below meth c H locs cells slots Q (F0 m pc ls (.int v :: .ref (ad 3 i j) :: rest)) :=
  pr_put S.1 S.2.1 S.2.2.2.2.1 inlX3 tyX3 tyX3_ok nmX3 S.2.2.2.1 S.2.2.2.2.2.1 hR hS hl (by omega) rfl 9 (by omega) (by decide) (by omega) (by decide) (pr_in9 _ (List.mem_of_getElem? (i := 13) rfl)) rfl rfl (by decide +kernel) hdg kk
theorem gf_RX4_9 {p : Program} {l : Launch} {e : Env} {R : Room} {s : State} {m : MethodId} {args : Array Value} {below : List Frame} {meth : Method} {c : Code} {H : Heap} {locs : List Loc} {cells slots : Nat} {Q : State → Prop} {cc : ByteArray} {pc : Nat} {ls : Array Slot} {rest : List Value} {D : va_G} {cs : Nat → ClassId} {A : Nat → Prop} {ad : pr_Ad} {g : Nat → Nat} {σ : pr_Sg} {nL : Nat} {rt0 : Option FieldType} {i j : Nat} (S : pr_C RX4 cc nL rt0 D cs p s m args meth c) (hR : pr_R D cs A ad g σ H) (hl : pr_lv g 4 i j) (hdg : decode cc pc = .ok (.getfield 9, 3)) (kk : W p l e R s m args below meth c H locs cells slots Q (F0 m (pc + 3) ls (.ref (ad 30 i 0) :: rest))) : W p l e R s m args below meth c H locs cells slots Q (F0 m pc ls (.ref (ad 4 i j) :: rest)) :=
  pr_get S.1 S.2.1 S.2.2.2.2.1 inlX4 S.2.2.2.1 S.2.2.2.2.2.1 hR hl (by omega) rfl 0 (by omega) (by decide) (pr_in3 _ (List.mem_of_getElem? (i := 19) rfl)) rfl (v := .ref (ad 30 i 0)) rfl hdg kk
theorem gf_RX4_15 {p : Program} {l : Launch} {e : Env} {R : Room} {s : State} {m : MethodId} {args : Array Value} {below : List Frame} {meth : Method} {c : Code} {H : Heap} {locs : List Loc} {cells slots : Nat} {Q : State → Prop} {cc : ByteArray} {pc : Nat} {ls : Array Slot} {rest : List Value} {D : va_G} {cs : Nat → ClassId} {A : Nat → Prop} {ad : pr_Ad} {g : Nat → Nat} {σ : pr_Sg} {nL : Nat} {rt0 : Option FieldType} {i j : Nat} (S : pr_C RX4 cc nL rt0 D cs p s m args meth c) (hR : pr_R D cs A ad g σ H) (hl : pr_lv g 4 i j) (hdg : decode cc pc = .ok (.getfield 15, 3)) (kk : W p l e R s m args below meth c H locs cells slots Q (F0 m (pc + 3) ls (.ref (ad 31 i 0) :: rest))) : W p l e R s m args below meth c H locs cells slots Q (F0 m pc ls (.ref (ad 4 i j) :: rest)) :=
  pr_get S.1 S.2.1 S.2.2.2.2.1 inlX4 S.2.2.2.1 S.2.2.2.2.2.1 hR hl (by omega) rfl 1 (by omega) (by decide) (pr_in3 _ (List.mem_of_getElem? (i := 20) rfl)) rfl (v := .ref (ad 31 i 0)) rfl hdg kk
theorem gf_RX4_18 {p : Program} {l : Launch} {e : Env} {R : Room} {s : State} {m : MethodId} {args : Array Value} {below : List Frame} {meth : Method} {c : Code} {H : Heap} {locs : List Loc} {cells slots : Nat} {Q : State → Prop} {cc : ByteArray} {pc : Nat} {ls : Array Slot} {rest : List Value} {D : va_G} {cs : Nat → ClassId} {A : Nat → Prop} {ad : pr_Ad} {g : Nat → Nat} {σ : pr_Sg} {nL : Nat} {rt0 : Option FieldType} {i j : Nat} (S : pr_C RX4 cc nL rt0 D cs p s m args meth c) (hR : pr_R D cs A ad g σ H) (hl : pr_lv g 4 i j) (hdg : decode cc pc = .ok (.getfield 18, 3)) (kk : W p l e R s m args below meth c H locs cells slots Q (F0 m (pc + 3) ls (.ref (ad 32 i 0) :: rest))) : W p l e R s m args below meth c H locs cells slots Q (F0 m pc ls (.ref (ad 4 i j) :: rest)) :=
  pr_get S.1 S.2.1 S.2.2.2.2.1 inlX4 S.2.2.2.1 S.2.2.2.2.2.1 hR hl (by omega) rfl 2 (by omega) (by decide) (pr_in3 _ (List.mem_of_getElem? (i := 21) rfl)) rfl (v := .ref (ad 32 i 0)) rfl hdg kk
theorem gf_RX4_21 {p : Program} {l : Launch} {e : Env} {R : Room} {s : State} {m : MethodId} {args : Array Value} {below : List Frame} {meth : Method} {c : Code} {H : Heap} {locs : List Loc} {cells slots : Nat} {Q : State → Prop} {cc : ByteArray} {pc : Nat} {ls : Array Slot} {rest : List Value} {D : va_G} {cs : Nat → ClassId} {A : Nat → Prop} {ad : pr_Ad} {g : Nat → Nat} {σ : pr_Sg} {nL : Nat} {rt0 : Option FieldType} {i j : Nat} (S : pr_C RX4 cc nL rt0 D cs p s m args meth c) (hR : pr_R D cs A ad g σ H) (hl : pr_lv g 4 i j) (hdg : decode cc pc = .ok (.getfield 21, 3)) (kk : W p l e R s m args below meth c H locs cells slots Q (F0 m (pc + 3) ls (.ref (ad 33 i 0) :: rest))) : W p l e R s m args below meth c H locs cells slots Q (F0 m pc ls (.ref (ad 4 i j) :: rest)) :=
  pr_get S.1 S.2.1 S.2.2.2.2.1 inlX4 S.2.2.2.1 S.2.2.2.2.2.1 hR hl (by omega) rfl 3 (by omega) (by decide) (pr_in3 _ (List.mem_of_getElem? (i := 22) rfl)) rfl (v := .ref (ad 33 i 0)) rfl hdg kk
theorem gf_RX4_24 {p : Program} {l : Launch} {e : Env} {R : Room} {s : State} {m : MethodId} {args : Array Value} {below : List Frame} {meth : Method} {c : Code} {H : Heap} {locs : List Loc} {cells slots : Nat} {Q : State → Prop} {cc : ByteArray} {pc : Nat} {ls : Array Slot} {rest : List Value} {D : va_G} {cs : Nat → ClassId} {A : Nat → Prop} {ad : pr_Ad} {g : Nat → Nat} {σ : pr_Sg} {nL : Nat} {rt0 : Option FieldType} {i j : Nat} (S : pr_C RX4 cc nL rt0 D cs p s m args meth c) (hR : pr_R D cs A ad g σ H) (hl : pr_lv g 4 i j) (hdg : decode cc pc = .ok (.getfield 24, 3)) (kk : W p l e R s m args below meth c H locs cells slots Q (F0 m (pc + 3) ls (.ref (ad 34 i 0) :: rest))) : W p l e R s m args below meth c H locs cells slots Q (F0 m pc ls (.ref (ad 4 i j) :: rest)) :=
  pr_get S.1 S.2.1 S.2.2.2.2.1 inlX4 S.2.2.2.1 S.2.2.2.2.2.1 hR hl (by omega) rfl 4 (by omega) (by decide) (pr_in3 _ (List.mem_of_getElem? (i := 23) rfl)) rfl (v := .ref (ad 34 i 0)) rfl hdg kk
theorem gf_RX4_27 {p : Program} {l : Launch} {e : Env} {R : Room} {s : State} {m : MethodId} {args : Array Value} {below : List Frame} {meth : Method} {c : Code} {H : Heap} {locs : List Loc} {cells slots : Nat} {Q : State → Prop} {cc : ByteArray} {pc : Nat} {ls : Array Slot} {rest : List Value} {D : va_G} {cs : Nat → ClassId} {A : Nat → Prop} {ad : pr_Ad} {g : Nat → Nat} {σ : pr_Sg} {nL : Nat} {rt0 : Option FieldType} {i j : Nat} (S : pr_C RX4 cc nL rt0 D cs p s m args meth c) (hR : pr_R D cs A ad g σ H) (hl : pr_lv g 4 i j) (hdg : decode cc pc = .ok (.getfield 27, 3)) (kk : W p l e R s m args below meth c H locs cells slots Q (F0 m (pc + 3) ls (.ref (ad 35 i 0) :: rest))) : W p l e R s m args below meth c H locs cells slots Q (F0 m pc ls (.ref (ad 4 i j) :: rest)) :=
  pr_get S.1 S.2.1 S.2.2.2.2.1 inlX4 S.2.2.2.1 S.2.2.2.2.2.1 hR hl (by omega) rfl 5 (by omega) (by decide) (pr_in4 _ (List.mem_of_getElem? (i := 0) rfl)) rfl (v := .ref (ad 35 i 0)) rfl hdg kk
theorem gf_RX4_30 {p : Program} {l : Launch} {e : Env} {R : Room} {s : State} {m : MethodId} {args : Array Value} {below : List Frame} {meth : Method} {c : Code} {H : Heap} {locs : List Loc} {cells slots : Nat} {Q : State → Prop} {cc : ByteArray} {pc : Nat} {ls : Array Slot} {rest : List Value} {D : va_G} {cs : Nat → ClassId} {A : Nat → Prop} {ad : pr_Ad} {g : Nat → Nat} {σ : pr_Sg} {nL : Nat} {rt0 : Option FieldType} {i j : Nat} (S : pr_C RX4 cc nL rt0 D cs p s m args meth c) (hR : pr_R D cs A ad g σ H) (hl : pr_lv g 4 i j) (hdg : decode cc pc = .ok (.getfield 30, 3)) (kk : W p l e R s m args below meth c H locs cells slots Q (F0 m (pc + 3) ls (.int (σ 262 i j) :: rest))) : W p l e R s m args below meth c H locs cells slots Q (F0 m pc ls (.ref (ad 4 i j) :: rest)) :=
  pr_get S.1 S.2.1 S.2.2.2.2.1 inlX4 S.2.2.2.1 S.2.2.2.2.2.1 hR hl (by omega) rfl 6 (by omega) (by decide) (pr_in19 _ (List.mem_of_getElem? (i := 17) rfl)) rfl (v := .int (σ 262 i j)) rfl hdg kk
theorem pf_RX4_30 {p : Program} {l : Launch} {e : Env} {R : Room} {s : State} {m : MethodId} {args : Array Value} {below : List Frame} {meth : Method} {c : Code} {H : Heap} {locs : List Loc} {cells slots : Nat} {Q : State → Prop} {cc : ByteArray} {pc : Nat} {ls : Array Slot} {rest : List Value} {D : va_G} {cs : Nat → ClassId} {A : Nat → Prop} {ad : pr_Ad} {g : Nat → Nat} {σ : pr_Sg} {nL : Nat} {rt0 : Option FieldType} {H0 : Heap} {i j : Nat} {v : Int32} (S : pr_C RX4 cc nL rt0 D cs p s m args meth c) (hR : pr_R D cs A ad g σ H) (hS : va_S A H0 H locs) (hl : pr_lv g 4 i j) (hdg : decode cc pc = .ok (.putfield 30, 3)) (kk : ∀ (H1 : Heap) (locs1 : List Loc) (u : pr_Sg), u = pr_up σ 262 i j v → pr_R D cs A ad g u H1 → va_S A H0 H1 locs1 → W p l e R s m args below meth c H1 locs1 cells slots Q (F0 m (pc + 3) ls rest)) : W p l e R s m args below meth c H locs cells slots Q (F0 m pc ls (.int v :: .ref (ad 4 i j) :: rest)) :=
  pr_put S.1 S.2.1 S.2.2.2.2.1 inlX4 tyX4 tyX4_ok nmX4 S.2.2.2.1 S.2.2.2.2.2.1 hR hS hl (by omega) rfl 6 (by omega) (by decide) (by omega) (by decide) (pr_in19 _ (List.mem_of_getElem? (i := 17) rfl)) rfl rfl (by decide +kernel) hdg kk
theorem gf_RX4_34 {p : Program} {l : Launch} {e : Env} {R : Room} {s : State} {m : MethodId} {args : Array Value} {below : List Frame} {meth : Method} {c : Code} {H : Heap} {locs : List Loc} {cells slots : Nat} {Q : State → Prop} {cc : ByteArray} {pc : Nat} {ls : Array Slot} {rest : List Value} {D : va_G} {cs : Nat → ClassId} {A : Nat → Prop} {ad : pr_Ad} {g : Nat → Nat} {σ : pr_Sg} {nL : Nat} {rt0 : Option FieldType} {i j : Nat} (S : pr_C RX4 cc nL rt0 D cs p s m args meth c) (hR : pr_R D cs A ad g σ H) (hl : pr_lv g 4 i j) (hdg : decode cc pc = .ok (.getfield 34, 3)) (kk : W p l e R s m args below meth c H locs cells slots Q (F0 m (pc + 3) ls (.int (σ 263 i j) :: rest))) : W p l e R s m args below meth c H locs cells slots Q (F0 m pc ls (.ref (ad 4 i j) :: rest)) :=
  pr_get S.1 S.2.1 S.2.2.2.2.1 inlX4 S.2.2.2.1 S.2.2.2.2.2.1 hR hl (by omega) rfl 7 (by omega) (by decide) (pr_in19 _ (List.mem_of_getElem? (i := 18) rfl)) rfl (v := .int (σ 263 i j)) rfl hdg kk
theorem pf_RX4_34 {p : Program} {l : Launch} {e : Env} {R : Room} {s : State} {m : MethodId} {args : Array Value} {below : List Frame} {meth : Method} {c : Code} {H : Heap} {locs : List Loc} {cells slots : Nat} {Q : State → Prop} {cc : ByteArray} {pc : Nat} {ls : Array Slot} {rest : List Value} {D : va_G} {cs : Nat → ClassId} {A : Nat → Prop} {ad : pr_Ad} {g : Nat → Nat} {σ : pr_Sg} {nL : Nat} {rt0 : Option FieldType} {H0 : Heap} {i j : Nat} {v : Int32} (S : pr_C RX4 cc nL rt0 D cs p s m args meth c) (hR : pr_R D cs A ad g σ H) (hS : va_S A H0 H locs) (hl : pr_lv g 4 i j) (hdg : decode cc pc = .ok (.putfield 34, 3)) (kk : ∀ (H1 : Heap) (locs1 : List Loc) (u : pr_Sg), u = pr_up σ 263 i j v → pr_R D cs A ad g u H1 → va_S A H0 H1 locs1 → W p l e R s m args below meth c H1 locs1 cells slots Q (F0 m (pc + 3) ls rest)) : W p l e R s m args below meth c H locs cells slots Q (F0 m pc ls (.int v :: .ref (ad 4 i j) :: rest)) :=
  pr_put S.1 S.2.1 S.2.2.2.2.1 inlX4 tyX4 tyX4_ok nmX4 S.2.2.2.1 S.2.2.2.2.2.1 hR hS hl (by omega) rfl 7 (by omega) (by decide) (by omega) (by decide) (pr_in19 _ (List.mem_of_getElem? (i := 18) rfl)) rfl rfl (by decide +kernel) hdg kk
theorem gf_RX4_37 {p : Program} {l : Launch} {e : Env} {R : Room} {s : State} {m : MethodId} {args : Array Value} {below : List Frame} {meth : Method} {c : Code} {H : Heap} {locs : List Loc} {cells slots : Nat} {Q : State → Prop} {cc : ByteArray} {pc : Nat} {ls : Array Slot} {rest : List Value} {D : va_G} {cs : Nat → ClassId} {A : Nat → Prop} {ad : pr_Ad} {g : Nat → Nat} {σ : pr_Sg} {nL : Nat} {rt0 : Option FieldType} {i j : Nat} (S : pr_C RX4 cc nL rt0 D cs p s m args meth c) (hR : pr_R D cs A ad g σ H) (hl : pr_lv g 4 i j) (hdg : decode cc pc = .ok (.getfield 37, 3)) (kk : W p l e R s m args below meth c H locs cells slots Q (F0 m (pc + 3) ls (.int (σ 264 i j) :: rest))) : W p l e R s m args below meth c H locs cells slots Q (F0 m pc ls (.ref (ad 4 i j) :: rest)) :=
  pr_get S.1 S.2.1 S.2.2.2.2.1 inlX4 S.2.2.2.1 S.2.2.2.2.2.1 hR hl (by omega) rfl 8 (by omega) (by decide) (pr_in19 _ (List.mem_of_getElem? (i := 19) rfl)) rfl (v := .int (σ 264 i j)) rfl hdg kk
theorem pf_RX4_37 {p : Program} {l : Launch} {e : Env} {R : Room} {s : State} {m : MethodId} {args : Array Value} {below : List Frame} {meth : Method} {c : Code} {H : Heap} {locs : List Loc} {cells slots : Nat} {Q : State → Prop} {cc : ByteArray} {pc : Nat} {ls : Array Slot} {rest : List Value} {D : va_G} {cs : Nat → ClassId} {A : Nat → Prop} {ad : pr_Ad} {g : Nat → Nat} {σ : pr_Sg} {nL : Nat} {rt0 : Option FieldType} {H0 : Heap} {i j : Nat} {v : Int32} (S : pr_C RX4 cc nL rt0 D cs p s m args meth c) (hR : pr_R D cs A ad g σ H) (hS : va_S A H0 H locs) (hl : pr_lv g 4 i j) (hdg : decode cc pc = .ok (.putfield 37, 3)) (kk : ∀ (H1 : Heap) (locs1 : List Loc) (u : pr_Sg), u = pr_up σ 264 i j v → pr_R D cs A ad g u H1 → va_S A H0 H1 locs1 → W p l e R s m args below meth c H1 locs1 cells slots Q (F0 m (pc + 3) ls rest)) : W p l e R s m args below meth c H locs cells slots Q (F0 m pc ls (.int v :: .ref (ad 4 i j) :: rest)) :=
  pr_put S.1 S.2.1 S.2.2.2.2.1 inlX4 tyX4 tyX4_ok nmX4 S.2.2.2.1 S.2.2.2.2.2.1 hR hS hl (by omega) rfl 8 (by omega) (by decide) (by omega) (by decide) (pr_in19 _ (List.mem_of_getElem? (i := 19) rfl)) rfl rfl (by decide +kernel) hdg kk
theorem gf_RX5_9 {p : Program} {l : Launch} {e : Env} {R : Room} {s : State} {m : MethodId} {args : Array Value} {below : List Frame} {meth : Method} {c : Code} {H : Heap} {locs : List Loc} {cells slots : Nat} {Q : State → Prop} {cc : ByteArray} {pc : Nat} {ls : Array Slot} {rest : List Value} {D : va_G} {cs : Nat → ClassId} {A : Nat → Prop} {ad : pr_Ad} {g : Nat → Nat} {σ : pr_Sg} {nL : Nat} {rt0 : Option FieldType} {i j : Nat} (S : pr_C RX5 cc nL rt0 D cs p s m args meth c) (hR : pr_R D cs A ad g σ H) (hl : pr_lv g 5 i j) (hdg : decode cc pc = .ok (.getfield 9, 3)) (kk : W p l e R s m args below meth c H locs cells slots Q (F0 m (pc + 3) ls (.ref (ad 28 i 0) :: rest))) : W p l e R s m args below meth c H locs cells slots Q (F0 m pc ls (.ref (ad 5 i j) :: rest)) :=
  pr_get S.1 S.2.1 S.2.2.2.2.1 inlX5 S.2.2.2.1 S.2.2.2.2.2.1 hR hl (by omega) rfl 0 (by omega) (by decide) (pr_in3 _ (List.mem_of_getElem? (i := 13) rfl)) rfl (v := .ref (ad 28 i 0)) rfl hdg kk
theorem gf_RX5_15 {p : Program} {l : Launch} {e : Env} {R : Room} {s : State} {m : MethodId} {args : Array Value} {below : List Frame} {meth : Method} {c : Code} {H : Heap} {locs : List Loc} {cells slots : Nat} {Q : State → Prop} {cc : ByteArray} {pc : Nat} {ls : Array Slot} {rest : List Value} {D : va_G} {cs : Nat → ClassId} {A : Nat → Prop} {ad : pr_Ad} {g : Nat → Nat} {σ : pr_Sg} {nL : Nat} {rt0 : Option FieldType} {i j : Nat} (S : pr_C RX5 cc nL rt0 D cs p s m args meth c) (hR : pr_R D cs A ad g σ H) (hl : pr_lv g 5 i j) (hdg : decode cc pc = .ok (.getfield 15, 3)) (kk : W p l e R s m args below meth c H locs cells slots Q (F0 m (pc + 3) ls (.ref (ad 29 i 0) :: rest))) : W p l e R s m args below meth c H locs cells slots Q (F0 m pc ls (.ref (ad 5 i j) :: rest)) :=
  pr_get S.1 S.2.1 S.2.2.2.2.1 inlX5 S.2.2.2.1 S.2.2.2.2.2.1 hR hl (by omega) rfl 1 (by omega) (by decide) (pr_in3 _ (List.mem_of_getElem? (i := 14) rfl)) rfl (v := .ref (ad 29 i 0)) rfl hdg kk
theorem gf_RX6_7 {p : Program} {l : Launch} {e : Env} {R : Room} {s : State} {m : MethodId} {args : Array Value} {below : List Frame} {meth : Method} {c : Code} {H : Heap} {locs : List Loc} {cells slots : Nat} {Q : State → Prop} {cc : ByteArray} {pc : Nat} {ls : Array Slot} {rest : List Value} {D : va_G} {cs : Nat → ClassId} {A : Nat → Prop} {ad : pr_Ad} {g : Nat → Nat} {σ : pr_Sg} {nL : Nat} {rt0 : Option FieldType} {i j : Nat} (S : pr_C RX6 cc nL rt0 D cs p s m args meth c) (hR : pr_R D cs A ad g σ H) (hl : pr_lv g 6 i j) (hdg : decode cc pc = .ok (.getfield 7, 3)) (kk : W p l e R s m args below meth c H locs cells slots Q (F0 m (pc + 3) ls (.int (σ 384 i j) :: rest))) : W p l e R s m args below meth c H locs cells slots Q (F0 m pc ls (.ref (ad 6 i j) :: rest)) :=
  pr_get S.1 S.2.1 S.2.2.2.2.1 inlX6 S.2.2.2.1 S.2.2.2.2.2.1 hR hl (by omega) rfl 0 (by omega) (by decide) (pr_in7 _ (List.mem_of_getElem? (i := 19) rfl)) rfl (v := .int (σ 384 i j)) rfl hdg kk
theorem gf_RX6_13 {p : Program} {l : Launch} {e : Env} {R : Room} {s : State} {m : MethodId} {args : Array Value} {below : List Frame} {meth : Method} {c : Code} {H : Heap} {locs : List Loc} {cells slots : Nat} {Q : State → Prop} {cc : ByteArray} {pc : Nat} {ls : Array Slot} {rest : List Value} {D : va_G} {cs : Nat → ClassId} {A : Nat → Prop} {ad : pr_Ad} {g : Nat → Nat} {σ : pr_Sg} {nL : Nat} {rt0 : Option FieldType} {i j : Nat} (S : pr_C RX6 cc nL rt0 D cs p s m args meth c) (hR : pr_R D cs A ad g σ H) (hl : pr_lv g 6 i j) (hdg : decode cc pc = .ok (.getfield 13, 3)) (kk : W p l e R s m args below meth c H locs cells slots Q (F0 m (pc + 3) ls (.int (σ 385 i j) :: rest))) : W p l e R s m args below meth c H locs cells slots Q (F0 m pc ls (.ref (ad 6 i j) :: rest)) :=
  pr_get S.1 S.2.1 S.2.2.2.2.1 inlX6 S.2.2.2.1 S.2.2.2.2.2.1 hR hl (by omega) rfl 1 (by omega) (by decide) (pr_in7 _ (List.mem_of_getElem? (i := 20) rfl)) rfl (v := .int (σ 385 i j)) rfl hdg kk
theorem gf_RX7_9 {p : Program} {l : Launch} {e : Env} {R : Room} {s : State} {m : MethodId} {args : Array Value} {below : List Frame} {meth : Method} {c : Code} {H : Heap} {locs : List Loc} {cells slots : Nat} {Q : State → Prop} {cc : ByteArray} {pc : Nat} {ls : Array Slot} {rest : List Value} {D : va_G} {cs : Nat → ClassId} {A : Nat → Prop} {ad : pr_Ad} {g : Nat → Nat} {σ : pr_Sg} {nL : Nat} {rt0 : Option FieldType} {i j : Nat} (S : pr_C RX7 cc nL rt0 D cs p s m args meth c) (hR : pr_R D cs A ad g σ H) (hl : pr_lv g 7 i j) (hdg : decode cc pc = .ok (.getfield 9, 3)) (kk : W p l e R s m args below meth c H locs cells slots Q (F0 m (pc + 3) ls (.ref (ad 24 i 0) :: rest))) : W p l e R s m args below meth c H locs cells slots Q (F0 m pc ls (.ref (ad 7 i j) :: rest)) :=
  pr_get S.1 S.2.1 S.2.2.2.2.1 inlX7 S.2.2.2.1 S.2.2.2.2.2.1 hR hl (by omega) rfl 0 (by omega) (by decide) (pr_in3 _ (List.mem_of_getElem? (i := 3) rfl)) rfl (v := .ref (ad 24 i 0)) rfl hdg kk
theorem gf_RX7_15 {p : Program} {l : Launch} {e : Env} {R : Room} {s : State} {m : MethodId} {args : Array Value} {below : List Frame} {meth : Method} {c : Code} {H : Heap} {locs : List Loc} {cells slots : Nat} {Q : State → Prop} {cc : ByteArray} {pc : Nat} {ls : Array Slot} {rest : List Value} {D : va_G} {cs : Nat → ClassId} {A : Nat → Prop} {ad : pr_Ad} {g : Nat → Nat} {σ : pr_Sg} {nL : Nat} {rt0 : Option FieldType} {i j : Nat} (S : pr_C RX7 cc nL rt0 D cs p s m args meth c) (hR : pr_R D cs A ad g σ H) (hl : pr_lv g 7 i j) (hdg : decode cc pc = .ok (.getfield 15, 3)) (kk : W p l e R s m args below meth c H locs cells slots Q (F0 m (pc + 3) ls (.ref (ad 25 i 0) :: rest))) : W p l e R s m args below meth c H locs cells slots Q (F0 m pc ls (.ref (ad 7 i j) :: rest)) :=
  pr_get S.1 S.2.1 S.2.2.2.2.1 inlX7 S.2.2.2.1 S.2.2.2.2.2.1 hR hl (by omega) rfl 1 (by omega) (by decide) (pr_in3 _ (List.mem_of_getElem? (i := 4) rfl)) rfl (v := .ref (ad 25 i 0)) rfl hdg kk
theorem gf_RX7_18 {p : Program} {l : Launch} {e : Env} {R : Room} {s : State} {m : MethodId} {args : Array Value} {below : List Frame} {meth : Method} {c : Code} {H : Heap} {locs : List Loc} {cells slots : Nat} {Q : State → Prop} {cc : ByteArray} {pc : Nat} {ls : Array Slot} {rest : List Value} {D : va_G} {cs : Nat → ClassId} {A : Nat → Prop} {ad : pr_Ad} {g : Nat → Nat} {σ : pr_Sg} {nL : Nat} {rt0 : Option FieldType} {i j : Nat} (S : pr_C RX7 cc nL rt0 D cs p s m args meth c) (hR : pr_R D cs A ad g σ H) (hl : pr_lv g 7 i j) (hdg : decode cc pc = .ok (.getfield 18, 3)) (kk : W p l e R s m args below meth c H locs cells slots Q (F0 m (pc + 3) ls (.ref (ad 26 i 0) :: rest))) : W p l e R s m args below meth c H locs cells slots Q (F0 m pc ls (.ref (ad 7 i j) :: rest)) :=
  pr_get S.1 S.2.1 S.2.2.2.2.1 inlX7 S.2.2.2.1 S.2.2.2.2.2.1 hR hl (by omega) rfl 2 (by omega) (by decide) (pr_in3 _ (List.mem_of_getElem? (i := 5) rfl)) rfl (v := .ref (ad 26 i 0)) rfl hdg kk
theorem gf_RX7_21 {p : Program} {l : Launch} {e : Env} {R : Room} {s : State} {m : MethodId} {args : Array Value} {below : List Frame} {meth : Method} {c : Code} {H : Heap} {locs : List Loc} {cells slots : Nat} {Q : State → Prop} {cc : ByteArray} {pc : Nat} {ls : Array Slot} {rest : List Value} {D : va_G} {cs : Nat → ClassId} {A : Nat → Prop} {ad : pr_Ad} {g : Nat → Nat} {σ : pr_Sg} {nL : Nat} {rt0 : Option FieldType} {i j : Nat} (S : pr_C RX7 cc nL rt0 D cs p s m args meth c) (hR : pr_R D cs A ad g σ H) (hl : pr_lv g 7 i j) (hdg : decode cc pc = .ok (.getfield 21, 3)) (kk : W p l e R s m args below meth c H locs cells slots Q (F0 m (pc + 3) ls (.ref (ad 27 i 0) :: rest))) : W p l e R s m args below meth c H locs cells slots Q (F0 m pc ls (.ref (ad 7 i j) :: rest)) :=
  pr_get S.1 S.2.1 S.2.2.2.2.1 inlX7 S.2.2.2.1 S.2.2.2.2.2.1 hR hl (by omega) rfl 3 (by omega) (by decide) (pr_in3 _ (List.mem_of_getElem? (i := 6) rfl)) rfl (v := .ref (ad 27 i 0)) rfl hdg kk
theorem gf_RX7_24 {p : Program} {l : Launch} {e : Env} {R : Room} {s : State} {m : MethodId} {args : Array Value} {below : List Frame} {meth : Method} {c : Code} {H : Heap} {locs : List Loc} {cells slots : Nat} {Q : State → Prop} {cc : ByteArray} {pc : Nat} {ls : Array Slot} {rest : List Value} {D : va_G} {cs : Nat → ClassId} {A : Nat → Prop} {ad : pr_Ad} {g : Nat → Nat} {σ : pr_Sg} {nL : Nat} {rt0 : Option FieldType} {i j : Nat} (S : pr_C RX7 cc nL rt0 D cs p s m args meth c) (hR : pr_R D cs A ad g σ H) (hl : pr_lv g 7 i j) (hdg : decode cc pc = .ok (.getfield 24, 3)) (kk : W p l e R s m args below meth c H locs cells slots Q (F0 m (pc + 3) ls (.ref (ad 70 i 0) :: rest))) : W p l e R s m args below meth c H locs cells slots Q (F0 m pc ls (.ref (ad 7 i j) :: rest)) :=
  pr_get S.1 S.2.1 S.2.2.2.2.1 inlX7 S.2.2.2.1 S.2.2.2.2.2.1 hR hl (by omega) rfl 4 (by omega) (by decide) (pr_in3 _ (List.mem_of_getElem? (i := 8) rfl)) rfl (v := .ref (ad 70 i 0)) rfl hdg kk
theorem gf_RX7_28 {p : Program} {l : Launch} {e : Env} {R : Room} {s : State} {m : MethodId} {args : Array Value} {below : List Frame} {meth : Method} {c : Code} {H : Heap} {locs : List Loc} {cells slots : Nat} {Q : State → Prop} {cc : ByteArray} {pc : Nat} {ls : Array Slot} {rest : List Value} {D : va_G} {cs : Nat → ClassId} {A : Nat → Prop} {ad : pr_Ad} {g : Nat → Nat} {σ : pr_Sg} {nL : Nat} {rt0 : Option FieldType} {i j : Nat} (S : pr_C RX7 cc nL rt0 D cs p s m args meth c) (hR : pr_R D cs A ad g σ H) (hl : pr_lv g 7 i j) (hdg : decode cc pc = .ok (.getfield 28, 3)) (kk : W p l e R s m args below meth c H locs cells slots Q (F0 m (pc + 3) ls (.int (σ 453 i j) :: rest))) : W p l e R s m args below meth c H locs cells slots Q (F0 m pc ls (.ref (ad 7 i j) :: rest)) :=
  pr_get S.1 S.2.1 S.2.2.2.2.1 inlX7 S.2.2.2.1 S.2.2.2.2.2.1 hR hl (by omega) rfl 5 (by omega) (by decide) (pr_in12 _ (List.mem_of_getElem? (i := 23) rfl)) rfl (v := .int (σ 453 i j)) rfl hdg kk
theorem pf_RX7_28 {p : Program} {l : Launch} {e : Env} {R : Room} {s : State} {m : MethodId} {args : Array Value} {below : List Frame} {meth : Method} {c : Code} {H : Heap} {locs : List Loc} {cells slots : Nat} {Q : State → Prop} {cc : ByteArray} {pc : Nat} {ls : Array Slot} {rest : List Value} {D : va_G} {cs : Nat → ClassId} {A : Nat → Prop} {ad : pr_Ad} {g : Nat → Nat} {σ : pr_Sg} {nL : Nat} {rt0 : Option FieldType} {H0 : Heap} {i j : Nat} {v : Int32} (S : pr_C RX7 cc nL rt0 D cs p s m args meth c) (hR : pr_R D cs A ad g σ H) (hS : va_S A H0 H locs) (hl : pr_lv g 7 i j) (hdg : decode cc pc = .ok (.putfield 28, 3)) (kk : ∀ (H1 : Heap) (locs1 : List Loc) (u : pr_Sg), u = pr_up σ 453 i j v → pr_R D cs A ad g u H1 → va_S A H0 H1 locs1 → W p l e R s m args below meth c H1 locs1 cells slots Q (F0 m (pc + 3) ls rest)) : W p l e R s m args below meth c H locs cells slots Q (F0 m pc ls (.int v :: .ref (ad 7 i j) :: rest)) :=
  pr_put S.1 S.2.1 S.2.2.2.2.1 inlX7 tyX7 tyX7_ok nmX7 S.2.2.2.1 S.2.2.2.2.2.1 hR hS hl (by omega) rfl 5 (by omega) (by decide) (by omega) (by decide) (pr_in12 _ (List.mem_of_getElem? (i := 23) rfl)) rfl rfl (by decide +kernel) hdg kk
theorem gf_RX8_12 {p : Program} {l : Launch} {e : Env} {R : Room} {s : State} {m : MethodId} {args : Array Value} {below : List Frame} {meth : Method} {c : Code} {H : Heap} {locs : List Loc} {cells slots : Nat} {Q : State → Prop} {cc : ByteArray} {pc : Nat} {ls : Array Slot} {rest : List Value} {D : va_G} {cs : Nat → ClassId} {A : Nat → Prop} {ad : pr_Ad} {g : Nat → Nat} {σ : pr_Sg} {nL : Nat} {rt0 : Option FieldType} {i j : Nat} (S : pr_C RX8 cc nL rt0 D cs p s m args meth c) (hR : pr_R D cs A ad g σ H) (hl : pr_lv g 8 i j) (hdg : decode cc pc = .ok (.getfield 12, 3)) (kk : W p l e R s m args below meth c H locs cells slots Q (F0 m (pc + 3) ls (.ref (ad 1 i 0) :: rest))) : W p l e R s m args below meth c H locs cells slots Q (F0 m pc ls (.ref (ad 8 i j) :: rest)) :=
  pr_get S.1 S.2.1 S.2.2.2.2.1 inlX8 S.2.2.2.1 S.2.2.2.2.2.1 hR hl (by omega) rfl 0 (by omega) (by decide) (pr_in1 _ (List.mem_of_getElem? (i := 15) rfl)) rfl (v := .ref (ad 1 i 0)) rfl hdg kk
theorem gf_RX8_16 {p : Program} {l : Launch} {e : Env} {R : Room} {s : State} {m : MethodId} {args : Array Value} {below : List Frame} {meth : Method} {c : Code} {H : Heap} {locs : List Loc} {cells slots : Nat} {Q : State → Prop} {cc : ByteArray} {pc : Nat} {ls : Array Slot} {rest : List Value} {D : va_G} {cs : Nat → ClassId} {A : Nat → Prop} {ad : pr_Ad} {g : Nat → Nat} {σ : pr_Sg} {nL : Nat} {rt0 : Option FieldType} {i j : Nat} (S : pr_C RX8 cc nL rt0 D cs p s m args meth c) (hR : pr_R D cs A ad g σ H) (hl : pr_lv g 8 i j) (hdg : decode cc pc = .ok (.getfield 16, 3)) (kk : W p l e R s m args below meth c H locs cells slots Q (F0 m (pc + 3) ls (.ref (ad 23 i 0) :: rest))) : W p l e R s m args below meth c H locs cells slots Q (F0 m pc ls (.ref (ad 8 i j) :: rest)) :=
  pr_get S.1 S.2.1 S.2.2.2.2.1 inlX8 S.2.2.2.1 S.2.2.2.2.2.1 hR hl (by omega) rfl 1 (by omega) (by decide) (pr_in1 _ (List.mem_of_getElem? (i := 17) rfl)) rfl (v := .ref (ad 23 i 0)) rfl hdg kk
theorem gf_RX8_22 {p : Program} {l : Launch} {e : Env} {R : Room} {s : State} {m : MethodId} {args : Array Value} {below : List Frame} {meth : Method} {c : Code} {H : Heap} {locs : List Loc} {cells slots : Nat} {Q : State → Prop} {cc : ByteArray} {pc : Nat} {ls : Array Slot} {rest : List Value} {D : va_G} {cs : Nat → ClassId} {A : Nat → Prop} {ad : pr_Ad} {g : Nat → Nat} {σ : pr_Sg} {nL : Nat} {rt0 : Option FieldType} {i j : Nat} (S : pr_C RX8 cc nL rt0 D cs p s m args meth c) (hR : pr_R D cs A ad g σ H) (hl : pr_lv g 8 i j) (hdg : decode cc pc = .ok (.getfield 22, 3)) (kk : W p l e R s m args below meth c H locs cells slots Q (F0 m (pc + 3) ls (.ref (ad 80 i 0) :: rest))) : W p l e R s m args below meth c H locs cells slots Q (F0 m pc ls (.ref (ad 8 i j) :: rest)) :=
  pr_get S.1 S.2.1 S.2.2.2.2.1 inlX8 S.2.2.2.1 S.2.2.2.2.2.1 hR hl (by omega) rfl 2 (by omega) (by decide) (pr_in1 _ (List.mem_of_getElem? (i := 19) rfl)) rfl (v := .ref (ad 80 i 0)) rfl hdg kk
theorem gf_RX8_28 {p : Program} {l : Launch} {e : Env} {R : Room} {s : State} {m : MethodId} {args : Array Value} {below : List Frame} {meth : Method} {c : Code} {H : Heap} {locs : List Loc} {cells slots : Nat} {Q : State → Prop} {cc : ByteArray} {pc : Nat} {ls : Array Slot} {rest : List Value} {D : va_G} {cs : Nat → ClassId} {A : Nat → Prop} {ad : pr_Ad} {g : Nat → Nat} {σ : pr_Sg} {nL : Nat} {rt0 : Option FieldType} {i j : Nat} (S : pr_C RX8 cc nL rt0 D cs p s m args meth c) (hR : pr_R D cs A ad g σ H) (hl : pr_lv g 8 i j) (hdg : decode cc pc = .ok (.getfield 28, 3)) (kk : W p l e R s m args below meth c H locs cells slots Q (F0 m (pc + 3) ls (.ref (ad 81 i 0) :: rest))) : W p l e R s m args below meth c H locs cells slots Q (F0 m pc ls (.ref (ad 8 i j) :: rest)) :=
  pr_get S.1 S.2.1 S.2.2.2.2.1 inlX8 S.2.2.2.1 S.2.2.2.2.2.1 hR hl (by omega) rfl 3 (by omega) (by decide) (pr_in1 _ (List.mem_of_getElem? (i := 21) rfl)) rfl (v := .ref (ad 81 i 0)) rfl hdg kk
theorem gf_RX8_34 {p : Program} {l : Launch} {e : Env} {R : Room} {s : State} {m : MethodId} {args : Array Value} {below : List Frame} {meth : Method} {c : Code} {H : Heap} {locs : List Loc} {cells slots : Nat} {Q : State → Prop} {cc : ByteArray} {pc : Nat} {ls : Array Slot} {rest : List Value} {D : va_G} {cs : Nat → ClassId} {A : Nat → Prop} {ad : pr_Ad} {g : Nat → Nat} {σ : pr_Sg} {nL : Nat} {rt0 : Option FieldType} {i j : Nat} (S : pr_C RX8 cc nL rt0 D cs p s m args meth c) (hR : pr_R D cs A ad g σ H) (hl : pr_lv g 8 i j) (hdg : decode cc pc = .ok (.getfield 34, 3)) (kk : W p l e R s m args below meth c H locs cells slots Q (F0 m (pc + 3) ls (.ref (ad 82 i 0) :: rest))) : W p l e R s m args below meth c H locs cells slots Q (F0 m pc ls (.ref (ad 8 i j) :: rest)) :=
  pr_get S.1 S.2.1 S.2.2.2.2.1 inlX8 S.2.2.2.1 S.2.2.2.2.2.1 hR hl (by omega) rfl 4 (by omega) (by decide) (pr_in1 _ (List.mem_of_getElem? (i := 23) rfl)) rfl (v := .ref (ad 82 i 0)) rfl hdg kk
theorem gf_RX8_41 {p : Program} {l : Launch} {e : Env} {R : Room} {s : State} {m : MethodId} {args : Array Value} {below : List Frame} {meth : Method} {c : Code} {H : Heap} {locs : List Loc} {cells slots : Nat} {Q : State → Prop} {cc : ByteArray} {pc : Nat} {ls : Array Slot} {rest : List Value} {D : va_G} {cs : Nat → ClassId} {A : Nat → Prop} {ad : pr_Ad} {g : Nat → Nat} {σ : pr_Sg} {nL : Nat} {rt0 : Option FieldType} {i j : Nat} (S : pr_C RX8 cc nL rt0 D cs p s m args meth c) (hR : pr_R D cs A ad g σ H) (hl : pr_lv g 8 i j) (hdg : decode cc pc = .ok (.getfield 41, 3)) (kk : W p l e R s m args below meth c H locs cells slots Q (F0 m (pc + 3) ls (.ref (ad 7 i 0) :: rest))) : W p l e R s m args below meth c H locs cells slots Q (F0 m pc ls (.ref (ad 8 i j) :: rest)) :=
  pr_get S.1 S.2.1 S.2.2.2.2.1 inlX8 S.2.2.2.1 S.2.2.2.2.2.1 hR hl (by omega) rfl 5 (by omega) (by decide) (pr_in2 _ (List.mem_of_getElem? (i := 3) rfl)) rfl (v := .ref (ad 7 i 0)) rfl hdg kk
theorem gf_RX8_48 {p : Program} {l : Launch} {e : Env} {R : Room} {s : State} {m : MethodId} {args : Array Value} {below : List Frame} {meth : Method} {c : Code} {H : Heap} {locs : List Loc} {cells slots : Nat} {Q : State → Prop} {cc : ByteArray} {pc : Nat} {ls : Array Slot} {rest : List Value} {D : va_G} {cs : Nat → ClassId} {A : Nat → Prop} {ad : pr_Ad} {g : Nat → Nat} {σ : pr_Sg} {nL : Nat} {rt0 : Option FieldType} {i j : Nat} (S : pr_C RX8 cc nL rt0 D cs p s m args meth c) (hR : pr_R D cs A ad g σ H) (hl : pr_lv g 8 i j) (hdg : decode cc pc = .ok (.getfield 48, 3)) (kk : W p l e R s m args below meth c H locs cells slots Q (F0 m (pc + 3) ls (.ref (ad 5 i 0) :: rest))) : W p l e R s m args below meth c H locs cells slots Q (F0 m pc ls (.ref (ad 8 i j) :: rest)) :=
  pr_get S.1 S.2.1 S.2.2.2.2.1 inlX8 S.2.2.2.1 S.2.2.2.2.2.1 hR hl (by omega) rfl 6 (by omega) (by decide) (pr_in2 _ (List.mem_of_getElem? (i := 7) rfl)) rfl (v := .ref (ad 5 i 0)) rfl hdg kk
theorem gf_RX8_55 {p : Program} {l : Launch} {e : Env} {R : Room} {s : State} {m : MethodId} {args : Array Value} {below : List Frame} {meth : Method} {c : Code} {H : Heap} {locs : List Loc} {cells slots : Nat} {Q : State → Prop} {cc : ByteArray} {pc : Nat} {ls : Array Slot} {rest : List Value} {D : va_G} {cs : Nat → ClassId} {A : Nat → Prop} {ad : pr_Ad} {g : Nat → Nat} {σ : pr_Sg} {nL : Nat} {rt0 : Option FieldType} {i j : Nat} (S : pr_C RX8 cc nL rt0 D cs p s m args meth c) (hR : pr_R D cs A ad g σ H) (hl : pr_lv g 8 i j) (hdg : decode cc pc = .ok (.getfield 55, 3)) (kk : W p l e R s m args below meth c H locs cells slots Q (F0 m (pc + 3) ls (.ref (ad 4 i 0) :: rest))) : W p l e R s m args below meth c H locs cells slots Q (F0 m pc ls (.ref (ad 8 i j) :: rest)) :=
  pr_get S.1 S.2.1 S.2.2.2.2.1 inlX8 S.2.2.2.1 S.2.2.2.2.2.1 hR hl (by omega) rfl 7 (by omega) (by decide) (pr_in2 _ (List.mem_of_getElem? (i := 11) rfl)) rfl (v := .ref (ad 4 i 0)) rfl hdg kk
theorem gf_RX8_60 {p : Program} {l : Launch} {e : Env} {R : Room} {s : State} {m : MethodId} {args : Array Value} {below : List Frame} {meth : Method} {c : Code} {H : Heap} {locs : List Loc} {cells slots : Nat} {Q : State → Prop} {cc : ByteArray} {pc : Nat} {ls : Array Slot} {rest : List Value} {D : va_G} {cs : Nat → ClassId} {A : Nat → Prop} {ad : pr_Ad} {g : Nat → Nat} {σ : pr_Sg} {nL : Nat} {rt0 : Option FieldType} {i j : Nat} (S : pr_C RX8 cc nL rt0 D cs p s m args meth c) (hR : pr_R D cs A ad g σ H) (hl : pr_lv g 8 i j) (hdg : decode cc pc = .ok (.getfield 60, 3)) (kk : W p l e R s m args below meth c H locs cells slots Q (F0 m (pc + 3) ls (.int (σ 521 i j) :: rest))) : W p l e R s m args below meth c H locs cells slots Q (F0 m pc ls (.ref (ad 8 i j) :: rest)) :=
  pr_get S.1 S.2.1 S.2.2.2.2.1 inlX8 S.2.2.2.1 S.2.2.2.2.2.1 hR hl (by omega) rfl 9 (by omega) (by decide) (pr_in2 _ (List.mem_of_getElem? (i := 14) rfl)) rfl (v := .int (σ 521 i j)) rfl hdg kk
theorem pf_RX8_60 {p : Program} {l : Launch} {e : Env} {R : Room} {s : State} {m : MethodId} {args : Array Value} {below : List Frame} {meth : Method} {c : Code} {H : Heap} {locs : List Loc} {cells slots : Nat} {Q : State → Prop} {cc : ByteArray} {pc : Nat} {ls : Array Slot} {rest : List Value} {D : va_G} {cs : Nat → ClassId} {A : Nat → Prop} {ad : pr_Ad} {g : Nat → Nat} {σ : pr_Sg} {nL : Nat} {rt0 : Option FieldType} {H0 : Heap} {i j : Nat} {v : Int32} (S : pr_C RX8 cc nL rt0 D cs p s m args meth c) (hR : pr_R D cs A ad g σ H) (hS : va_S A H0 H locs) (hl : pr_lv g 8 i j) (hdg : decode cc pc = .ok (.putfield 60, 3)) (kk : ∀ (H1 : Heap) (locs1 : List Loc) (u : pr_Sg), u = pr_up σ 521 i j v → pr_R D cs A ad g u H1 → va_S A H0 H1 locs1 → W p l e R s m args below meth c H1 locs1 cells slots Q (F0 m (pc + 3) ls rest)) : W p l e R s m args below meth c H locs cells slots Q (F0 m pc ls (.int v :: .ref (ad 8 i j) :: rest)) :=
  pr_put S.1 S.2.1 S.2.2.2.2.1 inlX8 tyX8 tyX8_ok nmX8 S.2.2.2.1 S.2.2.2.2.2.1 hR hS hl (by omega) rfl 9 (by omega) (by decide) (by omega) (by decide) (pr_in2 _ (List.mem_of_getElem? (i := 14) rfl)) rfl rfl (by decide +kernel) hdg kk
theorem gf_RX8_64 {p : Program} {l : Launch} {e : Env} {R : Room} {s : State} {m : MethodId} {args : Array Value} {below : List Frame} {meth : Method} {c : Code} {H : Heap} {locs : List Loc} {cells slots : Nat} {Q : State → Prop} {cc : ByteArray} {pc : Nat} {ls : Array Slot} {rest : List Value} {D : va_G} {cs : Nat → ClassId} {A : Nat → Prop} {ad : pr_Ad} {g : Nat → Nat} {σ : pr_Sg} {nL : Nat} {rt0 : Option FieldType} {i j : Nat} (S : pr_C RX8 cc nL rt0 D cs p s m args meth c) (hR : pr_R D cs A ad g σ H) (hl : pr_lv g 8 i j) (hdg : decode cc pc = .ok (.getfield 64, 3)) (kk : W p l e R s m args below meth c H locs cells slots Q (F0 m (pc + 3) ls (.int (σ 528 i j) :: rest))) : W p l e R s m args below meth c H locs cells slots Q (F0 m pc ls (.ref (ad 8 i j) :: rest)) :=
  pr_get S.1 S.2.1 S.2.2.2.2.1 inlX8 S.2.2.2.1 S.2.2.2.2.2.1 hR hl (by omega) rfl 16 (by omega) (by decide) (pr_in2 _ (List.mem_of_getElem? (i := 15) rfl)) rfl (v := .int (σ 528 i j)) rfl hdg kk
theorem pf_RX8_64 {p : Program} {l : Launch} {e : Env} {R : Room} {s : State} {m : MethodId} {args : Array Value} {below : List Frame} {meth : Method} {c : Code} {H : Heap} {locs : List Loc} {cells slots : Nat} {Q : State → Prop} {cc : ByteArray} {pc : Nat} {ls : Array Slot} {rest : List Value} {D : va_G} {cs : Nat → ClassId} {A : Nat → Prop} {ad : pr_Ad} {g : Nat → Nat} {σ : pr_Sg} {nL : Nat} {rt0 : Option FieldType} {H0 : Heap} {i j : Nat} {v : Int32} (S : pr_C RX8 cc nL rt0 D cs p s m args meth c) (hR : pr_R D cs A ad g σ H) (hS : va_S A H0 H locs) (hl : pr_lv g 8 i j) (hdg : decode cc pc = .ok (.putfield 64, 3)) (kk : ∀ (H1 : Heap) (locs1 : List Loc) (u : pr_Sg), u = pr_up σ 528 i j v → pr_R D cs A ad g u H1 → va_S A H0 H1 locs1 → W p l e R s m args below meth c H1 locs1 cells slots Q (F0 m (pc + 3) ls rest)) : W p l e R s m args below meth c H locs cells slots Q (F0 m pc ls (.int v :: .ref (ad 8 i j) :: rest)) :=
  pr_put S.1 S.2.1 S.2.2.2.2.1 inlX8 tyX8 tyX8_ok nmX8 S.2.2.2.1 S.2.2.2.2.2.1 hR hS hl (by omega) rfl 16 (by omega) (by decide) (by omega) (by decide) (pr_in2 _ (List.mem_of_getElem? (i := 15) rfl)) rfl rfl (by decide +kernel) hdg kk
theorem gf_RX8_75 {p : Program} {l : Launch} {e : Env} {R : Room} {s : State} {m : MethodId} {args : Array Value} {below : List Frame} {meth : Method} {c : Code} {H : Heap} {locs : List Loc} {cells slots : Nat} {Q : State → Prop} {cc : ByteArray} {pc : Nat} {ls : Array Slot} {rest : List Value} {D : va_G} {cs : Nat → ClassId} {A : Nat → Prop} {ad : pr_Ad} {g : Nat → Nat} {σ : pr_Sg} {nL : Nat} {rt0 : Option FieldType} {i j : Nat} (S : pr_C RX8 cc nL rt0 D cs p s m args meth c) (hR : pr_R D cs A ad g σ H) (hl : pr_lv g 8 i j) (hdg : decode cc pc = .ok (.getfield 75, 3)) (kk : W p l e R s m args below meth c H locs cells slots Q (F0 m (pc + 3) ls (.int (σ 522 i j) :: rest))) : W p l e R s m args below meth c H locs cells slots Q (F0 m pc ls (.ref (ad 8 i j) :: rest)) :=
  pr_get S.1 S.2.1 S.2.2.2.2.1 inlX8 S.2.2.2.1 S.2.2.2.2.2.1 hR hl (by omega) rfl 10 (by omega) (by decide) (pr_in7 _ (List.mem_of_getElem? (i := 12) rfl)) rfl (v := .int (σ 522 i j)) rfl hdg kk
theorem pf_RX8_75 {p : Program} {l : Launch} {e : Env} {R : Room} {s : State} {m : MethodId} {args : Array Value} {below : List Frame} {meth : Method} {c : Code} {H : Heap} {locs : List Loc} {cells slots : Nat} {Q : State → Prop} {cc : ByteArray} {pc : Nat} {ls : Array Slot} {rest : List Value} {D : va_G} {cs : Nat → ClassId} {A : Nat → Prop} {ad : pr_Ad} {g : Nat → Nat} {σ : pr_Sg} {nL : Nat} {rt0 : Option FieldType} {H0 : Heap} {i j : Nat} {v : Int32} (S : pr_C RX8 cc nL rt0 D cs p s m args meth c) (hR : pr_R D cs A ad g σ H) (hS : va_S A H0 H locs) (hl : pr_lv g 8 i j) (hdg : decode cc pc = .ok (.putfield 75, 3)) (kk : ∀ (H1 : Heap) (locs1 : List Loc) (u : pr_Sg), u = pr_up σ 522 i j v → pr_R D cs A ad g u H1 → va_S A H0 H1 locs1 → W p l e R s m args below meth c H1 locs1 cells slots Q (F0 m (pc + 3) ls rest)) : W p l e R s m args below meth c H locs cells slots Q (F0 m pc ls (.int v :: .ref (ad 8 i j) :: rest)) :=
  pr_put S.1 S.2.1 S.2.2.2.2.1 inlX8 tyX8 tyX8_ok nmX8 S.2.2.2.1 S.2.2.2.2.2.1 hR hS hl (by omega) rfl 10 (by omega) (by decide) (by omega) (by decide) (pr_in7 _ (List.mem_of_getElem? (i := 12) rfl)) rfl rfl (by decide +kernel) hdg kk
theorem gf_RX8_89 {p : Program} {l : Launch} {e : Env} {R : Room} {s : State} {m : MethodId} {args : Array Value} {below : List Frame} {meth : Method} {c : Code} {H : Heap} {locs : List Loc} {cells slots : Nat} {Q : State → Prop} {cc : ByteArray} {pc : Nat} {ls : Array Slot} {rest : List Value} {D : va_G} {cs : Nat → ClassId} {A : Nat → Prop} {ad : pr_Ad} {g : Nat → Nat} {σ : pr_Sg} {nL : Nat} {rt0 : Option FieldType} {i j : Nat} (S : pr_C RX8 cc nL rt0 D cs p s m args meth c) (hR : pr_R D cs A ad g σ H) (hl : pr_lv g 8 i j) (hdg : decode cc pc = .ok (.getfield 89, 3)) (kk : W p l e R s m args below meth c H locs cells slots Q (F0 m (pc + 3) ls (.int (σ 523 i j) :: rest))) : W p l e R s m args below meth c H locs cells slots Q (F0 m pc ls (.ref (ad 8 i j) :: rest)) :=
  pr_get S.1 S.2.1 S.2.2.2.2.1 inlX8 S.2.2.2.1 S.2.2.2.2.2.1 hR hl (by omega) rfl 11 (by omega) (by decide) (pr_in8 _ (List.mem_of_getElem? (i := 6) rfl)) rfl (v := .int (σ 523 i j)) rfl hdg kk
theorem pf_RX8_89 {p : Program} {l : Launch} {e : Env} {R : Room} {s : State} {m : MethodId} {args : Array Value} {below : List Frame} {meth : Method} {c : Code} {H : Heap} {locs : List Loc} {cells slots : Nat} {Q : State → Prop} {cc : ByteArray} {pc : Nat} {ls : Array Slot} {rest : List Value} {D : va_G} {cs : Nat → ClassId} {A : Nat → Prop} {ad : pr_Ad} {g : Nat → Nat} {σ : pr_Sg} {nL : Nat} {rt0 : Option FieldType} {H0 : Heap} {i j : Nat} {v : Int32} (S : pr_C RX8 cc nL rt0 D cs p s m args meth c) (hR : pr_R D cs A ad g σ H) (hS : va_S A H0 H locs) (hl : pr_lv g 8 i j) (hdg : decode cc pc = .ok (.putfield 89, 3)) (kk : ∀ (H1 : Heap) (locs1 : List Loc) (u : pr_Sg), u = pr_up σ 523 i j v → pr_R D cs A ad g u H1 → va_S A H0 H1 locs1 → W p l e R s m args below meth c H1 locs1 cells slots Q (F0 m (pc + 3) ls rest)) : W p l e R s m args below meth c H locs cells slots Q (F0 m pc ls (.int v :: .ref (ad 8 i j) :: rest)) :=
  pr_put S.1 S.2.1 S.2.2.2.2.1 inlX8 tyX8 tyX8_ok nmX8 S.2.2.2.1 S.2.2.2.2.2.1 hR hS hl (by omega) rfl 11 (by omega) (by decide) (by omega) (by decide) (pr_in8 _ (List.mem_of_getElem? (i := 6) rfl)) rfl rfl (by decide +kernel) hdg kk
theorem gf_RX8_92 {p : Program} {l : Launch} {e : Env} {R : Room} {s : State} {m : MethodId} {args : Array Value} {below : List Frame} {meth : Method} {c : Code} {H : Heap} {locs : List Loc} {cells slots : Nat} {Q : State → Prop} {cc : ByteArray} {pc : Nat} {ls : Array Slot} {rest : List Value} {D : va_G} {cs : Nat → ClassId} {A : Nat → Prop} {ad : pr_Ad} {g : Nat → Nat} {σ : pr_Sg} {nL : Nat} {rt0 : Option FieldType} {i j : Nat} (S : pr_C RX8 cc nL rt0 D cs p s m args meth c) (hR : pr_R D cs A ad g σ H) (hl : pr_lv g 8 i j) (hdg : decode cc pc = .ok (.getfield 92, 3)) (kk : W p l e R s m args below meth c H locs cells slots Q (F0 m (pc + 3) ls (.int (σ 520 i j) :: rest))) : W p l e R s m args below meth c H locs cells slots Q (F0 m pc ls (.ref (ad 8 i j) :: rest)) :=
  pr_get S.1 S.2.1 S.2.2.2.2.1 inlX8 S.2.2.2.1 S.2.2.2.2.2.1 hR hl (by omega) rfl 8 (by omega) (by decide) (pr_in8 _ (List.mem_of_getElem? (i := 7) rfl)) rfl (v := .int (σ 520 i j)) rfl hdg kk
theorem pf_RX8_92 {p : Program} {l : Launch} {e : Env} {R : Room} {s : State} {m : MethodId} {args : Array Value} {below : List Frame} {meth : Method} {c : Code} {H : Heap} {locs : List Loc} {cells slots : Nat} {Q : State → Prop} {cc : ByteArray} {pc : Nat} {ls : Array Slot} {rest : List Value} {D : va_G} {cs : Nat → ClassId} {A : Nat → Prop} {ad : pr_Ad} {g : Nat → Nat} {σ : pr_Sg} {nL : Nat} {rt0 : Option FieldType} {H0 : Heap} {i j : Nat} {v : Int32} (S : pr_C RX8 cc nL rt0 D cs p s m args meth c) (hR : pr_R D cs A ad g σ H) (hS : va_S A H0 H locs) (hl : pr_lv g 8 i j) (hdg : decode cc pc = .ok (.putfield 92, 3)) (kk : ∀ (H1 : Heap) (locs1 : List Loc) (u : pr_Sg), u = pr_up σ 520 i j v → pr_R D cs A ad g u H1 → va_S A H0 H1 locs1 → W p l e R s m args below meth c H1 locs1 cells slots Q (F0 m (pc + 3) ls rest)) : W p l e R s m args below meth c H locs cells slots Q (F0 m pc ls (.int v :: .ref (ad 8 i j) :: rest)) :=
  pr_put S.1 S.2.1 S.2.2.2.2.1 inlX8 tyX8 tyX8_ok nmX8 S.2.2.2.1 S.2.2.2.2.2.1 hR hS hl (by omega) rfl 8 (by omega) (by decide) (by omega) (by decide) (pr_in8 _ (List.mem_of_getElem? (i := 7) rfl)) rfl rfl (by decide +kernel) hdg kk
theorem gf_RX8_102 {p : Program} {l : Launch} {e : Env} {R : Room} {s : State} {m : MethodId} {args : Array Value} {below : List Frame} {meth : Method} {c : Code} {H : Heap} {locs : List Loc} {cells slots : Nat} {Q : State → Prop} {cc : ByteArray} {pc : Nat} {ls : Array Slot} {rest : List Value} {D : va_G} {cs : Nat → ClassId} {A : Nat → Prop} {ad : pr_Ad} {g : Nat → Nat} {σ : pr_Sg} {nL : Nat} {rt0 : Option FieldType} {i j : Nat} (S : pr_C RX8 cc nL rt0 D cs p s m args meth c) (hR : pr_R D cs A ad g σ H) (hl : pr_lv g 8 i j) (hdg : decode cc pc = .ok (.getfield 102, 3)) (kk : W p l e R s m args below meth c H locs cells slots Q (F0 m (pc + 3) ls (.int (σ 527 i j) :: rest))) : W p l e R s m args below meth c H locs cells slots Q (F0 m pc ls (.ref (ad 8 i j) :: rest)) :=
  pr_get S.1 S.2.1 S.2.2.2.2.1 inlX8 S.2.2.2.1 S.2.2.2.2.2.1 hR hl (by omega) rfl 15 (by omega) (by decide) (pr_in8 _ (List.mem_of_getElem? (i := 10) rfl)) rfl (v := .int (σ 527 i j)) rfl hdg kk
theorem pf_RX8_102 {p : Program} {l : Launch} {e : Env} {R : Room} {s : State} {m : MethodId} {args : Array Value} {below : List Frame} {meth : Method} {c : Code} {H : Heap} {locs : List Loc} {cells slots : Nat} {Q : State → Prop} {cc : ByteArray} {pc : Nat} {ls : Array Slot} {rest : List Value} {D : va_G} {cs : Nat → ClassId} {A : Nat → Prop} {ad : pr_Ad} {g : Nat → Nat} {σ : pr_Sg} {nL : Nat} {rt0 : Option FieldType} {H0 : Heap} {i j : Nat} {v : Int32} (S : pr_C RX8 cc nL rt0 D cs p s m args meth c) (hR : pr_R D cs A ad g σ H) (hS : va_S A H0 H locs) (hl : pr_lv g 8 i j) (hdg : decode cc pc = .ok (.putfield 102, 3)) (kk : ∀ (H1 : Heap) (locs1 : List Loc) (u : pr_Sg), u = pr_up σ 527 i j v → pr_R D cs A ad g u H1 → va_S A H0 H1 locs1 → W p l e R s m args below meth c H1 locs1 cells slots Q (F0 m (pc + 3) ls rest)) : W p l e R s m args below meth c H locs cells slots Q (F0 m pc ls (.int v :: .ref (ad 8 i j) :: rest)) :=
  pr_put S.1 S.2.1 S.2.2.2.2.1 inlX8 tyX8 tyX8_ok nmX8 S.2.2.2.1 S.2.2.2.2.2.1 hR hS hl (by omega) rfl 15 (by omega) (by decide) (by omega) (by decide) (pr_in8 _ (List.mem_of_getElem? (i := 10) rfl)) rfl rfl (by decide +kernel) hdg kk
theorem gf_RX8_105 {p : Program} {l : Launch} {e : Env} {R : Room} {s : State} {m : MethodId} {args : Array Value} {below : List Frame} {meth : Method} {c : Code} {H : Heap} {locs : List Loc} {cells slots : Nat} {Q : State → Prop} {cc : ByteArray} {pc : Nat} {ls : Array Slot} {rest : List Value} {D : va_G} {cs : Nat → ClassId} {A : Nat → Prop} {ad : pr_Ad} {g : Nat → Nat} {σ : pr_Sg} {nL : Nat} {rt0 : Option FieldType} {i j : Nat} (S : pr_C RX8 cc nL rt0 D cs p s m args meth c) (hR : pr_R D cs A ad g σ H) (hl : pr_lv g 6 i j) (hdg : decode cc pc = .ok (.getfield 105, 3)) (kk : W p l e R s m args below meth c H locs cells slots Q (F0 m (pc + 3) ls (.int (σ 386 i j) :: rest))) : W p l e R s m args below meth c H locs cells slots Q (F0 m pc ls (.ref (ad 6 i j) :: rest)) :=
  pr_get S.1 S.2.1 S.2.2.2.2.1 inlX6 S.2.2.2.1 S.2.2.2.2.2.1 hR hl (by omega) rfl 2 (by omega) (by decide) (pr_in8 _ (List.mem_of_getElem? (i := 11) rfl)) rfl (v := .int (σ 386 i j)) rfl hdg kk
theorem pf_RX8_105 {p : Program} {l : Launch} {e : Env} {R : Room} {s : State} {m : MethodId} {args : Array Value} {below : List Frame} {meth : Method} {c : Code} {H : Heap} {locs : List Loc} {cells slots : Nat} {Q : State → Prop} {cc : ByteArray} {pc : Nat} {ls : Array Slot} {rest : List Value} {D : va_G} {cs : Nat → ClassId} {A : Nat → Prop} {ad : pr_Ad} {g : Nat → Nat} {σ : pr_Sg} {nL : Nat} {rt0 : Option FieldType} {H0 : Heap} {i j : Nat} {v : Int32} (S : pr_C RX8 cc nL rt0 D cs p s m args meth c) (hR : pr_R D cs A ad g σ H) (hS : va_S A H0 H locs) (hl : pr_lv g 6 i j) (hdg : decode cc pc = .ok (.putfield 105, 3)) (kk : ∀ (H1 : Heap) (locs1 : List Loc) (u : pr_Sg), u = pr_up σ 386 i j v → pr_R D cs A ad g u H1 → va_S A H0 H1 locs1 → W p l e R s m args below meth c H1 locs1 cells slots Q (F0 m (pc + 3) ls rest)) : W p l e R s m args below meth c H locs cells slots Q (F0 m pc ls (.int v :: .ref (ad 6 i j) :: rest)) :=
  pr_put S.1 S.2.1 S.2.2.2.2.1 inlX6 tyX6 tyX6_ok nmX6 S.2.2.2.1 S.2.2.2.2.2.1 hR hS hl (by omega) rfl 2 (by omega) (by decide) (by omega) (by decide) (pr_in8 _ (List.mem_of_getElem? (i := 11) rfl)) rfl rfl (by decide +kernel) hdg kk
theorem gf_RX8_128 {p : Program} {l : Launch} {e : Env} {R : Room} {s : State} {m : MethodId} {args : Array Value} {below : List Frame} {meth : Method} {c : Code} {H : Heap} {locs : List Loc} {cells slots : Nat} {Q : State → Prop} {cc : ByteArray} {pc : Nat} {ls : Array Slot} {rest : List Value} {D : va_G} {cs : Nat → ClassId} {A : Nat → Prop} {ad : pr_Ad} {g : Nat → Nat} {σ : pr_Sg} {nL : Nat} {rt0 : Option FieldType} {i j : Nat} (S : pr_C RX8 cc nL rt0 D cs p s m args meth c) (hR : pr_R D cs A ad g σ H) (hl : pr_lv g 3 i j) (hdg : decode cc pc = .ok (.getfield 128, 3)) (kk : W p l e R s m args below meth c H locs cells slots Q (F0 m (pc + 3) ls (.int (σ 192 i j) :: rest))) : W p l e R s m args below meth c H locs cells slots Q (F0 m pc ls (.ref (ad 3 i j) :: rest)) :=
  pr_get S.1 S.2.1 S.2.2.2.2.1 inlX3 S.2.2.2.1 S.2.2.2.2.2.1 hR hl (by omega) rfl 0 (by omega) (by decide) (pr_in12 _ (List.mem_of_getElem? (i := 1) rfl)) rfl (v := .int (σ 192 i j)) rfl hdg kk
theorem gf_RX8_143 {p : Program} {l : Launch} {e : Env} {R : Room} {s : State} {m : MethodId} {args : Array Value} {below : List Frame} {meth : Method} {c : Code} {H : Heap} {locs : List Loc} {cells slots : Nat} {Q : State → Prop} {cc : ByteArray} {pc : Nat} {ls : Array Slot} {rest : List Value} {D : va_G} {cs : Nat → ClassId} {A : Nat → Prop} {ad : pr_Ad} {g : Nat → Nat} {σ : pr_Sg} {nL : Nat} {rt0 : Option FieldType} {i j : Nat} (S : pr_C RX8 cc nL rt0 D cs p s m args meth c) (hR : pr_R D cs A ad g σ H) (hl : pr_lv g 3 i j) (hdg : decode cc pc = .ok (.getfield 143, 3)) (kk : W p l e R s m args below meth c H locs cells slots Q (F0 m (pc + 3) ls (.int (σ 199 i j) :: rest))) : W p l e R s m args below meth c H locs cells slots Q (F0 m pc ls (.ref (ad 3 i j) :: rest)) :=
  pr_get S.1 S.2.1 S.2.2.2.2.1 inlX3 S.2.2.2.1 S.2.2.2.2.2.1 hR hl (by omega) rfl 7 (by omega) (by decide) (pr_in12 _ (List.mem_of_getElem? (i := 2) rfl)) rfl (v := .int (σ 199 i j)) rfl hdg kk
theorem pf_RX8_143 {p : Program} {l : Launch} {e : Env} {R : Room} {s : State} {m : MethodId} {args : Array Value} {below : List Frame} {meth : Method} {c : Code} {H : Heap} {locs : List Loc} {cells slots : Nat} {Q : State → Prop} {cc : ByteArray} {pc : Nat} {ls : Array Slot} {rest : List Value} {D : va_G} {cs : Nat → ClassId} {A : Nat → Prop} {ad : pr_Ad} {g : Nat → Nat} {σ : pr_Sg} {nL : Nat} {rt0 : Option FieldType} {H0 : Heap} {i j : Nat} {v : Int32} (S : pr_C RX8 cc nL rt0 D cs p s m args meth c) (hR : pr_R D cs A ad g σ H) (hS : va_S A H0 H locs) (hl : pr_lv g 3 i j) (hdg : decode cc pc = .ok (.putfield 143, 3)) (kk : ∀ (H1 : Heap) (locs1 : List Loc) (u : pr_Sg), u = pr_up σ 199 i j v → pr_R D cs A ad g u H1 → va_S A H0 H1 locs1 → W p l e R s m args below meth c H1 locs1 cells slots Q (F0 m (pc + 3) ls rest)) : W p l e R s m args below meth c H locs cells slots Q (F0 m pc ls (.int v :: .ref (ad 3 i j) :: rest)) :=
  pr_put S.1 S.2.1 S.2.2.2.2.1 inlX3 tyX3 tyX3_ok nmX3 S.2.2.2.1 S.2.2.2.2.2.1 hR hS hl (by omega) rfl 7 (by omega) (by decide) (by omega) (by decide) (pr_in12 _ (List.mem_of_getElem? (i := 2) rfl)) rfl rfl (by decide +kernel) hdg kk
theorem gf_RX8_161 {p : Program} {l : Launch} {e : Env} {R : Room} {s : State} {m : MethodId} {args : Array Value} {below : List Frame} {meth : Method} {c : Code} {H : Heap} {locs : List Loc} {cells slots : Nat} {Q : State → Prop} {cc : ByteArray} {pc : Nat} {ls : Array Slot} {rest : List Value} {D : va_G} {cs : Nat → ClassId} {A : Nat → Prop} {ad : pr_Ad} {g : Nat → Nat} {σ : pr_Sg} {nL : Nat} {rt0 : Option FieldType} {i j : Nat} (S : pr_C RX8 cc nL rt0 D cs p s m args meth c) (hR : pr_R D cs A ad g σ H) (hl : pr_lv g 8 i j) (hdg : decode cc pc = .ok (.getfield 161, 3)) (kk : W p l e R s m args below meth c H locs cells slots Q (F0 m (pc + 3) ls (.int (σ 526 i j) :: rest))) : W p l e R s m args below meth c H locs cells slots Q (F0 m pc ls (.ref (ad 8 i j) :: rest)) :=
  pr_get S.1 S.2.1 S.2.2.2.2.1 inlX8 S.2.2.2.1 S.2.2.2.2.2.1 hR hl (by omega) rfl 14 (by omega) (by decide) (pr_in18 _ (List.mem_of_getElem? (i := 20) rfl)) rfl (v := .int (σ 526 i j)) rfl hdg kk
theorem pf_RX8_161 {p : Program} {l : Launch} {e : Env} {R : Room} {s : State} {m : MethodId} {args : Array Value} {below : List Frame} {meth : Method} {c : Code} {H : Heap} {locs : List Loc} {cells slots : Nat} {Q : State → Prop} {cc : ByteArray} {pc : Nat} {ls : Array Slot} {rest : List Value} {D : va_G} {cs : Nat → ClassId} {A : Nat → Prop} {ad : pr_Ad} {g : Nat → Nat} {σ : pr_Sg} {nL : Nat} {rt0 : Option FieldType} {H0 : Heap} {i j : Nat} {v : Int32} (S : pr_C RX8 cc nL rt0 D cs p s m args meth c) (hR : pr_R D cs A ad g σ H) (hS : va_S A H0 H locs) (hl : pr_lv g 8 i j) (hdg : decode cc pc = .ok (.putfield 161, 3)) (kk : ∀ (H1 : Heap) (locs1 : List Loc) (u : pr_Sg), u = pr_up σ 526 i j v → pr_R D cs A ad g u H1 → va_S A H0 H1 locs1 → W p l e R s m args below meth c H1 locs1 cells slots Q (F0 m (pc + 3) ls rest)) : W p l e R s m args below meth c H locs cells slots Q (F0 m pc ls (.int v :: .ref (ad 8 i j) :: rest)) :=
  pr_put S.1 S.2.1 S.2.2.2.2.1 inlX8 tyX8 tyX8_ok nmX8 S.2.2.2.1 S.2.2.2.2.2.1 hR hS hl (by omega) rfl 14 (by omega) (by decide) (by omega) (by decide) (pr_in18 _ (List.mem_of_getElem? (i := 20) rfl)) rfl rfl (by decide +kernel) hdg kk
theorem gf_RX8_170 {p : Program} {l : Launch} {e : Env} {R : Room} {s : State} {m : MethodId} {args : Array Value} {below : List Frame} {meth : Method} {c : Code} {H : Heap} {locs : List Loc} {cells slots : Nat} {Q : State → Prop} {cc : ByteArray} {pc : Nat} {ls : Array Slot} {rest : List Value} {D : va_G} {cs : Nat → ClassId} {A : Nat → Prop} {ad : pr_Ad} {g : Nat → Nat} {σ : pr_Sg} {nL : Nat} {rt0 : Option FieldType} {i j : Nat} (S : pr_C RX8 cc nL rt0 D cs p s m args meth c) (hR : pr_R D cs A ad g σ H) (hl : pr_lv g 4 i j) (hdg : decode cc pc = .ok (.getfield 170, 3)) (kk : W p l e R s m args below meth c H locs cells slots Q (F0 m (pc + 3) ls (.int (σ 264 i j) :: rest))) : W p l e R s m args below meth c H locs cells slots Q (F0 m pc ls (.ref (ad 4 i j) :: rest)) :=
  pr_get S.1 S.2.1 S.2.2.2.2.1 inlX4 S.2.2.2.1 S.2.2.2.2.2.1 hR hl (by omega) rfl 8 (by omega) (by decide) (pr_in20 _ (List.mem_of_getElem? (i := 12) rfl)) rfl (v := .int (σ 264 i j)) rfl hdg kk
theorem pf_RX8_170 {p : Program} {l : Launch} {e : Env} {R : Room} {s : State} {m : MethodId} {args : Array Value} {below : List Frame} {meth : Method} {c : Code} {H : Heap} {locs : List Loc} {cells slots : Nat} {Q : State → Prop} {cc : ByteArray} {pc : Nat} {ls : Array Slot} {rest : List Value} {D : va_G} {cs : Nat → ClassId} {A : Nat → Prop} {ad : pr_Ad} {g : Nat → Nat} {σ : pr_Sg} {nL : Nat} {rt0 : Option FieldType} {H0 : Heap} {i j : Nat} {v : Int32} (S : pr_C RX8 cc nL rt0 D cs p s m args meth c) (hR : pr_R D cs A ad g σ H) (hS : va_S A H0 H locs) (hl : pr_lv g 4 i j) (hdg : decode cc pc = .ok (.putfield 170, 3)) (kk : ∀ (H1 : Heap) (locs1 : List Loc) (u : pr_Sg), u = pr_up σ 264 i j v → pr_R D cs A ad g u H1 → va_S A H0 H1 locs1 → W p l e R s m args below meth c H1 locs1 cells slots Q (F0 m (pc + 3) ls rest)) : W p l e R s m args below meth c H locs cells slots Q (F0 m pc ls (.int v :: .ref (ad 4 i j) :: rest)) :=
  pr_put S.1 S.2.1 S.2.2.2.2.1 inlX4 tyX4 tyX4_ok nmX4 S.2.2.2.1 S.2.2.2.2.2.1 hR hS hl (by omega) rfl 8 (by omega) (by decide) (by omega) (by decide) (pr_in20 _ (List.mem_of_getElem? (i := 12) rfl)) rfl rfl (by decide +kernel) hdg kk
theorem gf_RX8_174 {p : Program} {l : Launch} {e : Env} {R : Room} {s : State} {m : MethodId} {args : Array Value} {below : List Frame} {meth : Method} {c : Code} {H : Heap} {locs : List Loc} {cells slots : Nat} {Q : State → Prop} {cc : ByteArray} {pc : Nat} {ls : Array Slot} {rest : List Value} {D : va_G} {cs : Nat → ClassId} {A : Nat → Prop} {ad : pr_Ad} {g : Nat → Nat} {σ : pr_Sg} {nL : Nat} {rt0 : Option FieldType} {i j : Nat} (S : pr_C RX8 cc nL rt0 D cs p s m args meth c) (hR : pr_R D cs A ad g σ H) (hl : pr_lv g 3 i j) (hdg : decode cc pc = .ok (.getfield 174, 3)) (kk : W p l e R s m args below meth c H locs cells slots Q (F0 m (pc + 3) ls (.int (σ 201 i j) :: rest))) : W p l e R s m args below meth c H locs cells slots Q (F0 m pc ls (.ref (ad 3 i j) :: rest)) :=
  pr_get S.1 S.2.1 S.2.2.2.2.1 inlX3 S.2.2.2.1 S.2.2.2.2.2.1 hR hl (by omega) rfl 9 (by omega) (by decide) (pr_in22 _ (List.mem_of_getElem? (i := 7) rfl)) rfl (v := .int (σ 201 i j)) rfl hdg kk
theorem pf_RX8_174 {p : Program} {l : Launch} {e : Env} {R : Room} {s : State} {m : MethodId} {args : Array Value} {below : List Frame} {meth : Method} {c : Code} {H : Heap} {locs : List Loc} {cells slots : Nat} {Q : State → Prop} {cc : ByteArray} {pc : Nat} {ls : Array Slot} {rest : List Value} {D : va_G} {cs : Nat → ClassId} {A : Nat → Prop} {ad : pr_Ad} {g : Nat → Nat} {σ : pr_Sg} {nL : Nat} {rt0 : Option FieldType} {H0 : Heap} {i j : Nat} {v : Int32} (S : pr_C RX8 cc nL rt0 D cs p s m args meth c) (hR : pr_R D cs A ad g σ H) (hS : va_S A H0 H locs) (hl : pr_lv g 3 i j) (hdg : decode cc pc = .ok (.putfield 174, 3)) (kk : ∀ (H1 : Heap) (locs1 : List Loc) (u : pr_Sg), u = pr_up σ 201 i j v → pr_R D cs A ad g u H1 → va_S A H0 H1 locs1 → W p l e R s m args below meth c H1 locs1 cells slots Q (F0 m (pc + 3) ls rest)) : W p l e R s m args below meth c H locs cells slots Q (F0 m pc ls (.int v :: .ref (ad 3 i j) :: rest)) :=
  pr_put S.1 S.2.1 S.2.2.2.2.1 inlX3 tyX3 tyX3_ok nmX3 S.2.2.2.1 S.2.2.2.2.2.1 hR hS hl (by omega) rfl 9 (by omega) (by decide) (by omega) (by decide) (pr_in22 _ (List.mem_of_getElem? (i := 7) rfl)) rfl rfl (by decide +kernel) hdg kk
theorem gf_RX8_187 {p : Program} {l : Launch} {e : Env} {R : Room} {s : State} {m : MethodId} {args : Array Value} {below : List Frame} {meth : Method} {c : Code} {H : Heap} {locs : List Loc} {cells slots : Nat} {Q : State → Prop} {cc : ByteArray} {pc : Nat} {ls : Array Slot} {rest : List Value} {D : va_G} {cs : Nat → ClassId} {A : Nat → Prop} {ad : pr_Ad} {g : Nat → Nat} {σ : pr_Sg} {nL : Nat} {rt0 : Option FieldType} {i j : Nat} (S : pr_C RX8 cc nL rt0 D cs p s m args meth c) (hR : pr_R D cs A ad g σ H) (hl : pr_lv g 0 i j) (hdg : decode cc pc = .ok (.getfield 187, 3)) (kk : W p l e R s m args below meth c H locs cells slots Q (F0 m (pc + 3) ls (.int (σ 0 i j) :: rest))) : W p l e R s m args below meth c H locs cells slots Q (F0 m pc ls (.ref (ad 0 i j) :: rest)) :=
  pr_get S.1 S.2.1 S.2.2.2.2.1 inlX0 S.2.2.2.1 S.2.2.2.2.2.1 hR hl (by omega) rfl 0 (by omega) (by decide) (pr_in24 _ (List.mem_of_getElem? (i := 5) rfl)) rfl (v := .int (σ 0 i j)) rfl hdg kk
theorem pf_RX8_187 {p : Program} {l : Launch} {e : Env} {R : Room} {s : State} {m : MethodId} {args : Array Value} {below : List Frame} {meth : Method} {c : Code} {H : Heap} {locs : List Loc} {cells slots : Nat} {Q : State → Prop} {cc : ByteArray} {pc : Nat} {ls : Array Slot} {rest : List Value} {D : va_G} {cs : Nat → ClassId} {A : Nat → Prop} {ad : pr_Ad} {g : Nat → Nat} {σ : pr_Sg} {nL : Nat} {rt0 : Option FieldType} {H0 : Heap} {i j : Nat} {v : Int32} (S : pr_C RX8 cc nL rt0 D cs p s m args meth c) (hR : pr_R D cs A ad g σ H) (hS : va_S A H0 H locs) (hl : pr_lv g 0 i j) (hdg : decode cc pc = .ok (.putfield 187, 3)) (kk : ∀ (H1 : Heap) (locs1 : List Loc) (u : pr_Sg), u = pr_up σ 0 i j v → pr_R D cs A ad g u H1 → va_S A H0 H1 locs1 → W p l e R s m args below meth c H1 locs1 cells slots Q (F0 m (pc + 3) ls rest)) : W p l e R s m args below meth c H locs cells slots Q (F0 m pc ls (.int v :: .ref (ad 0 i j) :: rest)) :=
  pr_put S.1 S.2.1 S.2.2.2.2.1 inlX0 tyX0 tyX0_ok nmX0 S.2.2.2.1 S.2.2.2.2.2.1 hR hS hl (by omega) rfl 0 (by omega) (by decide) (by omega) (by decide) (pr_in24 _ (List.mem_of_getElem? (i := 5) rfl)) rfl rfl (by decide +kernel) hdg kk
theorem gf_RX8_194 {p : Program} {l : Launch} {e : Env} {R : Room} {s : State} {m : MethodId} {args : Array Value} {below : List Frame} {meth : Method} {c : Code} {H : Heap} {locs : List Loc} {cells slots : Nat} {Q : State → Prop} {cc : ByteArray} {pc : Nat} {ls : Array Slot} {rest : List Value} {D : va_G} {cs : Nat → ClassId} {A : Nat → Prop} {ad : pr_Ad} {g : Nat → Nat} {σ : pr_Sg} {nL : Nat} {rt0 : Option FieldType} {i j : Nat} (S : pr_C RX8 cc nL rt0 D cs p s m args meth c) (hR : pr_R D cs A ad g σ H) (hl : pr_lv g 2 i j) (hdg : decode cc pc = .ok (.getfield 194, 3)) (kk : W p l e R s m args below meth c H locs cells slots Q (F0 m (pc + 3) ls (.int (σ 132 i j) :: rest))) : W p l e R s m args below meth c H locs cells slots Q (F0 m pc ls (.ref (ad 2 i j) :: rest)) :=
  pr_get S.1 S.2.1 S.2.2.2.2.1 inlX2 S.2.2.2.1 S.2.2.2.2.2.1 hR hl (by omega) rfl 4 (by omega) (by decide) (pr_in24 _ (List.mem_of_getElem? (i := 22) rfl)) rfl (v := .int (σ 132 i j)) rfl hdg kk
theorem pf_RX8_194 {p : Program} {l : Launch} {e : Env} {R : Room} {s : State} {m : MethodId} {args : Array Value} {below : List Frame} {meth : Method} {c : Code} {H : Heap} {locs : List Loc} {cells slots : Nat} {Q : State → Prop} {cc : ByteArray} {pc : Nat} {ls : Array Slot} {rest : List Value} {D : va_G} {cs : Nat → ClassId} {A : Nat → Prop} {ad : pr_Ad} {g : Nat → Nat} {σ : pr_Sg} {nL : Nat} {rt0 : Option FieldType} {H0 : Heap} {i j : Nat} {v : Int32} (S : pr_C RX8 cc nL rt0 D cs p s m args meth c) (hR : pr_R D cs A ad g σ H) (hS : va_S A H0 H locs) (hl : pr_lv g 2 i j) (hdg : decode cc pc = .ok (.putfield 194, 3)) (kk : ∀ (H1 : Heap) (locs1 : List Loc) (u : pr_Sg), u = pr_up σ 132 i j v → pr_R D cs A ad g u H1 → va_S A H0 H1 locs1 → W p l e R s m args below meth c H1 locs1 cells slots Q (F0 m (pc + 3) ls rest)) : W p l e R s m args below meth c H locs cells slots Q (F0 m pc ls (.int v :: .ref (ad 2 i j) :: rest)) :=
  pr_put S.1 S.2.1 S.2.2.2.2.1 inlX2 tyX2 tyX2_ok nmX2 S.2.2.2.1 S.2.2.2.2.2.1 hR hS hl (by omega) rfl 4 (by omega) (by decide) (by omega) (by decide) (pr_in24 _ (List.mem_of_getElem? (i := 22) rfl)) rfl rfl (by decide +kernel) hdg kk
theorem gf_RX8_205 {p : Program} {l : Launch} {e : Env} {R : Room} {s : State} {m : MethodId} {args : Array Value} {below : List Frame} {meth : Method} {c : Code} {H : Heap} {locs : List Loc} {cells slots : Nat} {Q : State → Prop} {cc : ByteArray} {pc : Nat} {ls : Array Slot} {rest : List Value} {D : va_G} {cs : Nat → ClassId} {A : Nat → Prop} {ad : pr_Ad} {g : Nat → Nat} {σ : pr_Sg} {nL : Nat} {rt0 : Option FieldType} {i j : Nat} (S : pr_C RX8 cc nL rt0 D cs p s m args meth c) (hR : pr_R D cs A ad g σ H) (hl : pr_lv g 3 i j) (hdg : decode cc pc = .ok (.getfield 205, 3)) (kk : W p l e R s m args below meth c H locs cells slots Q (F0 m (pc + 3) ls (.int (σ 194 i j) :: rest))) : W p l e R s m args below meth c H locs cells slots Q (F0 m pc ls (.ref (ad 3 i j) :: rest)) :=
  pr_get S.1 S.2.1 S.2.2.2.2.1 inlX3 S.2.2.2.1 S.2.2.2.2.2.1 hR hl (by omega) rfl 2 (by omega) (by decide) (pr_in17 _ (List.mem_of_getElem? (i := 18) rfl)) rfl (v := .int (σ 194 i j)) rfl hdg kk
theorem gf_RX8_208 {p : Program} {l : Launch} {e : Env} {R : Room} {s : State} {m : MethodId} {args : Array Value} {below : List Frame} {meth : Method} {c : Code} {H : Heap} {locs : List Loc} {cells slots : Nat} {Q : State → Prop} {cc : ByteArray} {pc : Nat} {ls : Array Slot} {rest : List Value} {D : va_G} {cs : Nat → ClassId} {A : Nat → Prop} {ad : pr_Ad} {g : Nat → Nat} {σ : pr_Sg} {nL : Nat} {rt0 : Option FieldType} {i j : Nat} (S : pr_C RX8 cc nL rt0 D cs p s m args meth c) (hR : pr_R D cs A ad g σ H) (hl : pr_lv g 3 i j) (hdg : decode cc pc = .ok (.getfield 208, 3)) (kk : W p l e R s m args below meth c H locs cells slots Q (F0 m (pc + 3) ls (.int (σ 195 i j) :: rest))) : W p l e R s m args below meth c H locs cells slots Q (F0 m pc ls (.ref (ad 3 i j) :: rest)) :=
  pr_get S.1 S.2.1 S.2.2.2.2.1 inlX3 S.2.2.2.1 S.2.2.2.2.2.1 hR hl (by omega) rfl 3 (by omega) (by decide) (pr_in19 _ (List.mem_of_getElem? (i := 10) rfl)) rfl (v := .int (σ 195 i j)) rfl hdg kk
theorem gf_RX8_211 {p : Program} {l : Launch} {e : Env} {R : Room} {s : State} {m : MethodId} {args : Array Value} {below : List Frame} {meth : Method} {c : Code} {H : Heap} {locs : List Loc} {cells slots : Nat} {Q : State → Prop} {cc : ByteArray} {pc : Nat} {ls : Array Slot} {rest : List Value} {D : va_G} {cs : Nat → ClassId} {A : Nat → Prop} {ad : pr_Ad} {g : Nat → Nat} {σ : pr_Sg} {nL : Nat} {rt0 : Option FieldType} {i j : Nat} (S : pr_C RX8 cc nL rt0 D cs p s m args meth c) (hR : pr_R D cs A ad g σ H) (hl : pr_lv g 3 i j) (hdg : decode cc pc = .ok (.getfield 211, 3)) (kk : W p l e R s m args below meth c H locs cells slots Q (F0 m (pc + 3) ls (.int (σ 197 i j) :: rest))) : W p l e R s m args below meth c H locs cells slots Q (F0 m pc ls (.ref (ad 3 i j) :: rest)) :=
  pr_get S.1 S.2.1 S.2.2.2.2.1 inlX3 S.2.2.2.1 S.2.2.2.2.2.1 hR hl (by omega) rfl 5 (by omega) (by decide) (pr_in17 _ (List.mem_of_getElem? (i := 16) rfl)) rfl (v := .int (σ 197 i j)) rfl hdg kk
theorem pf_RX8_211 {p : Program} {l : Launch} {e : Env} {R : Room} {s : State} {m : MethodId} {args : Array Value} {below : List Frame} {meth : Method} {c : Code} {H : Heap} {locs : List Loc} {cells slots : Nat} {Q : State → Prop} {cc : ByteArray} {pc : Nat} {ls : Array Slot} {rest : List Value} {D : va_G} {cs : Nat → ClassId} {A : Nat → Prop} {ad : pr_Ad} {g : Nat → Nat} {σ : pr_Sg} {nL : Nat} {rt0 : Option FieldType} {H0 : Heap} {i j : Nat} {v : Int32} (S : pr_C RX8 cc nL rt0 D cs p s m args meth c) (hR : pr_R D cs A ad g σ H) (hS : va_S A H0 H locs) (hl : pr_lv g 3 i j) (hdg : decode cc pc = .ok (.putfield 211, 3)) (kk : ∀ (H1 : Heap) (locs1 : List Loc) (u : pr_Sg), u = pr_up σ 197 i j v → pr_R D cs A ad g u H1 → va_S A H0 H1 locs1 → W p l e R s m args below meth c H1 locs1 cells slots Q (F0 m (pc + 3) ls rest)) : W p l e R s m args below meth c H locs cells slots Q (F0 m pc ls (.int v :: .ref (ad 3 i j) :: rest)) :=
  pr_put S.1 S.2.1 S.2.2.2.2.1 inlX3 tyX3 tyX3_ok nmX3 S.2.2.2.1 S.2.2.2.2.2.1 hR hS hl (by omega) rfl 5 (by omega) (by decide) (by omega) (by decide) (pr_in17 _ (List.mem_of_getElem? (i := 16) rfl)) rfl rfl (by decide +kernel) hdg kk
theorem gf_RX8_214 {p : Program} {l : Launch} {e : Env} {R : Room} {s : State} {m : MethodId} {args : Array Value} {below : List Frame} {meth : Method} {c : Code} {H : Heap} {locs : List Loc} {cells slots : Nat} {Q : State → Prop} {cc : ByteArray} {pc : Nat} {ls : Array Slot} {rest : List Value} {D : va_G} {cs : Nat → ClassId} {A : Nat → Prop} {ad : pr_Ad} {g : Nat → Nat} {σ : pr_Sg} {nL : Nat} {rt0 : Option FieldType} {i j : Nat} (S : pr_C RX8 cc nL rt0 D cs p s m args meth c) (hR : pr_R D cs A ad g σ H) (hl : pr_lv g 3 i j) (hdg : decode cc pc = .ok (.getfield 214, 3)) (kk : W p l e R s m args below meth c H locs cells slots Q (F0 m (pc + 3) ls (.int (σ 200 i j) :: rest))) : W p l e R s m args below meth c H locs cells slots Q (F0 m pc ls (.ref (ad 3 i j) :: rest)) :=
  pr_get S.1 S.2.1 S.2.2.2.2.1 inlX3 S.2.2.2.1 S.2.2.2.2.2.1 hR hl (by omega) rfl 8 (by omega) (by decide) (pr_in16 _ (List.mem_of_getElem? (i := 21) rfl)) rfl (v := .int (σ 200 i j)) rfl hdg kk
theorem pf_RX8_214 {p : Program} {l : Launch} {e : Env} {R : Room} {s : State} {m : MethodId} {args : Array Value} {below : List Frame} {meth : Method} {c : Code} {H : Heap} {locs : List Loc} {cells slots : Nat} {Q : State → Prop} {cc : ByteArray} {pc : Nat} {ls : Array Slot} {rest : List Value} {D : va_G} {cs : Nat → ClassId} {A : Nat → Prop} {ad : pr_Ad} {g : Nat → Nat} {σ : pr_Sg} {nL : Nat} {rt0 : Option FieldType} {H0 : Heap} {i j : Nat} {v : Int32} (S : pr_C RX8 cc nL rt0 D cs p s m args meth c) (hR : pr_R D cs A ad g σ H) (hS : va_S A H0 H locs) (hl : pr_lv g 3 i j) (hdg : decode cc pc = .ok (.putfield 214, 3)) (kk : ∀ (H1 : Heap) (locs1 : List Loc) (u : pr_Sg), u = pr_up σ 200 i j v → pr_R D cs A ad g u H1 → va_S A H0 H1 locs1 → W p l e R s m args below meth c H1 locs1 cells slots Q (F0 m (pc + 3) ls rest)) : W p l e R s m args below meth c H locs cells slots Q (F0 m pc ls (.int v :: .ref (ad 3 i j) :: rest)) :=
  pr_put S.1 S.2.1 S.2.2.2.2.1 inlX3 tyX3 tyX3_ok nmX3 S.2.2.2.1 S.2.2.2.2.2.1 hR hS hl (by omega) rfl 8 (by omega) (by decide) (by omega) (by decide) (pr_in16 _ (List.mem_of_getElem? (i := 21) rfl)) rfl rfl (by decide +kernel) hdg kk
theorem gf_RX8_217 {p : Program} {l : Launch} {e : Env} {R : Room} {s : State} {m : MethodId} {args : Array Value} {below : List Frame} {meth : Method} {c : Code} {H : Heap} {locs : List Loc} {cells slots : Nat} {Q : State → Prop} {cc : ByteArray} {pc : Nat} {ls : Array Slot} {rest : List Value} {D : va_G} {cs : Nat → ClassId} {A : Nat → Prop} {ad : pr_Ad} {g : Nat → Nat} {σ : pr_Sg} {nL : Nat} {rt0 : Option FieldType} {i j : Nat} (S : pr_C RX8 cc nL rt0 D cs p s m args meth c) (hR : pr_R D cs A ad g σ H) (hl : pr_lv g 2 i j) (hdg : decode cc pc = .ok (.getfield 217, 3)) (kk : W p l e R s m args below meth c H locs cells slots Q (F0 m (pc + 3) ls (.int (σ 129 i j) :: rest))) : W p l e R s m args below meth c H locs cells slots Q (F0 m pc ls (.ref (ad 2 i j) :: rest)) :=
  pr_get S.1 S.2.1 S.2.2.2.2.1 inlX2 S.2.2.2.1 S.2.2.2.2.2.1 hR hl (by omega) rfl 1 (by omega) (by decide) (pr_in16 _ (List.mem_of_getElem? (i := 17) rfl)) rfl (v := .int (σ 129 i j)) rfl hdg kk
theorem pf_RX8_217 {p : Program} {l : Launch} {e : Env} {R : Room} {s : State} {m : MethodId} {args : Array Value} {below : List Frame} {meth : Method} {c : Code} {H : Heap} {locs : List Loc} {cells slots : Nat} {Q : State → Prop} {cc : ByteArray} {pc : Nat} {ls : Array Slot} {rest : List Value} {D : va_G} {cs : Nat → ClassId} {A : Nat → Prop} {ad : pr_Ad} {g : Nat → Nat} {σ : pr_Sg} {nL : Nat} {rt0 : Option FieldType} {H0 : Heap} {i j : Nat} {v : Int32} (S : pr_C RX8 cc nL rt0 D cs p s m args meth c) (hR : pr_R D cs A ad g σ H) (hS : va_S A H0 H locs) (hl : pr_lv g 2 i j) (hdg : decode cc pc = .ok (.putfield 217, 3)) (kk : ∀ (H1 : Heap) (locs1 : List Loc) (u : pr_Sg), u = pr_up σ 129 i j v → pr_R D cs A ad g u H1 → va_S A H0 H1 locs1 → W p l e R s m args below meth c H1 locs1 cells slots Q (F0 m (pc + 3) ls rest)) : W p l e R s m args below meth c H locs cells slots Q (F0 m pc ls (.int v :: .ref (ad 2 i j) :: rest)) :=
  pr_put S.1 S.2.1 S.2.2.2.2.1 inlX2 tyX2 tyX2_ok nmX2 S.2.2.2.1 S.2.2.2.2.2.1 hR hS hl (by omega) rfl 1 (by omega) (by decide) (by omega) (by decide) (pr_in16 _ (List.mem_of_getElem? (i := 17) rfl)) rfl rfl (by decide +kernel) hdg kk
theorem gf_RX8_220 {p : Program} {l : Launch} {e : Env} {R : Room} {s : State} {m : MethodId} {args : Array Value} {below : List Frame} {meth : Method} {c : Code} {H : Heap} {locs : List Loc} {cells slots : Nat} {Q : State → Prop} {cc : ByteArray} {pc : Nat} {ls : Array Slot} {rest : List Value} {D : va_G} {cs : Nat → ClassId} {A : Nat → Prop} {ad : pr_Ad} {g : Nat → Nat} {σ : pr_Sg} {nL : Nat} {rt0 : Option FieldType} {i j : Nat} (S : pr_C RX8 cc nL rt0 D cs p s m args meth c) (hR : pr_R D cs A ad g σ H) (hl : pr_lv g 2 i j) (hdg : decode cc pc = .ok (.getfield 220, 3)) (kk : W p l e R s m args below meth c H locs cells slots Q (F0 m (pc + 3) ls (.int (σ 128 i j) :: rest))) : W p l e R s m args below meth c H locs cells slots Q (F0 m pc ls (.ref (ad 2 i j) :: rest)) :=
  pr_get S.1 S.2.1 S.2.2.2.2.1 inlX2 S.2.2.2.1 S.2.2.2.2.2.1 hR hl (by omega) rfl 0 (by omega) (by decide) (pr_in26 _ (List.mem_of_getElem? (i := 10) rfl)) rfl (v := .int (σ 128 i j)) rfl hdg kk
theorem gf_RX8_223 {p : Program} {l : Launch} {e : Env} {R : Room} {s : State} {m : MethodId} {args : Array Value} {below : List Frame} {meth : Method} {c : Code} {H : Heap} {locs : List Loc} {cells slots : Nat} {Q : State → Prop} {cc : ByteArray} {pc : Nat} {ls : Array Slot} {rest : List Value} {D : va_G} {cs : Nat → ClassId} {A : Nat → Prop} {ad : pr_Ad} {g : Nat → Nat} {σ : pr_Sg} {nL : Nat} {rt0 : Option FieldType} {i j : Nat} (S : pr_C RX8 cc nL rt0 D cs p s m args meth c) (hR : pr_R D cs A ad g σ H) (hl : pr_lv g 2 i j) (hdg : decode cc pc = .ok (.getfield 223, 3)) (kk : W p l e R s m args below meth c H locs cells slots Q (F0 m (pc + 3) ls (.int (σ 130 i j) :: rest))) : W p l e R s m args below meth c H locs cells slots Q (F0 m pc ls (.ref (ad 2 i j) :: rest)) :=
  pr_get S.1 S.2.1 S.2.2.2.2.1 inlX2 S.2.2.2.1 S.2.2.2.2.2.1 hR hl (by omega) rfl 2 (by omega) (by decide) (pr_in16 _ (List.mem_of_getElem? (i := 18) rfl)) rfl (v := .int (σ 130 i j)) rfl hdg kk
theorem pf_RX8_223 {p : Program} {l : Launch} {e : Env} {R : Room} {s : State} {m : MethodId} {args : Array Value} {below : List Frame} {meth : Method} {c : Code} {H : Heap} {locs : List Loc} {cells slots : Nat} {Q : State → Prop} {cc : ByteArray} {pc : Nat} {ls : Array Slot} {rest : List Value} {D : va_G} {cs : Nat → ClassId} {A : Nat → Prop} {ad : pr_Ad} {g : Nat → Nat} {σ : pr_Sg} {nL : Nat} {rt0 : Option FieldType} {H0 : Heap} {i j : Nat} {v : Int32} (S : pr_C RX8 cc nL rt0 D cs p s m args meth c) (hR : pr_R D cs A ad g σ H) (hS : va_S A H0 H locs) (hl : pr_lv g 2 i j) (hdg : decode cc pc = .ok (.putfield 223, 3)) (kk : ∀ (H1 : Heap) (locs1 : List Loc) (u : pr_Sg), u = pr_up σ 130 i j v → pr_R D cs A ad g u H1 → va_S A H0 H1 locs1 → W p l e R s m args below meth c H1 locs1 cells slots Q (F0 m (pc + 3) ls rest)) : W p l e R s m args below meth c H locs cells slots Q (F0 m pc ls (.int v :: .ref (ad 2 i j) :: rest)) :=
  pr_put S.1 S.2.1 S.2.2.2.2.1 inlX2 tyX2 tyX2_ok nmX2 S.2.2.2.1 S.2.2.2.2.2.1 hR hS hl (by omega) rfl 2 (by omega) (by decide) (by omega) (by decide) (pr_in16 _ (List.mem_of_getElem? (i := 18) rfl)) rfl rfl (by decide +kernel) hdg kk
theorem gf_RX8_226 {p : Program} {l : Launch} {e : Env} {R : Room} {s : State} {m : MethodId} {args : Array Value} {below : List Frame} {meth : Method} {c : Code} {H : Heap} {locs : List Loc} {cells slots : Nat} {Q : State → Prop} {cc : ByteArray} {pc : Nat} {ls : Array Slot} {rest : List Value} {D : va_G} {cs : Nat → ClassId} {A : Nat → Prop} {ad : pr_Ad} {g : Nat → Nat} {σ : pr_Sg} {nL : Nat} {rt0 : Option FieldType} {i j : Nat} (S : pr_C RX8 cc nL rt0 D cs p s m args meth c) (hR : pr_R D cs A ad g σ H) (hl : pr_lv g 2 i j) (hdg : decode cc pc = .ok (.getfield 226, 3)) (kk : W p l e R s m args below meth c H locs cells slots Q (F0 m (pc + 3) ls (.int (σ 131 i j) :: rest))) : W p l e R s m args below meth c H locs cells slots Q (F0 m pc ls (.ref (ad 2 i j) :: rest)) :=
  pr_get S.1 S.2.1 S.2.2.2.2.1 inlX2 S.2.2.2.1 S.2.2.2.2.2.1 hR hl (by omega) rfl 3 (by omega) (by decide) (pr_in16 _ (List.mem_of_getElem? (i := 19) rfl)) rfl (v := .int (σ 131 i j)) rfl hdg kk
theorem pf_RX8_226 {p : Program} {l : Launch} {e : Env} {R : Room} {s : State} {m : MethodId} {args : Array Value} {below : List Frame} {meth : Method} {c : Code} {H : Heap} {locs : List Loc} {cells slots : Nat} {Q : State → Prop} {cc : ByteArray} {pc : Nat} {ls : Array Slot} {rest : List Value} {D : va_G} {cs : Nat → ClassId} {A : Nat → Prop} {ad : pr_Ad} {g : Nat → Nat} {σ : pr_Sg} {nL : Nat} {rt0 : Option FieldType} {H0 : Heap} {i j : Nat} {v : Int32} (S : pr_C RX8 cc nL rt0 D cs p s m args meth c) (hR : pr_R D cs A ad g σ H) (hS : va_S A H0 H locs) (hl : pr_lv g 2 i j) (hdg : decode cc pc = .ok (.putfield 226, 3)) (kk : ∀ (H1 : Heap) (locs1 : List Loc) (u : pr_Sg), u = pr_up σ 131 i j v → pr_R D cs A ad g u H1 → va_S A H0 H1 locs1 → W p l e R s m args below meth c H1 locs1 cells slots Q (F0 m (pc + 3) ls rest)) : W p l e R s m args below meth c H locs cells slots Q (F0 m pc ls (.int v :: .ref (ad 2 i j) :: rest)) :=
  pr_put S.1 S.2.1 S.2.2.2.2.1 inlX2 tyX2 tyX2_ok nmX2 S.2.2.2.1 S.2.2.2.2.2.1 hR hS hl (by omega) rfl 3 (by omega) (by decide) (by omega) (by decide) (pr_in16 _ (List.mem_of_getElem? (i := 19) rfl)) rfl rfl (by decide +kernel) hdg kk
theorem gf_RX8_232 {p : Program} {l : Launch} {e : Env} {R : Room} {s : State} {m : MethodId} {args : Array Value} {below : List Frame} {meth : Method} {c : Code} {H : Heap} {locs : List Loc} {cells slots : Nat} {Q : State → Prop} {cc : ByteArray} {pc : Nat} {ls : Array Slot} {rest : List Value} {D : va_G} {cs : Nat → ClassId} {A : Nat → Prop} {ad : pr_Ad} {g : Nat → Nat} {σ : pr_Sg} {nL : Nat} {rt0 : Option FieldType} {i j : Nat} (S : pr_C RX8 cc nL rt0 D cs p s m args meth c) (hR : pr_R D cs A ad g σ H) (hl : pr_lv g 8 i j) (hdg : decode cc pc = .ok (.getfield 232, 3)) (kk : W p l e R s m args below meth c H locs cells slots Q (F0 m (pc + 3) ls (.int (σ 524 i j) :: rest))) : W p l e R s m args below meth c H locs cells slots Q (F0 m pc ls (.ref (ad 8 i j) :: rest)) :=
  pr_get S.1 S.2.1 S.2.2.2.2.1 inlX8 S.2.2.2.1 S.2.2.2.2.2.1 hR hl (by omega) rfl 12 (by omega) (by decide) (pr_in17 _ (List.mem_of_getElem? (i := 17) rfl)) rfl (v := .int (σ 524 i j)) rfl hdg kk
theorem pf_RX8_232 {p : Program} {l : Launch} {e : Env} {R : Room} {s : State} {m : MethodId} {args : Array Value} {below : List Frame} {meth : Method} {c : Code} {H : Heap} {locs : List Loc} {cells slots : Nat} {Q : State → Prop} {cc : ByteArray} {pc : Nat} {ls : Array Slot} {rest : List Value} {D : va_G} {cs : Nat → ClassId} {A : Nat → Prop} {ad : pr_Ad} {g : Nat → Nat} {σ : pr_Sg} {nL : Nat} {rt0 : Option FieldType} {H0 : Heap} {i j : Nat} {v : Int32} (S : pr_C RX8 cc nL rt0 D cs p s m args meth c) (hR : pr_R D cs A ad g σ H) (hS : va_S A H0 H locs) (hl : pr_lv g 8 i j) (hdg : decode cc pc = .ok (.putfield 232, 3)) (kk : ∀ (H1 : Heap) (locs1 : List Loc) (u : pr_Sg), u = pr_up σ 524 i j v → pr_R D cs A ad g u H1 → va_S A H0 H1 locs1 → W p l e R s m args below meth c H1 locs1 cells slots Q (F0 m (pc + 3) ls rest)) : W p l e R s m args below meth c H locs cells slots Q (F0 m pc ls (.int v :: .ref (ad 8 i j) :: rest)) :=
  pr_put S.1 S.2.1 S.2.2.2.2.1 inlX8 tyX8 tyX8_ok nmX8 S.2.2.2.1 S.2.2.2.2.2.1 hR hS hl (by omega) rfl 12 (by omega) (by decide) (by omega) (by decide) (pr_in17 _ (List.mem_of_getElem? (i := 17) rfl)) rfl rfl (by decide +kernel) hdg kk
theorem gf_RX8_235 {p : Program} {l : Launch} {e : Env} {R : Room} {s : State} {m : MethodId} {args : Array Value} {below : List Frame} {meth : Method} {c : Code} {H : Heap} {locs : List Loc} {cells slots : Nat} {Q : State → Prop} {cc : ByteArray} {pc : Nat} {ls : Array Slot} {rest : List Value} {D : va_G} {cs : Nat → ClassId} {A : Nat → Prop} {ad : pr_Ad} {g : Nat → Nat} {σ : pr_Sg} {nL : Nat} {rt0 : Option FieldType} {i j : Nat} (S : pr_C RX8 cc nL rt0 D cs p s m args meth c) (hR : pr_R D cs A ad g σ H) (hl : pr_lv g 7 i j) (hdg : decode cc pc = .ok (.getfield 235, 3)) (kk : W p l e R s m args below meth c H locs cells slots Q (F0 m (pc + 3) ls (.int (σ 453 i j) :: rest))) : W p l e R s m args below meth c H locs cells slots Q (F0 m pc ls (.ref (ad 7 i j) :: rest)) :=
  pr_get S.1 S.2.1 S.2.2.2.2.1 inlX7 S.2.2.2.1 S.2.2.2.2.2.1 hR hl (by omega) rfl 5 (by omega) (by decide) (pr_in27 _ (List.mem_of_getElem? (i := 3) rfl)) rfl (v := .int (σ 453 i j)) rfl hdg kk
theorem pf_RX8_235 {p : Program} {l : Launch} {e : Env} {R : Room} {s : State} {m : MethodId} {args : Array Value} {below : List Frame} {meth : Method} {c : Code} {H : Heap} {locs : List Loc} {cells slots : Nat} {Q : State → Prop} {cc : ByteArray} {pc : Nat} {ls : Array Slot} {rest : List Value} {D : va_G} {cs : Nat → ClassId} {A : Nat → Prop} {ad : pr_Ad} {g : Nat → Nat} {σ : pr_Sg} {nL : Nat} {rt0 : Option FieldType} {H0 : Heap} {i j : Nat} {v : Int32} (S : pr_C RX8 cc nL rt0 D cs p s m args meth c) (hR : pr_R D cs A ad g σ H) (hS : va_S A H0 H locs) (hl : pr_lv g 7 i j) (hdg : decode cc pc = .ok (.putfield 235, 3)) (kk : ∀ (H1 : Heap) (locs1 : List Loc) (u : pr_Sg), u = pr_up σ 453 i j v → pr_R D cs A ad g u H1 → va_S A H0 H1 locs1 → W p l e R s m args below meth c H1 locs1 cells slots Q (F0 m (pc + 3) ls rest)) : W p l e R s m args below meth c H locs cells slots Q (F0 m pc ls (.int v :: .ref (ad 7 i j) :: rest)) :=
  pr_put S.1 S.2.1 S.2.2.2.2.1 inlX7 tyX7 tyX7_ok nmX7 S.2.2.2.1 S.2.2.2.2.2.1 hR hS hl (by omega) rfl 5 (by omega) (by decide) (by omega) (by decide) (pr_in27 _ (List.mem_of_getElem? (i := 3) rfl)) rfl rfl (by decide +kernel) hdg kk
theorem gf_RX8_238 {p : Program} {l : Launch} {e : Env} {R : Room} {s : State} {m : MethodId} {args : Array Value} {below : List Frame} {meth : Method} {c : Code} {H : Heap} {locs : List Loc} {cells slots : Nat} {Q : State → Prop} {cc : ByteArray} {pc : Nat} {ls : Array Slot} {rest : List Value} {D : va_G} {cs : Nat → ClassId} {A : Nat → Prop} {ad : pr_Ad} {g : Nat → Nat} {σ : pr_Sg} {nL : Nat} {rt0 : Option FieldType} {i j : Nat} (S : pr_C RX8 cc nL rt0 D cs p s m args meth c) (hR : pr_R D cs A ad g σ H) (hl : pr_lv g 8 i j) (hdg : decode cc pc = .ok (.getfield 238, 3)) (kk : W p l e R s m args below meth c H locs cells slots Q (F0 m (pc + 3) ls (.int (σ 525 i j) :: rest))) : W p l e R s m args below meth c H locs cells slots Q (F0 m pc ls (.ref (ad 8 i j) :: rest)) :=
  pr_get S.1 S.2.1 S.2.2.2.2.1 inlX8 S.2.2.2.1 S.2.2.2.2.2.1 hR hl (by omega) rfl 13 (by omega) (by decide) (pr_in16 _ (List.mem_of_getElem? (i := 20) rfl)) rfl (v := .int (σ 525 i j)) rfl hdg kk
theorem pf_RX8_238 {p : Program} {l : Launch} {e : Env} {R : Room} {s : State} {m : MethodId} {args : Array Value} {below : List Frame} {meth : Method} {c : Code} {H : Heap} {locs : List Loc} {cells slots : Nat} {Q : State → Prop} {cc : ByteArray} {pc : Nat} {ls : Array Slot} {rest : List Value} {D : va_G} {cs : Nat → ClassId} {A : Nat → Prop} {ad : pr_Ad} {g : Nat → Nat} {σ : pr_Sg} {nL : Nat} {rt0 : Option FieldType} {H0 : Heap} {i j : Nat} {v : Int32} (S : pr_C RX8 cc nL rt0 D cs p s m args meth c) (hR : pr_R D cs A ad g σ H) (hS : va_S A H0 H locs) (hl : pr_lv g 8 i j) (hdg : decode cc pc = .ok (.putfield 238, 3)) (kk : ∀ (H1 : Heap) (locs1 : List Loc) (u : pr_Sg), u = pr_up σ 525 i j v → pr_R D cs A ad g u H1 → va_S A H0 H1 locs1 → W p l e R s m args below meth c H1 locs1 cells slots Q (F0 m (pc + 3) ls rest)) : W p l e R s m args below meth c H locs cells slots Q (F0 m pc ls (.int v :: .ref (ad 8 i j) :: rest)) :=
  pr_put S.1 S.2.1 S.2.2.2.2.1 inlX8 tyX8 tyX8_ok nmX8 S.2.2.2.1 S.2.2.2.2.2.1 hR hS hl (by omega) rfl 13 (by omega) (by decide) (by omega) (by decide) (pr_in16 _ (List.mem_of_getElem? (i := 20) rfl)) rfl rfl (by decide +kernel) hdg kk
theorem gf_RX8_244 {p : Program} {l : Launch} {e : Env} {R : Room} {s : State} {m : MethodId} {args : Array Value} {below : List Frame} {meth : Method} {c : Code} {H : Heap} {locs : List Loc} {cells slots : Nat} {Q : State → Prop} {cc : ByteArray} {pc : Nat} {ls : Array Slot} {rest : List Value} {D : va_G} {cs : Nat → ClassId} {A : Nat → Prop} {ad : pr_Ad} {g : Nat → Nat} {σ : pr_Sg} {nL : Nat} {rt0 : Option FieldType} {i j : Nat} (S : pr_C RX8 cc nL rt0 D cs p s m args meth c) (hR : pr_R D cs A ad g σ H) (hl : pr_lv g 3 i j) (hdg : decode cc pc = .ok (.getfield 244, 3)) (kk : W p l e R s m args below meth c H locs cells slots Q (F0 m (pc + 3) ls (.ref (ad 83 i 0) :: rest))) : W p l e R s m args below meth c H locs cells slots Q (F0 m pc ls (.ref (ad 3 i j) :: rest)) :=
  pr_get S.1 S.2.1 S.2.2.2.2.1 inlX3 S.2.2.2.1 S.2.2.2.2.2.1 hR hl (by omega) rfl 4 (by omega) (by decide) (pr_in15 _ (List.mem_of_getElem? (i := 14) rfl)) rfl (v := .ref (ad 83 i 0)) rfl hdg kk
theorem gf_RX8_254 {p : Program} {l : Launch} {e : Env} {R : Room} {s : State} {m : MethodId} {args : Array Value} {below : List Frame} {meth : Method} {c : Code} {H : Heap} {locs : List Loc} {cells slots : Nat} {Q : State → Prop} {cc : ByteArray} {pc : Nat} {ls : Array Slot} {rest : List Value} {D : va_G} {cs : Nat → ClassId} {A : Nat → Prop} {ad : pr_Ad} {g : Nat → Nat} {σ : pr_Sg} {nL : Nat} {rt0 : Option FieldType} {i j : Nat} (S : pr_C RX8 cc nL rt0 D cs p s m args meth c) (hR : pr_R D cs A ad g σ H) (hl : pr_lv g 3 i j) (hdg : decode cc pc = .ok (.getfield 254, 3)) (kk : W p l e R s m args below meth c H locs cells slots Q (F0 m (pc + 3) ls (.int (σ 193 i j) :: rest))) : W p l e R s m args below meth c H locs cells slots Q (F0 m pc ls (.ref (ad 3 i j) :: rest)) :=
  pr_get S.1 S.2.1 S.2.2.2.2.1 inlX3 S.2.2.2.1 S.2.2.2.2.2.1 hR hl (by omega) rfl 1 (by omega) (by decide) (pr_in15 _ (List.mem_of_getElem? (i := 9) rfl)) rfl (v := .int (σ 193 i j)) rfl hdg kk
theorem gf_RX8_269 {p : Program} {l : Launch} {e : Env} {R : Room} {s : State} {m : MethodId} {args : Array Value} {below : List Frame} {meth : Method} {c : Code} {H : Heap} {locs : List Loc} {cells slots : Nat} {Q : State → Prop} {cc : ByteArray} {pc : Nat} {ls : Array Slot} {rest : List Value} {D : va_G} {cs : Nat → ClassId} {A : Nat → Prop} {ad : pr_Ad} {g : Nat → Nat} {σ : pr_Sg} {nL : Nat} {rt0 : Option FieldType} {i j : Nat} (S : pr_C RX8 cc nL rt0 D cs p s m args meth c) (hR : pr_R D cs A ad g σ H) (hl : pr_lv g 3 i j) (hdg : decode cc pc = .ok (.getfield 269, 3)) (kk : W p l e R s m args below meth c H locs cells slots Q (F0 m (pc + 3) ls (.int (σ 198 i j) :: rest))) : W p l e R s m args below meth c H locs cells slots Q (F0 m pc ls (.ref (ad 3 i j) :: rest)) :=
  pr_get S.1 S.2.1 S.2.2.2.2.1 inlX3 S.2.2.2.1 S.2.2.2.2.2.1 hR hl (by omega) rfl 6 (by omega) (by decide) (pr_in16 _ (List.mem_of_getElem? (i := 22) rfl)) rfl (v := .int (σ 198 i j)) rfl hdg kk
theorem pf_RX8_269 {p : Program} {l : Launch} {e : Env} {R : Room} {s : State} {m : MethodId} {args : Array Value} {below : List Frame} {meth : Method} {c : Code} {H : Heap} {locs : List Loc} {cells slots : Nat} {Q : State → Prop} {cc : ByteArray} {pc : Nat} {ls : Array Slot} {rest : List Value} {D : va_G} {cs : Nat → ClassId} {A : Nat → Prop} {ad : pr_Ad} {g : Nat → Nat} {σ : pr_Sg} {nL : Nat} {rt0 : Option FieldType} {H0 : Heap} {i j : Nat} {v : Int32} (S : pr_C RX8 cc nL rt0 D cs p s m args meth c) (hR : pr_R D cs A ad g σ H) (hS : va_S A H0 H locs) (hl : pr_lv g 3 i j) (hdg : decode cc pc = .ok (.putfield 269, 3)) (kk : ∀ (H1 : Heap) (locs1 : List Loc) (u : pr_Sg), u = pr_up σ 198 i j v → pr_R D cs A ad g u H1 → va_S A H0 H1 locs1 → W p l e R s m args below meth c H1 locs1 cells slots Q (F0 m (pc + 3) ls rest)) : W p l e R s m args below meth c H locs cells slots Q (F0 m pc ls (.int v :: .ref (ad 3 i j) :: rest)) :=
  pr_put S.1 S.2.1 S.2.2.2.2.1 inlX3 tyX3 tyX3_ok nmX3 S.2.2.2.1 S.2.2.2.2.2.1 hR hS hl (by omega) rfl 6 (by omega) (by decide) (by omega) (by decide) (pr_in16 _ (List.mem_of_getElem? (i := 22) rfl)) rfl rfl (by decide +kernel) hdg kk
theorem gf_RX8_286 {p : Program} {l : Launch} {e : Env} {R : Room} {s : State} {m : MethodId} {args : Array Value} {below : List Frame} {meth : Method} {c : Code} {H : Heap} {locs : List Loc} {cells slots : Nat} {Q : State → Prop} {cc : ByteArray} {pc : Nat} {ls : Array Slot} {rest : List Value} {D : va_G} {cs : Nat → ClassId} {A : Nat → Prop} {ad : pr_Ad} {g : Nat → Nat} {σ : pr_Sg} {nL : Nat} {rt0 : Option FieldType} {i j : Nat} (S : pr_C RX8 cc nL rt0 D cs p s m args meth c) (hR : pr_R D cs A ad g σ H) (hl : pr_lv g 4 i j) (hdg : decode cc pc = .ok (.getfield 286, 3)) (kk : W p l e R s m args below meth c H locs cells slots Q (F0 m (pc + 3) ls (.int (σ 262 i j) :: rest))) : W p l e R s m args below meth c H locs cells slots Q (F0 m pc ls (.ref (ad 4 i j) :: rest)) :=
  pr_get S.1 S.2.1 S.2.2.2.2.1 inlX4 S.2.2.2.1 S.2.2.2.2.2.1 hR hl (by omega) rfl 6 (by omega) (by decide) (pr_in19 _ (List.mem_of_getElem? (i := 11) rfl)) rfl (v := .int (σ 262 i j)) rfl hdg kk
theorem pf_RX8_286 {p : Program} {l : Launch} {e : Env} {R : Room} {s : State} {m : MethodId} {args : Array Value} {below : List Frame} {meth : Method} {c : Code} {H : Heap} {locs : List Loc} {cells slots : Nat} {Q : State → Prop} {cc : ByteArray} {pc : Nat} {ls : Array Slot} {rest : List Value} {D : va_G} {cs : Nat → ClassId} {A : Nat → Prop} {ad : pr_Ad} {g : Nat → Nat} {σ : pr_Sg} {nL : Nat} {rt0 : Option FieldType} {H0 : Heap} {i j : Nat} {v : Int32} (S : pr_C RX8 cc nL rt0 D cs p s m args meth c) (hR : pr_R D cs A ad g σ H) (hS : va_S A H0 H locs) (hl : pr_lv g 4 i j) (hdg : decode cc pc = .ok (.putfield 286, 3)) (kk : ∀ (H1 : Heap) (locs1 : List Loc) (u : pr_Sg), u = pr_up σ 262 i j v → pr_R D cs A ad g u H1 → va_S A H0 H1 locs1 → W p l e R s m args below meth c H1 locs1 cells slots Q (F0 m (pc + 3) ls rest)) : W p l e R s m args below meth c H locs cells slots Q (F0 m pc ls (.int v :: .ref (ad 4 i j) :: rest)) :=
  pr_put S.1 S.2.1 S.2.2.2.2.1 inlX4 tyX4 tyX4_ok nmX4 S.2.2.2.1 S.2.2.2.2.2.1 hR hS hl (by omega) rfl 6 (by omega) (by decide) (by omega) (by decide) (pr_in19 _ (List.mem_of_getElem? (i := 11) rfl)) rfl rfl (by decide +kernel) hdg kk
theorem gf_RX8_289 {p : Program} {l : Launch} {e : Env} {R : Room} {s : State} {m : MethodId} {args : Array Value} {below : List Frame} {meth : Method} {c : Code} {H : Heap} {locs : List Loc} {cells slots : Nat} {Q : State → Prop} {cc : ByteArray} {pc : Nat} {ls : Array Slot} {rest : List Value} {D : va_G} {cs : Nat → ClassId} {A : Nat → Prop} {ad : pr_Ad} {g : Nat → Nat} {σ : pr_Sg} {nL : Nat} {rt0 : Option FieldType} {i j : Nat} (S : pr_C RX8 cc nL rt0 D cs p s m args meth c) (hR : pr_R D cs A ad g σ H) (hl : pr_lv g 4 i j) (hdg : decode cc pc = .ok (.getfield 289, 3)) (kk : W p l e R s m args below meth c H locs cells slots Q (F0 m (pc + 3) ls (.int (σ 263 i j) :: rest))) : W p l e R s m args below meth c H locs cells slots Q (F0 m pc ls (.ref (ad 4 i j) :: rest)) :=
  pr_get S.1 S.2.1 S.2.2.2.2.1 inlX4 S.2.2.2.1 S.2.2.2.2.2.1 hR hl (by omega) rfl 7 (by omega) (by decide) (pr_in19 _ (List.mem_of_getElem? (i := 12) rfl)) rfl (v := .int (σ 263 i j)) rfl hdg kk
theorem pf_RX8_289 {p : Program} {l : Launch} {e : Env} {R : Room} {s : State} {m : MethodId} {args : Array Value} {below : List Frame} {meth : Method} {c : Code} {H : Heap} {locs : List Loc} {cells slots : Nat} {Q : State → Prop} {cc : ByteArray} {pc : Nat} {ls : Array Slot} {rest : List Value} {D : va_G} {cs : Nat → ClassId} {A : Nat → Prop} {ad : pr_Ad} {g : Nat → Nat} {σ : pr_Sg} {nL : Nat} {rt0 : Option FieldType} {H0 : Heap} {i j : Nat} {v : Int32} (S : pr_C RX8 cc nL rt0 D cs p s m args meth c) (hR : pr_R D cs A ad g σ H) (hS : va_S A H0 H locs) (hl : pr_lv g 4 i j) (hdg : decode cc pc = .ok (.putfield 289, 3)) (kk : ∀ (H1 : Heap) (locs1 : List Loc) (u : pr_Sg), u = pr_up σ 263 i j v → pr_R D cs A ad g u H1 → va_S A H0 H1 locs1 → W p l e R s m args below meth c H1 locs1 cells slots Q (F0 m (pc + 3) ls rest)) : W p l e R s m args below meth c H locs cells slots Q (F0 m pc ls (.int v :: .ref (ad 4 i j) :: rest)) :=
  pr_put S.1 S.2.1 S.2.2.2.2.1 inlX4 tyX4 tyX4_ok nmX4 S.2.2.2.1 S.2.2.2.2.2.1 hR hS hl (by omega) rfl 7 (by omega) (by decide) (by omega) (by decide) (pr_in19 _ (List.mem_of_getElem? (i := 12) rfl)) rfl rfl (by decide +kernel) hdg kk
theorem gf_RX8_299 {p : Program} {l : Launch} {e : Env} {R : Room} {s : State} {m : MethodId} {args : Array Value} {below : List Frame} {meth : Method} {c : Code} {H : Heap} {locs : List Loc} {cells slots : Nat} {Q : State → Prop} {cc : ByteArray} {pc : Nat} {ls : Array Slot} {rest : List Value} {D : va_G} {cs : Nat → ClassId} {A : Nat → Prop} {ad : pr_Ad} {g : Nat → Nat} {σ : pr_Sg} {nL : Nat} {rt0 : Option FieldType} {i j : Nat} (S : pr_C RX8 cc nL rt0 D cs p s m args meth c) (hR : pr_R D cs A ad g σ H) (hl : pr_lv g 4 i j) (hdg : decode cc pc = .ok (.getfield 299, 3)) (kk : W p l e R s m args below meth c H locs cells slots Q (F0 m (pc + 3) ls (.ref (ad 33 i 0) :: rest))) : W p l e R s m args below meth c H locs cells slots Q (F0 m pc ls (.ref (ad 4 i j) :: rest)) :=
  pr_get S.1 S.2.1 S.2.2.2.2.1 inlX4 S.2.2.2.1 S.2.2.2.2.2.1 hR hl (by omega) rfl 3 (by omega) (by decide) (pr_in20 _ (List.mem_of_getElem? (i := 13) rfl)) rfl (v := .ref (ad 33 i 0)) rfl hdg kk
theorem gf_RX8_305 {p : Program} {l : Launch} {e : Env} {R : Room} {s : State} {m : MethodId} {args : Array Value} {below : List Frame} {meth : Method} {c : Code} {H : Heap} {locs : List Loc} {cells slots : Nat} {Q : State → Prop} {cc : ByteArray} {pc : Nat} {ls : Array Slot} {rest : List Value} {D : va_G} {cs : Nat → ClassId} {A : Nat → Prop} {ad : pr_Ad} {g : Nat → Nat} {σ : pr_Sg} {nL : Nat} {rt0 : Option FieldType} {i j : Nat} (S : pr_C RX8 cc nL rt0 D cs p s m args meth c) (hR : pr_R D cs A ad g σ H) (hl : pr_lv g 4 i j) (hdg : decode cc pc = .ok (.getfield 305, 3)) (kk : W p l e R s m args below meth c H locs cells slots Q (F0 m (pc + 3) ls (.ref (ad 32 i 0) :: rest))) : W p l e R s m args below meth c H locs cells slots Q (F0 m pc ls (.ref (ad 4 i j) :: rest)) :=
  pr_get S.1 S.2.1 S.2.2.2.2.1 inlX4 S.2.2.2.1 S.2.2.2.2.2.1 hR hl (by omega) rfl 2 (by omega) (by decide) (pr_in20 _ (List.mem_of_getElem? (i := 14) rfl)) rfl (v := .ref (ad 32 i 0)) rfl hdg kk
theorem gf_RX8_308 {p : Program} {l : Launch} {e : Env} {R : Room} {s : State} {m : MethodId} {args : Array Value} {below : List Frame} {meth : Method} {c : Code} {H : Heap} {locs : List Loc} {cells slots : Nat} {Q : State → Prop} {cc : ByteArray} {pc : Nat} {ls : Array Slot} {rest : List Value} {D : va_G} {cs : Nat → ClassId} {A : Nat → Prop} {ad : pr_Ad} {g : Nat → Nat} {σ : pr_Sg} {nL : Nat} {rt0 : Option FieldType} {i j : Nat} (S : pr_C RX8 cc nL rt0 D cs p s m args meth c) (hR : pr_R D cs A ad g σ H) (hl : pr_lv g 4 i j) (hdg : decode cc pc = .ok (.getfield 308, 3)) (kk : W p l e R s m args below meth c H locs cells slots Q (F0 m (pc + 3) ls (.ref (ad 34 i 0) :: rest))) : W p l e R s m args below meth c H locs cells slots Q (F0 m pc ls (.ref (ad 4 i j) :: rest)) :=
  pr_get S.1 S.2.1 S.2.2.2.2.1 inlX4 S.2.2.2.1 S.2.2.2.2.2.1 hR hl (by omega) rfl 4 (by omega) (by decide) (pr_in20 _ (List.mem_of_getElem? (i := 15) rfl)) rfl (v := .ref (ad 34 i 0)) rfl hdg kk
theorem gf_RX9_9 {p : Program} {l : Launch} {e : Env} {R : Room} {s : State} {m : MethodId} {args : Array Value} {below : List Frame} {meth : Method} {c : Code} {H : Heap} {locs : List Loc} {cells slots : Nat} {Q : State → Prop} {cc : ByteArray} {pc : Nat} {ls : Array Slot} {rest : List Value} {D : va_G} {cs : Nat → ClassId} {A : Nat → Prop} {ad : pr_Ad} {g : Nat → Nat} {σ : pr_Sg} {nL : Nat} {rt0 : Option FieldType} {i j : Nat} (S : pr_C RX9 cc nL rt0 D cs p s m args meth c) (hR : pr_R D cs A ad g σ H) (hl : pr_lv g 9 i j) (hdg : decode cc pc = .ok (.getfield 9, 3)) (kk : W p l e R s m args below meth c H locs cells slots Q (F0 m (pc + 3) ls (.ref (ad 40 i 0) :: rest))) : W p l e R s m args below meth c H locs cells slots Q (F0 m pc ls (.ref (ad 9 i j) :: rest)) :=
  pr_get S.1 S.2.1 S.2.2.2.2.1 inlX9 S.2.2.2.1 S.2.2.2.2.2.1 hR hl (by omega) rfl 1 (by omega) (by decide) (pr_in4 _ (List.mem_of_getElem? (i := 11) rfl)) rfl (v := .ref (ad 40 i 0)) rfl hdg kk
theorem gf_RX9_13 {p : Program} {l : Launch} {e : Env} {R : Room} {s : State} {m : MethodId} {args : Array Value} {below : List Frame} {meth : Method} {c : Code} {H : Heap} {locs : List Loc} {cells slots : Nat} {Q : State → Prop} {cc : ByteArray} {pc : Nat} {ls : Array Slot} {rest : List Value} {D : va_G} {cs : Nat → ClassId} {A : Nat → Prop} {ad : pr_Ad} {g : Nat → Nat} {σ : pr_Sg} {nL : Nat} {rt0 : Option FieldType} {i j : Nat} (S : pr_C RX9 cc nL rt0 D cs p s m args meth c) (hR : pr_R D cs A ad g σ H) (hl : pr_lv g 9 i j) (hdg : decode cc pc = .ok (.getfield 13, 3)) (kk : W p l e R s m args below meth c H locs cells slots Q (F0 m (pc + 3) ls (.ref (ad 41 i 0) :: rest))) : W p l e R s m args below meth c H locs cells slots Q (F0 m pc ls (.ref (ad 9 i j) :: rest)) :=
  pr_get S.1 S.2.1 S.2.2.2.2.1 inlX9 S.2.2.2.1 S.2.2.2.2.2.1 hR hl (by omega) rfl 2 (by omega) (by decide) (pr_in4 _ (List.mem_of_getElem? (i := 12) rfl)) rfl (v := .ref (ad 41 i 0)) rfl hdg kk
theorem gf_RX9_16 {p : Program} {l : Launch} {e : Env} {R : Room} {s : State} {m : MethodId} {args : Array Value} {below : List Frame} {meth : Method} {c : Code} {H : Heap} {locs : List Loc} {cells slots : Nat} {Q : State → Prop} {cc : ByteArray} {pc : Nat} {ls : Array Slot} {rest : List Value} {D : va_G} {cs : Nat → ClassId} {A : Nat → Prop} {ad : pr_Ad} {g : Nat → Nat} {σ : pr_Sg} {nL : Nat} {rt0 : Option FieldType} {i j : Nat} (S : pr_C RX9 cc nL rt0 D cs p s m args meth c) (hR : pr_R D cs A ad g σ H) (hl : pr_lv g 9 i j) (hdg : decode cc pc = .ok (.getfield 16, 3)) (kk : W p l e R s m args below meth c H locs cells slots Q (F0 m (pc + 3) ls (.ref (ad 42 i 0) :: rest))) : W p l e R s m args below meth c H locs cells slots Q (F0 m pc ls (.ref (ad 9 i j) :: rest)) :=
  pr_get S.1 S.2.1 S.2.2.2.2.1 inlX9 S.2.2.2.1 S.2.2.2.2.2.1 hR hl (by omega) rfl 3 (by omega) (by decide) (pr_in4 _ (List.mem_of_getElem? (i := 13) rfl)) rfl (v := .ref (ad 42 i 0)) rfl hdg kk
theorem gf_RX9_19 {p : Program} {l : Launch} {e : Env} {R : Room} {s : State} {m : MethodId} {args : Array Value} {below : List Frame} {meth : Method} {c : Code} {H : Heap} {locs : List Loc} {cells slots : Nat} {Q : State → Prop} {cc : ByteArray} {pc : Nat} {ls : Array Slot} {rest : List Value} {D : va_G} {cs : Nat → ClassId} {A : Nat → Prop} {ad : pr_Ad} {g : Nat → Nat} {σ : pr_Sg} {nL : Nat} {rt0 : Option FieldType} {i j : Nat} (S : pr_C RX9 cc nL rt0 D cs p s m args meth c) (hR : pr_R D cs A ad g σ H) (hl : pr_lv g 9 i j) (hdg : decode cc pc = .ok (.getfield 19, 3)) (kk : W p l e R s m args below meth c H locs cells slots Q (F0 m (pc + 3) ls (.ref (ad 43 i 0) :: rest))) : W p l e R s m args below meth c H locs cells slots Q (F0 m pc ls (.ref (ad 9 i j) :: rest)) :=
  pr_get S.1 S.2.1 S.2.2.2.2.1 inlX9 S.2.2.2.1 S.2.2.2.2.2.1 hR hl (by omega) rfl 5 (by omega) (by decide) (pr_in4 _ (List.mem_of_getElem? (i := 14) rfl)) rfl (v := .ref (ad 43 i 0)) rfl hdg kk
theorem gf_RX9_22 {p : Program} {l : Launch} {e : Env} {R : Room} {s : State} {m : MethodId} {args : Array Value} {below : List Frame} {meth : Method} {c : Code} {H : Heap} {locs : List Loc} {cells slots : Nat} {Q : State → Prop} {cc : ByteArray} {pc : Nat} {ls : Array Slot} {rest : List Value} {D : va_G} {cs : Nat → ClassId} {A : Nat → Prop} {ad : pr_Ad} {g : Nat → Nat} {σ : pr_Sg} {nL : Nat} {rt0 : Option FieldType} {i j : Nat} (S : pr_C RX9 cc nL rt0 D cs p s m args meth c) (hR : pr_R D cs A ad g σ H) (hl : pr_lv g 9 i j) (hdg : decode cc pc = .ok (.getfield 22, 3)) (kk : W p l e R s m args below meth c H locs cells slots Q (F0 m (pc + 3) ls (.ref (ad 44 i 0) :: rest))) : W p l e R s m args below meth c H locs cells slots Q (F0 m pc ls (.ref (ad 9 i j) :: rest)) :=
  pr_get S.1 S.2.1 S.2.2.2.2.1 inlX9 S.2.2.2.1 S.2.2.2.2.2.1 hR hl (by omega) rfl 6 (by omega) (by decide) (pr_in4 _ (List.mem_of_getElem? (i := 15) rfl)) rfl (v := .ref (ad 44 i 0)) rfl hdg kk
theorem gf_RX9_25 {p : Program} {l : Launch} {e : Env} {R : Room} {s : State} {m : MethodId} {args : Array Value} {below : List Frame} {meth : Method} {c : Code} {H : Heap} {locs : List Loc} {cells slots : Nat} {Q : State → Prop} {cc : ByteArray} {pc : Nat} {ls : Array Slot} {rest : List Value} {D : va_G} {cs : Nat → ClassId} {A : Nat → Prop} {ad : pr_Ad} {g : Nat → Nat} {σ : pr_Sg} {nL : Nat} {rt0 : Option FieldType} {i j : Nat} (S : pr_C RX9 cc nL rt0 D cs p s m args meth c) (hR : pr_R D cs A ad g σ H) (hl : pr_lv g 9 i j) (hdg : decode cc pc = .ok (.getfield 25, 3)) (kk : W p l e R s m args below meth c H locs cells slots Q (F0 m (pc + 3) ls (.ref (ad 45 i 0) :: rest))) : W p l e R s m args below meth c H locs cells slots Q (F0 m pc ls (.ref (ad 9 i j) :: rest)) :=
  pr_get S.1 S.2.1 S.2.2.2.2.1 inlX9 S.2.2.2.1 S.2.2.2.2.2.1 hR hl (by omega) rfl 7 (by omega) (by decide) (pr_in4 _ (List.mem_of_getElem? (i := 16) rfl)) rfl (v := .ref (ad 45 i 0)) rfl hdg kk
theorem gf_RX9_28 {p : Program} {l : Launch} {e : Env} {R : Room} {s : State} {m : MethodId} {args : Array Value} {below : List Frame} {meth : Method} {c : Code} {H : Heap} {locs : List Loc} {cells slots : Nat} {Q : State → Prop} {cc : ByteArray} {pc : Nat} {ls : Array Slot} {rest : List Value} {D : va_G} {cs : Nat → ClassId} {A : Nat → Prop} {ad : pr_Ad} {g : Nat → Nat} {σ : pr_Sg} {nL : Nat} {rt0 : Option FieldType} {i j : Nat} (S : pr_C RX9 cc nL rt0 D cs p s m args meth c) (hR : pr_R D cs A ad g σ H) (hl : pr_lv g 9 i j) (hdg : decode cc pc = .ok (.getfield 28, 3)) (kk : W p l e R s m args below meth c H locs cells slots Q (F0 m (pc + 3) ls (.ref (ad 46 i 0) :: rest))) : W p l e R s m args below meth c H locs cells slots Q (F0 m pc ls (.ref (ad 9 i j) :: rest)) :=
  pr_get S.1 S.2.1 S.2.2.2.2.1 inlX9 S.2.2.2.1 S.2.2.2.2.2.1 hR hl (by omega) rfl 8 (by omega) (by decide) (pr_in4 _ (List.mem_of_getElem? (i := 17) rfl)) rfl (v := .ref (ad 46 i 0)) rfl hdg kk
theorem gf_RX9_31 {p : Program} {l : Launch} {e : Env} {R : Room} {s : State} {m : MethodId} {args : Array Value} {below : List Frame} {meth : Method} {c : Code} {H : Heap} {locs : List Loc} {cells slots : Nat} {Q : State → Prop} {cc : ByteArray} {pc : Nat} {ls : Array Slot} {rest : List Value} {D : va_G} {cs : Nat → ClassId} {A : Nat → Prop} {ad : pr_Ad} {g : Nat → Nat} {σ : pr_Sg} {nL : Nat} {rt0 : Option FieldType} {i j : Nat} (S : pr_C RX9 cc nL rt0 D cs p s m args meth c) (hR : pr_R D cs A ad g σ H) (hl : pr_lv g 9 i j) (hdg : decode cc pc = .ok (.getfield 31, 3)) (kk : W p l e R s m args below meth c H locs cells slots Q (F0 m (pc + 3) ls (.int (σ 585 i j) :: rest))) : W p l e R s m args below meth c H locs cells slots Q (F0 m pc ls (.ref (ad 9 i j) :: rest)) :=
  pr_get S.1 S.2.1 S.2.2.2.2.1 inlX9 S.2.2.2.1 S.2.2.2.2.2.1 hR hl (by omega) rfl 9 (by omega) (by decide) (pr_in4 _ (List.mem_of_getElem? (i := 18) rfl)) rfl (v := .int (σ 585 i j)) rfl hdg kk
theorem pf_RX9_31 {p : Program} {l : Launch} {e : Env} {R : Room} {s : State} {m : MethodId} {args : Array Value} {below : List Frame} {meth : Method} {c : Code} {H : Heap} {locs : List Loc} {cells slots : Nat} {Q : State → Prop} {cc : ByteArray} {pc : Nat} {ls : Array Slot} {rest : List Value} {D : va_G} {cs : Nat → ClassId} {A : Nat → Prop} {ad : pr_Ad} {g : Nat → Nat} {σ : pr_Sg} {nL : Nat} {rt0 : Option FieldType} {H0 : Heap} {i j : Nat} {v : Int32} (S : pr_C RX9 cc nL rt0 D cs p s m args meth c) (hR : pr_R D cs A ad g σ H) (hS : va_S A H0 H locs) (hl : pr_lv g 9 i j) (hdg : decode cc pc = .ok (.putfield 31, 3)) (kk : ∀ (H1 : Heap) (locs1 : List Loc) (u : pr_Sg), u = pr_up σ 585 i j v → pr_R D cs A ad g u H1 → va_S A H0 H1 locs1 → W p l e R s m args below meth c H1 locs1 cells slots Q (F0 m (pc + 3) ls rest)) : W p l e R s m args below meth c H locs cells slots Q (F0 m pc ls (.int v :: .ref (ad 9 i j) :: rest)) :=
  pr_put S.1 S.2.1 S.2.2.2.2.1 inlX9 tyX9 tyX9_ok nmX9 S.2.2.2.1 S.2.2.2.2.2.1 hR hS hl (by omega) rfl 9 (by omega) (by decide) (by omega) (by decide) (pr_in4 _ (List.mem_of_getElem? (i := 18) rfl)) rfl rfl (by decide +kernel) hdg kk
theorem gf_RX9_35 {p : Program} {l : Launch} {e : Env} {R : Room} {s : State} {m : MethodId} {args : Array Value} {below : List Frame} {meth : Method} {c : Code} {H : Heap} {locs : List Loc} {cells slots : Nat} {Q : State → Prop} {cc : ByteArray} {pc : Nat} {ls : Array Slot} {rest : List Value} {D : va_G} {cs : Nat → ClassId} {A : Nat → Prop} {ad : pr_Ad} {g : Nat → Nat} {σ : pr_Sg} {nL : Nat} {rt0 : Option FieldType} {i j : Nat} (S : pr_C RX9 cc nL rt0 D cs p s m args meth c) (hR : pr_R D cs A ad g σ H) (hl : pr_lv g 9 i j) (hdg : decode cc pc = .ok (.getfield 35, 3)) (kk : W p l e R s m args below meth c H locs cells slots Q (F0 m (pc + 3) ls (.ref (ad 47 i 0) :: rest))) : W p l e R s m args below meth c H locs cells slots Q (F0 m pc ls (.ref (ad 9 i j) :: rest)) :=
  pr_get S.1 S.2.1 S.2.2.2.2.1 inlX9 S.2.2.2.1 S.2.2.2.2.2.1 hR hl (by omega) rfl 10 (by omega) (by decide) (pr_in4 _ (List.mem_of_getElem? (i := 19) rfl)) rfl (v := .ref (ad 47 i 0)) rfl hdg kk
theorem gf_RX9_38 {p : Program} {l : Launch} {e : Env} {R : Room} {s : State} {m : MethodId} {args : Array Value} {below : List Frame} {meth : Method} {c : Code} {H : Heap} {locs : List Loc} {cells slots : Nat} {Q : State → Prop} {cc : ByteArray} {pc : Nat} {ls : Array Slot} {rest : List Value} {D : va_G} {cs : Nat → ClassId} {A : Nat → Prop} {ad : pr_Ad} {g : Nat → Nat} {σ : pr_Sg} {nL : Nat} {rt0 : Option FieldType} {i j : Nat} (S : pr_C RX9 cc nL rt0 D cs p s m args meth c) (hR : pr_R D cs A ad g σ H) (hl : pr_lv g 9 i j) (hdg : decode cc pc = .ok (.getfield 38, 3)) (kk : W p l e R s m args below meth c H locs cells slots Q (F0 m (pc + 3) ls (.ref (ad 48 i 0) :: rest))) : W p l e R s m args below meth c H locs cells slots Q (F0 m pc ls (.ref (ad 9 i j) :: rest)) :=
  pr_get S.1 S.2.1 S.2.2.2.2.1 inlX9 S.2.2.2.1 S.2.2.2.2.2.1 hR hl (by omega) rfl 11 (by omega) (by decide) (pr_in4 _ (List.mem_of_getElem? (i := 20) rfl)) rfl (v := .ref (ad 48 i 0)) rfl hdg kk
theorem gf_RX9_41 {p : Program} {l : Launch} {e : Env} {R : Room} {s : State} {m : MethodId} {args : Array Value} {below : List Frame} {meth : Method} {c : Code} {H : Heap} {locs : List Loc} {cells slots : Nat} {Q : State → Prop} {cc : ByteArray} {pc : Nat} {ls : Array Slot} {rest : List Value} {D : va_G} {cs : Nat → ClassId} {A : Nat → Prop} {ad : pr_Ad} {g : Nat → Nat} {σ : pr_Sg} {nL : Nat} {rt0 : Option FieldType} {i j : Nat} (S : pr_C RX9 cc nL rt0 D cs p s m args meth c) (hR : pr_R D cs A ad g σ H) (hl : pr_lv g 9 i j) (hdg : decode cc pc = .ok (.getfield 41, 3)) (kk : W p l e R s m args below meth c H locs cells slots Q (F0 m (pc + 3) ls (.ref (ad 49 i 0) :: rest))) : W p l e R s m args below meth c H locs cells slots Q (F0 m pc ls (.ref (ad 9 i j) :: rest)) :=
  pr_get S.1 S.2.1 S.2.2.2.2.1 inlX9 S.2.2.2.1 S.2.2.2.2.2.1 hR hl (by omega) rfl 12 (by omega) (by decide) (pr_in4 _ (List.mem_of_getElem? (i := 21) rfl)) rfl (v := .ref (ad 49 i 0)) rfl hdg kk
theorem gf_RX9_44 {p : Program} {l : Launch} {e : Env} {R : Room} {s : State} {m : MethodId} {args : Array Value} {below : List Frame} {meth : Method} {c : Code} {H : Heap} {locs : List Loc} {cells slots : Nat} {Q : State → Prop} {cc : ByteArray} {pc : Nat} {ls : Array Slot} {rest : List Value} {D : va_G} {cs : Nat → ClassId} {A : Nat → Prop} {ad : pr_Ad} {g : Nat → Nat} {σ : pr_Sg} {nL : Nat} {rt0 : Option FieldType} {i j : Nat} (S : pr_C RX9 cc nL rt0 D cs p s m args meth c) (hR : pr_R D cs A ad g σ H) (hl : pr_lv g 9 i j) (hdg : decode cc pc = .ok (.getfield 44, 3)) (kk : W p l e R s m args below meth c H locs cells slots Q (F0 m (pc + 3) ls (.ref (ad 50 i 0) :: rest))) : W p l e R s m args below meth c H locs cells slots Q (F0 m pc ls (.ref (ad 9 i j) :: rest)) :=
  pr_get S.1 S.2.1 S.2.2.2.2.1 inlX9 S.2.2.2.1 S.2.2.2.2.2.1 hR hl (by omega) rfl 14 (by omega) (by decide) (pr_in4 _ (List.mem_of_getElem? (i := 22) rfl)) rfl (v := .ref (ad 50 i 0)) rfl hdg kk
theorem gf_RX9_47 {p : Program} {l : Launch} {e : Env} {R : Room} {s : State} {m : MethodId} {args : Array Value} {below : List Frame} {meth : Method} {c : Code} {H : Heap} {locs : List Loc} {cells slots : Nat} {Q : State → Prop} {cc : ByteArray} {pc : Nat} {ls : Array Slot} {rest : List Value} {D : va_G} {cs : Nat → ClassId} {A : Nat → Prop} {ad : pr_Ad} {g : Nat → Nat} {σ : pr_Sg} {nL : Nat} {rt0 : Option FieldType} {i j : Nat} (S : pr_C RX9 cc nL rt0 D cs p s m args meth c) (hR : pr_R D cs A ad g σ H) (hl : pr_lv g 9 i j) (hdg : decode cc pc = .ok (.getfield 47, 3)) (kk : W p l e R s m args below meth c H locs cells slots Q (F0 m (pc + 3) ls (.ref (ad 51 i 0) :: rest))) : W p l e R s m args below meth c H locs cells slots Q (F0 m pc ls (.ref (ad 9 i j) :: rest)) :=
  pr_get S.1 S.2.1 S.2.2.2.2.1 inlX9 S.2.2.2.1 S.2.2.2.2.2.1 hR hl (by omega) rfl 15 (by omega) (by decide) (pr_in4 _ (List.mem_of_getElem? (i := 23) rfl)) rfl (v := .ref (ad 51 i 0)) rfl hdg kk
theorem gf_RX9_50 {p : Program} {l : Launch} {e : Env} {R : Room} {s : State} {m : MethodId} {args : Array Value} {below : List Frame} {meth : Method} {c : Code} {H : Heap} {locs : List Loc} {cells slots : Nat} {Q : State → Prop} {cc : ByteArray} {pc : Nat} {ls : Array Slot} {rest : List Value} {D : va_G} {cs : Nat → ClassId} {A : Nat → Prop} {ad : pr_Ad} {g : Nat → Nat} {σ : pr_Sg} {nL : Nat} {rt0 : Option FieldType} {i j : Nat} (S : pr_C RX9 cc nL rt0 D cs p s m args meth c) (hR : pr_R D cs A ad g σ H) (hl : pr_lv g 9 i j) (hdg : decode cc pc = .ok (.getfield 50, 3)) (kk : W p l e R s m args below meth c H locs cells slots Q (F0 m (pc + 3) ls (.ref (ad 52 i 0) :: rest))) : W p l e R s m args below meth c H locs cells slots Q (F0 m pc ls (.ref (ad 9 i j) :: rest)) :=
  pr_get S.1 S.2.1 S.2.2.2.2.1 inlX9 S.2.2.2.1 S.2.2.2.2.2.1 hR hl (by omega) rfl 16 (by omega) (by decide) (pr_in5 _ (List.mem_of_getElem? (i := 0) rfl)) rfl (v := .ref (ad 52 i 0)) rfl hdg kk
theorem gf_RX9_53 {p : Program} {l : Launch} {e : Env} {R : Room} {s : State} {m : MethodId} {args : Array Value} {below : List Frame} {meth : Method} {c : Code} {H : Heap} {locs : List Loc} {cells slots : Nat} {Q : State → Prop} {cc : ByteArray} {pc : Nat} {ls : Array Slot} {rest : List Value} {D : va_G} {cs : Nat → ClassId} {A : Nat → Prop} {ad : pr_Ad} {g : Nat → Nat} {σ : pr_Sg} {nL : Nat} {rt0 : Option FieldType} {i j : Nat} (S : pr_C RX9 cc nL rt0 D cs p s m args meth c) (hR : pr_R D cs A ad g σ H) (hl : pr_lv g 9 i j) (hdg : decode cc pc = .ok (.getfield 53, 3)) (kk : W p l e R s m args below meth c H locs cells slots Q (F0 m (pc + 3) ls (.ref (ad 53 i 0) :: rest))) : W p l e R s m args below meth c H locs cells slots Q (F0 m pc ls (.ref (ad 9 i j) :: rest)) :=
  pr_get S.1 S.2.1 S.2.2.2.2.1 inlX9 S.2.2.2.1 S.2.2.2.2.2.1 hR hl (by omega) rfl 17 (by omega) (by decide) (pr_in5 _ (List.mem_of_getElem? (i := 1) rfl)) rfl (v := .ref (ad 53 i 0)) rfl hdg kk
theorem gf_RX9_56 {p : Program} {l : Launch} {e : Env} {R : Room} {s : State} {m : MethodId} {args : Array Value} {below : List Frame} {meth : Method} {c : Code} {H : Heap} {locs : List Loc} {cells slots : Nat} {Q : State → Prop} {cc : ByteArray} {pc : Nat} {ls : Array Slot} {rest : List Value} {D : va_G} {cs : Nat → ClassId} {A : Nat → Prop} {ad : pr_Ad} {g : Nat → Nat} {σ : pr_Sg} {nL : Nat} {rt0 : Option FieldType} {i j : Nat} (S : pr_C RX9 cc nL rt0 D cs p s m args meth c) (hR : pr_R D cs A ad g σ H) (hl : pr_lv g 9 i j) (hdg : decode cc pc = .ok (.getfield 56, 3)) (kk : W p l e R s m args below meth c H locs cells slots Q (F0 m (pc + 3) ls (.ref (ad 54 i 0) :: rest))) : W p l e R s m args below meth c H locs cells slots Q (F0 m pc ls (.ref (ad 9 i j) :: rest)) :=
  pr_get S.1 S.2.1 S.2.2.2.2.1 inlX9 S.2.2.2.1 S.2.2.2.2.2.1 hR hl (by omega) rfl 18 (by omega) (by decide) (pr_in5 _ (List.mem_of_getElem? (i := 2) rfl)) rfl (v := .ref (ad 54 i 0)) rfl hdg kk
theorem gf_RX9_59 {p : Program} {l : Launch} {e : Env} {R : Room} {s : State} {m : MethodId} {args : Array Value} {below : List Frame} {meth : Method} {c : Code} {H : Heap} {locs : List Loc} {cells slots : Nat} {Q : State → Prop} {cc : ByteArray} {pc : Nat} {ls : Array Slot} {rest : List Value} {D : va_G} {cs : Nat → ClassId} {A : Nat → Prop} {ad : pr_Ad} {g : Nat → Nat} {σ : pr_Sg} {nL : Nat} {rt0 : Option FieldType} {i j : Nat} (S : pr_C RX9 cc nL rt0 D cs p s m args meth c) (hR : pr_R D cs A ad g σ H) (hl : pr_lv g 9 i j) (hdg : decode cc pc = .ok (.getfield 59, 3)) (kk : W p l e R s m args below meth c H locs cells slots Q (F0 m (pc + 3) ls (.ref (ad 55 i 0) :: rest))) : W p l e R s m args below meth c H locs cells slots Q (F0 m pc ls (.ref (ad 9 i j) :: rest)) :=
  pr_get S.1 S.2.1 S.2.2.2.2.1 inlX9 S.2.2.2.1 S.2.2.2.2.2.1 hR hl (by omega) rfl 19 (by omega) (by decide) (pr_in5 _ (List.mem_of_getElem? (i := 3) rfl)) rfl (v := .ref (ad 55 i 0)) rfl hdg kk
theorem gf_RX9_64 {p : Program} {l : Launch} {e : Env} {R : Room} {s : State} {m : MethodId} {args : Array Value} {below : List Frame} {meth : Method} {c : Code} {H : Heap} {locs : List Loc} {cells slots : Nat} {Q : State → Prop} {cc : ByteArray} {pc : Nat} {ls : Array Slot} {rest : List Value} {D : va_G} {cs : Nat → ClassId} {A : Nat → Prop} {ad : pr_Ad} {g : Nat → Nat} {σ : pr_Sg} {nL : Nat} {rt0 : Option FieldType} {i j : Nat} (S : pr_C RX9 cc nL rt0 D cs p s m args meth c) (hR : pr_R D cs A ad g σ H) (hl : pr_lv g 9 i j) (hdg : decode cc pc = .ok (.getfield 64, 3)) (kk : W p l e R s m args below meth c H locs cells slots Q (F0 m (pc + 3) ls (.ref (ad 84 i 0) :: rest))) : W p l e R s m args below meth c H locs cells slots Q (F0 m pc ls (.ref (ad 9 i j) :: rest)) :=
  pr_get S.1 S.2.1 S.2.2.2.2.1 inlX9 S.2.2.2.1 S.2.2.2.2.2.1 hR hl (by omega) rfl 20 (by omega) (by decide) (pr_in5 _ (List.mem_of_getElem? (i := 5) rfl)) rfl (v := .ref (ad 84 i 0)) rfl hdg kk
theorem gf_RX9_67 {p : Program} {l : Launch} {e : Env} {R : Room} {s : State} {m : MethodId} {args : Array Value} {below : List Frame} {meth : Method} {c : Code} {H : Heap} {locs : List Loc} {cells slots : Nat} {Q : State → Prop} {cc : ByteArray} {pc : Nat} {ls : Array Slot} {rest : List Value} {D : va_G} {cs : Nat → ClassId} {A : Nat → Prop} {ad : pr_Ad} {g : Nat → Nat} {σ : pr_Sg} {nL : Nat} {rt0 : Option FieldType} {i j : Nat} (S : pr_C RX9 cc nL rt0 D cs p s m args meth c) (hR : pr_R D cs A ad g σ H) (hl : pr_lv g 9 i j) (hdg : decode cc pc = .ok (.getfield 67, 3)) (kk : W p l e R s m args below meth c H locs cells slots Q (F0 m (pc + 3) ls (.ref (ad 85 i 0) :: rest))) : W p l e R s m args below meth c H locs cells slots Q (F0 m pc ls (.ref (ad 9 i j) :: rest)) :=
  pr_get S.1 S.2.1 S.2.2.2.2.1 inlX9 S.2.2.2.1 S.2.2.2.2.2.1 hR hl (by omega) rfl 21 (by omega) (by decide) (pr_in5 _ (List.mem_of_getElem? (i := 6) rfl)) rfl (v := .ref (ad 85 i 0)) rfl hdg kk
theorem gf_RX9_70 {p : Program} {l : Launch} {e : Env} {R : Room} {s : State} {m : MethodId} {args : Array Value} {below : List Frame} {meth : Method} {c : Code} {H : Heap} {locs : List Loc} {cells slots : Nat} {Q : State → Prop} {cc : ByteArray} {pc : Nat} {ls : Array Slot} {rest : List Value} {D : va_G} {cs : Nat → ClassId} {A : Nat → Prop} {ad : pr_Ad} {g : Nat → Nat} {σ : pr_Sg} {nL : Nat} {rt0 : Option FieldType} {i j : Nat} (S : pr_C RX9 cc nL rt0 D cs p s m args meth c) (hR : pr_R D cs A ad g σ H) (hl : pr_lv g 9 i j) (hdg : decode cc pc = .ok (.getfield 70, 3)) (kk : W p l e R s m args below meth c H locs cells slots Q (F0 m (pc + 3) ls (.ref (ad 86 i 0) :: rest))) : W p l e R s m args below meth c H locs cells slots Q (F0 m pc ls (.ref (ad 9 i j) :: rest)) :=
  pr_get S.1 S.2.1 S.2.2.2.2.1 inlX9 S.2.2.2.1 S.2.2.2.2.2.1 hR hl (by omega) rfl 22 (by omega) (by decide) (pr_in5 _ (List.mem_of_getElem? (i := 7) rfl)) rfl (v := .ref (ad 86 i 0)) rfl hdg kk
theorem gf_RX9_73 {p : Program} {l : Launch} {e : Env} {R : Room} {s : State} {m : MethodId} {args : Array Value} {below : List Frame} {meth : Method} {c : Code} {H : Heap} {locs : List Loc} {cells slots : Nat} {Q : State → Prop} {cc : ByteArray} {pc : Nat} {ls : Array Slot} {rest : List Value} {D : va_G} {cs : Nat → ClassId} {A : Nat → Prop} {ad : pr_Ad} {g : Nat → Nat} {σ : pr_Sg} {nL : Nat} {rt0 : Option FieldType} {i j : Nat} (S : pr_C RX9 cc nL rt0 D cs p s m args meth c) (hR : pr_R D cs A ad g σ H) (hl : pr_lv g 9 i j) (hdg : decode cc pc = .ok (.getfield 73, 3)) (kk : W p l e R s m args below meth c H locs cells slots Q (F0 m (pc + 3) ls (.ref (ad 87 i 0) :: rest))) : W p l e R s m args below meth c H locs cells slots Q (F0 m pc ls (.ref (ad 9 i j) :: rest)) :=
  pr_get S.1 S.2.1 S.2.2.2.2.1 inlX9 S.2.2.2.1 S.2.2.2.2.2.1 hR hl (by omega) rfl 23 (by omega) (by decide) (pr_in5 _ (List.mem_of_getElem? (i := 8) rfl)) rfl (v := .ref (ad 87 i 0)) rfl hdg kk
theorem gf_RX9_76 {p : Program} {l : Launch} {e : Env} {R : Room} {s : State} {m : MethodId} {args : Array Value} {below : List Frame} {meth : Method} {c : Code} {H : Heap} {locs : List Loc} {cells slots : Nat} {Q : State → Prop} {cc : ByteArray} {pc : Nat} {ls : Array Slot} {rest : List Value} {D : va_G} {cs : Nat → ClassId} {A : Nat → Prop} {ad : pr_Ad} {g : Nat → Nat} {σ : pr_Sg} {nL : Nat} {rt0 : Option FieldType} {i j : Nat} (S : pr_C RX9 cc nL rt0 D cs p s m args meth c) (hR : pr_R D cs A ad g σ H) (hl : pr_lv g 9 i j) (hdg : decode cc pc = .ok (.getfield 76, 3)) (kk : W p l e R s m args below meth c H locs cells slots Q (F0 m (pc + 3) ls (.ref (ad 88 i 0) :: rest))) : W p l e R s m args below meth c H locs cells slots Q (F0 m pc ls (.ref (ad 9 i j) :: rest)) :=
  pr_get S.1 S.2.1 S.2.2.2.2.1 inlX9 S.2.2.2.1 S.2.2.2.2.2.1 hR hl (by omega) rfl 24 (by omega) (by decide) (pr_in5 _ (List.mem_of_getElem? (i := 9) rfl)) rfl (v := .ref (ad 88 i 0)) rfl hdg kk
theorem gf_RX9_79 {p : Program} {l : Launch} {e : Env} {R : Room} {s : State} {m : MethodId} {args : Array Value} {below : List Frame} {meth : Method} {c : Code} {H : Heap} {locs : List Loc} {cells slots : Nat} {Q : State → Prop} {cc : ByteArray} {pc : Nat} {ls : Array Slot} {rest : List Value} {D : va_G} {cs : Nat → ClassId} {A : Nat → Prop} {ad : pr_Ad} {g : Nat → Nat} {σ : pr_Sg} {nL : Nat} {rt0 : Option FieldType} {i j : Nat} (S : pr_C RX9 cc nL rt0 D cs p s m args meth c) (hR : pr_R D cs A ad g σ H) (hl : pr_lv g 9 i j) (hdg : decode cc pc = .ok (.getfield 79, 3)) (kk : W p l e R s m args below meth c H locs cells slots Q (F0 m (pc + 3) ls (.ref (ad 56 i 0) :: rest))) : W p l e R s m args below meth c H locs cells slots Q (F0 m pc ls (.ref (ad 9 i j) :: rest)) :=
  pr_get S.1 S.2.1 S.2.2.2.2.1 inlX9 S.2.2.2.1 S.2.2.2.2.2.1 hR hl (by omega) rfl 26 (by omega) (by decide) (pr_in5 _ (List.mem_of_getElem? (i := 10) rfl)) rfl (v := .ref (ad 56 i 0)) rfl hdg kk
theorem gf_RX9_82 {p : Program} {l : Launch} {e : Env} {R : Room} {s : State} {m : MethodId} {args : Array Value} {below : List Frame} {meth : Method} {c : Code} {H : Heap} {locs : List Loc} {cells slots : Nat} {Q : State → Prop} {cc : ByteArray} {pc : Nat} {ls : Array Slot} {rest : List Value} {D : va_G} {cs : Nat → ClassId} {A : Nat → Prop} {ad : pr_Ad} {g : Nat → Nat} {σ : pr_Sg} {nL : Nat} {rt0 : Option FieldType} {i j : Nat} (S : pr_C RX9 cc nL rt0 D cs p s m args meth c) (hR : pr_R D cs A ad g σ H) (hl : pr_lv g 9 i j) (hdg : decode cc pc = .ok (.getfield 82, 3)) (kk : W p l e R s m args below meth c H locs cells slots Q (F0 m (pc + 3) ls (.ref (ad 57 i 0) :: rest))) : W p l e R s m args below meth c H locs cells slots Q (F0 m pc ls (.ref (ad 9 i j) :: rest)) :=
  pr_get S.1 S.2.1 S.2.2.2.2.1 inlX9 S.2.2.2.1 S.2.2.2.2.2.1 hR hl (by omega) rfl 27 (by omega) (by decide) (pr_in5 _ (List.mem_of_getElem? (i := 11) rfl)) rfl (v := .ref (ad 57 i 0)) rfl hdg kk
theorem gf_RX9_85 {p : Program} {l : Launch} {e : Env} {R : Room} {s : State} {m : MethodId} {args : Array Value} {below : List Frame} {meth : Method} {c : Code} {H : Heap} {locs : List Loc} {cells slots : Nat} {Q : State → Prop} {cc : ByteArray} {pc : Nat} {ls : Array Slot} {rest : List Value} {D : va_G} {cs : Nat → ClassId} {A : Nat → Prop} {ad : pr_Ad} {g : Nat → Nat} {σ : pr_Sg} {nL : Nat} {rt0 : Option FieldType} {i j : Nat} (S : pr_C RX9 cc nL rt0 D cs p s m args meth c) (hR : pr_R D cs A ad g σ H) (hl : pr_lv g 9 i j) (hdg : decode cc pc = .ok (.getfield 85, 3)) (kk : W p l e R s m args below meth c H locs cells slots Q (F0 m (pc + 3) ls (.ref (ad 58 i 0) :: rest))) : W p l e R s m args below meth c H locs cells slots Q (F0 m pc ls (.ref (ad 9 i j) :: rest)) :=
  pr_get S.1 S.2.1 S.2.2.2.2.1 inlX9 S.2.2.2.1 S.2.2.2.2.2.1 hR hl (by omega) rfl 28 (by omega) (by decide) (pr_in5 _ (List.mem_of_getElem? (i := 12) rfl)) rfl (v := .ref (ad 58 i 0)) rfl hdg kk
theorem gf_RX9_88 {p : Program} {l : Launch} {e : Env} {R : Room} {s : State} {m : MethodId} {args : Array Value} {below : List Frame} {meth : Method} {c : Code} {H : Heap} {locs : List Loc} {cells slots : Nat} {Q : State → Prop} {cc : ByteArray} {pc : Nat} {ls : Array Slot} {rest : List Value} {D : va_G} {cs : Nat → ClassId} {A : Nat → Prop} {ad : pr_Ad} {g : Nat → Nat} {σ : pr_Sg} {nL : Nat} {rt0 : Option FieldType} {i j : Nat} (S : pr_C RX9 cc nL rt0 D cs p s m args meth c) (hR : pr_R D cs A ad g σ H) (hl : pr_lv g 9 i j) (hdg : decode cc pc = .ok (.getfield 88, 3)) (kk : W p l e R s m args below meth c H locs cells slots Q (F0 m (pc + 3) ls (.ref (ad 59 i 0) :: rest))) : W p l e R s m args below meth c H locs cells slots Q (F0 m pc ls (.ref (ad 9 i j) :: rest)) :=
  pr_get S.1 S.2.1 S.2.2.2.2.1 inlX9 S.2.2.2.1 S.2.2.2.2.2.1 hR hl (by omega) rfl 29 (by omega) (by decide) (pr_in5 _ (List.mem_of_getElem? (i := 13) rfl)) rfl (v := .ref (ad 59 i 0)) rfl hdg kk
theorem gf_RX9_91 {p : Program} {l : Launch} {e : Env} {R : Room} {s : State} {m : MethodId} {args : Array Value} {below : List Frame} {meth : Method} {c : Code} {H : Heap} {locs : List Loc} {cells slots : Nat} {Q : State → Prop} {cc : ByteArray} {pc : Nat} {ls : Array Slot} {rest : List Value} {D : va_G} {cs : Nat → ClassId} {A : Nat → Prop} {ad : pr_Ad} {g : Nat → Nat} {σ : pr_Sg} {nL : Nat} {rt0 : Option FieldType} {i j : Nat} (S : pr_C RX9 cc nL rt0 D cs p s m args meth c) (hR : pr_R D cs A ad g σ H) (hl : pr_lv g 9 i j) (hdg : decode cc pc = .ok (.getfield 91, 3)) (kk : W p l e R s m args below meth c H locs cells slots Q (F0 m (pc + 3) ls (.ref (ad 60 i 0) :: rest))) : W p l e R s m args below meth c H locs cells slots Q (F0 m pc ls (.ref (ad 9 i j) :: rest)) :=
  pr_get S.1 S.2.1 S.2.2.2.2.1 inlX9 S.2.2.2.1 S.2.2.2.2.2.1 hR hl (by omega) rfl 30 (by omega) (by decide) (pr_in5 _ (List.mem_of_getElem? (i := 14) rfl)) rfl (v := .ref (ad 60 i 0)) rfl hdg kk
theorem gf_RX9_94 {p : Program} {l : Launch} {e : Env} {R : Room} {s : State} {m : MethodId} {args : Array Value} {below : List Frame} {meth : Method} {c : Code} {H : Heap} {locs : List Loc} {cells slots : Nat} {Q : State → Prop} {cc : ByteArray} {pc : Nat} {ls : Array Slot} {rest : List Value} {D : va_G} {cs : Nat → ClassId} {A : Nat → Prop} {ad : pr_Ad} {g : Nat → Nat} {σ : pr_Sg} {nL : Nat} {rt0 : Option FieldType} {i j : Nat} (S : pr_C RX9 cc nL rt0 D cs p s m args meth c) (hR : pr_R D cs A ad g σ H) (hl : pr_lv g 9 i j) (hdg : decode cc pc = .ok (.getfield 94, 3)) (kk : W p l e R s m args below meth c H locs cells slots Q (F0 m (pc + 3) ls (.ref (ad 71 i 0) :: rest))) : W p l e R s m args below meth c H locs cells slots Q (F0 m pc ls (.ref (ad 9 i j) :: rest)) :=
  pr_get S.1 S.2.1 S.2.2.2.2.1 inlX9 S.2.2.2.1 S.2.2.2.2.2.1 hR hl (by omega) rfl 31 (by omega) (by decide) (pr_in5 _ (List.mem_of_getElem? (i := 15) rfl)) rfl (v := .ref (ad 71 i 0)) rfl hdg kk
theorem gf_RX9_98 {p : Program} {l : Launch} {e : Env} {R : Room} {s : State} {m : MethodId} {args : Array Value} {below : List Frame} {meth : Method} {c : Code} {H : Heap} {locs : List Loc} {cells slots : Nat} {Q : State → Prop} {cc : ByteArray} {pc : Nat} {ls : Array Slot} {rest : List Value} {D : va_G} {cs : Nat → ClassId} {A : Nat → Prop} {ad : pr_Ad} {g : Nat → Nat} {σ : pr_Sg} {nL : Nat} {rt0 : Option FieldType} {i j : Nat} (S : pr_C RX9 cc nL rt0 D cs p s m args meth c) (hR : pr_R D cs A ad g σ H) (hl : pr_lv g 9 i j) (hdg : decode cc pc = .ok (.getfield 98, 3)) (kk : W p l e R s m args below meth c H locs cells slots Q (F0 m (pc + 3) ls (.int (σ 609 i j) :: rest))) : W p l e R s m args below meth c H locs cells slots Q (F0 m pc ls (.ref (ad 9 i j) :: rest)) :=
  pr_get S.1 S.2.1 S.2.2.2.2.1 inlX9 S.2.2.2.1 S.2.2.2.2.2.1 hR hl (by omega) rfl 33 (by omega) (by decide) (pr_in5 _ (List.mem_of_getElem? (i := 16) rfl)) rfl (v := .int (σ 609 i j)) rfl hdg kk
theorem pf_RX9_98 {p : Program} {l : Launch} {e : Env} {R : Room} {s : State} {m : MethodId} {args : Array Value} {below : List Frame} {meth : Method} {c : Code} {H : Heap} {locs : List Loc} {cells slots : Nat} {Q : State → Prop} {cc : ByteArray} {pc : Nat} {ls : Array Slot} {rest : List Value} {D : va_G} {cs : Nat → ClassId} {A : Nat → Prop} {ad : pr_Ad} {g : Nat → Nat} {σ : pr_Sg} {nL : Nat} {rt0 : Option FieldType} {H0 : Heap} {i j : Nat} {v : Int32} (S : pr_C RX9 cc nL rt0 D cs p s m args meth c) (hR : pr_R D cs A ad g σ H) (hS : va_S A H0 H locs) (hl : pr_lv g 9 i j) (hdg : decode cc pc = .ok (.putfield 98, 3)) (kk : ∀ (H1 : Heap) (locs1 : List Loc) (u : pr_Sg), u = pr_up σ 609 i j v → pr_R D cs A ad g u H1 → va_S A H0 H1 locs1 → W p l e R s m args below meth c H1 locs1 cells slots Q (F0 m (pc + 3) ls rest)) : W p l e R s m args below meth c H locs cells slots Q (F0 m pc ls (.int v :: .ref (ad 9 i j) :: rest)) :=
  pr_put S.1 S.2.1 S.2.2.2.2.1 inlX9 tyX9 tyX9_ok nmX9 S.2.2.2.1 S.2.2.2.2.2.1 hR hS hl (by omega) rfl 33 (by omega) (by decide) (by omega) (by decide) (pr_in5 _ (List.mem_of_getElem? (i := 16) rfl)) rfl rfl (by decide +kernel) hdg kk
theorem gf_RX9_101 {p : Program} {l : Launch} {e : Env} {R : Room} {s : State} {m : MethodId} {args : Array Value} {below : List Frame} {meth : Method} {c : Code} {H : Heap} {locs : List Loc} {cells slots : Nat} {Q : State → Prop} {cc : ByteArray} {pc : Nat} {ls : Array Slot} {rest : List Value} {D : va_G} {cs : Nat → ClassId} {A : Nat → Prop} {ad : pr_Ad} {g : Nat → Nat} {σ : pr_Sg} {nL : Nat} {rt0 : Option FieldType} {i j : Nat} (S : pr_C RX9 cc nL rt0 D cs p s m args meth c) (hR : pr_R D cs A ad g σ H) (hl : pr_lv g 9 i j) (hdg : decode cc pc = .ok (.getfield 101, 3)) (kk : W p l e R s m args below meth c H locs cells slots Q (F0 m (pc + 3) ls (.ref (ad 61 i 0) :: rest))) : W p l e R s m args below meth c H locs cells slots Q (F0 m pc ls (.ref (ad 9 i j) :: rest)) :=
  pr_get S.1 S.2.1 S.2.2.2.2.1 inlX9 S.2.2.2.1 S.2.2.2.2.2.1 hR hl (by omega) rfl 37 (by omega) (by decide) (pr_in5 _ (List.mem_of_getElem? (i := 17) rfl)) rfl (v := .ref (ad 61 i 0)) rfl hdg kk
theorem gf_RX9_104 {p : Program} {l : Launch} {e : Env} {R : Room} {s : State} {m : MethodId} {args : Array Value} {below : List Frame} {meth : Method} {c : Code} {H : Heap} {locs : List Loc} {cells slots : Nat} {Q : State → Prop} {cc : ByteArray} {pc : Nat} {ls : Array Slot} {rest : List Value} {D : va_G} {cs : Nat → ClassId} {A : Nat → Prop} {ad : pr_Ad} {g : Nat → Nat} {σ : pr_Sg} {nL : Nat} {rt0 : Option FieldType} {i j : Nat} (S : pr_C RX9 cc nL rt0 D cs p s m args meth c) (hR : pr_R D cs A ad g σ H) (hl : pr_lv g 9 i j) (hdg : decode cc pc = .ok (.getfield 104, 3)) (kk : W p l e R s m args below meth c H locs cells slots Q (F0 m (pc + 3) ls (.ref (ad 62 i 0) :: rest))) : W p l e R s m args below meth c H locs cells slots Q (F0 m pc ls (.ref (ad 9 i j) :: rest)) :=
  pr_get S.1 S.2.1 S.2.2.2.2.1 inlX9 S.2.2.2.1 S.2.2.2.2.2.1 hR hl (by omega) rfl 38 (by omega) (by decide) (pr_in5 _ (List.mem_of_getElem? (i := 18) rfl)) rfl (v := .ref (ad 62 i 0)) rfl hdg kk
theorem gf_RX9_107 {p : Program} {l : Launch} {e : Env} {R : Room} {s : State} {m : MethodId} {args : Array Value} {below : List Frame} {meth : Method} {c : Code} {H : Heap} {locs : List Loc} {cells slots : Nat} {Q : State → Prop} {cc : ByteArray} {pc : Nat} {ls : Array Slot} {rest : List Value} {D : va_G} {cs : Nat → ClassId} {A : Nat → Prop} {ad : pr_Ad} {g : Nat → Nat} {σ : pr_Sg} {nL : Nat} {rt0 : Option FieldType} {i j : Nat} (S : pr_C RX9 cc nL rt0 D cs p s m args meth c) (hR : pr_R D cs A ad g σ H) (hl : pr_lv g 9 i j) (hdg : decode cc pc = .ok (.getfield 107, 3)) (kk : W p l e R s m args below meth c H locs cells slots Q (F0 m (pc + 3) ls (.ref (ad 63 i 0) :: rest))) : W p l e R s m args below meth c H locs cells slots Q (F0 m pc ls (.ref (ad 9 i j) :: rest)) :=
  pr_get S.1 S.2.1 S.2.2.2.2.1 inlX9 S.2.2.2.1 S.2.2.2.2.2.1 hR hl (by omega) rfl 39 (by omega) (by decide) (pr_in5 _ (List.mem_of_getElem? (i := 19) rfl)) rfl (v := .ref (ad 63 i 0)) rfl hdg kk
theorem gf_RX9_110 {p : Program} {l : Launch} {e : Env} {R : Room} {s : State} {m : MethodId} {args : Array Value} {below : List Frame} {meth : Method} {c : Code} {H : Heap} {locs : List Loc} {cells slots : Nat} {Q : State → Prop} {cc : ByteArray} {pc : Nat} {ls : Array Slot} {rest : List Value} {D : va_G} {cs : Nat → ClassId} {A : Nat → Prop} {ad : pr_Ad} {g : Nat → Nat} {σ : pr_Sg} {nL : Nat} {rt0 : Option FieldType} {i j : Nat} (S : pr_C RX9 cc nL rt0 D cs p s m args meth c) (hR : pr_R D cs A ad g σ H) (hl : pr_lv g 9 i j) (hdg : decode cc pc = .ok (.getfield 110, 3)) (kk : W p l e R s m args below meth c H locs cells slots Q (F0 m (pc + 3) ls (.int (σ 601 i j) :: rest))) : W p l e R s m args below meth c H locs cells slots Q (F0 m pc ls (.ref (ad 9 i j) :: rest)) :=
  pr_get S.1 S.2.1 S.2.2.2.2.1 inlX9 S.2.2.2.1 S.2.2.2.2.2.1 hR hl (by omega) rfl 25 (by omega) (by decide) (pr_in10 _ (List.mem_of_getElem? (i := 3) rfl)) rfl (v := .int (σ 601 i j)) rfl hdg kk
theorem pf_RX9_110 {p : Program} {l : Launch} {e : Env} {R : Room} {s : State} {m : MethodId} {args : Array Value} {below : List Frame} {meth : Method} {c : Code} {H : Heap} {locs : List Loc} {cells slots : Nat} {Q : State → Prop} {cc : ByteArray} {pc : Nat} {ls : Array Slot} {rest : List Value} {D : va_G} {cs : Nat → ClassId} {A : Nat → Prop} {ad : pr_Ad} {g : Nat → Nat} {σ : pr_Sg} {nL : Nat} {rt0 : Option FieldType} {H0 : Heap} {i j : Nat} {v : Int32} (S : pr_C RX9 cc nL rt0 D cs p s m args meth c) (hR : pr_R D cs A ad g σ H) (hS : va_S A H0 H locs) (hl : pr_lv g 9 i j) (hdg : decode cc pc = .ok (.putfield 110, 3)) (kk : ∀ (H1 : Heap) (locs1 : List Loc) (u : pr_Sg), u = pr_up σ 601 i j v → pr_R D cs A ad g u H1 → va_S A H0 H1 locs1 → W p l e R s m args below meth c H1 locs1 cells slots Q (F0 m (pc + 3) ls rest)) : W p l e R s m args below meth c H locs cells slots Q (F0 m pc ls (.int v :: .ref (ad 9 i j) :: rest)) :=
  pr_put S.1 S.2.1 S.2.2.2.2.1 inlX9 tyX9 tyX9_ok nmX9 S.2.2.2.1 S.2.2.2.2.2.1 hR hS hl (by omega) rfl 25 (by omega) (by decide) (by omega) (by decide) (pr_in10 _ (List.mem_of_getElem? (i := 3) rfl)) rfl rfl (by decide +kernel) hdg kk
theorem gf_RX9_117 {p : Program} {l : Launch} {e : Env} {R : Room} {s : State} {m : MethodId} {args : Array Value} {below : List Frame} {meth : Method} {c : Code} {H : Heap} {locs : List Loc} {cells slots : Nat} {Q : State → Prop} {cc : ByteArray} {pc : Nat} {ls : Array Slot} {rest : List Value} {D : va_G} {cs : Nat → ClassId} {A : Nat → Prop} {ad : pr_Ad} {g : Nat → Nat} {σ : pr_Sg} {nL : Nat} {rt0 : Option FieldType} {i j : Nat} (S : pr_C RX9 cc nL rt0 D cs p s m args meth c) (hR : pr_R D cs A ad g σ H) (hl : pr_lv g 9 i j) (hdg : decode cc pc = .ok (.getfield 117, 3)) (kk : W p l e R s m args below meth c H locs cells slots Q (F0 m (pc + 3) ls (.int (σ 589 i j) :: rest))) : W p l e R s m args below meth c H locs cells slots Q (F0 m pc ls (.ref (ad 9 i j) :: rest)) :=
  pr_get S.1 S.2.1 S.2.2.2.2.1 inlX9 S.2.2.2.1 S.2.2.2.2.2.1 hR hl (by omega) rfl 13 (by omega) (by decide) (pr_in8 _ (List.mem_of_getElem? (i := 1) rfl)) rfl (v := .int (σ 589 i j)) rfl hdg kk
theorem pf_RX9_117 {p : Program} {l : Launch} {e : Env} {R : Room} {s : State} {m : MethodId} {args : Array Value} {below : List Frame} {meth : Method} {c : Code} {H : Heap} {locs : List Loc} {cells slots : Nat} {Q : State → Prop} {cc : ByteArray} {pc : Nat} {ls : Array Slot} {rest : List Value} {D : va_G} {cs : Nat → ClassId} {A : Nat → Prop} {ad : pr_Ad} {g : Nat → Nat} {σ : pr_Sg} {nL : Nat} {rt0 : Option FieldType} {H0 : Heap} {i j : Nat} {v : Int32} (S : pr_C RX9 cc nL rt0 D cs p s m args meth c) (hR : pr_R D cs A ad g σ H) (hS : va_S A H0 H locs) (hl : pr_lv g 9 i j) (hdg : decode cc pc = .ok (.putfield 117, 3)) (kk : ∀ (H1 : Heap) (locs1 : List Loc) (u : pr_Sg), u = pr_up σ 589 i j v → pr_R D cs A ad g u H1 → va_S A H0 H1 locs1 → W p l e R s m args below meth c H1 locs1 cells slots Q (F0 m (pc + 3) ls rest)) : W p l e R s m args below meth c H locs cells slots Q (F0 m pc ls (.int v :: .ref (ad 9 i j) :: rest)) :=
  pr_put S.1 S.2.1 S.2.2.2.2.1 inlX9 tyX9 tyX9_ok nmX9 S.2.2.2.1 S.2.2.2.2.2.1 hR hS hl (by omega) rfl 13 (by omega) (by decide) (by omega) (by decide) (pr_in8 _ (List.mem_of_getElem? (i := 1) rfl)) rfl rfl (by decide +kernel) hdg kk
theorem gf_RX9_120 {p : Program} {l : Launch} {e : Env} {R : Room} {s : State} {m : MethodId} {args : Array Value} {below : List Frame} {meth : Method} {c : Code} {H : Heap} {locs : List Loc} {cells slots : Nat} {Q : State → Prop} {cc : ByteArray} {pc : Nat} {ls : Array Slot} {rest : List Value} {D : va_G} {cs : Nat → ClassId} {A : Nat → Prop} {ad : pr_Ad} {g : Nat → Nat} {σ : pr_Sg} {nL : Nat} {rt0 : Option FieldType} {i j : Nat} (S : pr_C RX9 cc nL rt0 D cs p s m args meth c) (hR : pr_R D cs A ad g σ H) (hl : pr_lv g 9 i j) (hdg : decode cc pc = .ok (.getfield 120, 3)) (kk : W p l e R s m args below meth c H locs cells slots Q (F0 m (pc + 3) ls (.int (σ 580 i j) :: rest))) : W p l e R s m args below meth c H locs cells slots Q (F0 m pc ls (.ref (ad 9 i j) :: rest)) :=
  pr_get S.1 S.2.1 S.2.2.2.2.1 inlX9 S.2.2.2.1 S.2.2.2.2.2.1 hR hl (by omega) rfl 4 (by omega) (by decide) (pr_in6 _ (List.mem_of_getElem? (i := 12) rfl)) rfl (v := .int (σ 580 i j)) rfl hdg kk
theorem pf_RX9_120 {p : Program} {l : Launch} {e : Env} {R : Room} {s : State} {m : MethodId} {args : Array Value} {below : List Frame} {meth : Method} {c : Code} {H : Heap} {locs : List Loc} {cells slots : Nat} {Q : State → Prop} {cc : ByteArray} {pc : Nat} {ls : Array Slot} {rest : List Value} {D : va_G} {cs : Nat → ClassId} {A : Nat → Prop} {ad : pr_Ad} {g : Nat → Nat} {σ : pr_Sg} {nL : Nat} {rt0 : Option FieldType} {H0 : Heap} {i j : Nat} {v : Int32} (S : pr_C RX9 cc nL rt0 D cs p s m args meth c) (hR : pr_R D cs A ad g σ H) (hS : va_S A H0 H locs) (hl : pr_lv g 9 i j) (hdg : decode cc pc = .ok (.putfield 120, 3)) (kk : ∀ (H1 : Heap) (locs1 : List Loc) (u : pr_Sg), u = pr_up σ 580 i j v → pr_R D cs A ad g u H1 → va_S A H0 H1 locs1 → W p l e R s m args below meth c H1 locs1 cells slots Q (F0 m (pc + 3) ls rest)) : W p l e R s m args below meth c H locs cells slots Q (F0 m pc ls (.int v :: .ref (ad 9 i j) :: rest)) :=
  pr_put S.1 S.2.1 S.2.2.2.2.1 inlX9 tyX9 tyX9_ok nmX9 S.2.2.2.1 S.2.2.2.2.2.1 hR hS hl (by omega) rfl 4 (by omega) (by decide) (by omega) (by decide) (pr_in6 _ (List.mem_of_getElem? (i := 12) rfl)) rfl rfl (by decide +kernel) hdg kk
theorem gf_RX9_128 {p : Program} {l : Launch} {e : Env} {R : Room} {s : State} {m : MethodId} {args : Array Value} {below : List Frame} {meth : Method} {c : Code} {H : Heap} {locs : List Loc} {cells slots : Nat} {Q : State → Prop} {cc : ByteArray} {pc : Nat} {ls : Array Slot} {rest : List Value} {D : va_G} {cs : Nat → ClassId} {A : Nat → Prop} {ad : pr_Ad} {g : Nat → Nat} {σ : pr_Sg} {nL : Nat} {rt0 : Option FieldType} {i j : Nat} (S : pr_C RX9 cc nL rt0 D cs p s m args meth c) (hR : pr_R D cs A ad g σ H) (hl : pr_lv g 9 i j) (hdg : decode cc pc = .ok (.getfield 128, 3)) (kk : W p l e R s m args below meth c H locs cells slots Q (F0 m (pc + 3) ls (.int (σ 576 i j) :: rest))) : W p l e R s m args below meth c H locs cells slots Q (F0 m pc ls (.ref (ad 9 i j) :: rest)) :=
  pr_get S.1 S.2.1 S.2.2.2.2.1 inlX9 S.2.2.2.1 S.2.2.2.2.2.1 hR hl (by omega) rfl 0 (by omega) (by decide) (pr_in10 _ (List.mem_of_getElem? (i := 4) rfl)) rfl (v := .int (σ 576 i j)) rfl hdg kk
theorem pf_RX9_128 {p : Program} {l : Launch} {e : Env} {R : Room} {s : State} {m : MethodId} {args : Array Value} {below : List Frame} {meth : Method} {c : Code} {H : Heap} {locs : List Loc} {cells slots : Nat} {Q : State → Prop} {cc : ByteArray} {pc : Nat} {ls : Array Slot} {rest : List Value} {D : va_G} {cs : Nat → ClassId} {A : Nat → Prop} {ad : pr_Ad} {g : Nat → Nat} {σ : pr_Sg} {nL : Nat} {rt0 : Option FieldType} {H0 : Heap} {i j : Nat} {v : Int32} (S : pr_C RX9 cc nL rt0 D cs p s m args meth c) (hR : pr_R D cs A ad g σ H) (hS : va_S A H0 H locs) (hl : pr_lv g 9 i j) (hdg : decode cc pc = .ok (.putfield 128, 3)) (kk : ∀ (H1 : Heap) (locs1 : List Loc) (u : pr_Sg), u = pr_up σ 576 i j v → pr_R D cs A ad g u H1 → va_S A H0 H1 locs1 → W p l e R s m args below meth c H1 locs1 cells slots Q (F0 m (pc + 3) ls rest)) : W p l e R s m args below meth c H locs cells slots Q (F0 m pc ls (.int v :: .ref (ad 9 i j) :: rest)) :=
  pr_put S.1 S.2.1 S.2.2.2.2.1 inlX9 tyX9 tyX9_ok nmX9 S.2.2.2.1 S.2.2.2.2.2.1 hR hS hl (by omega) rfl 0 (by omega) (by decide) (by omega) (by decide) (pr_in10 _ (List.mem_of_getElem? (i := 4) rfl)) rfl rfl (by decide +kernel) hdg kk
theorem gf_RX9_135 {p : Program} {l : Launch} {e : Env} {R : Room} {s : State} {m : MethodId} {args : Array Value} {below : List Frame} {meth : Method} {c : Code} {H : Heap} {locs : List Loc} {cells slots : Nat} {Q : State → Prop} {cc : ByteArray} {pc : Nat} {ls : Array Slot} {rest : List Value} {D : va_G} {cs : Nat → ClassId} {A : Nat → Prop} {ad : pr_Ad} {g : Nat → Nat} {σ : pr_Sg} {nL : Nat} {rt0 : Option FieldType} {i j : Nat} (S : pr_C RX9 cc nL rt0 D cs p s m args meth c) (hR : pr_R D cs A ad g σ H) (hl : pr_lv g 9 i j) (hdg : decode cc pc = .ok (.getfield 135, 3)) (kk : W p l e R s m args below meth c H locs cells slots Q (F0 m (pc + 3) ls (.int (σ 612 i j) :: rest))) : W p l e R s m args below meth c H locs cells slots Q (F0 m pc ls (.ref (ad 9 i j) :: rest)) :=
  pr_get S.1 S.2.1 S.2.2.2.2.1 inlX9 S.2.2.2.1 S.2.2.2.2.2.1 hR hl (by omega) rfl 36 (by omega) (by decide) (pr_in10 _ (List.mem_of_getElem? (i := 5) rfl)) rfl (v := .int (σ 612 i j)) rfl hdg kk
theorem pf_RX9_135 {p : Program} {l : Launch} {e : Env} {R : Room} {s : State} {m : MethodId} {args : Array Value} {below : List Frame} {meth : Method} {c : Code} {H : Heap} {locs : List Loc} {cells slots : Nat} {Q : State → Prop} {cc : ByteArray} {pc : Nat} {ls : Array Slot} {rest : List Value} {D : va_G} {cs : Nat → ClassId} {A : Nat → Prop} {ad : pr_Ad} {g : Nat → Nat} {σ : pr_Sg} {nL : Nat} {rt0 : Option FieldType} {H0 : Heap} {i j : Nat} {v : Int32} (S : pr_C RX9 cc nL rt0 D cs p s m args meth c) (hR : pr_R D cs A ad g σ H) (hS : va_S A H0 H locs) (hl : pr_lv g 9 i j) (hdg : decode cc pc = .ok (.putfield 135, 3)) (kk : ∀ (H1 : Heap) (locs1 : List Loc) (u : pr_Sg), u = pr_up σ 612 i j v → pr_R D cs A ad g u H1 → va_S A H0 H1 locs1 → W p l e R s m args below meth c H1 locs1 cells slots Q (F0 m (pc + 3) ls rest)) : W p l e R s m args below meth c H locs cells slots Q (F0 m pc ls (.int v :: .ref (ad 9 i j) :: rest)) :=
  pr_put S.1 S.2.1 S.2.2.2.2.1 inlX9 tyX9 tyX9_ok nmX9 S.2.2.2.1 S.2.2.2.2.2.1 hR hS hl (by omega) rfl 36 (by omega) (by decide) (by omega) (by decide) (pr_in10 _ (List.mem_of_getElem? (i := 5) rfl)) rfl rfl (by decide +kernel) hdg kk
theorem gf_RX9_150 {p : Program} {l : Launch} {e : Env} {R : Room} {s : State} {m : MethodId} {args : Array Value} {below : List Frame} {meth : Method} {c : Code} {H : Heap} {locs : List Loc} {cells slots : Nat} {Q : State → Prop} {cc : ByteArray} {pc : Nat} {ls : Array Slot} {rest : List Value} {D : va_G} {cs : Nat → ClassId} {A : Nat → Prop} {ad : pr_Ad} {g : Nat → Nat} {σ : pr_Sg} {nL : Nat} {rt0 : Option FieldType} {i j : Nat} (S : pr_C RX9 cc nL rt0 D cs p s m args meth c) (hR : pr_R D cs A ad g σ H) (hl : pr_lv g 9 i j) (hdg : decode cc pc = .ok (.getfield 150, 3)) (kk : W p l e R s m args below meth c H locs cells slots Q (F0 m (pc + 3) ls (.int (σ 608 i j) :: rest))) : W p l e R s m args below meth c H locs cells slots Q (F0 m pc ls (.ref (ad 9 i j) :: rest)) :=
  pr_get S.1 S.2.1 S.2.2.2.2.1 inlX9 S.2.2.2.1 S.2.2.2.2.2.1 hR hl (by omega) rfl 32 (by omega) (by decide) (pr_in13 _ (List.mem_of_getElem? (i := 12) rfl)) rfl (v := .int (σ 608 i j)) rfl hdg kk
theorem pf_RX9_150 {p : Program} {l : Launch} {e : Env} {R : Room} {s : State} {m : MethodId} {args : Array Value} {below : List Frame} {meth : Method} {c : Code} {H : Heap} {locs : List Loc} {cells slots : Nat} {Q : State → Prop} {cc : ByteArray} {pc : Nat} {ls : Array Slot} {rest : List Value} {D : va_G} {cs : Nat → ClassId} {A : Nat → Prop} {ad : pr_Ad} {g : Nat → Nat} {σ : pr_Sg} {nL : Nat} {rt0 : Option FieldType} {H0 : Heap} {i j : Nat} {v : Int32} (S : pr_C RX9 cc nL rt0 D cs p s m args meth c) (hR : pr_R D cs A ad g σ H) (hS : va_S A H0 H locs) (hl : pr_lv g 9 i j) (hdg : decode cc pc = .ok (.putfield 150, 3)) (kk : ∀ (H1 : Heap) (locs1 : List Loc) (u : pr_Sg), u = pr_up σ 608 i j v → pr_R D cs A ad g u H1 → va_S A H0 H1 locs1 → W p l e R s m args below meth c H1 locs1 cells slots Q (F0 m (pc + 3) ls rest)) : W p l e R s m args below meth c H locs cells slots Q (F0 m pc ls (.int v :: .ref (ad 9 i j) :: rest)) :=
  pr_put S.1 S.2.1 S.2.2.2.2.1 inlX9 tyX9 tyX9_ok nmX9 S.2.2.2.1 S.2.2.2.2.2.1 hR hS hl (by omega) rfl 32 (by omega) (by decide) (by omega) (by decide) (pr_in13 _ (List.mem_of_getElem? (i := 12) rfl)) rfl rfl (by decide +kernel) hdg kk
theorem gf_RX9_179 {p : Program} {l : Launch} {e : Env} {R : Room} {s : State} {m : MethodId} {args : Array Value} {below : List Frame} {meth : Method} {c : Code} {H : Heap} {locs : List Loc} {cells slots : Nat} {Q : State → Prop} {cc : ByteArray} {pc : Nat} {ls : Array Slot} {rest : List Value} {D : va_G} {cs : Nat → ClassId} {A : Nat → Prop} {ad : pr_Ad} {g : Nat → Nat} {σ : pr_Sg} {nL : Nat} {rt0 : Option FieldType} {i j : Nat} (S : pr_C RX9 cc nL rt0 D cs p s m args meth c) (hR : pr_R D cs A ad g σ H) (hl : pr_lv g 9 i j) (hdg : decode cc pc = .ok (.getfield 179, 3)) (kk : W p l e R s m args below meth c H locs cells slots Q (F0 m (pc + 3) ls (.int (σ 610 i j) :: rest))) : W p l e R s m args below meth c H locs cells slots Q (F0 m pc ls (.ref (ad 9 i j) :: rest)) :=
  pr_get S.1 S.2.1 S.2.2.2.2.1 inlX9 S.2.2.2.1 S.2.2.2.2.2.1 hR hl (by omega) rfl 34 (by omega) (by decide) (pr_in17 _ (List.mem_of_getElem? (i := 23) rfl)) rfl (v := .int (σ 610 i j)) rfl hdg kk
theorem pf_RX9_179 {p : Program} {l : Launch} {e : Env} {R : Room} {s : State} {m : MethodId} {args : Array Value} {below : List Frame} {meth : Method} {c : Code} {H : Heap} {locs : List Loc} {cells slots : Nat} {Q : State → Prop} {cc : ByteArray} {pc : Nat} {ls : Array Slot} {rest : List Value} {D : va_G} {cs : Nat → ClassId} {A : Nat → Prop} {ad : pr_Ad} {g : Nat → Nat} {σ : pr_Sg} {nL : Nat} {rt0 : Option FieldType} {H0 : Heap} {i j : Nat} {v : Int32} (S : pr_C RX9 cc nL rt0 D cs p s m args meth c) (hR : pr_R D cs A ad g σ H) (hS : va_S A H0 H locs) (hl : pr_lv g 9 i j) (hdg : decode cc pc = .ok (.putfield 179, 3)) (kk : ∀ (H1 : Heap) (locs1 : List Loc) (u : pr_Sg), u = pr_up σ 610 i j v → pr_R D cs A ad g u H1 → va_S A H0 H1 locs1 → W p l e R s m args below meth c H1 locs1 cells slots Q (F0 m (pc + 3) ls rest)) : W p l e R s m args below meth c H locs cells slots Q (F0 m pc ls (.int v :: .ref (ad 9 i j) :: rest)) :=
  pr_put S.1 S.2.1 S.2.2.2.2.1 inlX9 tyX9 tyX9_ok nmX9 S.2.2.2.1 S.2.2.2.2.2.1 hR hS hl (by omega) rfl 34 (by omega) (by decide) (by omega) (by decide) (pr_in17 _ (List.mem_of_getElem? (i := 23) rfl)) rfl rfl (by decide +kernel) hdg kk
theorem gf_RX9_185 {p : Program} {l : Launch} {e : Env} {R : Room} {s : State} {m : MethodId} {args : Array Value} {below : List Frame} {meth : Method} {c : Code} {H : Heap} {locs : List Loc} {cells slots : Nat} {Q : State → Prop} {cc : ByteArray} {pc : Nat} {ls : Array Slot} {rest : List Value} {D : va_G} {cs : Nat → ClassId} {A : Nat → Prop} {ad : pr_Ad} {g : Nat → Nat} {σ : pr_Sg} {nL : Nat} {rt0 : Option FieldType} {i j : Nat} (S : pr_C RX9 cc nL rt0 D cs p s m args meth c) (hR : pr_R D cs A ad g σ H) (hl : pr_lv g 9 i j) (hdg : decode cc pc = .ok (.getfield 185, 3)) (kk : W p l e R s m args below meth c H locs cells slots Q (F0 m (pc + 3) ls (.int (σ 611 i j) :: rest))) : W p l e R s m args below meth c H locs cells slots Q (F0 m pc ls (.ref (ad 9 i j) :: rest)) :=
  pr_get S.1 S.2.1 S.2.2.2.2.1 inlX9 S.2.2.2.1 S.2.2.2.2.2.1 hR hl (by omega) rfl 35 (by omega) (by decide) (pr_in19 _ (List.mem_of_getElem? (i := 1) rfl)) rfl (v := .int (σ 611 i j)) rfl hdg kk
theorem pf_RX9_185 {p : Program} {l : Launch} {e : Env} {R : Room} {s : State} {m : MethodId} {args : Array Value} {below : List Frame} {meth : Method} {c : Code} {H : Heap} {locs : List Loc} {cells slots : Nat} {Q : State → Prop} {cc : ByteArray} {pc : Nat} {ls : Array Slot} {rest : List Value} {D : va_G} {cs : Nat → ClassId} {A : Nat → Prop} {ad : pr_Ad} {g : Nat → Nat} {σ : pr_Sg} {nL : Nat} {rt0 : Option FieldType} {H0 : Heap} {i j : Nat} {v : Int32} (S : pr_C RX9 cc nL rt0 D cs p s m args meth c) (hR : pr_R D cs A ad g σ H) (hS : va_S A H0 H locs) (hl : pr_lv g 9 i j) (hdg : decode cc pc = .ok (.putfield 185, 3)) (kk : ∀ (H1 : Heap) (locs1 : List Loc) (u : pr_Sg), u = pr_up σ 611 i j v → pr_R D cs A ad g u H1 → va_S A H0 H1 locs1 → W p l e R s m args below meth c H1 locs1 cells slots Q (F0 m (pc + 3) ls rest)) : W p l e R s m args below meth c H locs cells slots Q (F0 m pc ls (.int v :: .ref (ad 9 i j) :: rest)) :=
  pr_put S.1 S.2.1 S.2.2.2.2.1 inlX9 tyX9 tyX9_ok nmX9 S.2.2.2.1 S.2.2.2.2.2.1 hR hS hl (by omega) rfl 35 (by omega) (by decide) (by omega) (by decide) (pr_in19 _ (List.mem_of_getElem? (i := 1) rfl)) rfl rfl (by decide +kernel) hdg kk
theorem gf_RX9_188 {p : Program} {l : Launch} {e : Env} {R : Room} {s : State} {m : MethodId} {args : Array Value} {below : List Frame} {meth : Method} {c : Code} {H : Heap} {locs : List Loc} {cells slots : Nat} {Q : State → Prop} {cc : ByteArray} {pc : Nat} {ls : Array Slot} {rest : List Value} {D : va_G} {cs : Nat → ClassId} {A : Nat → Prop} {ad : pr_Ad} {g : Nat → Nat} {σ : pr_Sg} {nL : Nat} {rt0 : Option FieldType} {i j : Nat} (S : pr_C RX9 cc nL rt0 D cs p s m args meth c) (hR : pr_R D cs A ad g σ H) (hl : pr_lv g 9 i j) (hdg : decode cc pc = .ok (.getfield 188, 3)) (kk : W p l e R s m args below meth c H locs cells slots Q (F0 m (pc + 3) ls (.int (σ 616 i j) :: rest))) : W p l e R s m args below meth c H locs cells slots Q (F0 m pc ls (.ref (ad 9 i j) :: rest)) :=
  pr_get S.1 S.2.1 S.2.2.2.2.1 inlX9 S.2.2.2.1 S.2.2.2.2.2.1 hR hl (by omega) rfl 40 (by omega) (by decide) (pr_in21 _ (List.mem_of_getElem? (i := 8) rfl)) rfl (v := .int (σ 616 i j)) rfl hdg kk
theorem pf_RX9_188 {p : Program} {l : Launch} {e : Env} {R : Room} {s : State} {m : MethodId} {args : Array Value} {below : List Frame} {meth : Method} {c : Code} {H : Heap} {locs : List Loc} {cells slots : Nat} {Q : State → Prop} {cc : ByteArray} {pc : Nat} {ls : Array Slot} {rest : List Value} {D : va_G} {cs : Nat → ClassId} {A : Nat → Prop} {ad : pr_Ad} {g : Nat → Nat} {σ : pr_Sg} {nL : Nat} {rt0 : Option FieldType} {H0 : Heap} {i j : Nat} {v : Int32} (S : pr_C RX9 cc nL rt0 D cs p s m args meth c) (hR : pr_R D cs A ad g σ H) (hS : va_S A H0 H locs) (hl : pr_lv g 9 i j) (hdg : decode cc pc = .ok (.putfield 188, 3)) (kk : ∀ (H1 : Heap) (locs1 : List Loc) (u : pr_Sg), u = pr_up σ 616 i j v → pr_R D cs A ad g u H1 → va_S A H0 H1 locs1 → W p l e R s m args below meth c H1 locs1 cells slots Q (F0 m (pc + 3) ls rest)) : W p l e R s m args below meth c H locs cells slots Q (F0 m pc ls (.int v :: .ref (ad 9 i j) :: rest)) :=
  pr_put S.1 S.2.1 S.2.2.2.2.1 inlX9 tyX9 tyX9_ok nmX9 S.2.2.2.1 S.2.2.2.2.2.1 hR hS hl (by omega) rfl 40 (by omega) (by decide) (by omega) (by decide) (pr_in21 _ (List.mem_of_getElem? (i := 8) rfl)) rfl rfl (by decide +kernel) hdg kk
theorem gf_RX9_191 {p : Program} {l : Launch} {e : Env} {R : Room} {s : State} {m : MethodId} {args : Array Value} {below : List Frame} {meth : Method} {c : Code} {H : Heap} {locs : List Loc} {cells slots : Nat} {Q : State → Prop} {cc : ByteArray} {pc : Nat} {ls : Array Slot} {rest : List Value} {D : va_G} {cs : Nat → ClassId} {A : Nat → Prop} {ad : pr_Ad} {g : Nat → Nat} {σ : pr_Sg} {nL : Nat} {rt0 : Option FieldType} {i j : Nat} (S : pr_C RX9 cc nL rt0 D cs p s m args meth c) (hR : pr_R D cs A ad g σ H) (hl : pr_lv g 9 i j) (hdg : decode cc pc = .ok (.getfield 191, 3)) (kk : W p l e R s m args below meth c H locs cells slots Q (F0 m (pc + 3) ls (.int (σ 617 i j) :: rest))) : W p l e R s m args below meth c H locs cells slots Q (F0 m pc ls (.ref (ad 9 i j) :: rest)) :=
  pr_get S.1 S.2.1 S.2.2.2.2.1 inlX9 S.2.2.2.1 S.2.2.2.2.2.1 hR hl (by omega) rfl 41 (by omega) (by decide) (pr_in21 _ (List.mem_of_getElem? (i := 13) rfl)) rfl (v := .int (σ 617 i j)) rfl hdg kk
theorem pf_RX9_191 {p : Program} {l : Launch} {e : Env} {R : Room} {s : State} {m : MethodId} {args : Array Value} {below : List Frame} {meth : Method} {c : Code} {H : Heap} {locs : List Loc} {cells slots : Nat} {Q : State → Prop} {cc : ByteArray} {pc : Nat} {ls : Array Slot} {rest : List Value} {D : va_G} {cs : Nat → ClassId} {A : Nat → Prop} {ad : pr_Ad} {g : Nat → Nat} {σ : pr_Sg} {nL : Nat} {rt0 : Option FieldType} {H0 : Heap} {i j : Nat} {v : Int32} (S : pr_C RX9 cc nL rt0 D cs p s m args meth c) (hR : pr_R D cs A ad g σ H) (hS : va_S A H0 H locs) (hl : pr_lv g 9 i j) (hdg : decode cc pc = .ok (.putfield 191, 3)) (kk : ∀ (H1 : Heap) (locs1 : List Loc) (u : pr_Sg), u = pr_up σ 617 i j v → pr_R D cs A ad g u H1 → va_S A H0 H1 locs1 → W p l e R s m args below meth c H1 locs1 cells slots Q (F0 m (pc + 3) ls rest)) : W p l e R s m args below meth c H locs cells slots Q (F0 m pc ls (.int v :: .ref (ad 9 i j) :: rest)) :=
  pr_put S.1 S.2.1 S.2.2.2.2.1 inlX9 tyX9 tyX9_ok nmX9 S.2.2.2.1 S.2.2.2.2.2.1 hR hS hl (by omega) rfl 41 (by omega) (by decide) (by omega) (by decide) (pr_in21 _ (List.mem_of_getElem? (i := 13) rfl)) rfl rfl (by decide +kernel) hdg kk
theorem gw_RL_13 : GoodIn wsL_law (wsV RL 13 RX8 yX8_list (pr_ws yX8_list cX8_list 4 (some .boolean))) := pr_gV (pr_in5 _ (List.mem_of_getElem? (i := 20) rfl)) (pr_in5 _ (List.mem_of_getElem? (i := 21) rfl)) (pr_in5 _ (List.mem_of_getElem? (i := 22) rfl)) (pr_in1 _ (List.mem_of_getElem? (i := 2) rfl)) (pr_in5 _ (List.mem_of_getElem? (i := 23) rfl))
theorem gw_RL_17 : GoodIn wsL_law (wsV RL 17 RX9 yX9_list (pr_ws yX9_list cX9_list 4 (some .boolean))) := pr_gV (pr_in6 _ (List.mem_of_getElem? (i := 8) rfl)) (pr_in6 _ (List.mem_of_getElem? (i := 9) rfl)) (pr_in6 _ (List.mem_of_getElem? (i := 10) rfl)) (pr_in1 _ (List.mem_of_getElem? (i := 5) rfl)) (pr_in6 _ (List.mem_of_getElem? (i := 11) rfl))
theorem gw_RL_18 : GoodIn wsL_law (wsV RL 18 RX8 yX8_dry (pr_ws yX8_dry cX8_dry 3 (some .boolean))) := pr_gV (pr_in6 _ (List.mem_of_getElem? (i := 16) rfl)) (pr_in6 _ (List.mem_of_getElem? (i := 17) rfl)) (pr_in6 _ (List.mem_of_getElem? (i := 18) rfl)) (pr_in1 _ (List.mem_of_getElem? (i := 2) rfl)) (pr_in6 _ (List.mem_of_getElem? (i := 19) rfl))
theorem gw_RL_22 : GoodIn wsL_law (wsV RL 22 RX9 yX9_dry (pr_ws yX9_dry cX9_dry 3 (some .boolean))) := pr_gV (pr_in6 _ (List.mem_of_getElem? (i := 20) rfl)) (pr_in6 _ (List.mem_of_getElem? (i := 21) rfl)) (pr_in6 _ (List.mem_of_getElem? (i := 22) rfl)) (pr_in1 _ (List.mem_of_getElem? (i := 5) rfl)) (pr_in6 _ (List.mem_of_getElem? (i := 23) rfl))
theorem gw_RL_23 : GoodIn wsL_law (wsV RL 23 RX8 yX8_hand (pr_ws yX8_hand cX8_hand 1 (some .int))) := pr_gV (pr_in7 _ (List.mem_of_getElem? (i := 0) rfl)) (pr_in7 _ (List.mem_of_getElem? (i := 1) rfl)) (pr_in7 _ (List.mem_of_getElem? (i := 2) rfl)) (pr_in1 _ (List.mem_of_getElem? (i := 2) rfl)) (pr_in7 _ (List.mem_of_getElem? (i := 3) rfl))
theorem gw_RL_27 : GoodIn wsL_law (wsV RL 27 RX9 yX9_hand (pr_ws yX9_hand cX9_hand 1 (some .int))) := pr_gV (pr_in7 _ (List.mem_of_getElem? (i := 4) rfl)) (pr_in7 _ (List.mem_of_getElem? (i := 5) rfl)) (pr_in7 _ (List.mem_of_getElem? (i := 6) rfl)) (pr_in1 _ (List.mem_of_getElem? (i := 5) rfl)) (pr_in7 _ (List.mem_of_getElem? (i := 7) rfl))
theorem gw_RL_28 : GoodIn wsL_law (wsV RL 28 RX8 yX8_sitter (pr_ws yX8_sitter cX8_sitter 3 (some .int))) := pr_gV (pr_in7 _ (List.mem_of_getElem? (i := 8) rfl)) (pr_in7 _ (List.mem_of_getElem? (i := 9) rfl)) (pr_in7 _ (List.mem_of_getElem? (i := 10) rfl)) (pr_in1 _ (List.mem_of_getElem? (i := 2) rfl)) (pr_in7 _ (List.mem_of_getElem? (i := 11) rfl))
theorem gw_RL_32 : GoodIn wsL_law (wsV RL 32 RX9 yX9_sitter (pr_ws yX9_sitter cX9_sitter 3 (some .int))) := pr_gV (pr_in7 _ (List.mem_of_getElem? (i := 21) rfl)) (pr_in7 _ (List.mem_of_getElem? (i := 22) rfl)) (pr_in7 _ (List.mem_of_getElem? (i := 23) rfl)) (pr_in1 _ (List.mem_of_getElem? (i := 5) rfl)) (pr_in8 _ (List.mem_of_getElem? (i := 0) rfl))
theorem gw_RL_33 : GoodIn wsL_law (wsV RL 33 RX8 yX8_picture (pr_ws yX8_picture cX8_picture 8 (some .int))) := pr_gV (pr_in8 _ (List.mem_of_getElem? (i := 2) rfl)) (pr_in8 _ (List.mem_of_getElem? (i := 3) rfl)) (pr_in8 _ (List.mem_of_getElem? (i := 4) rfl)) (pr_in1 _ (List.mem_of_getElem? (i := 2) rfl)) (pr_in8 _ (List.mem_of_getElem? (i := 5) rfl))
theorem gw_RL_37 : GoodIn wsL_law (wsV RL 37 RX9 yX9_picture (pr_ws yX9_picture cX9_picture 9 (some .int))) := pr_gV (pr_in9 _ (List.mem_of_getElem? (i := 22) rfl)) (pr_in9 _ (List.mem_of_getElem? (i := 23) rfl)) (pr_in10 _ (List.mem_of_getElem? (i := 0) rfl)) (pr_in1 _ (List.mem_of_getElem? (i := 5) rfl)) (pr_in10 _ (List.mem_of_getElem? (i := 1) rfl))
theorem gw_RL_38 : GoodIn wsL_law (wsV RL 38 RX8 yX8_go (pr_ws yX8_go cX8_go 2 (some .int))) := pr_gV (pr_in10 _ (List.mem_of_getElem? (i := 14) rfl)) (pr_in10 _ (List.mem_of_getElem? (i := 15) rfl)) (pr_in10 _ (List.mem_of_getElem? (i := 16) rfl)) (pr_in1 _ (List.mem_of_getElem? (i := 2) rfl)) (pr_in10 _ (List.mem_of_getElem? (i := 17) rfl))
theorem gw_RL_42 : GoodIn wsL_law (wsV RL 42 RX9 yX9_go (pr_ws yX9_go cX9_go 2 (some .int))) := pr_gV (pr_in10 _ (List.mem_of_getElem? (i := 22) rfl)) (pr_in10 _ (List.mem_of_getElem? (i := 23) rfl)) (pr_in11 _ (List.mem_of_getElem? (i := 0) rfl)) (pr_in1 _ (List.mem_of_getElem? (i := 5) rfl)) (pr_in11 _ (List.mem_of_getElem? (i := 1) rfl))
theorem gw_RL_43 : GoodIn wsL_law (wsV RL 43 RX8 yX8_light (pr_ws yX8_light cX8_light 2 (some .int))) := pr_gV (pr_in11 _ (List.mem_of_getElem? (i := 3) rfl)) (pr_in11 _ (List.mem_of_getElem? (i := 4) rfl)) (pr_in11 _ (List.mem_of_getElem? (i := 5) rfl)) (pr_in1 _ (List.mem_of_getElem? (i := 2) rfl)) (pr_in11 _ (List.mem_of_getElem? (i := 6) rfl))
theorem gw_RL_46 : GoodIn wsL_law (wsV RL 46 RX9 yX9_light (pr_ws yX9_light cX9_light 2 (some .int))) := pr_gV (pr_in11 _ (List.mem_of_getElem? (i := 13) rfl)) (pr_in11 _ (List.mem_of_getElem? (i := 14) rfl)) (pr_in11 _ (List.mem_of_getElem? (i := 15) rfl)) (pr_in1 _ (List.mem_of_getElem? (i := 5) rfl)) (pr_in11 _ (List.mem_of_getElem? (i := 16) rfl))
theorem gw_RL_47 : GoodIn wsL_law (wsV RL 47 RX8 yX8_book (pr_ws yX8_book cX8_book 6 (some .boolean))) := pr_gV (pr_in11 _ (List.mem_of_getElem? (i := 21) rfl)) (pr_in11 _ (List.mem_of_getElem? (i := 22) rfl)) (pr_in11 _ (List.mem_of_getElem? (i := 23) rfl)) (pr_in1 _ (List.mem_of_getElem? (i := 2) rfl)) (pr_in12 _ (List.mem_of_getElem? (i := 0) rfl))
theorem gw_RL_50 : GoodIn wsL_law (wsV RL 50 RX9 yX9_book (pr_ws yX9_book cX9_book 4 (some .boolean))) := pr_gV (pr_in13 _ (List.mem_of_getElem? (i := 8) rfl)) (pr_in13 _ (List.mem_of_getElem? (i := 9) rfl)) (pr_in13 _ (List.mem_of_getElem? (i := 10) rfl)) (pr_in1 _ (List.mem_of_getElem? (i := 5) rfl)) (pr_in13 _ (List.mem_of_getElem? (i := 11) rfl))
theorem gw_RL_51 : GoodIn wsL_law (wsV RL 51 RX8 yX8_unbook (pr_ws yX8_unbook cX8_unbook 5 (some .boolean))) := pr_gV (pr_in14 _ (List.mem_of_getElem? (i := 5) rfl)) (pr_in14 _ (List.mem_of_getElem? (i := 6) rfl)) (pr_in14 _ (List.mem_of_getElem? (i := 7) rfl)) (pr_in1 _ (List.mem_of_getElem? (i := 2) rfl)) (pr_in14 _ (List.mem_of_getElem? (i := 8) rfl))
theorem gw_RL_54 : GoodIn wsL_law (wsV RL 54 RX9 yX9_unbook (pr_ws yX9_unbook cX9_unbook 5 (some .boolean))) := pr_gV (pr_in14 _ (List.mem_of_getElem? (i := 17) rfl)) (pr_in14 _ (List.mem_of_getElem? (i := 18) rfl)) (pr_in14 _ (List.mem_of_getElem? (i := 19) rfl)) (pr_in1 _ (List.mem_of_getElem? (i := 5) rfl)) (pr_in14 _ (List.mem_of_getElem? (i := 20) rfl))
theorem gw_RL_55 : GoodIn wsL_law (wsV RL 55 RX8 yX8_paint (pr_ws yX8_paint cX8_paint 5 (some .int))) := pr_gV (pr_in15 _ (List.mem_of_getElem? (i := 1) rfl)) (pr_in15 _ (List.mem_of_getElem? (i := 2) rfl)) (pr_in15 _ (List.mem_of_getElem? (i := 3) rfl)) (pr_in1 _ (List.mem_of_getElem? (i := 2) rfl)) (pr_in15 _ (List.mem_of_getElem? (i := 4) rfl))
theorem gw_RL_59 : GoodIn wsL_law (wsV RL 59 RX9 yX9_paint (pr_ws yX9_paint cX9_paint 5 (some .int))) := pr_gV (pr_in17 _ (List.mem_of_getElem? (i := 19) rfl)) (pr_in17 _ (List.mem_of_getElem? (i := 20) rfl)) (pr_in17 _ (List.mem_of_getElem? (i := 21) rfl)) (pr_in1 _ (List.mem_of_getElem? (i := 5) rfl)) (pr_in17 _ (List.mem_of_getElem? (i := 22) rfl))
theorem gw_RL_60 : GoodIn wsL_law (wsV RL 60 RX8 yX8_pay (pr_ws yX8_pay cX8_pay 4 (some .int))) := pr_gV (pr_in18 _ (List.mem_of_getElem? (i := 16) rfl)) (pr_in18 _ (List.mem_of_getElem? (i := 17) rfl)) (pr_in18 _ (List.mem_of_getElem? (i := 18) rfl)) (pr_in1 _ (List.mem_of_getElem? (i := 2) rfl)) (pr_in18 _ (List.mem_of_getElem? (i := 19) rfl))
theorem gw_RL_63 : GoodIn wsL_law (wsV RL 63 RX9 yX9_pay (pr_ws yX9_pay cX9_pay 3 (some .int))) := pr_gV (pr_in18 _ (List.mem_of_getElem? (i := 21) rfl)) (pr_in18 _ (List.mem_of_getElem? (i := 22) rfl)) (pr_in18 _ (List.mem_of_getElem? (i := 23) rfl)) (pr_in1 _ (List.mem_of_getElem? (i := 5) rfl)) (pr_in19 _ (List.mem_of_getElem? (i := 0) rfl))
theorem gw_RL_64 : GoodIn wsL_law (wsV RL 64 RX8 yX8_planned (pr_ws yX8_planned cX8_planned 3 (some .int))) := pr_gV (pr_in19 _ (List.mem_of_getElem? (i := 2) rfl)) (pr_in19 _ (List.mem_of_getElem? (i := 3) rfl)) (pr_in19 _ (List.mem_of_getElem? (i := 4) rfl)) (pr_in1 _ (List.mem_of_getElem? (i := 2) rfl)) (pr_in19 _ (List.mem_of_getElem? (i := 5) rfl))
theorem gw_RL_67 : GoodIn wsL_law (wsV RL 67 RX9 yX9_planned (pr_ws yX9_planned cX9_planned 4 (some .int))) := pr_gV (pr_in21 _ (List.mem_of_getElem? (i := 4) rfl)) (pr_in21 _ (List.mem_of_getElem? (i := 5) rfl)) (pr_in21 _ (List.mem_of_getElem? (i := 6) rfl)) (pr_in1 _ (List.mem_of_getElem? (i := 5) rfl)) (pr_in21 _ (List.mem_of_getElem? (i := 7) rfl))
theorem gw_RL_68 : GoodIn wsL_law (wsV RL 68 RX8 yX8_worth (pr_ws yX8_worth cX8_worth 2 (some .int))) := pr_gV (pr_in21 _ (List.mem_of_getElem? (i := 18) rfl)) (pr_in21 _ (List.mem_of_getElem? (i := 19) rfl)) (pr_in21 _ (List.mem_of_getElem? (i := 20) rfl)) (pr_in1 _ (List.mem_of_getElem? (i := 2) rfl)) (pr_in21 _ (List.mem_of_getElem? (i := 21) rfl))
theorem gw_RL_71 : GoodIn wsL_law (wsV RL 71 RX9 yX9_worth (pr_ws yX9_worth cX9_worth 2 (some .int))) := pr_gV (pr_in21 _ (List.mem_of_getElem? (i := 22) rfl)) (pr_in21 _ (List.mem_of_getElem? (i := 23) rfl)) (pr_in22 _ (List.mem_of_getElem? (i := 0) rfl)) (pr_in1 _ (List.mem_of_getElem? (i := 5) rfl)) (pr_in22 _ (List.mem_of_getElem? (i := 1) rfl))
theorem gw_RL_72 : GoodIn wsL_law (wsV RL 72 RX8 yX8_trace (pr_ws yX8_trace cX8_trace 4 (some .boolean))) := pr_gV (pr_in22 _ (List.mem_of_getElem? (i := 2) rfl)) (pr_in22 _ (List.mem_of_getElem? (i := 3) rfl)) (pr_in22 _ (List.mem_of_getElem? (i := 4) rfl)) (pr_in1 _ (List.mem_of_getElem? (i := 2) rfl)) (pr_in22 _ (List.mem_of_getElem? (i := 5) rfl))
theorem gw_RL_75 : GoodIn wsL_law (wsV RL 75 RX9 yX9_trace (pr_ws yX9_trace cX9_trace 3 (some .boolean))) := pr_gV (pr_in22 _ (List.mem_of_getElem? (i := 8) rfl)) (pr_in22 _ (List.mem_of_getElem? (i := 9) rfl)) (pr_in22 _ (List.mem_of_getElem? (i := 10) rfl)) (pr_in1 _ (List.mem_of_getElem? (i := 5) rfl)) (pr_in22 _ (List.mem_of_getElem? (i := 11) rfl))
theorem gw_RL_76 : GoodIn wsL_law (wsV RL 76 RX8 yX8_from (pr_ws yX8_from cX8_from 2 (some .int))) := pr_gV (pr_in22 _ (List.mem_of_getElem? (i := 13) rfl)) (pr_in22 _ (List.mem_of_getElem? (i := 14) rfl)) (pr_in22 _ (List.mem_of_getElem? (i := 15) rfl)) (pr_in1 _ (List.mem_of_getElem? (i := 2) rfl)) (pr_in22 _ (List.mem_of_getElem? (i := 16) rfl))
theorem gw_RL_79 : GoodIn wsL_law (wsV RL 79 RX9 yX9_from (pr_ws yX9_from cX9_from 4 (some .int))) := pr_gV (pr_in23 _ (List.mem_of_getElem? (i := 8) rfl)) (pr_in23 _ (List.mem_of_getElem? (i := 9) rfl)) (pr_in23 _ (List.mem_of_getElem? (i := 10) rfl)) (pr_in1 _ (List.mem_of_getElem? (i := 5) rfl)) (pr_in23 _ (List.mem_of_getElem? (i := 11) rfl))
theorem gw_RL_80 : GoodIn wsL_law (wsV RL 80 RX8 yX8_doubt (pr_ws yX8_doubt cX8_doubt 4 (some .boolean))) := pr_gV (pr_in23 _ (List.mem_of_getElem? (i := 16) rfl)) (pr_in23 _ (List.mem_of_getElem? (i := 17) rfl)) (pr_in23 _ (List.mem_of_getElem? (i := 18) rfl)) (pr_in1 _ (List.mem_of_getElem? (i := 2) rfl)) (pr_in23 _ (List.mem_of_getElem? (i := 19) rfl))
theorem gw_RL_84 : GoodIn wsL_law (wsV RL 84 RX9 yX9_doubt (pr_ws yX9_doubt cX9_doubt 4 (some .boolean))) := pr_gV (pr_in23 _ (List.mem_of_getElem? (i := 20) rfl)) (pr_in23 _ (List.mem_of_getElem? (i := 21) rfl)) (pr_in23 _ (List.mem_of_getElem? (i := 22) rfl)) (pr_in1 _ (List.mem_of_getElem? (i := 5) rfl)) (pr_in23 _ (List.mem_of_getElem? (i := 23) rfl))
theorem gw_RL_85 : GoodIn wsL_law (wsV RL 85 RX8 yX8_habit (pr_ws yX8_habit cX8_habit 4 (some .boolean))) := pr_gV (pr_in24 _ (List.mem_of_getElem? (i := 1) rfl)) (pr_in24 _ (List.mem_of_getElem? (i := 2) rfl)) (pr_in24 _ (List.mem_of_getElem? (i := 3) rfl)) (pr_in1 _ (List.mem_of_getElem? (i := 2) rfl)) (pr_in24 _ (List.mem_of_getElem? (i := 4) rfl))
theorem gw_RL_88 : GoodIn wsL_law (wsV RL 88 RX9 yX9_habit (pr_ws yX9_habit cX9_habit 3 (some .boolean))) := pr_gV (pr_in24 _ (List.mem_of_getElem? (i := 6) rfl)) (pr_in24 _ (List.mem_of_getElem? (i := 7) rfl)) (pr_in24 _ (List.mem_of_getElem? (i := 8) rfl)) (pr_in1 _ (List.mem_of_getElem? (i := 5) rfl)) (pr_in24 _ (List.mem_of_getElem? (i := 9) rfl))
theorem gw_RL_89 : GoodIn wsL_law (wsV RL 89 RX8 yX8_margin (pr_ws yX8_margin cX8_margin 2 (some .boolean))) := pr_gV (pr_in24 _ (List.mem_of_getElem? (i := 10) rfl)) (pr_in24 _ (List.mem_of_getElem? (i := 11) rfl)) (pr_in24 _ (List.mem_of_getElem? (i := 12) rfl)) (pr_in1 _ (List.mem_of_getElem? (i := 2) rfl)) (pr_in24 _ (List.mem_of_getElem? (i := 13) rfl))
theorem gw_RL_92 : GoodIn wsL_law (wsV RL 92 RX9 yX9_margin (pr_ws yX9_margin cX9_margin 2 (some .boolean))) := pr_gV (pr_in24 _ (List.mem_of_getElem? (i := 14) rfl)) (pr_in24 _ (List.mem_of_getElem? (i := 15) rfl)) (pr_in24 _ (List.mem_of_getElem? (i := 16) rfl)) (pr_in1 _ (List.mem_of_getElem? (i := 5) rfl)) (pr_in24 _ (List.mem_of_getElem? (i := 17) rfl))
theorem gw_RL_93 : GoodIn wsL_law (wsV RL 93 RX8 yX8_strokes (pr_ws yX8_strokes cX8_strokes 5 (some .boolean))) := pr_gV (pr_in24 _ (List.mem_of_getElem? (i := 18) rfl)) (pr_in24 _ (List.mem_of_getElem? (i := 19) rfl)) (pr_in24 _ (List.mem_of_getElem? (i := 20) rfl)) (pr_in1 _ (List.mem_of_getElem? (i := 2) rfl)) (pr_in24 _ (List.mem_of_getElem? (i := 21) rfl))
theorem gw_RL_96 : GoodIn wsL_law (wsV RL 96 RX9 yX9_strokes (pr_ws yX9_strokes cX9_strokes 4 (some .boolean))) := pr_gV (pr_in24 _ (List.mem_of_getElem? (i := 23) rfl)) (pr_in25 _ (List.mem_of_getElem? (i := 0) rfl)) (pr_in25 _ (List.mem_of_getElem? (i := 1) rfl)) (pr_in1 _ (List.mem_of_getElem? (i := 5) rfl)) (pr_in25 _ (List.mem_of_getElem? (i := 2) rfl))
theorem gw_RL_97 : GoodIn wsL_law (wsV RL 97 RX8 yX8_whose (pr_ws yX8_whose cX8_whose 7 (some .int))) := pr_gV (pr_in25 _ (List.mem_of_getElem? (i := 3) rfl)) (pr_in25 _ (List.mem_of_getElem? (i := 4) rfl)) (pr_in25 _ (List.mem_of_getElem? (i := 5) rfl)) (pr_in1 _ (List.mem_of_getElem? (i := 2) rfl)) (pr_in25 _ (List.mem_of_getElem? (i := 6) rfl))
theorem gw_RL_100 : GoodIn wsL_law (wsV RL 100 RX9 yX9_whose (pr_ws yX9_whose cX9_whose 6 (some .int))) := pr_gV (pr_in25 _ (List.mem_of_getElem? (i := 15) rfl)) (pr_in25 _ (List.mem_of_getElem? (i := 16) rfl)) (pr_in25 _ (List.mem_of_getElem? (i := 17) rfl)) (pr_in1 _ (List.mem_of_getElem? (i := 5) rfl)) (pr_in25 _ (List.mem_of_getElem? (i := 18) rfl))
theorem gw_RL_101 : GoodIn wsL_law (wsV RL 101 RX8 yX8_told (pr_ws yX8_told cX8_told 4 (some .int))) := pr_gV (pr_in25 _ (List.mem_of_getElem? (i := 22) rfl)) (pr_in25 _ (List.mem_of_getElem? (i := 23) rfl)) (pr_in26 _ (List.mem_of_getElem? (i := 0) rfl)) (pr_in1 _ (List.mem_of_getElem? (i := 2) rfl)) (pr_in26 _ (List.mem_of_getElem? (i := 1) rfl))
theorem gw_RL_104 : GoodIn wsL_law (wsV RL 104 RX9 yX9_told (pr_ws yX9_told cX9_told 5 (some .int))) := pr_gV (pr_in26 _ (List.mem_of_getElem? (i := 2) rfl)) (pr_in26 _ (List.mem_of_getElem? (i := 3) rfl)) (pr_in26 _ (List.mem_of_getElem? (i := 4) rfl)) (pr_in1 _ (List.mem_of_getElem? (i := 5) rfl)) (pr_in26 _ (List.mem_of_getElem? (i := 5) rfl))
theorem gw_RL_105 : GoodIn wsL_law (wsV RL 105 RX8 yX8_part (pr_ws yX8_part cX8_part 5 (some .int))) := pr_gV (pr_in26 _ (List.mem_of_getElem? (i := 6) rfl)) (pr_in26 _ (List.mem_of_getElem? (i := 7) rfl)) (pr_in26 _ (List.mem_of_getElem? (i := 8) rfl)) (pr_in1 _ (List.mem_of_getElem? (i := 2) rfl)) (pr_in26 _ (List.mem_of_getElem? (i := 9) rfl))
theorem gw_RL_108 : GoodIn wsL_law (wsV RL 108 RX9 yX9_part (pr_ws yX9_part cX9_part 4 (some .int))) := pr_gV (pr_in26 _ (List.mem_of_getElem? (i := 11) rfl)) (pr_in26 _ (List.mem_of_getElem? (i := 12) rfl)) (pr_in26 _ (List.mem_of_getElem? (i := 13) rfl)) (pr_in1 _ (List.mem_of_getElem? (i := 5) rfl)) (pr_in26 _ (List.mem_of_getElem? (i := 14) rfl))
theorem gw_RL_109 : GoodIn wsL_law (wsV RL 109 RX8 yX8_due (pr_ws yX8_due cX8_due 3 (some .int))) := pr_gV (pr_in26 _ (List.mem_of_getElem? (i := 15) rfl)) (pr_in26 _ (List.mem_of_getElem? (i := 16) rfl)) (pr_in26 _ (List.mem_of_getElem? (i := 17) rfl)) (pr_in1 _ (List.mem_of_getElem? (i := 2) rfl)) (pr_in26 _ (List.mem_of_getElem? (i := 18) rfl))
theorem gw_RL_112 : GoodIn wsL_law (wsV RL 112 RX9 yX9_due (pr_ws yX9_due cX9_due 2 (some .int))) := pr_gV (pr_in26 _ (List.mem_of_getElem? (i := 19) rfl)) (pr_in26 _ (List.mem_of_getElem? (i := 20) rfl)) (pr_in26 _ (List.mem_of_getElem? (i := 21) rfl)) (pr_in1 _ (List.mem_of_getElem? (i := 5) rfl)) (pr_in26 _ (List.mem_of_getElem? (i := 22) rfl))
theorem gw_RL_113 : GoodIn wsL_law (wsV RL 113 RX8 yX8_count (pr_ws yX8_count cX8_count 2 (some .int))) := pr_gV (pr_in26 _ (List.mem_of_getElem? (i := 23) rfl)) (pr_in27 _ (List.mem_of_getElem? (i := 0) rfl)) (pr_in27 _ (List.mem_of_getElem? (i := 1) rfl)) (pr_in1 _ (List.mem_of_getElem? (i := 2) rfl)) (pr_in27 _ (List.mem_of_getElem? (i := 2) rfl))
theorem gw_RL_116 : GoodIn wsL_law (wsV RL 116 RX9 yX9_count (pr_ws yX9_count cX9_count 4 (some .int))) := pr_gV (pr_in27 _ (List.mem_of_getElem? (i := 4) rfl)) (pr_in27 _ (List.mem_of_getElem? (i := 5) rfl)) (pr_in27 _ (List.mem_of_getElem? (i := 6) rfl)) (pr_in1 _ (List.mem_of_getElem? (i := 5) rfl)) (pr_in27 _ (List.mem_of_getElem? (i := 7) rfl))
theorem gw_RX0_21 : GoodIn wsL_law (wsV RX0 21 RX0 yX0_layersOn (pr_ws yX0_layersOn cX0_layersOn 2 (some .int))) := pr_gV (pr_in17 _ (List.mem_of_getElem? (i := 3) rfl)) (pr_in16 _ (List.mem_of_getElem? (i := 5) rfl)) (pr_in16 _ (List.mem_of_getElem? (i := 6) rfl)) (pr_in2 _ (List.mem_of_getElem? (i := 13) rfl)) (pr_in16 _ (List.mem_of_getElem? (i := 7) rfl))
theorem gw_RX3_42 : GoodIn wsL_law (wsV RX3 42 RX2 yX2_wantsMore (pr_ws yX2_wantsMore cX2_wantsMore 1 (some .boolean))) := pr_gV (pr_in20 _ (List.mem_of_getElem? (i := 0) rfl)) (pr_in15 _ (List.mem_of_getElem? (i := 20) rfl)) (pr_in15 _ (List.mem_of_getElem? (i := 21) rfl)) (pr_in9 _ (List.mem_of_getElem? (i := 10) rfl)) (pr_in15 _ (List.mem_of_getElem? (i := 22) rfl))
theorem gw_RX8_67 : GoodIn wsL_law (va_wsS RX8 67 yX8_within (pr_ws yX8_within cX8_within 2 (some .boolean))) := pr_gS (pr_in6 _ (List.mem_of_getElem? (i := 0) rfl)) (pr_in6 _ (List.mem_of_getElem? (i := 1) rfl)) (pr_in1 _ (List.mem_of_getElem? (i := 2) rfl)) (pr_in6 _ (List.mem_of_getElem? (i := 2) rfl))
theorem gw_RX8_71 : GoodIn wsL_law (wsV RX8 71 RX1 yX1_add (pr_ws yX1_add cX1_add 4 (some .boolean))) := pr_gV (pr_in6 _ (List.mem_of_getElem? (i := 3) rfl)) (pr_in6 _ (List.mem_of_getElem? (i := 4) rfl)) (pr_in6 _ (List.mem_of_getElem? (i := 5) rfl)) (pr_in1 _ (List.mem_of_getElem? (i := 14) rfl)) (pr_in6 _ (List.mem_of_getElem? (i := 6) rfl))
theorem gw_RX8_81 : GoodIn wsL_law (wsV RX8 81 RX8 yX8_sitterAt (pr_ws yX8_sitterAt cX8_sitterAt 2 (some (.object "PortraitRooms$Sitter")))) := pr_gV (pr_in8 _ (List.mem_of_getElem? (i := 12) rfl)) (pr_in8 _ (List.mem_of_getElem? (i := 13) rfl)) (pr_in8 _ (List.mem_of_getElem? (i := 14) rfl)) (pr_in1 _ (List.mem_of_getElem? (i := 2) rfl)) (pr_in8 _ (List.mem_of_getElem? (i := 15) rfl))
theorem gw_RX8_85 : GoodIn wsL_law (va_wsS RX8 85 yX8_layersCanBe (pr_ws yX8_layersCanBe cX8_layersCanBe 3 (some .boolean))) := pr_gS (pr_in8 _ (List.mem_of_getElem? (i := 16) rfl)) (pr_in8 _ (List.mem_of_getElem? (i := 17) rfl)) (pr_in1 _ (List.mem_of_getElem? (i := 2) rfl)) (pr_in8 _ (List.mem_of_getElem? (i := 18) rfl))
theorem gw_RX8_95 : GoodIn wsL_law (wsV RX8 95 RX1 yX1_priceIn (pr_ws yX1_priceIn cX1_priceIn 6 (some .int))) := pr_gV (pr_in8 _ (List.mem_of_getElem? (i := 19) rfl)) (pr_in8 _ (List.mem_of_getElem? (i := 20) rfl)) (pr_in8 _ (List.mem_of_getElem? (i := 21) rfl)) (pr_in1 _ (List.mem_of_getElem? (i := 14) rfl)) (pr_in8 _ (List.mem_of_getElem? (i := 22) rfl))
theorem gw_RX8_113 : GoodIn wsL_law (va_wsS RX8 113 yX8_lightHours (pr_ws yX8_lightHours cX8_lightHours 1 (some .int))) := pr_gS (pr_in11 _ (List.mem_of_getElem? (i := 7) rfl)) (pr_in11 _ (List.mem_of_getElem? (i := 8) rfl)) (pr_in1 _ (List.mem_of_getElem? (i := 2) rfl)) (pr_in11 _ (List.mem_of_getElem? (i := 9) rfl))
theorem gw_RX8_117 : GoodIn wsL_law (wsV RX8 117 RX8 yX8_pictureAt (pr_ws yX8_pictureAt cX8_pictureAt 2 (some (.object "PortraitRooms$Picture")))) := pr_gV (pr_in12 _ (List.mem_of_getElem? (i := 3) rfl)) (pr_in12 _ (List.mem_of_getElem? (i := 4) rfl)) (pr_in12 _ (List.mem_of_getElem? (i := 5) rfl)) (pr_in1 _ (List.mem_of_getElem? (i := 2) rfl)) (pr_in12 _ (List.mem_of_getElem? (i := 6) rfl))
theorem gw_RX8_121 : GoodIn wsL_law (wsV RX8 121 RX3 yX3_isDone (pr_ws yX3_isDone cX3_isDone 1 (some .boolean))) := pr_gV (pr_in12 _ (List.mem_of_getElem? (i := 7) rfl)) (pr_in12 _ (List.mem_of_getElem? (i := 8) rfl)) (pr_in12 _ (List.mem_of_getElem? (i := 9) rfl)) (pr_in8 _ (List.mem_of_getElem? (i := 9) rfl)) (pr_in12 _ (List.mem_of_getElem? (i := 10) rfl))
theorem gw_RX8_125 : GoodIn wsL_law (wsV RX8 125 RX8 yX8_isNowOrLater (pr_ws yX8_isNowOrLater cX8_isNowOrLater 2 (some .boolean))) := pr_gV (pr_in12 _ (List.mem_of_getElem? (i := 11) rfl)) (pr_in12 _ (List.mem_of_getElem? (i := 12) rfl)) (pr_in12 _ (List.mem_of_getElem? (i := 13) rfl)) (pr_in1 _ (List.mem_of_getElem? (i := 2) rfl)) (pr_in12 _ (List.mem_of_getElem? (i := 14) rfl))
theorem gw_RX8_131 : GoodIn wsL_law (wsV RX8 131 RX6 yX6_canCome (pr_ws yX6_canCome cX6_canCome 2 (some .boolean))) := pr_gV (pr_in12 _ (List.mem_of_getElem? (i := 15) rfl)) (pr_in12 _ (List.mem_of_getElem? (i := 16) rfl)) (pr_in12 _ (List.mem_of_getElem? (i := 17) rfl)) (pr_in7 _ (List.mem_of_getElem? (i := 14) rfl)) (pr_in12 _ (List.mem_of_getElem? (i := 18) rfl))
theorem gw_RX8_134 : GoodIn wsL_law (wsV RX8 134 RX7 yX7_isTaken (pr_ws yX7_isTaken cX7_isTaken 4 (some .boolean))) := pr_gV (pr_in12 _ (List.mem_of_getElem? (i := 19) rfl)) (pr_in12 _ (List.mem_of_getElem? (i := 20) rfl)) (pr_in12 _ (List.mem_of_getElem? (i := 21) rfl)) (pr_in2 _ (List.mem_of_getElem? (i := 2) rfl)) (pr_in12 _ (List.mem_of_getElem? (i := 22) rfl))
theorem gw_RX8_137 : GoodIn wsL_law (wsV RX8 137 RX7 yX7_hasSitter (pr_ws yX7_hasSitter cX7_hasSitter 4 (some .boolean))) := pr_gV (pr_in13 _ (List.mem_of_getElem? (i := 0) rfl)) (pr_in13 _ (List.mem_of_getElem? (i := 1) rfl)) (pr_in13 _ (List.mem_of_getElem? (i := 2) rfl)) (pr_in2 _ (List.mem_of_getElem? (i := 2) rfl)) (pr_in13 _ (List.mem_of_getElem? (i := 3) rfl))
theorem gw_RX8_140 : GoodIn wsL_law (wsV RX8 140 RX7 yX7_add (pr_ws yX7_add cX7_add 5 (some .boolean))) := pr_gV (pr_in13 _ (List.mem_of_getElem? (i := 4) rfl)) (pr_in13 _ (List.mem_of_getElem? (i := 5) rfl)) (pr_in13 _ (List.mem_of_getElem? (i := 6) rfl)) (pr_in2 _ (List.mem_of_getElem? (i := 2) rfl)) (pr_in13 _ (List.mem_of_getElem? (i := 7) rfl))
theorem gw_RX8_146 : GoodIn wsL_law (wsV RX8 146 RX7 yX7_unusedOf (pr_ws yX7_unusedOf cX7_unusedOf 4 (some .int))) := pr_gV (pr_in14 _ (List.mem_of_getElem? (i := 9) rfl)) (pr_in14 _ (List.mem_of_getElem? (i := 10) rfl)) (pr_in14 _ (List.mem_of_getElem? (i := 11) rfl)) (pr_in2 _ (List.mem_of_getElem? (i := 2) rfl)) (pr_in14 _ (List.mem_of_getElem? (i := 12) rfl))
theorem gw_RX8_149 : GoodIn wsL_law (wsV RX8 149 RX7 yX7_remove (pr_ws yX7_remove cX7_remove 2 none)) := pr_gV (pr_in14 _ (List.mem_of_getElem? (i := 13) rfl)) (pr_in14 _ (List.mem_of_getElem? (i := 14) rfl)) (pr_in14 _ (List.mem_of_getElem? (i := 15) rfl)) (pr_in2 _ (List.mem_of_getElem? (i := 2) rfl)) (pr_in14 _ (List.mem_of_getElem? (i := 16) rfl))
theorem gw_RX8_153 : GoodIn wsL_law (wsV RX8 153 RX8 yX8_standsAgainst (pr_ws yX8_standsAgainst cX8_standsAgainst 7 (some .int))) := pr_gV (pr_in15 _ (List.mem_of_getElem? (i := 5) rfl)) (pr_in15 _ (List.mem_of_getElem? (i := 6) rfl)) (pr_in15 _ (List.mem_of_getElem? (i := 7) rfl)) (pr_in1 _ (List.mem_of_getElem? (i := 2) rfl)) (pr_in15 _ (List.mem_of_getElem? (i := 8) rfl))
theorem gw_RX8_157 : GoodIn wsL_law (wsV RX8 157 RX8 yX8_addLayer (pr_ws yX8_addLayer cX8_addLayer 7 none)) := pr_gV (pr_in16 _ (List.mem_of_getElem? (i := 13) rfl)) (pr_in16 _ (List.mem_of_getElem? (i := 14) rfl)) (pr_in16 _ (List.mem_of_getElem? (i := 15) rfl)) (pr_in1 _ (List.mem_of_getElem? (i := 2) rfl)) (pr_in16 _ (List.mem_of_getElem? (i := 16) rfl))
theorem gw_RX8_164 : GoodIn wsL_law (wsV RX8 164 RX8 yX8_makePlan (pr_ws yX8_makePlan cX8_makePlan 5 (some .boolean))) := pr_gV (pr_in19 _ (List.mem_of_getElem? (i := 6) rfl)) (pr_in19 _ (List.mem_of_getElem? (i := 7) rfl)) (pr_in19 _ (List.mem_of_getElem? (i := 8) rfl)) (pr_in1 _ (List.mem_of_getElem? (i := 2) rfl)) (pr_in19 _ (List.mem_of_getElem? (i := 9) rfl))
theorem gw_RX8_167 : GoodIn wsL_law (wsV RX8 167 RX4 yX4_hourOf (pr_ws yX4_hourOf cX4_hourOf 3 (some .int))) := pr_gV (pr_in21 _ (List.mem_of_getElem? (i := 0) rfl)) (pr_in21 _ (List.mem_of_getElem? (i := 1) rfl)) (pr_in21 _ (List.mem_of_getElem? (i := 2) rfl)) (pr_in2 _ (List.mem_of_getElem? (i := 10) rfl)) (pr_in21 _ (List.mem_of_getElem? (i := 3) rfl))
theorem gw_RX8_177 : GoodIn wsL_law (wsV RX8 177 RX8 yX8_nearestTraced (pr_ws yX8_nearestTraced cX8_nearestTraced 8 (some .int))) := pr_gV (pr_in22 _ (List.mem_of_getElem? (i := 17) rfl)) (pr_in22 _ (List.mem_of_getElem? (i := 18) rfl)) (pr_in22 _ (List.mem_of_getElem? (i := 19) rfl)) (pr_in1 _ (List.mem_of_getElem? (i := 2) rfl)) (pr_in22 _ (List.mem_of_getElem? (i := 20) rfl))
theorem gw_RX8_180 : GoodIn wsL_law (wsV RX8 180 RX8 yX8_traceDistance (pr_ws yX8_traceDistance cX8_traceDistance 5 (some .int))) := pr_gV (pr_in22 _ (List.mem_of_getElem? (i := 21) rfl)) (pr_in22 _ (List.mem_of_getElem? (i := 22) rfl)) (pr_in22 _ (List.mem_of_getElem? (i := 23) rfl)) (pr_in1 _ (List.mem_of_getElem? (i := 2) rfl)) (pr_in23 _ (List.mem_of_getElem? (i := 0) rfl))
theorem gw_RX8_183 : GoodIn wsL_law (wsV RX8 183 RX8 yX8_handAt (pr_ws yX8_handAt cX8_handAt 2 (some (.object "PortraitRooms$Hand")))) := pr_gV (pr_in15 _ (List.mem_of_getElem? (i := 15) rfl)) (pr_in15 _ (List.mem_of_getElem? (i := 16) rfl)) (pr_in15 _ (List.mem_of_getElem? (i := 17) rfl)) (pr_in1 _ (List.mem_of_getElem? (i := 2) rfl)) (pr_in15 _ (List.mem_of_getElem? (i := 18) rfl))
theorem gw_RX8_190 : GoodIn wsL_law (wsV RX8 190 RX8 yX8_partAt (pr_ws yX8_partAt cX8_partAt 4 (some (.object "PortraitRooms$Part")))) := pr_gV (pr_in15 _ (List.mem_of_getElem? (i := 10) rfl)) (pr_in15 _ (List.mem_of_getElem? (i := 11) rfl)) (pr_in15 _ (List.mem_of_getElem? (i := 12) rfl)) (pr_in1 _ (List.mem_of_getElem? (i := 2) rfl)) (pr_in15 _ (List.mem_of_getElem? (i := 13) rfl))
theorem gw_RX8_199 : GoodIn wsL_law (wsV RX8 199 RX8 yX8_nearestHand (pr_ws yX8_nearestHand cX8_nearestHand 7 (some .int))) := pr_gV (pr_in25 _ (List.mem_of_getElem? (i := 7) rfl)) (pr_in25 _ (List.mem_of_getElem? (i := 8) rfl)) (pr_in25 _ (List.mem_of_getElem? (i := 9) rfl)) (pr_in1 _ (List.mem_of_getElem? (i := 2) rfl)) (pr_in25 _ (List.mem_of_getElem? (i := 10) rfl))
theorem gw_RX8_202 : GoodIn wsL_law (wsV RX8 202 RX8 yX8_habitDistance (pr_ws yX8_habitDistance cX8_habitDistance 9 (some .int))) := pr_gV (pr_in25 _ (List.mem_of_getElem? (i := 11) rfl)) (pr_in25 _ (List.mem_of_getElem? (i := 12) rfl)) (pr_in25 _ (List.mem_of_getElem? (i := 13) rfl)) (pr_in1 _ (List.mem_of_getElem? (i := 2) rfl)) (pr_in25 _ (List.mem_of_getElem? (i := 14) rfl))
theorem gw_RX8_229 : GoodIn wsL_law (wsV RX8 229 RX2 yX2_isWet (pr_ws yX2_isWet cX2_isWet 3 (some .boolean))) := pr_gV (pr_in16 _ (List.mem_of_getElem? (i := 0) rfl)) (pr_in16 _ (List.mem_of_getElem? (i := 1) rfl)) (pr_in16 _ (List.mem_of_getElem? (i := 2) rfl)) (pr_in9 _ (List.mem_of_getElem? (i := 10) rfl)) (pr_in16 _ (List.mem_of_getElem? (i := 3) rfl))
theorem gw_RX8_248 : GoodIn wsL_law (wsV RX8 248 RX2 yX2_wantsMore (pr_ws yX2_wantsMore cX2_wantsMore 1 (some .boolean))) := pr_gV (pr_in15 _ (List.mem_of_getElem? (i := 19) rfl)) (pr_in15 _ (List.mem_of_getElem? (i := 20) rfl)) (pr_in15 _ (List.mem_of_getElem? (i := 21) rfl)) (pr_in9 _ (List.mem_of_getElem? (i := 10) rfl)) (pr_in15 _ (List.mem_of_getElem? (i := 22) rfl))
theorem gw_RX8_251 : GoodIn wsL_law (wsV RX8 251 RX0 yX0_layersOn (pr_ws yX0_layersOn cX0_layersOn 2 (some .int))) := pr_gV (pr_in16 _ (List.mem_of_getElem? (i := 4) rfl)) (pr_in16 _ (List.mem_of_getElem? (i := 5) rfl)) (pr_in16 _ (List.mem_of_getElem? (i := 6) rfl)) (pr_in2 _ (List.mem_of_getElem? (i := 13) rfl)) (pr_in16 _ (List.mem_of_getElem? (i := 7) rfl))
theorem gw_RX8_257 : GoodIn wsL_law (wsV RX8 257 RX5 yX5_isAway (pr_ws yX5_isAway cX5_isAway 4 (some .boolean))) := pr_gV (pr_in16 _ (List.mem_of_getElem? (i := 9) rfl)) (pr_in16 _ (List.mem_of_getElem? (i := 10) rfl)) (pr_in16 _ (List.mem_of_getElem? (i := 11) rfl)) (pr_in2 _ (List.mem_of_getElem? (i := 6) rfl)) (pr_in16 _ (List.mem_of_getElem? (i := 12) rfl))
theorem gw_RX8_260 : GoodIn wsL_law (wsV RX8 260 RX0 yX0_addLayerOn (pr_ws yX0_addLayerOn cX0_addLayerOn 2 none)) := pr_gV (pr_in16 _ (List.mem_of_getElem? (i := 23) rfl)) (pr_in17 _ (List.mem_of_getElem? (i := 0) rfl)) (pr_in17 _ (List.mem_of_getElem? (i := 1) rfl)) (pr_in2 _ (List.mem_of_getElem? (i := 13) rfl)) (pr_in17 _ (List.mem_of_getElem? (i := 2) rfl))
theorem gw_RX8_263 : GoodIn wsL_law (wsV RX8 263 RX7 yX7_use (pr_ws yX7_use cX7_use 2 none)) := pr_gV (pr_in17 _ (List.mem_of_getElem? (i := 4) rfl)) (pr_in17 _ (List.mem_of_getElem? (i := 5) rfl)) (pr_in17 _ (List.mem_of_getElem? (i := 6) rfl)) (pr_in2 _ (List.mem_of_getElem? (i := 2) rfl)) (pr_in17 _ (List.mem_of_getElem? (i := 7) rfl))
theorem gw_RX8_266 : GoodIn wsL_law (wsV RX8 266 RX5 yX5_take (pr_ws yX5_take cX5_take 4 none)) := pr_gV (pr_in17 _ (List.mem_of_getElem? (i := 8) rfl)) (pr_in17 _ (List.mem_of_getElem? (i := 9) rfl)) (pr_in17 _ (List.mem_of_getElem? (i := 10) rfl)) (pr_in2 _ (List.mem_of_getElem? (i := 6) rfl)) (pr_in17 _ (List.mem_of_getElem? (i := 11) rfl))
theorem gw_RX8_272 : GoodIn wsL_law (wsV RX8 272 RX8 yX8_finish (pr_ws yX8_finish cX8_finish 3 none)) := pr_gV (pr_in17 _ (List.mem_of_getElem? (i := 12) rfl)) (pr_in17 _ (List.mem_of_getElem? (i := 13) rfl)) (pr_in17 _ (List.mem_of_getElem? (i := 14) rfl)) (pr_in1 _ (List.mem_of_getElem? (i := 2) rfl)) (pr_in17 _ (List.mem_of_getElem? (i := 15) rfl))
theorem gw_RX8_276 : GoodIn wsL_law (wsV RX8 276 RX4 yX4_clear (pr_ws yX4_clear cX4_clear 1 none)) := pr_gV (pr_in19 _ (List.mem_of_getElem? (i := 13) rfl)) (pr_in19 _ (List.mem_of_getElem? (i := 14) rfl)) (pr_in19 _ (List.mem_of_getElem? (i := 15) rfl)) (pr_in2 _ (List.mem_of_getElem? (i := 10) rfl)) (pr_in19 _ (List.mem_of_getElem? (i := 16) rfl))
theorem gw_RX8_279 : GoodIn wsL_law (wsV RX8 279 RX3 yX3_wantsHead (pr_ws yX3_wantsHead cX3_wantsHead 2 (some .boolean))) := pr_gV (pr_in19 _ (List.mem_of_getElem? (i := 20) rfl)) (pr_in19 _ (List.mem_of_getElem? (i := 21) rfl)) (pr_in19 _ (List.mem_of_getElem? (i := 22) rfl)) (pr_in8 _ (List.mem_of_getElem? (i := 9) rfl)) (pr_in19 _ (List.mem_of_getElem? (i := 23) rfl))
theorem gw_RX8_282 : GoodIn wsL_law (wsV RX8 282 RX8 yX8_hoursFor (pr_ws yX8_hoursFor cX8_hoursFor 7 (some .int))) := pr_gV (pr_in20 _ (List.mem_of_getElem? (i := 1) rfl)) (pr_in20 _ (List.mem_of_getElem? (i := 2) rfl)) (pr_in20 _ (List.mem_of_getElem? (i := 3) rfl)) (pr_in1 _ (List.mem_of_getElem? (i := 2) rfl)) (pr_in20 _ (List.mem_of_getElem? (i := 4) rfl))
theorem gw_RX8_285 : GoodIn wsL_law (wsV RX8 285 RX4 yX4_add (pr_ws yX4_add cX4_add 5 (some .boolean))) := pr_gV (pr_in20 _ (List.mem_of_getElem? (i := 5) rfl)) (pr_in20 _ (List.mem_of_getElem? (i := 6) rfl)) (pr_in20 _ (List.mem_of_getElem? (i := 7) rfl)) (pr_in2 _ (List.mem_of_getElem? (i := 10) rfl)) (pr_in20 _ (List.mem_of_getElem? (i := 8) rfl))
theorem gw_RX8_292 : GoodIn wsL_law (va_wsS RX8 292 yX8_search (pr_ws yX8_search cX8_search 9 none)) := pr_gS (pr_in20 _ (List.mem_of_getElem? (i := 9) rfl)) (pr_in20 _ (List.mem_of_getElem? (i := 10) rfl)) (pr_in1 _ (List.mem_of_getElem? (i := 2) rfl)) (pr_in20 _ (List.mem_of_getElem? (i := 11) rfl))
theorem gw_RX8_296 : GoodIn wsL_law (wsV RX8 296 RX4 yX4_keep (pr_ws yX4_keep cX4_keep 3 none)) := pr_gV (pr_in20 _ (List.mem_of_getElem? (i := 16) rfl)) (pr_in20 _ (List.mem_of_getElem? (i := 17) rfl)) (pr_in20 _ (List.mem_of_getElem? (i := 18) rfl)) (pr_in2 _ (List.mem_of_getElem? (i := 10) rfl)) (pr_in20 _ (List.mem_of_getElem? (i := 19) rfl))
theorem gw_RX8_302 : GoodIn wsL_law (wsV RX8 302 RX4 yX4_sitterIsPlaced (pr_ws yX4_sitterIsPlaced cX4_sitterIsPlaced 3 (some .boolean))) := pr_gV (pr_in20 _ (List.mem_of_getElem? (i := 20) rfl)) (pr_in20 _ (List.mem_of_getElem? (i := 21) rfl)) (pr_in20 _ (List.mem_of_getElem? (i := 22) rfl)) (pr_in2 _ (List.mem_of_getElem? (i := 10) rfl)) (pr_in20 _ (List.mem_of_getElem? (i := 23) rfl))
theorem gw_RX8_311 : GoodIn wsL_law (va_wsS RX8 311 yJ6_bitCount_0f7a4 (pr_ws yJ6_bitCount_0f7a4 cJ6_bitCount_0f7a4 1 (some .int))) := pr_gS (pr_in23 _ (List.mem_of_getElem? (i := 1) rfl)) (pr_in23 _ (List.mem_of_getElem? (i := 2) rfl)) (pr_in23 _ (List.mem_of_getElem? (i := 3) rfl)) (pr_in23 _ (List.mem_of_getElem? (i := 4) rfl))
theorem gw_RX9_113 : GoodIn wsL_law (va_wsS RX9 113 yX9_in (pr_ws yX9_in cX9_in 3 (some .boolean))) := pr_gS (pr_in6 _ (List.mem_of_getElem? (i := 13) rfl)) (pr_in6 _ (List.mem_of_getElem? (i := 14) rfl)) (pr_in1 _ (List.mem_of_getElem? (i := 5) rfl)) (pr_in6 _ (List.mem_of_getElem? (i := 15) rfl))
theorem gw_RX9_123 : GoodIn wsL_law (wsV RX9 123 RX9 yX9_isSitter (pr_ws yX9_isSitter cX9_isSitter 2 (some .boolean))) := pr_gV (pr_in10 _ (List.mem_of_getElem? (i := 6) rfl)) (pr_in10 _ (List.mem_of_getElem? (i := 7) rfl)) (pr_in10 _ (List.mem_of_getElem? (i := 8) rfl)) (pr_in1 _ (List.mem_of_getElem? (i := 5) rfl)) (pr_in10 _ (List.mem_of_getElem? (i := 9) rfl))
theorem gw_RX9_131 : GoodIn wsL_law (wsV RX9 131 RX9 yX9_listed (pr_ws yX9_listed cX9_listed 5 (some .int))) := pr_gV (pr_in10 _ (List.mem_of_getElem? (i := 10) rfl)) (pr_in10 _ (List.mem_of_getElem? (i := 11) rfl)) (pr_in10 _ (List.mem_of_getElem? (i := 12) rfl)) (pr_in1 _ (List.mem_of_getElem? (i := 5) rfl)) (pr_in10 _ (List.mem_of_getElem? (i := 13) rfl))
theorem gw_RX9_147 : GoodIn wsL_law (va_wsS RX9 147 yX9_lightOf (pr_ws yX9_lightOf cX9_lightOf 1 (some .int))) := pr_gS (pr_in11 _ (List.mem_of_getElem? (i := 17) rfl)) (pr_in11 _ (List.mem_of_getElem? (i := 18) rfl)) (pr_in1 _ (List.mem_of_getElem? (i := 5) rfl)) (pr_in11 _ (List.mem_of_getElem? (i := 19) rfl))
theorem gw_RX9_153 : GoodIn wsL_law (wsV RX9 153 RX9 yX9_isFree (pr_ws yX9_isFree cX9_isFree 4 (some .boolean))) := pr_gV (pr_in13 _ (List.mem_of_getElem? (i := 21) rfl)) (pr_in13 _ (List.mem_of_getElem? (i := 22) rfl)) (pr_in13 _ (List.mem_of_getElem? (i := 23) rfl)) (pr_in1 _ (List.mem_of_getElem? (i := 5) rfl)) (pr_in14 _ (List.mem_of_getElem? (i := 0) rfl))
theorem gw_RX9_157 : GoodIn wsL_law (wsV RX9 157 RX9 yX9_isPicture (pr_ws yX9_isPicture cX9_isPicture 2 (some .boolean))) := pr_gV (pr_in13 _ (List.mem_of_getElem? (i := 13) rfl)) (pr_in13 _ (List.mem_of_getElem? (i := 14) rfl)) (pr_in13 _ (List.mem_of_getElem? (i := 15) rfl)) (pr_in1 _ (List.mem_of_getElem? (i := 5) rfl)) (pr_in13 _ (List.mem_of_getElem? (i := 16) rfl))
theorem gw_RX9_160 : GoodIn wsL_law (wsV RX9 160 RX9 yX9_couldBe (pr_ws yX9_couldBe cX9_couldBe 4 (some .boolean))) := pr_gV (pr_in13 _ (List.mem_of_getElem? (i := 17) rfl)) (pr_in13 _ (List.mem_of_getElem? (i := 18) rfl)) (pr_in13 _ (List.mem_of_getElem? (i := 19) rfl)) (pr_in1 _ (List.mem_of_getElem? (i := 5) rfl)) (pr_in13 _ (List.mem_of_getElem? (i := 20) rfl))
theorem gw_RX9_163 : GoodIn wsL_law (wsV RX9 163 RX9 yX9_sits (pr_ws yX9_sits cX9_sits 4 (some .boolean))) := pr_gV (pr_in14 _ (List.mem_of_getElem? (i := 1) rfl)) (pr_in14 _ (List.mem_of_getElem? (i := 2) rfl)) (pr_in14 _ (List.mem_of_getElem? (i := 3) rfl)) (pr_in1 _ (List.mem_of_getElem? (i := 5) rfl)) (pr_in14 _ (List.mem_of_getElem? (i := 4) rfl))
theorem gw_RX9_166 : GoodIn wsL_law (wsV RX9 166 RX9 yX9_unused (pr_ws yX9_unused cX9_unused 4 (some .int))) := pr_gV (pr_in14 _ (List.mem_of_getElem? (i := 21) rfl)) (pr_in14 _ (List.mem_of_getElem? (i := 22) rfl)) (pr_in14 _ (List.mem_of_getElem? (i := 23) rfl)) (pr_in1 _ (List.mem_of_getElem? (i := 5) rfl)) (pr_in15 _ (List.mem_of_getElem? (i := 0) rfl))
theorem gw_RX9_169 : GoodIn wsL_law (wsV RX9 169 RX9 yX9_isWet (pr_ws yX9_isWet cX9_isWet 3 (some .boolean))) := pr_gV (pr_in18 _ (List.mem_of_getElem? (i := 8) rfl)) (pr_in18 _ (List.mem_of_getElem? (i := 9) rfl)) (pr_in18 _ (List.mem_of_getElem? (i := 10) rfl)) (pr_in1 _ (List.mem_of_getElem? (i := 5) rfl)) (pr_in18 _ (List.mem_of_getElem? (i := 11) rfl))
theorem gw_RX9_172 : GoodIn wsL_law (wsV RX9 172 RX9 yX9_isHand (pr_ws yX9_isHand cX9_isHand 2 (some .boolean))) := pr_gV (pr_in18 _ (List.mem_of_getElem? (i := 0) rfl)) (pr_in18 _ (List.mem_of_getElem? (i := 1) rfl)) (pr_in18 _ (List.mem_of_getElem? (i := 2) rfl)) (pr_in1 _ (List.mem_of_getElem? (i := 5) rfl)) (pr_in18 _ (List.mem_of_getElem? (i := 3) rfl))
theorem gw_RX9_175 : GoodIn wsL_law (wsV RX9 175 RX9 yX9_against (pr_ws yX9_against cX9_against 4 (some .int))) := pr_gV (pr_in18 _ (List.mem_of_getElem? (i := 4) rfl)) (pr_in18 _ (List.mem_of_getElem? (i := 5) rfl)) (pr_in18 _ (List.mem_of_getElem? (i := 6) rfl)) (pr_in1 _ (List.mem_of_getElem? (i := 5) rfl)) (pr_in18 _ (List.mem_of_getElem? (i := 7) rfl))
theorem gw_RX9_182 : GoodIn wsL_law (wsV RX9 182 RX9 yX9_isDone (pr_ws yX9_isDone cX9_isDone 4 (some .boolean))) := pr_gV (pr_in18 _ (List.mem_of_getElem? (i := 12) rfl)) (pr_in18 _ (List.mem_of_getElem? (i := 13) rfl)) (pr_in18 _ (List.mem_of_getElem? (i := 14) rfl)) (pr_in1 _ (List.mem_of_getElem? (i := 5) rfl)) (pr_in18 _ (List.mem_of_getElem? (i := 15) rfl))
theorem gw_RX9_194 : GoodIn wsL_law (wsV RX9 194 RX9 yX9_tries (pr_ws yX9_tries cX9_tries 8 none)) := pr_gV (pr_in21 _ (List.mem_of_getElem? (i := 14) rfl)) (pr_in21 _ (List.mem_of_getElem? (i := 15) rfl)) (pr_in21 _ (List.mem_of_getElem? (i := 16) rfl)) (pr_in1 _ (List.mem_of_getElem? (i := 5) rfl)) (pr_in21 _ (List.mem_of_getElem? (i := 17) rfl))
theorem gw_RX9_198 : GoodIn wsL_law (wsV RX9 198 RX9 yX9_plans (pr_ws yX9_plans cX9_plans 3 (some .boolean))) := pr_gV (pr_in21 _ (List.mem_of_getElem? (i := 9) rfl)) (pr_in21 _ (List.mem_of_getElem? (i := 10) rfl)) (pr_in21 _ (List.mem_of_getElem? (i := 11) rfl)) (pr_in1 _ (List.mem_of_getElem? (i := 5) rfl)) (pr_in21 _ (List.mem_of_getElem? (i := 12) rfl))
theorem gw_RX9_202 : GoodIn wsL_law (wsV RX9 202 RX9 yX9_differ (pr_ws yX9_differ cX9_differ 5 (some .int))) := pr_gV (pr_in23 _ (List.mem_of_getElem? (i := 12) rfl)) (pr_in23 _ (List.mem_of_getElem? (i := 13) rfl)) (pr_in23 _ (List.mem_of_getElem? (i := 14) rfl)) (pr_in1 _ (List.mem_of_getElem? (i := 5) rfl)) (pr_in23 _ (List.mem_of_getElem? (i := 15) rfl))
theorem gw_RX9_205 : GoodIn wsL_law (wsV RX9 205 RX9 yX9_from (pr_ws yX9_from cX9_from 4 (some .int))) := pr_gV (pr_in24 _ (List.mem_of_getElem? (i := 0) rfl)) (pr_in23 _ (List.mem_of_getElem? (i := 9) rfl)) (pr_in23 _ (List.mem_of_getElem? (i := 10) rfl)) (pr_in1 _ (List.mem_of_getElem? (i := 5) rfl)) (pr_in23 _ (List.mem_of_getElem? (i := 11) rfl))
theorem gw_RX9_207 : GoodIn wsL_law (va_wsS RX9 207 yX9_squares (pr_ws yX9_squares cX9_squares 7 (some .int))) := pr_gS (pr_in25 _ (List.mem_of_getElem? (i := 19) rfl)) (pr_in25 _ (List.mem_of_getElem? (i := 20) rfl)) (pr_in1 _ (List.mem_of_getElem? (i := 5) rfl)) (pr_in25 _ (List.mem_of_getElem? (i := 21) rfl))
end
