def R_law : String := "SplicedWebLaw"
def lw_P (b : Addr) (xs : List Int32) (args : Array Value) (s : State) : Prop := args = #[.ref b] ∧ s.IntsAt b xs ∧ xs.length ≤ 1536 ∧ (Jvm.Cond.and given_1 narrow_1).before args s = true
def lw_Q (_ : Array Value) (s : State) (o : Outcome) (t : State) : Prop := o = .returned (some (.int 1)) ∧ Framed s o t [] 600000 7302250
def lw_Z (below : List Frame) (a : Array Value) (s : State) : State → Prop := fun t => ∃ o, t.status = .running ∧ Ended t below o ∧ lw_Q a s o t
/-- the law's own end, with 1 on the stack, nothing written that was there before, its room as the claim has it -/
theorem lw_ret {p : Program} {l : Launch} {e : Env} {s : State} {m : MethodId} {below : List Frame} {meth : Method} {c : Code} {b : Nat} (hx : p.tables.exec = Jvm.exec) (hb : c.code = code) (hr : meth.sig.returnType = ret) (hlocks : meth.locks = false) {pc : Nat} {H : Heap} {ls : Array Slot} (hdg : decode code pc = .ok (.ireturn, 1)) : W p l e room_1 s m #[Value.ref b] below meth c H [] 600000 7302250 (lw_Z below #[Value.ref b] s) (F0 m pc ls [.int 1]) := by
  intro T hT X
  obtain ⟨fs, hret, hrun, hended, hW, hframe⟩ := X.leave (v := some (.int 1)) (hlocks := hlocks) (fun h => by rw [hr] at h; cases h)
  have hmeth' : T.vm.method? m = some meth := X.method'
  refine ⟨T.setFrames fs, ?_, .returned (some (.int 1)), hrun, hended, rfl, ⟨_, rfl⟩, hW, hframe⟩
  jvm_step X.here [X.here.top, hx, hb, hdg, hmeth', hr, ret, narrow_b1]
  (try refine ⟨rfl, ?_⟩); (try refine ⟨rfl, ?_⟩)
  first | (intro acts; rw [hret _ acts rfl rfl rfl]) | rw [hret _ _ rfl rfl rfl]
  exact Steps.refl _
/-- what holds at the law's entry: the machine, the code, the tables' words (any of lw_tbl by 'hts w (by decide +kernel)'), the script of L ints xs at the cell b, what the Statement gives of the start (any of its parts by flat_of_before) -/
def lw_At (p : Program) (s : State) (m : MethodId) (meth : Method) (c : Code) (b L : Nat) (xs : Nat → Int32) : Prop :=
  p.tables.exec = Jvm.exec ∧ c.code = code ∧ meth.sig.returnType = ret ∧ c.maxLocals = 4 ∧ s.vm.findClass R_law = some m.cls ∧ (∀ w ∈ lw_tbl, w.before #[Value.ref b] s = true) ∧ va_X b L xs s s.heap ∧ b < s.heap.size ∧ meth.locks = false ∧ (Jvm.Cond.and given_1 narrow_1).before #[Value.ref b] s = true
theorem wz_c6 : Cond.classLink RL 7 RX6 ∈ LG := lg_mem 62 (by decide +kernel) rfl
theorem wz_c7 : Cond.classLink RL 10 RX7 ∈ LG := lg_mem 685 (by decide +kernel) rfl
theorem wz_i6 : Cond.instantiable RX6 9 ∈ LG := lg_mem 63 (by decide +kernel) rfl
theorem wz_i7 : Cond.instantiable RX7 27 ∈ LG := lg_mem 686 (by decide +kernel) rfl
theorem wz_l6 : Cond.methodLink RL 9 yX6_init ∈ LG := lg_mem 64 (by decide +kernel) rfl
theorem wz_l7 : Cond.methodLink RL 12 yX7_init ∈ LG := lg_mem 687 (by decide +kernel) rfl
theorem lg_tbl {w : Cond} (h : w ∈ LG) : w ∈ lw_tbl := (List.mem_filter.mp h).1
set_option maxHeartbeats 4000000 in
set_option maxRecDepth 20000 in
theorem law_known {s : State} {args : Array Value} (hts : ∀ w ∈ lw_tbl, w.before args s = true) : ∃ S : XS, XB S = s.heap.size ∧ XK S s := by
  obtain ⟨c0, i0, k0⟩ := u_known (C := RX0) (T := TX0) (N := 11) (n := 11) hts (fun w h => lg_tbl (cr_0.2.2.2.1 w h)) (hts (.instantiable RX0 11) (List.mem_of_getElem? (i := 173) (by decide +kernel)))
  obtain ⟨c1, i1, k1⟩ := u_known (C := RX1) (T := TX1) (N := 3) (n := 3) hts (fun w h => lg_tbl (cr_1.2.2.2.1 w h)) (hts (.instantiable RX1 3) (List.mem_of_getElem? (i := 300) (by decide +kernel)))
  obtain ⟨c2, i2, k2⟩ := u_known (C := RX2) (T := TX2) (N := 3) (n := 3) hts (fun w h => lg_tbl (cr_2.2.2.2.1 w h)) (hts (.instantiable RX2 3) (List.mem_of_getElem? (i := 280) (by decide +kernel)))
  obtain ⟨c3, i3, k3⟩ := u_known (C := RX3) (T := TX3) (N := 10) (n := 10) hts (fun w h => lg_tbl (cr_3.2.2.2.1 w h)) (hts (.instantiable RX3 10) (List.mem_of_getElem? (i := 101) (by decide +kernel)))
  obtain ⟨c4, i4, k4⟩ := u_known (C := RX4) (T := TX4) (N := 14) (n := 14) hts (fun w h => lg_tbl (cr_4.2.2.2.1 w h)) (hts (.instantiable RX4 14) (List.mem_of_getElem? (i := 167) (by decide +kernel)))
  obtain ⟨c5, i5, k5⟩ := u_known (C := RX5) (T := TX5) (N := 7) (n := 7) hts (fun w h => lg_tbl (cr_5.2.2.2.1 w h)) (hts (.instantiable RX5 7) (List.mem_of_getElem? (i := 71) (by decide +kernel)))
  obtain ⟨c6, i6, k6⟩ := u_known (C := RX6) (T := TX6) (N := 9) (n := 9) hts (fun w h => lg_tbl (cr_6.2.2.2.1 w h)) (hts (.instantiable RX6 9) (List.mem_of_getElem? (i := 63) (by decide +kernel)))
  obtain ⟨c7, i7, k7⟩ := u_known (C := RX7) (T := TX7) (N := 27) (n := 27) hts (fun w h => lg_tbl (cr_7.2.2.2.1 w h)) (hts (.instantiable RX7 27) (List.mem_of_getElem? (i := 686) (by decide +kernel)))
  obtain ⟨cI, kI, pI, f1, f2, f3⟩ := Cond.arrayClass_spec (hts (.arrayClass .int) (List.mem_of_getElem? (i := 99) (by decide +kernel)))
  obtain ⟨cZ, kZ, pZ, g1, g2, g3⟩ := Cond.arrayClass_spec (hts (.arrayClass .boolean) (List.mem_of_getElem? (i := 316) (by decide +kernel)))
  have hov := hts (.arrayOver (.object "SplicedWeb$Press")) (List.mem_of_getElem? (i := 286) (by decide +kernel))
  obtain ⟨pP, cP, kP, q1, -, q3, q4, q5⟩ := Cond.arrayOver_spec hov
  refine ⟨((fun k => if k = 0 then c0 else if k = 1 then c1 else if k = 2 then c2 else if k = 3 then c3 else if k = 4 then c4 else if k = 5 then c5 else if k = 6 then c6 else c7, fun k => if k = 0 then i0 else if k = 1 then i1 else if k = 2 then i2 else if k = 3 then i3 else if k = 4 then i4 else if k = 5 then i5 else if k = 6 then i6 else i7), cI, cZ, cP, s.heap.size), rfl, ⟨?_, ?_⟩, ?_⟩
  · intro k q hq
    match k, hq with
    | 0, hq => cases hq; exact k0
    | 1, hq => cases hq; exact k1
    | 2, hq => cases hq; exact k2
    | 3, hq => cases hq; exact k3
    | 4, hq => cases hq; exact k4
    | 5, hq => cases hq; exact k5
    | 6, hq => cases hq; exact k6
    | 7, hq => cases hq; exact k7
    | k + 8, hq => simp [vwCl] at hq
  · intro k q hq
    match k, hq with
    | 0, hq => cases hq; exact ⟨fun n z => ⟨fun k h => (by cases h), kI, f2, pI, f3⟩, f1⟩
    | 1, hq => cases hq; exact ⟨fun n z => ⟨fun k h => (by cases h), kZ, g2, pZ, g3⟩, g1⟩
    | 2, hq => cases hq; exact ⟨fun n z => ⟨fun k h => (by cases h), kP, q3, pP, q4⟩, kP, pP, q3, q4, q1, q5⟩
    | k + 3, hq => simp [Xty] at hq
  · exact ⟨va_Nw.of rfl (hts _ (List.mem_of_getElem? (i := 72) (by decide +kernel))), va_Nw.of rfl (hts _ (List.mem_of_getElem? (i := 168) (by decide +kernel))), va_Nw.of rfl (hts _ (List.mem_of_getElem? (i := 174) (by decide +kernel))), va_Nw.of rfl (hts _ (List.mem_of_getElem? (i := 287) (by decide +kernel))), va_Nw.of rfl (hts _ (List.mem_of_getElem? (i := 301) (by decide +kernel))), va_Nw.of rfl (hts _ (List.mem_of_getElem? (i := 414) (by decide +kernel))), va_Nw.of rfl (hts _ (List.mem_of_getElem? (i := 419) (by decide +kernel))), va_Nw.of rfl (hts _ (List.mem_of_getElem? (i := 495) (by decide +kernel))), va_AO.of hov⟩
set_option maxHeartbeats 4000000 in
set_option maxRecDepth 20000 in
theorem law_start {p : Program} {e : Env} {s : State} {m : MethodId} {below : List Frame} {meth : Method} {c : Code} (l : Launch) {b L : Nat} {xs : Nat → Int32} (Rel : Mem → Nat → Nat → Prop) (HO : LawOps Rel) (HI : LawInit Rel) (hL : L ≤ 1536) (C0 : lw_At p s m meth c b L xs) : W p l e room_1 s m #[Value.ref b] below meth c s.heap [] 0 0 (lw_Z below #[Value.ref b] s) (entryFrame m ([Value.ref b] : List Value).toArray 4) := by
  obtain ⟨hx, hb, hr, hml, hown, hts, hX, hbl, hlocks, hgv⟩ := id C0
  obtain ⟨S, hB, hK⟩ := law_known hts
  have C : Cx p m meth c s #[Value.ref b] cL_law RL 4 S := ⟨⟨hx, hb, hml, hown, fun w hw => hts w (lg_tbl hw)⟩, hK, hlocks⟩
  have hend : ∀ M R lv, V p l e room_1 s m #[Value.ref b] below meth c (lw_Z below #[Value.ref b] s) S 4 148 6909 148 M R 635 lv [] := by
    intro M R lv
    refine v_iconst C kc_1 dL_law_635 ?_
    intro H locs ls hP hS h
    refine va_forget (fun q hq => by rw [← hB]; exact hS.2.2 q hq) ?_
    exact W.widen (k := 600000) (n := 7302250) (Nat.le_of_ble_eq_true rfl) (Nat.le_of_ble_eq_true rfl) (lw_ret hx hb hr hlocks dL_law_636)
  have h := HI
  suffices key : V p l e room_1 s m #[Value.ref b] below meth c (lw_Z below #[Value.ref b] s) S 4 0 0 0 (fun _ _ => 0) (fun _ _ => none) 0 [(0, .ref b)] [] by
    rw [lg_entry_eq]
    exact key s.heap [] _ (fun k q hq => by simp [XW] at hq) va_S.rf (lv_entry [Value.ref b] (Nat.le_of_ble_eq_true rfl))
  refine v_new C cr_6 wz_c6 wz_i6 wi_X6 shx_0 (fun _ => ⟨rfl, rfl⟩) (by omega) (Or.inr rfl) (Nat.le_of_ble_eq_true rfl) (Nat.le_of_ble_eq_true rfl) dL_law_0 ?_
  refine v_dup C rfl dL_law_3 ?_
  refine v_ciG (As := []) C mi_X6_init wz_l6 (con_X6_init l S (fun _ _ => none) _ _ h) (by omega) (Or.inl (by omega)) rfl ⟨Nat.le_of_ble_eq_true rfl, Nat.le_of_ble_eq_true rfl⟩ ⟨rfl, rfl, Nat.le_of_ble_eq_true rfl, Nat.le_of_ble_eq_true rfl⟩ (Nat.le_of_ble_eq_true rfl) dL_law_4 (fun M1 R1 h => ?_)
  refine v_astoren (lv' := [(1, .ref (XB S + 0)), (0, .ref b)]) C rfl rfl (Nat.le_of_ble_eq_true rfl) dL_law_7 ?_
  refine v_new C cr_7 wz_c7 wz_i7 wi_X7 shx_130 h.1 (by omega) (Or.inl (by omega)) (Nat.le_of_ble_eq_true rfl) (Nat.le_of_ble_eq_true rfl) dL_law_8 ?_
  replace h := h.2
  refine v_dup C rfl dL_law_11 ?_
  refine v_ciG (As := []) C mi_X7_init wz_l7 (con_X7_init l S R1 _ _ h) (by omega) (Or.inl (by omega)) rfl ⟨Nat.le_of_ble_eq_true rfl, Nat.le_of_ble_eq_true rfl⟩ ⟨rfl, rfl, Nat.le_of_ble_eq_true rfl, Nat.le_of_ble_eq_true rfl⟩ (Nat.le_of_ble_eq_true rfl) dL_law_12 (fun M2 R2 h => ?_)
  obtain ⟨pl, dr, hw, hm, hrel⟩ := h
  refine v_astoren (lv' := [(2, .ref (XB S + 130)), (1, .ref (XB S + 0)), (0, .ref b)]) C rfl rfl (Nat.le_of_ble_eq_true rfl) dL_law_15 ?_
  refine v_iconst C kc_0 dL_law_16 ?_
  refine v_istoren (lv' := [(3, .int (0 : Int32)), (2, .ref (XB S + 130)), (1, .ref (XB S + 0)), (0, .ref b)]) C rfl rfl (Nat.le_of_ble_eq_true rfl) dL_law_17 ?_
  refine v_loc [3, 2, 1, 0] rfl ?_
  exact law_loop l S Rel HO C hX hbl (by rw [hB]; exact hbl) hL hend (L + 4) 0 0 (by omega) nI_0.symm M2 R2 pl dr (by omega) hw hm hrel
