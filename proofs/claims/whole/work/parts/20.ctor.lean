/-! making: new, newarray, anewarray, constructors -/
theorem XSz {p : Program} {l : Launch} {e : Env} {Rm : Room} {s : State} {m : MethodId} {args : Array Value} {below : List Frame} {meth : Method} {c : Code} {T : State} {locs : List Loc} {cells slots n : Nat} {S : XS} {M : Mem} {R : Rfs} {H : Heap} (X : Stand p l e Rm s m args below meth c T locs cells slots) (hT : T.heap = H) (hP : va_P S.1 vwCl (XW S n M R) H) (hS : va_S (XA S) s.heap H locs) (hn : s.heap.size + cells = XB S + n) (h0 : 0 < n ∨ cells = 0) : H.size = XB S + n := by
  have h1 := X.heapSize
  rw [hT] at h1
  rcases h0 with h0 | h0
  · have h2 := (hP (n - 1) _ (xw_at (by omega))).lt
    have h3 : XB S + (n - 1) < H.size := h2
    omega
  · have := hS.1
    omega
theorem xw_grow {S : XS} {n : Nat} {M : Mem} {R : Rfs} {H H1 : Heap} (hP : va_P S.1 vwCl (XW S n M R) H) (hz : H.size = XB S + n) (o1 : ∀ q, q < XB S + n → H1[q]? = H[q]?) (hx : va_at S.1 vwCl (XB S + n, XE S M R n) H1) : va_P S.1 vwCl (XW S (n + 1) M R) H1 := by
  rw [← xw_push rfl]
  refine va_P.app (hP.kept fun k x hk => o1 x.1 (by rw [← hz]; exact (hP k x hk).lt)) (fun k x hk => ?_)
  have hk1 : k < 1 := (List.getElem?_eq_some_iff.mp hk).1
  rw [show k = 0 by omega] at hk
  cases hk
  exact hx
def ZR (M : Mem) (R : Rfs) (n : Nat) : Prop := ∀ j, M n j = 0 ∧ R n j = none
section V4
variable {p : Program} {l : Launch} {e : Env} {Rm : Room} {s : State} {m : MethodId} {args : Array Value} {below : List Frame} {meth : Method} {c : Code} {Q : State → Prop}
variable {cc : ByteArray} {own : String} {nL cells slots n pc : Nat} {S : XS} {M : Mem} {R : Rfs} {lv lv' : List (Nat × Value)} {st : List Value}
theorem v_objinit (C : Cx p m meth c s args cc own nL S) {idx o : Nat} (hlk : Cond.methodLink own idx Lib.objectInit ∈ LG) (hin : Cond.instanceMethod Lib.objectInit ∈ LG) (hco : Cond.code Lib.objectInit ⟨#[0xb1]⟩ 1 none ∈ LG) (hfr : 1 ≤ Rm.frames) (hlo : 0 + (st.map fun v => v.category).sum + 12 ≤ Rm.locals) (hd : decode cc pc = .ok (.invokespecial idx, 3)) (kk : V p l e Rm s m args below meth c Q S nL cells slots n M R (pc + 3) lv st) : V p l e Rm s m args below meth c Q S nL cells slots n M R pc lv (.ref o :: st) :=
  fun H locs ls hP hS h => W.objInit C.1.1 C.1.2.1 C.1.2.2.2.1 (C.1.2.2.2.2 _ hlk) (C.1.2.2.2.2 _ hin) (C.1.2.2.2.2 _ hco) rfl (by rw [C.1.2.2.1]; exact h.1) rfl hd hfr hlo (kk H locs ls hP hS h)
theorem v_new (C : Cx p m meth c s args cc own nL S) {idx ci N : Nat} {Cn : String} {T : u_T} {ty0 : Nat → FieldType} (hcr : CRow ci Cn T N ty0) (hcl : Cond.classLink own idx Cn ∈ LG) (hins : Cond.instantiable Cn N ∈ LG) (hini : Cond.initialized Cn ∈ LG) (hs : SH n = (ci, 0)) (hzr : ZR M R n) (hn : s.heap.size + cells = XB S + n) (h0 : 0 < n ∨ cells = 0) (hc : cells + 1 ≤ Rm.cells) (hsl : slots + N ≤ Rm.slots) (hd : decode cc pc = .ok (.new idx, 3)) (kk : V p l e Rm s m args below meth c Q S nL (cells + 1) (slots + N) (n + 1) M R (pc + 3) lv (.ref (XB S + n) :: st)) : V p l e Rm s m args below meth c Q S nL cells slots n M R pc lv st := by
  obtain ⟨h1, h2, h3, h4, h5, h6, h7⟩ := hcr
  intro H locs ls hP hS h T' hT X
  have hz := XSz X hT hP hS hn h0
  have hKn := C.2.1.1.1 ci _ h1
  suffices key : W p l e Rm s m args below meth c H locs cells slots Q (F0 m pc ls st) from key T' hT X
  refine W.newcK C.1.1 C.1.2.1 C.1.2.2.2.1 (C.1.2.2.2.2 _ hcl) (C.1.2.2.2.2 _ hins) (C.1.2.2.2.2 _ hini) rfl hd hc hsl hKn.2.1 hz (fun H1 kC hkC e1 z1 o1 => ?_)
  refine kk H1 locs ls (xw_grow hP hz o1 ?_) ⟨Nat.le_trans hS.1 (by omega), fun x g1 g2 => (o1 x (by rw [← hz]; exact Nat.lt_of_lt_of_le g1 hS.1)).trans (hS.2.1 x g1 g2), hS.2.2⟩ h
  rw [xe_obj hs h2]
  refine ⟨_, h1, (u_born ty0 C.1.2.2.2.2 h4 hKn hkC e1 h5).to (fun j hj => ?_)⟩
  rw [h7 j hj]
  by_cases hf : FK ci j = true
  · simp [vp_V, h3, hj, XF, hf, (hzr j).2, va_rf]
  · simp [vp_V, h3, hj, XF, hf, (hzr j).1]
theorem v_newi (C : Cx p m meth c s args cc own nL S) {i : Int32} {z : Nat} (hi : Lit i z) (harr : Cond.arrayClass .int ∈ LG) (hs : SH n = (8, z)) (hzr : ZR M R n) (hn : s.heap.size + cells = XB S + n) (h0 : 0 < n ∨ cells = 0) (hby : z * componentBytes .int ≤ 536870912) (hc : cells + 1 ≤ Rm.cells) (hsl : slots + z ≤ Rm.slots) (hd : decode cc pc = .ok (.newarray .int, 2)) (kk : V p l e Rm s m args below meth c Q S nL (cells + 1) (slots + z) (n + 1) M R (pc + 2) lv (.ref (XB S + n) :: st)) : V p l e Rm s m args below meth c Q S nL cells slots n M R pc lv (.int i :: st) := by
  intro H locs ls hP hS h T' hT X
  have hz := XSz X hT hP hS hn h0
  suffices key : W p l e Rm s m args below meth c H locs cells slots Q (F0 m pc ls (.int i :: st)) from key T' hT X
  refine va_newaK (atype := .int) C.1.1 C.1.2.1 (C.1.2.2.2.2 _ harr) rfl hd rfl hi.1 hi.2 hby hc hsl hz (fun H1 cA e1 z1 o1 hAr hNm => ?_)
  have hcA : cA = S.2.1 := Option.some.inj (hNm.symm.trans (C.2.1.1.2 0 (S.2.1, .int) rfl).2)
  refine kk H1 locs ls (xw_grow hP hz o1 ?_) ⟨Nat.le_trans hS.1 (by omega), fun x g1 g2 => (o1 x (by rw [← hz]; exact Nat.lt_of_lt_of_le g1 hS.1)).trans (hS.2.1 x g1 g2), hS.2.2⟩ h
  rw [xe_i hs]
  show H1[XB S + n]? = some (vp_cell _ _)
  rw [e1, vp_cell_i, hcA, show M n = (fun _ => 0) from funext fun j => (hzr j).1]
  rfl
theorem v_newz (C : Cx p m meth c s args cc own nL S) {i : Int32} {z : Nat} (hi : Lit i z) (harr : Cond.arrayClass .boolean ∈ LG) (hs : SH n = (9, z)) (hzr : ZR M R n) (hn : s.heap.size + cells = XB S + n) (h0 : 0 < n ∨ cells = 0) (hby : z * componentBytes .boolean ≤ 536870912) (hc : cells + 1 ≤ Rm.cells) (hsl : slots + z ≤ Rm.slots) (hd : decode cc pc = .ok (.newarray .boolean, 2)) (kk : V p l e Rm s m args below meth c Q S nL (cells + 1) (slots + z) (n + 1) M R (pc + 2) lv (.ref (XB S + n) :: st)) : V p l e Rm s m args below meth c Q S nL cells slots n M R pc lv (.int i :: st) := by
  intro H locs ls hP hS h T' hT X
  have hz := XSz X hT hP hS hn h0
  suffices key : W p l e Rm s m args below meth c H locs cells slots Q (F0 m pc ls (.int i :: st)) from key T' hT X
  refine va_newaK (atype := .boolean) C.1.1 C.1.2.1 (C.1.2.2.2.2 _ harr) rfl hd rfl hi.1 hi.2 hby hc hsl hz (fun H1 cA e1 z1 o1 hAr hNm => ?_)
  have hcA : cA = S.2.2.1 := Option.some.inj (hNm.symm.trans (C.2.1.1.2 1 (S.2.2.1, .boolean) rfl).2)
  refine kk H1 locs ls (xw_grow hP hz o1 ?_) ⟨Nat.le_trans hS.1 (by omega), fun x g1 g2 => (o1 x (by rw [← hz]; exact Nat.lt_of_lt_of_le g1 hS.1)).trans (hS.2.1 x g1 g2), hS.2.2⟩ h
  rw [xe_z hs]
  show H1[XB S + n]? = some (vp_cell _ _)
  rw [e1, vp_cell_i, hcA, show M n = (fun _ => 0) from funext fun j => (hzr j).1]
  rfl
theorem v_newq (C : Cx p m meth c s args cc own nL S) {i : Int32} {z idx : Nat} (hi : Lit i z) (hcl : Cond.classLink own idx "SplicedWeb$Press" ∈ LG) (hs : SH n = (10, z)) (hzr : ZR M R n) (hn : s.heap.size + cells = XB S + n) (h0 : 0 < n ∨ cells = 0) (hby : z * 4 ≤ 536870912) (hc : cells + 1 ≤ Rm.cells) (hsl : slots + z ≤ Rm.slots) (hd : decode cc pc = .ok (.anewarray idx, 3)) (kk : V p l e Rm s m args below meth c Q S nL (cells + 1) (slots + z) (n + 1) M R (pc + 3) lv (.ref (XB S + n) :: st)) : V p l e Rm s m args below meth c Q S nL cells slots n M R pc lv (.int i :: st) := by
  intro H locs ls hP hS h T' hT X
  have hz := XSz X hT hP hS hn h0
  have hi2 : i.toNatClampNeg = z := hi.2
  subst hi2
  suffices key : W p l e Rm s m args below meth c H locs cells slots Q (F0 m pc ls (.int i :: st)) from key T' hT X
  refine W.anew C.1.1 C.1.2.1 C.1.2.2.2.1 (C.1.2.2.2.2 _ hcl) (va_AO.use C.2.1.2.2.2.2.2.2.2.2.2) rfl hd rfl hi.1 hby hc hsl (fun cA kA comp f1 f2 f3 f4 => ?_)
  have hcA : cA = S.2.2.2.1 := by
    obtain ⟨-, kA', comp', q1, q2, q3, q4⟩ := C.2.1.1.2 2 (S.2.2.2.1, .object "SplicedWeb$Press") rfl
    exact Option.some.inj (f1.symm.trans q4)
  generalize hH1 : H.push ({ cls := cA, slots := Array.replicate i.toNatClampNeg .null, vm := .none } : Cell) = H1
  have z1 : H1.size = H.size + 1 := by rw [← hH1, Array.size_push]
  have e1 : H1[H.size]? = some (arrV cA i.toNatClampNeg (fun _ => .null)) := by rw [← hH1, Array.getElem?_push_size, ← arrV_new]
  have o1 : ∀ q : Nat, q < H.size → H1[q]? = H[q]? := fun q hq => by rw [← hH1, Array.getElem?_push, if_neg (Nat.ne_of_lt hq)]
  rw [hz] at e1 o1 ⊢
  refine kk H1 locs ls (xw_grow hP hz o1 ?_) ⟨Nat.le_trans hS.1 (by omega), fun x g1 g2 => (o1 x (by rw [← hz]; exact Nat.lt_of_lt_of_le g1 hS.1)).trans (hS.2.1 x g1 g2), hS.2.2⟩ h
  rw [xe_q hs]
  show H1[XB S + n]? = some (vp_cell _ _)
  rw [e1, vp_cell_q, hcA, show R n = (fun _ => none) from funext fun j => (hzr j).2]
  rfl
theorem v_ciG (C : Cx p m meth c s args cc own nL S) {y : MethodName} {cd : ByteArray} {mL na idx o n' mc ms : Nat} {rm : Room} {As : List Value} {K : Mem → Rfs → Prop} (row : MI y cd mL na) (hlk : Cond.methodLink own idx y ∈ LG) (hM : CG l y cd mL rm S n R (.ref (XB S + o) :: As) M n' mc ms (fun u => K u.1 u.2)) (hn : s.heap.size + cells = XB S + n) (h0 : 0 < n ∨ cells = 0) (hna : As.length = na) (hfr : rm.frames + 1 ≤ Rm.frames ∧ 8 + (mL + 11) + rm.locals ≤ Rm.locals) (hcs : rm.cells = mc ∧ rm.slots = ms ∧ cells + mc ≤ Rm.cells ∧ slots + ms ≤ Rm.slots) (hW : (st.map fun v => v.category).sum ≤ 8) (hd : decode cc pc = .ok (.invokespecial idx, 3)) (kk : ∀ M' R', K M' R' → V p l e Rm s m args below meth c Q S nL (cells + mc) (slots + ms) n' M' R' (pc + 3) lv st) : V p l e Rm s m args below meth c Q S nL cells slots n M R pc lv (As.reverse ++ .ref (XB S + o) :: st) := by
  obtain ⟨hin, hini, hco, hd1, hd2, hd3, hnm⟩ := row
  intro H locs ls hP hS h T hT X
  have hz := XSz X hT hP hS hn h0
  have hcw : CallB Rm s args own idx y cd mL none (Cond.code y cd mL none :: LG) rm mc ms na ∧ y.name = "<init>" ∧ (Cond.instanceMethod y).before args s = true := ⟨callB_of na C.1.2.2.2.2 (lg_good hco) rfl hcs.1 hcs.2.1 (C.1.2.2.2.2 _ hini) (C.1.2.2.2.2 _ hlk) ⟨hd1, hd2, hd3⟩ hfr, hnm, C.1.2.2.2.2 _ hin⟩
  refine va_callv (va_runI (As := As) (rest := st) C.1 hM hcw ⟨xpreg_blind, fun U hU hW => ⟨rfl, by rw [hU]; exact hP, by rw [hU]; exact hz, C.2.1.warm hW⟩⟩ rfl hna h.1 rfl (lv_room hW) hd ⟨hcs.2.2.1, hcs.2.2.2⟩) hS (fun q _ h => h) (fun q h => h) ?_ T hT X
  intro u t H1 locs1 ht hvm hw hB hz1 hk1 hS1
  exact kk u.1 u.2 hw H1 locs1 ls (by rw [← ht]; exact hB) hS1 h
theorem v_ciN (C : Cx p m meth c s args cc own nL S) {y : MethodName} {cd : ByteArray} {mL na idx o n' mc ms : Nat} {host : String} {rm : Room} {As : List Value} {K : Mem → Rfs → Prop} (row : MI y cd mL na) (hnw : va_Nw (.methodLinkNest own idx y host) s) (hM : CG l y cd mL rm S n R (.ref (XB S + o) :: As) M n' mc ms (fun u => K u.1 u.2)) (hn : s.heap.size + cells = XB S + n) (h0 : 0 < n ∨ cells = 0) (hna : As.length = na) (hfr : rm.frames + 1 ≤ Rm.frames ∧ 8 + (mL + 11) + rm.locals ≤ Rm.locals) (hcs : rm.cells = mc ∧ rm.slots = ms ∧ cells + mc ≤ Rm.cells ∧ slots + ms ≤ Rm.slots) (hW : (st.map fun v => v.category).sum ≤ 8) (hd : decode cc pc = .ok (.invokespecial idx, 3)) (kk : ∀ M' R', K M' R' → V p l e Rm s m args below meth c Q S nL (cells + mc) (slots + ms) n' M' R' (pc + 3) lv st) : V p l e Rm s m args below meth c Q S nL cells slots n M R pc lv (As.reverse ++ .ref (XB S + o) :: st) := by
  obtain ⟨hin, hini, hco, hd1, hd2, hd3, hnm⟩ := row
  intro H locs ls hP hS h T hT X
  have hz := XSz X hT hP hS hn h0
  refine va_callv (va_runIN (As := As) (rest := st) C.1 hM ⟨va_cnB na C.1.2.2.2.2 (lg_good hco) rfl hcs.1 hcs.2.1 hnw (C.1.2.2.2.2 _ hini) ⟨hd1, hd2, hd3⟩ hfr, hnm, C.1.2.2.2.2 _ hin⟩ ⟨xpreg_blind, fun U hU hW => ⟨rfl, by rw [hU]; exact hP, by rw [hU]; exact hz, C.2.1.warm hW⟩⟩ rfl hna h.1 rfl (lv_room hW) hd ⟨hcs.2.2.1, hcs.2.2.2⟩) hS (fun q _ h => h) (fun q h => h) ?_ T hT X
  intro u t H1 locs1 ht hvm hw hB hz1 hk1 hS1
  exact kk u.1 u.2 hw H1 locs1 ls (by rw [← ht]; exact hB) hS1 h
end V4
theorem conG {l : Launch} {y : MethodName} {cd : ByteArray} {mL n' mc ms : Nat} {rm : Room} {S : XS} {n : Nat} {R : Rfs} {av : List Value} {M : Mem} {K : Mem × Rfs → Prop} {lv : List (Nat × Value)} (hy : plainName y.cls = true) (hlen : (lg_sl av).length ≤ mL) (hlv : lv_args 0 av = lv) (hnm : y.name = "<init>")
    (body : ∀ (p : Program) (e : Env) (s : State) (m : MethodId) (args : Array Value) (below : List Frame) (meth : Method) (c : Code), Cx p m meth c s args cd y.cls mL S → meth.sig.returnType = none → meth.name = "<init>" → s.heap.size = XB S + n → V p l e rm s m args below meth c (MQ below (va_Qv K (fun u t => XPost S n' u.2 u.1 t) (XA S)) args s mc ms (XA S)) S mL 0 0 n M R 0 lv []) : CG l y cd mL rm S n R av M n' mc ms K := by
  refine Met.ofW (cc := cd) (maxL := mL) (ret := none) hy rfl ?_
  intro p e s m args below meth c s₁ B hml hv
  obtain ⟨rfl, hP, hz, hK⟩ := hv
  have hts := atoms_spec (ws := Cond.code y cd mL none :: LG) B.pre
  have hC : Cx p m meth c s av.toArray cd y.cls mL S := ⟨⟨B.exec, B.bytes, hml, findClass_of_methodNamed B.named, fun w hw => hts w (List.mem_cons_of_mem _ hw)⟩, hK, B.notSynchronized⟩
  have hin : meth.name = "<init>" := (name_of_methodNamed B.named B.method).1.trans hnm
  rw [lg_entry_eq]
  exact body p e s m av.toArray below meth c hC B.returns hin hz s.heap [] _ hP va_S.rf (by rw [← hlv]; exact lv_entry av hlen)
