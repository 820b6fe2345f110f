/-! THE WORLD AS TWO FUNCTIONS: M (place, slot) of ints, R (place, slot) of references; the cells lie at XB S + place -/
abbrev Mem : Type := Nat → Nat → Int32
abbrev Rfs : Type := Nat → Nat → Option Nat
/-- what does not move: class numbers and slots, the classes of int[], boolean[], Press[], the first address -/
abbrev XS : Type := va_G × ClassId × ClassId × ClassId × Nat
def XB (S : XS) : Nat := S.2.2.2.2
def XA (S : XS) : Nat → Prop := fun q => XB S ≤ q
/-- a field of class ci is a reference -/
def FK (ci k : Nat) : Bool := (FKl.getD ci []).getD k false
def NF (ci : Nat) : Nat := (FKl.getD ci []).length
/-- a place: its kind (0 to 7 a class, 8 int[], 9 boolean[], 10 Press[]) and its length -/
def SH (c : Nat) : Nat × Nat := shl.getD c (99, 0)
def XF (S : XS) (M : Mem) (R : Rfs) (ci c k : Nat) : Value := if FK ci k = true then va_rf ((R c k).map (fun o => XB S + o)) else .int (M c k)
def XE (S : XS) (M : Mem) (R : Rfs) (c : Nat) : va_E :=
  if (SH c).1 = 8 then .inl (S.2.1, (SH c).2, .inl (M c))
  else if (SH c).1 = 9 then .inl (S.2.2.1, (SH c).2, .inl (M c))
  else if (SH c).1 = 10 then .inl (S.2.2.2.1, (SH c).2, .inr (.inr (.inr (.inr (fun k => (R c k).map (fun o => XB S + o))))))
  else .inr ((SH c).1, (List.range (NF (SH c).1)).map (XF S M R (SH c).1 c))
def XW (S : XS) (n : Nat) (M : Mem) (R : Rfs) : va_W := (List.range n).map (fun c => (XB S + c, XE S M R c))
/-- a write -/
def mw (M : Mem) (a k : Nat) (v : Int32) : Mem := fun b j => if b = a ∧ j = k then v else M b j
def mr (R : Rfs) (a k : Nat) (v : Nat) : Rfs := fun b j => if b = a ∧ j = k then some v else R b j
/-- a copy of a stretch -/
def mcp (M : Mem) (a sp b dp n : Nat) : Mem := fun x j => if x = b ∧ dp ≤ j ∧ j < dp + n then M a (sp + (j - dp)) else M x j
theorem mw_row (M : Mem) (a k : Nat) (v : Int32) : mw M a k v a = upd (M a) k v := by funext j; simp [mw, upd]
theorem mw_ne {M : Mem} {a k b : Nat} {v : Int32} (h : b ≠ a) : mw M a k v b = M b := by funext j; simp [mw, h]
theorem mr_row (R : Rfs) (a k v : Nat) : mr R a k v a = va_up (R a) k (some v) := by funext j; simp [mr, va_up]
theorem mr_ne {R : Rfs} {a k b v : Nat} (h : b ≠ a) : mr R a k v b = R b := by funext j; simp [mr, h]
theorem mcp_row (M : Mem) (a sp b dp n : Nat) : mcp M a sp b dp n b = va_cpy (M a) (M b) sp dp n := by funext j; simp [mcp, va_cpy]
theorem mcp_ne {M : Mem} {a sp b dp n x : Nat} (h : x ≠ b) : mcp M a sp b dp n x = M x := by funext j; simp [mcp, h]
theorem XE_congr {S : XS} {M M' : Mem} {R R' : Rfs} {c : Nat} (h : M c = M' c) (h2 : R c = R' c) : XE S M R c = XE S M' R' c := by
  have e : XF S M R (SH c).1 c = XF S M' R' (SH c).1 c := by funext k; simp [XF, h, h2]
  simp [XE, h, h2, e]
theorem mrs {α : Type} (n c : Nat) (f g : Nat → α) (hg : ∀ j, j ≠ c → g j = f j) : ((List.range n).map f).set c (g c) = (List.range n).map g := by
  apply List.ext_getElem?
  intro j
  rw [List.getElem?_set]
  by_cases hj : c = j
  · subst hj
    by_cases hn : c < n
    · simp [hn]
    · simp [hn]
  · rw [if_neg hj]
    by_cases hn : j < n
    · simp [hn, hg j (fun z => hj z.symm)]
    · simp [hn]
theorem xw_at {S : XS} {n c : Nat} {M : Mem} {R : Rfs} (h : c < n) : (XW S n M R)[c]? = some (XB S + c, XE S M R c) := by simp [XW, h]
theorem xe_obj {S : XS} {c ci z : Nat} {M : Mem} {R : Rfs} (hs : SH c = (ci, z)) (hci : ci < 8) : XE S M R c = .inr (ci, (List.range (NF ci)).map (XF S M R ci c)) := by
  unfold XE
  rw [hs]
  rw [if_neg (by show ¬ ci = 8; omega), if_neg (by show ¬ ci = 9; omega), if_neg (by show ¬ ci = 10; omega)]
theorem xe_i {S : XS} {c z : Nat} {M : Mem} {R : Rfs} (hs : SH c = (8, z)) : XE S M R c = .inl (S.2.1, z, .inl (M c)) := by
  unfold XE; rw [hs]; rfl
theorem xe_z {S : XS} {c z : Nat} {M : Mem} {R : Rfs} (hs : SH c = (9, z)) : XE S M R c = .inl (S.2.2.1, z, .inl (M c)) := by
  unfold XE; rw [hs]; rfl
theorem xe_q {S : XS} {c z : Nat} {M : Mem} {R : Rfs} (hs : SH c = (10, z)) : XE S M R c = .inl (S.2.2.2.1, z, .inr (.inr (.inr (.inr (fun k => (R c k).map (fun o => XB S + o)))))) := by
  unfold XE; rw [hs]; rfl
theorem xw_obj {S : XS} {n c ci z : Nat} {M : Mem} {R : Rfs} (h : c < n) (hs : SH c = (ci, z)) (hci : ci < 8) : (XW S n M R)[c]? = some (XB S + c, .inr (ci, (List.range (NF ci)).map (XF S M R ci c))) := by rw [xw_at h, xe_obj hs hci]
theorem xw_i {S : XS} {n c z : Nat} {M : Mem} {R : Rfs} (h : c < n) (hs : SH c = (8, z)) : (XW S n M R)[c]? = some (XB S + c, .inl (S.2.1, z, .inl (M c))) := by rw [xw_at h, xe_i hs]
theorem xw_z {S : XS} {n c z : Nat} {M : Mem} {R : Rfs} (h : c < n) (hs : SH c = (9, z)) : (XW S n M R)[c]? = some (XB S + c, .inl (S.2.2.1, z, .inl (M c))) := by rw [xw_at h, xe_z hs]
theorem xw_q {S : XS} {n c z : Nat} {M : Mem} {R : Rfs} (h : c < n) (hs : SH c = (10, z)) : (XW S n M R)[c]? = some (XB S + c, .inl (S.2.2.2.1, z, .inr (.inr (.inr (.inr (fun k => (R c k).map (fun o => XB S + o))))))) := by rw [xw_at h, xe_q hs]
theorem xw_D {S : XS} {n : Nat} {M : Mem} {R : Rfs} : va_D (XA S) (XW S n M R) := by
  have key : ∀ (i : Nat) (q : Nat × va_E), (XW S n M R)[i]? = some q → q.1 = XB S + i := by
    intro i q hq
    by_cases hn : i < n
    · rw [xw_at hn] at hq; cases hq; rfl
    · simp [XW, hn] at hq
  exact ⟨fun i j p q hi hj he => by rw [key i p hi, key j q hj] at he; omega, fun k q hk => by rw [key k q hk]; exact Nat.le_add_right _ _⟩
theorem xw_set {S : XS} {n c : Nat} {M M' : Mem} {R R' : Rfs} {x : va_E} (hM : ∀ j, j ≠ c → M' j = M j) (hR : ∀ j, j ≠ c → R' j = R j) (hx : XE S M' R' c = x) : (XW S n M R).set c (XB S + c, x) = XW S n M' R' := by
  have h := mrs n c (fun c => (XB S + c, XE S M R c)) (fun c => (XB S + c, XE S M' R' c)) (fun j hj => by show (XB S + j, XE S M' R' j) = (XB S + j, XE S M R j); rw [XE_congr (hM j hj) (hR j hj)])
  rw [← hx]
  exact h
theorem xf_set {S : XS} {M M' : Mem} {R R' : Rfs} {ci c k : Nat} {v : Value} (hv : XF S M' R' ci c k = v) (h : ∀ j, j ≠ k → XF S M' R' ci c j = XF S M R ci c j) (N : Nat) : ((List.range N).map (XF S M R ci c)).set k v = (List.range N).map (XF S M' R' ci c) := by
  rw [← hv]; exact mrs N k _ _ h
theorem xw_puti {S : XS} {n c ci z k : Nat} {M : Mem} {R : Rfs} {v : Int32} (hs : SH c = (ci, z)) (hci : ci < 8) (hf : FK ci k = false) : (XW S n M R).set c (XB S + c, .inr (ci, ((List.range (NF ci)).map (XF S M R ci c)).set k (.int v))) = XW S n (mw M c k v) R := by
  refine xw_set (fun j hj => mw_ne hj) (fun _ _ => rfl) ?_
  rw [xe_obj hs hci, xf_set (M' := mw M c k v) (R' := R) (v := .int v) (by simp [XF, hf, mw]) (fun j hj => by simp [XF, mw, hj])]
theorem xw_putr {S : XS} {n c ci z k o : Nat} {M : Mem} {R : Rfs} (hs : SH c = (ci, z)) (hci : ci < 8) (hf : FK ci k = true) : (XW S n M R).set c (XB S + c, .inr (ci, ((List.range (NF ci)).map (XF S M R ci c)).set k (.ref (XB S + o)))) = XW S n M (mr R c k o) := by
  refine xw_set (fun _ _ => rfl) (fun j hj => mr_ne hj) ?_
  rw [xe_obj hs hci, xf_set (M' := M) (R' := mr R c k o) (v := .ref (XB S + o)) (by simp [XF, hf, mr, va_rf]) (fun j hj => by simp [XF, mr, hj])]
theorem xw_sti {S : XS} {n c z i : Nat} {M : Mem} {R : Rfs} {v : Int32} (hs : SH c = (8, z)) : (XW S n M R).set c (XB S + c, .inl (S.2.1, z, .inl (upd (M c) i v))) = XW S n (mw M c i v) R :=
  xw_set (fun j hj => mw_ne hj) (fun _ _ => rfl) (by rw [xe_i hs, mw_row])
theorem xw_stz {S : XS} {n c z i : Nat} {M : Mem} {R : Rfs} {v : Int32} (hs : SH c = (9, z)) : (XW S n M R).set c (XB S + c, .inl (S.2.2.1, z, .inl (upd (M c) i v))) = XW S n (mw M c i v) R :=
  xw_set (fun j hj => mw_ne hj) (fun _ _ => rfl) (by rw [xe_z hs, mw_row])
theorem xw_cpi {S : XS} {n a b z sp dp len : Nat} {M : Mem} {R : Rfs} (hs : SH b = (8, z)) : (XW S n M R).set b (XB S + b, .inl (S.2.1, z, .inl (va_cpy (M a) (M b) sp dp len))) = XW S n (mcp M a sp b dp len) R :=
  xw_set (fun j hj => mcp_ne hj) (fun _ _ => rfl) (by rw [xe_i hs, mcp_row])
theorem xw_stq {S : XS} {n c z i o : Nat} {M : Mem} {R : Rfs} (hs : SH c = (10, z)) : (XW S n M R).set c (XB S + c, .inl (S.2.2.2.1, z, .inr (.inr (.inr (.inr (va_up (fun k => (R c k).map (fun o => XB S + o)) i (some (XB S + o)))))))) = XW S n M (mr R c i o) :=
  xw_set (fun _ _ => rfl) (fun j hj => mr_ne hj) (by
    rw [xe_q hs, mr_row]
    congr 7
    funext k
    by_cases hk : k = i <;> simp [va_up, hk])
theorem xw_push {S : XS} {n : Nat} {M : Mem} {R : Rfs} {x : va_E} (hx : XE S M R n = x) : XW S n M R ++ [(XB S + n, x)] = XW S (n + 1) M R := by
  simp [XW, List.range_succ, hx]
/-- the nest's links and the class of Press[], as words that the pay of a call doesn't carry -/
def XN (U : State) : Prop :=
  va_Nw (.methodLinkNest "SplicedWeb" 9 ⟨"SplicedWeb$Text", "<init>", "()V"⟩ "SplicedWeb") U ∧
  va_Nw (.methodLinkNest "SplicedWeb" 28 ⟨"SplicedWeb$Press", "<init>", "()V"⟩ "SplicedWeb") U ∧
  va_Nw (.methodLinkNest "SplicedWeb$Press" 26 ⟨"SplicedWeb$Band", "<init>", "()V"⟩ "SplicedWeb") U ∧
  va_Nw (.methodLinkNest "SplicedWeb$History" 17 ⟨"SplicedWeb$Press", "<init>", "()V"⟩ "SplicedWeb") U ∧
  va_Nw (.methodLinkNest "SplicedWeb" 53 ⟨"SplicedWeb$Clues", "<init>", "()V"⟩ "SplicedWeb") U ∧
  va_Nw (.methodLinkNest "SplicedWeb$Text" 93 ⟨"SplicedWeb", "isWithin", "(III)Z"⟩ "SplicedWeb") U ∧
  va_Nw (.methodLinkNest "SplicedWeb$Plan" 46 ⟨"SplicedWeb", "isWithin", "(III)Z"⟩ "SplicedWeb") U ∧
  va_Nw (.methodLinkNest "SplicedWeb$Band" 63 ⟨"SplicedWeb", "isWithin", "(III)Z"⟩ "SplicedWeb") U ∧
  va_AO "SplicedWeb$Press" U
theorem XN.warm {s U : State} (hW : s.WarmedH U.vm) (h : XN s) : XN U := by
  obtain ⟨a, b, c, d, e, f, g, i, j⟩ := h
  exact ⟨va_Nw.warmM hW a, va_Nw.warmM hW b, va_Nw.warmM hW c, va_Nw.warmM hW d, va_Nw.warmM hW e, va_Nw.warmM hW f, va_Nw.warmM hW g, va_Nw.warmM hW i, va_AO.moved hW.alike j⟩
theorem XN.same {s U : State} (hW : s.vm = U.vm) (h : XN s) : XN U := by
  obtain ⟨a, b, c, d, e, f, g, i, j⟩ := h
  exact ⟨va_Nw.same rfl hW a, va_Nw.same rfl hW b, va_Nw.same rfl hW c, va_Nw.same rfl hW d, va_Nw.same rfl hW e, va_Nw.same rfl hW f, va_Nw.same rfl hW g, va_Nw.same rfl hW i, va_AO.moved (by rw [hW]; exact Vm.Alike.refl _) j⟩
def Xty (S : XS) : List (ClassId × FieldType) := [(S.2.1, .int), (S.2.2.1, .boolean), (S.2.2.2.1, .object "SplicedWeb$Press")]
def XK (S : XS) (U : State) : Prop := va_K S.1 vwCl (Xty S) U ∧ XN U
theorem XK.warm {S : XS} {s U : State} (hW : s.WarmedH U.vm) (h : XK S s) : XK S U := ⟨va_K.moved hW.alike h.1, h.2.warm hW⟩
/-- the words that every method takes: the good ones of the tables -/
def LG : List Cond := lw_tbl.filter goodWord
theorem lg_mem {w : Cond} (i : Nat) (h : lw_tbl[i]? = some w) (hg : goodWord w = true) : w ∈ LG := List.mem_filter.mpr ⟨List.mem_of_getElem? h, hg⟩
theorem lg_sub {ws : List Cond} (ps : List Nat) (hp : ws = ps.filterMap (fun i => lw_tbl[i]?)) (hg : ws.all goodWord = true) : ∀ w ∈ ws, w ∈ LG := by
  intro w hw
  have h1 := List.all_eq_true.mp hg w hw
  rw [hp] at hw
  obtain ⟨i, -, hi⟩ := List.mem_filterMap.mp hw
  exact lg_mem i hi h1
theorem lg_good {w0 : Cond} (h : w0 ∈ LG) : GoodIn LG (w0 :: LG) := by
  intro w hw
  rcases List.mem_cons.mp hw with rfl | hw
  · exact ⟨h, good_of_word (List.mem_filter.mp h).2⟩
  · exact ⟨hw, good_of_word (List.mem_filter.mp hw).2⟩
theorem lg_ok {w : Cond} (h : w ∈ LG) : w ∈ LG ∧ ((w.onTables && w.keeps) = true ∨ ∃ ty, w = .arrayClass ty) := ⟨h, good_of_word (List.mem_filter.mp h).2⟩
/-- what stands within a method's body -/
def Cx (p : Program) (m : MethodId) (meth : Method) (c : Code) (s : State) (args : Array Value) (cc : ByteArray) (own : String) (nL : Nat) (S : XS) : Prop :=
  (p.tables.exec = Jvm.exec ∧ c.code = cc ∧ c.maxLocals = nL ∧ s.vm.findClass own = some m.cls ∧ ∀ w ∈ LG, w.before args s = true) ∧ XK S s ∧ meth.locks = false
/-- a method's start and end -/
def XPre (S : XS) (n : Nat) (M : Mem) (R : Rfs) (U : State) : Prop := va_P S.1 vwCl (XW S n M R) U.heap ∧ XK S U
/-- the same, and nothing lies behind the world -/
def XPreG (S : XS) (n : Nat) (M : Mem) (R : Rfs) (U : State) : Prop := va_P S.1 vwCl (XW S n M R) U.heap ∧ U.heap.size = XB S + n ∧ XK S U
def XPost (S : XS) (n : Nat) (R : Rfs) (M : Mem) (t : State) : Prop := va_P S.1 vwCl (XW S n M R) t.heap
/-- an int method's, a void method's contract; a making one's -/
abbrev CI (l : Launch) (y : MethodName) (cd : ByteArray) (mL : Nat) (rt : Option FieldType) (rm : Room) (S : XS) (n : Nat) (R : Rfs) (av : List Value) (M : Mem) (K : Int32 → Mem → Prop) : Prop :=
  Met l y (Cond.code y cd mL rt :: LG) rm (va_Pc av (XPre S n M R)) (va_Qi K (XPost S n R) (XA S)) 0 0 (XA S)
abbrev CV (l : Launch) (y : MethodName) (cd : ByteArray) (mL : Nat) (rm : Room) (S : XS) (n : Nat) (R : Rfs) (av : List Value) (M : Mem) (K : Mem → Prop) : Prop :=
  Met l y (Cond.code y cd mL none :: LG) rm (va_Pc av (XPre S n M R)) (va_Qv K (XPost S n R) (XA S)) 0 0 (XA S)
/-- one that may move references (int), one that makes cells (void) -/
abbrev CR (l : Launch) (y : MethodName) (cd : ByteArray) (mL : Nat) (rt : Option FieldType) (rm : Room) (S : XS) (n : Nat) (R : Rfs) (av : List Value) (M : Mem) (K : Int32 → Mem × Rfs → Prop) : Prop :=
  Met l y (Cond.code y cd mL rt :: LG) rm (va_Pc av (XPre S n M R)) (va_Qi K (fun u t => XPost S n u.2 u.1 t) (XA S)) 0 0 (XA S)
abbrev CG (l : Launch) (y : MethodName) (cd : ByteArray) (mL : Nat) (rm : Room) (S : XS) (n : Nat) (R : Rfs) (av : List Value) (M : Mem) (n' mc ms : Nat) (K : Mem × Rfs → Prop) : Prop :=
  Met l y (Cond.code y cd mL none :: LG) rm (va_Pc av (XPreG S n M R)) (va_Qv K (fun u t => XPost S n' u.2 u.1 t) (XA S)) mc ms (XA S)
section VV
variable {p : Program} {l : Launch} {e : Env} {Rm : Room} {s : State} {m : MethodId} {args : Array Value} {below : List Frame} {meth : Method} {c : Code} {Q : State → Prop}
/-- the machine at pc, with the world (n, M, R), the locals lv, the stack st, comes to Q -/
def V (p : Program) (l : Launch) (e : Env) (Rm : Room) (s : State) (m : MethodId) (args : Array Value) (below : List Frame) (meth : Method) (c : Code) (Q : State → Prop) (S : XS) (nL cells slots n : Nat) (M : Mem) (R : Rfs) (pc : Nat) (lv : List (Nat × Value)) (st : List Value) : Prop :=
  ∀ (H : Heap) (locs : List Loc) (ls : Array Slot), va_P S.1 vwCl (XW S n M R) H → va_S (XA S) s.heap H locs → lv_has ls nL lv → W p l e Rm s m args below meth c H locs cells slots Q (F0 m pc ls st)
variable {cc : ByteArray} {own : String} {nL cells slots n pc : Nat} {S : XS} {M : Mem} {R : Rfs} {lv lv' : List (Nat × Value)} {st : List Value}
theorem v_loc (ks : List Nat) (hl : lv_pick lv ks = lv') (k : V p l e Rm s m args below meth c Q S nL cells slots n M R pc lv' st) : V p l e Rm s m args below meth c Q S nL cells slots n M R pc lv st :=
  fun H locs ls hP hS h => k H locs ls hP hS (lv_sub h ks hl)
theorem v_iconst (C : Cx p m meth c s args cc own nL S) {i : Int} {v : Int32} (hv : Int32.ofInt i = v) (hd : decode cc pc = .ok (.iconst i, 1)) (k : V p l e Rm s m args below meth c Q S nL cells slots n M R (pc + 1) lv (.int v :: st)) : V p l e Rm s m args below meth c Q S nL cells slots n M R pc lv st :=
  fun H locs ls hP hS h => lv_iconst C.1.1 C.1.2.1 hd hv (k H locs ls hP hS h)
theorem v_bipush (C : Cx p m meth c s args cc own nL S) {i : Int} {v : Int32} (hv : (Int8.ofInt i).toInt32 = v) (hd : decode cc pc = .ok (.bipush i, 2)) (k : V p l e Rm s m args below meth c Q S nL cells slots n M R (pc + 2) lv (.int v :: st)) : V p l e Rm s m args below meth c Q S nL cells slots n M R pc lv st :=
  fun H locs ls hP hS h => lv_bipush C.1.1 C.1.2.1 hd hv (k H locs ls hP hS h)
theorem v_sipush (C : Cx p m meth c s args cc own nL S) {i : Int} {v : Int32} (hv : (Int16.ofInt i).toInt32 = v) (hd : decode cc pc = .ok (.sipush i, 3)) (k : V p l e Rm s m args below meth c Q S nL cells slots n M R (pc + 3) lv (.int v :: st)) : V p l e Rm s m args below meth c Q S nL cells slots n M R pc lv st :=
  fun H locs ls hP hS h => lv_sipush C.1.1 C.1.2.1 hd hv (k H locs ls hP hS h)
theorem v_ldc (C : Cx p m meth c s args cc own nL S) {i : Nat} {v : Int32} (hw : Cond.constant own i v ∈ LG) (hd : decode cc pc = .ok (.ldc i, 2)) (k : V p l e Rm s m args below meth c Q S nL cells slots n M R (pc + 2) lv (.int v :: st)) : V p l e Rm s m args below meth c Q S nL cells slots n M R pc lv st :=
  fun H locs ls hP hS h => lv_ldc C.1.1 C.1.2.1 C.1.2.2.2.1 (C.1.2.2.2.2 _ hw) hd (k H locs ls hP hS h)
theorem v_ldcw (C : Cx p m meth c s args cc own nL S) {i : Nat} {v : Int32} (hw : Cond.constant own i v ∈ LG) (hd : decode cc pc = .ok (.ldc_w i, 3)) (k : V p l e Rm s m args below meth c Q S nL cells slots n M R (pc + 3) lv (.int v :: st)) : V p l e Rm s m args below meth c Q S nL cells slots n M R pc lv st :=
  fun H locs ls hP hS h => lv_ldcw C.1.1 C.1.2.1 C.1.2.2.2.1 (C.1.2.2.2.2 _ hw) hd (k H locs ls hP hS h)
theorem v_iloadn (C : Cx p m meth c s args cc own nL S) {f : Fin 4} {i : Nat} {x : Int32} (j : Nat) (hj : lv[j]? = some (i, .int x)) (hi : (f : Nat) = i) (hd : decode cc pc = .ok (.iload_n f, 1)) (k : V p l e Rm s m args below meth c Q S nL cells slots n M R (pc + 1) lv (.int x :: st)) : V p l e Rm s m args below meth c Q S nL cells slots n M R pc lv st :=
  fun H locs ls hP hS h => lv_iload_n C.1.1 C.1.2.1 hd hi (lv_at h j hj) (k H locs ls hP hS h)
theorem v_iload (C : Cx p m meth c s args cc own nL S) {i : Nat} {x : Int32} (j : Nat) (hj : lv[j]? = some (i, .int x)) (hd : decode cc pc = .ok (.iload i, 2)) (k : V p l e Rm s m args below meth c Q S nL cells slots n M R (pc + 2) lv (.int x :: st)) : V p l e Rm s m args below meth c Q S nL cells slots n M R pc lv st :=
  fun H locs ls hP hS h => lv_iload C.1.1 C.1.2.1 hd (lv_at h j hj) (k H locs ls hP hS h)
theorem v_aloadn (C : Cx p m meth c s args cc own nL S) {f : Fin 4} {i : Nat} {x : Nat} (j : Nat) (hj : lv[j]? = some (i, .ref x)) (hi : (f : Nat) = i) (hd : decode cc pc = .ok (.aload_n f, 1)) (k : V p l e Rm s m args below meth c Q S nL cells slots n M R (pc + 1) lv (.ref x :: st)) : V p l e Rm s m args below meth c Q S nL cells slots n M R pc lv st :=
  fun H locs ls hP hS h => lv_aload_n C.1.1 C.1.2.1 hd hi (lv_at h j hj) (k H locs ls hP hS h)
theorem v_istoren (C : Cx p m meth c s args cc own nL S) {f : Fin 4} {i : Nat} {x : Int32} (hl : (i, Value.int x) :: lv.filter (fun q => !(q.1 == i) && !(q.1 + 1 == i && q.2.category == 2)) = lv') (hi : (f : Nat) = i) (hn : i < nL) (hd : decode cc pc = .ok (.istore_n f, 1)) (k : V p l e Rm s m args below meth c Q S nL cells slots n M R (pc + 1) lv' st) : V p l e Rm s m args below meth c Q S nL cells slots n M R pc lv (.int x :: st) :=
  fun H locs ls hP hS h => lv_istore_n C.1.1 C.1.2.1 hd hi h hn hl (fun ls' h' => k H locs ls' hP hS h')
theorem v_istore (C : Cx p m meth c s args cc own nL S) {i : Nat} {x : Int32} (hl : (i, Value.int x) :: lv.filter (fun q => !(q.1 == i) && !(q.1 + 1 == i && q.2.category == 2)) = lv') (hn : i < nL) (hd : decode cc pc = .ok (.istore i, 2)) (k : V p l e Rm s m args below meth c Q S nL cells slots n M R (pc + 2) lv' st) : V p l e Rm s m args below meth c Q S nL cells slots n M R pc lv (.int x :: st) :=
  fun H locs ls hP hS h => lv_istore C.1.1 C.1.2.1 hd h hn hl (fun ls' h' => k H locs ls' hP hS h')
theorem v_astoren (C : Cx p m meth c s args cc own nL S) {f : Fin 4} {i : Nat} {x : Nat} (hl : (i, Value.ref x) :: lv.filter (fun q => !(q.1 == i) && !(q.1 + 1 == i && q.2.category == 2)) = lv') (hi : (f : Nat) = i) (hn : i < nL) (hd : decode cc pc = .ok (.astore_n f, 1)) (k : V p l e Rm s m args below meth c Q S nL cells slots n M R (pc + 1) lv' st) : V p l e Rm s m args below meth c Q S nL cells slots n M R pc lv (.ref x :: st) :=
  fun H locs ls hP hS h => lv_astore_n C.1.1 C.1.2.1 hd hi h hn hl (fun ls' h' => k H locs ls' hP hS h')
theorem v_iinc (C : Cx p m meth c s args cc own nL S) {i : Nat} {d : Int} {x y v : Int32} (j : Nat) (hj : lv[j]? = some (i, .int x)) (hy : Int32.ofInt d = y) (hv : x + y = v) (hl : (i, Value.int v) :: lv.filter (fun q => !(q.1 == i) && !(q.1 + 1 == i && q.2.category == 2)) = lv') (hn : i < nL) (hd : decode cc pc = .ok (.iinc i d, 3)) (k : V p l e Rm s m args below meth c Q S nL cells slots n M R (pc + 3) lv' st) : V p l e Rm s m args below meth c Q S nL cells slots n M R pc lv st :=
  fun H locs ls hP hS h => lv_iinc C.1.1 C.1.2.1 hd h hj (by rw [hy]; exact hv) hn hl (fun ls' h' => k H locs ls' hP hS h')
theorem v_iadd (C : Cx p m meth c s args cc own nL S) {x y : Int32} (hd : decode cc pc = .ok (.iadd, 1)) (k : V p l e Rm s m args below meth c Q S nL cells slots n M R (pc + 1) lv (.int (x + y) :: st)) : V p l e Rm s m args below meth c Q S nL cells slots n M R pc lv (.int y :: .int x :: st) :=
  fun H locs ls hP hS h => lv_iadd C.1.1 C.1.2.1 hd (k H locs ls hP hS h)
theorem v_isub (C : Cx p m meth c s args cc own nL S) {x y : Int32} (hd : decode cc pc = .ok (.isub, 1)) (k : V p l e Rm s m args below meth c Q S nL cells slots n M R (pc + 1) lv (.int (x - y) :: st)) : V p l e Rm s m args below meth c Q S nL cells slots n M R pc lv (.int y :: .int x :: st) :=
  fun H locs ls hP hS h => lv_isub C.1.1 C.1.2.1 hd (k H locs ls hP hS h)
theorem v_imul (C : Cx p m meth c s args cc own nL S) {x y : Int32} (hd : decode cc pc = .ok (.imul, 1)) (k : V p l e Rm s m args below meth c Q S nL cells slots n M R (pc + 1) lv (.int (x * y) :: st)) : V p l e Rm s m args below meth c Q S nL cells slots n M R pc lv (.int y :: .int x :: st) :=
  fun H locs ls hP hS h => lv_imul C.1.1 C.1.2.1 hd (k H locs ls hP hS h)
theorem v_iand (C : Cx p m meth c s args cc own nL S) {x y : Int32} (hd : decode cc pc = .ok (.iand, 1)) (k : V p l e Rm s m args below meth c Q S nL cells slots n M R (pc + 1) lv (.int (x &&& y) :: st)) : V p l e Rm s m args below meth c Q S nL cells slots n M R pc lv (.int y :: .int x :: st) :=
  fun H locs ls hP hS h => lv_iand C.1.1 C.1.2.1 hd (k H locs ls hP hS h)
theorem v_ior (C : Cx p m meth c s args cc own nL S) {x y : Int32} (hd : decode cc pc = .ok (.ior, 1)) (k : V p l e Rm s m args below meth c Q S nL cells slots n M R (pc + 1) lv (.int (x ||| y) :: st)) : V p l e Rm s m args below meth c Q S nL cells slots n M R pc lv (.int y :: .int x :: st) :=
  fun H locs ls hP hS h => lv_ior C.1.1 C.1.2.1 hd (k H locs ls hP hS h)
theorem v_irem (C : Cx p m meth c s args cc own nL S) {x y : Int32} (hy : ¬ y = 0) (hd : decode cc pc = .ok (.irem, 1)) (k : V p l e Rm s m args below meth c Q S nL cells slots n M R (pc + 1) lv (.int (x - x / y * y) :: st)) : V p l e Rm s m args below meth c Q S nL cells slots n M R pc lv (.int y :: .int x :: st) :=
  fun H locs ls hP hS h => lv_irem C.1.1 C.1.2.1 hd hy (k H locs ls hP hS h)
theorem v_ineg (C : Cx p m meth c s args cc own nL S) {x : Int32} (hd : decode cc pc = .ok (.ineg, 1)) (k : V p l e Rm s m args below meth c Q S nL cells slots n M R (pc + 1) lv (.int (-x) :: st)) : V p l e Rm s m args below meth c Q S nL cells slots n M R pc lv (.int x :: st) :=
  fun H locs ls hP hS h => lv_ineg C.1.1 C.1.2.1 hd (k H locs ls hP hS h)
theorem v_ishl (C : Cx p m meth c s args cc own nL S) {x y : Int32} (hd : decode cc pc = .ok (.ishl, 1)) (k : V p l e Rm s m args below meth c Q S nL cells slots n M R (pc + 1) lv (.int (x <<< (y &&& 31)) :: st)) : V p l e Rm s m args below meth c Q S nL cells slots n M R pc lv (.int y :: .int x :: st) :=
  fun H locs ls hP hS h => lv_ishl C.1.1 C.1.2.1 hd (k H locs ls hP hS h)
theorem v_ishr (C : Cx p m meth c s args cc own nL S) {x y : Int32} (hd : decode cc pc = .ok (.ishr, 1)) (k : V p l e Rm s m args below meth c Q S nL cells slots n M R (pc + 1) lv (.int (x >>> (y &&& 31)) :: st)) : V p l e Rm s m args below meth c Q S nL cells slots n M R pc lv (.int y :: .int x :: st) :=
  fun H locs ls hP hS h => lv_ishr C.1.1 C.1.2.1 hd (k H locs ls hP hS h)
theorem v_iushr (C : Cx p m meth c s args cc own nL S) {x y : Int32} (hd : decode cc pc = .ok (.iushr, 1)) (k : V p l e Rm s m args below meth c Q S nL cells slots n M R (pc + 1) lv (.int ((x.toUInt32 >>> (y.toUInt32 &&& Int32.toUInt32 31)).toInt32) :: st)) : V p l e Rm s m args below meth c Q S nL cells slots n M R pc lv (.int y :: .int x :: st) :=
  fun H locs ls hP hS h => lv_iushr C.1.1 C.1.2.1 hd rfl (k H locs ls hP hS h)
theorem v_dup (C : Cx p m meth c s args cc own nL S) {v : Value} (hv : v.category = 1) (hd : decode cc pc = .ok (.dup, 1)) (k : V p l e Rm s m args below meth c Q S nL cells slots n M R (pc + 1) lv (v :: v :: st)) : V p l e Rm s m args below meth c Q S nL cells slots n M R pc lv (v :: st) :=
  fun H locs ls hP hS h => lv_dup C.1.1 C.1.2.1 hd hv (k H locs ls hP hS h)
theorem v_dup2 (C : Cx p m meth c s args cc own nL S) {v w : Value} (hv : v.category = 1) (hw : w.category = 1) (hd : decode cc pc = .ok (.dup2, 1)) (k : V p l e Rm s m args below meth c Q S nL cells slots n M R (pc + 1) lv (v :: w :: v :: w :: st)) : V p l e Rm s m args below meth c Q S nL cells slots n M R pc lv (v :: w :: st) :=
  fun H locs ls hP hS h => lv_dup2_11 C.1.1 C.1.2.1 hd hv hw (k H locs ls hP hS h)
theorem v_pop (C : Cx p m meth c s args cc own nL S) {v : Value} (hv : v.category = 1) (hd : decode cc pc = .ok (.pop, 1)) (k : V p l e Rm s m args below meth c Q S nL cells slots n M R (pc + 1) lv st) : V p l e Rm s m args below meth c Q S nL cells slots n M R pc lv (v :: st) :=
  fun H locs ls hP hS h => lv_pop C.1.1 C.1.2.1 hd hv (k H locs ls hP hS h)
theorem v_goto (C : Cx p m meth c s args cc own nL S) {o : Int} (tgt : Nat) (ht : (pc : Int) + o = (tgt : Int)) (hd : decode cc pc = .ok (.goto o, 3)) (k : V p l e Rm s m args below meth c Q S nL cells slots n M R tgt lv st) : V p l e Rm s m args below meth c Q S nL cells slots n M R pc lv st :=
  fun H locs ls hP hS h => lv_goto C.1.1 C.1.2.1 hd ht (k H locs ls hP hS h)
theorem v_if_eq (C : Cx p m meth c s args cc own nL S) {x : Int32} {o : Int} (tgt : Nat) (ht : (pc : Int) + o = (tgt : Int)) (hd : decode cc pc = .ok (.ifCond .eq o, 3)) (kt : x = 0 → V p l e Rm s m args below meth c Q S nL cells slots n M R tgt lv st) (kf : ¬ x = 0 → V p l e Rm s m args below meth c Q S nL cells slots n M R (pc + 3) lv st) : V p l e Rm s m args below meth c Q S nL cells slots n M R pc lv (.int x :: st) :=
  fun H locs ls hP hS h => lv_if_eq C.1.1 C.1.2.1 hd ht (fun q => kt q H locs ls hP hS h) (fun q => kf q H locs ls hP hS h)
theorem v_icmp_eq (C : Cx p m meth c s args cc own nL S) {x y : Int32} {o : Int} (tgt : Nat) (ht : (pc : Int) + o = (tgt : Int)) (hd : decode cc pc = .ok (.if_icmp .eq o, 3)) (kt : x = y → V p l e Rm s m args below meth c Q S nL cells slots n M R tgt lv st) (kf : ¬ x = y → V p l e Rm s m args below meth c Q S nL cells slots n M R (pc + 3) lv st) : V p l e Rm s m args below meth c Q S nL cells slots n M R pc lv (.int y :: .int x :: st) :=
  fun H locs ls hP hS h => lv_icmp_eq C.1.1 C.1.2.1 hd ht (fun q => kt q H locs ls hP hS h) (fun q => kf q H locs ls hP hS h)
theorem v_if_ne (C : Cx p m meth c s args cc own nL S) {x : Int32} {o : Int} (tgt : Nat) (ht : (pc : Int) + o = (tgt : Int)) (hd : decode cc pc = .ok (.ifCond .ne o, 3)) (kt : ¬ x = 0 → V p l e Rm s m args below meth c Q S nL cells slots n M R tgt lv st) (kf : x = 0 → V p l e Rm s m args below meth c Q S nL cells slots n M R (pc + 3) lv st) : V p l e Rm s m args below meth c Q S nL cells slots n M R pc lv (.int x :: st) :=
  fun H locs ls hP hS h => lv_if_ne C.1.1 C.1.2.1 hd ht (fun q => kt q H locs ls hP hS h) (fun q => kf q H locs ls hP hS h)
theorem v_icmp_ne (C : Cx p m meth c s args cc own nL S) {x y : Int32} {o : Int} (tgt : Nat) (ht : (pc : Int) + o = (tgt : Int)) (hd : decode cc pc = .ok (.if_icmp .ne o, 3)) (kt : ¬ x = y → V p l e Rm s m args below meth c Q S nL cells slots n M R tgt lv st) (kf : x = y → V p l e Rm s m args below meth c Q S nL cells slots n M R (pc + 3) lv st) : V p l e Rm s m args below meth c Q S nL cells slots n M R pc lv (.int y :: .int x :: st) :=
  fun H locs ls hP hS h => lv_icmp_ne C.1.1 C.1.2.1 hd ht (fun q => kt q H locs ls hP hS h) (fun q => kf q H locs ls hP hS h)
theorem v_if_lt (C : Cx p m meth c s args cc own nL S) {x : Int32} {o : Int} (tgt : Nat) (ht : (pc : Int) + o = (tgt : Int)) (hd : decode cc pc = .ok (.ifCond .lt o, 3)) (kt : x < 0 → V p l e Rm s m args below meth c Q S nL cells slots n M R tgt lv st) (kf : ¬ x < 0 → V p l e Rm s m args below meth c Q S nL cells slots n M R (pc + 3) lv st) : V p l e Rm s m args below meth c Q S nL cells slots n M R pc lv (.int x :: st) :=
  fun H locs ls hP hS h => lv_if_lt C.1.1 C.1.2.1 hd ht (fun q => kt q H locs ls hP hS h) (fun q => kf q H locs ls hP hS h)
theorem v_icmp_lt (C : Cx p m meth c s args cc own nL S) {x y : Int32} {o : Int} (tgt : Nat) (ht : (pc : Int) + o = (tgt : Int)) (hd : decode cc pc = .ok (.if_icmp .lt o, 3)) (kt : x < y → V p l e Rm s m args below meth c Q S nL cells slots n M R tgt lv st) (kf : ¬ x < y → V p l e Rm s m args below meth c Q S nL cells slots n M R (pc + 3) lv st) : V p l e Rm s m args below meth c Q S nL cells slots n M R pc lv (.int y :: .int x :: st) :=
  fun H locs ls hP hS h => lv_icmp_lt C.1.1 C.1.2.1 hd ht (fun q => kt q H locs ls hP hS h) (fun q => kf q H locs ls hP hS h)
theorem v_if_ge (C : Cx p m meth c s args cc own nL S) {x : Int32} {o : Int} (tgt : Nat) (ht : (pc : Int) + o = (tgt : Int)) (hd : decode cc pc = .ok (.ifCond .ge o, 3)) (kt : 0 ≤ x → V p l e Rm s m args below meth c Q S nL cells slots n M R tgt lv st) (kf : ¬ 0 ≤ x → V p l e Rm s m args below meth c Q S nL cells slots n M R (pc + 3) lv st) : V p l e Rm s m args below meth c Q S nL cells slots n M R pc lv (.int x :: st) :=
  fun H locs ls hP hS h => lv_if_ge C.1.1 C.1.2.1 hd ht (fun q => kt q H locs ls hP hS h) (fun q => kf q H locs ls hP hS h)
theorem v_icmp_ge (C : Cx p m meth c s args cc own nL S) {x y : Int32} {o : Int} (tgt : Nat) (ht : (pc : Int) + o = (tgt : Int)) (hd : decode cc pc = .ok (.if_icmp .ge o, 3)) (kt : y ≤ x → V p l e Rm s m args below meth c Q S nL cells slots n M R tgt lv st) (kf : ¬ y ≤ x → V p l e Rm s m args below meth c Q S nL cells slots n M R (pc + 3) lv st) : V p l e Rm s m args below meth c Q S nL cells slots n M R pc lv (.int y :: .int x :: st) :=
  fun H locs ls hP hS h => lv_icmp_ge C.1.1 C.1.2.1 hd ht (fun q => kt q H locs ls hP hS h) (fun q => kf q H locs ls hP hS h)
theorem v_if_gt (C : Cx p m meth c s args cc own nL S) {x : Int32} {o : Int} (tgt : Nat) (ht : (pc : Int) + o = (tgt : Int)) (hd : decode cc pc = .ok (.ifCond .gt o, 3)) (kt : 0 < x → V p l e Rm s m args below meth c Q S nL cells slots n M R tgt lv st) (kf : ¬ 0 < x → V p l e Rm s m args below meth c Q S nL cells slots n M R (pc + 3) lv st) : V p l e Rm s m args below meth c Q S nL cells slots n M R pc lv (.int x :: st) :=
  fun H locs ls hP hS h => lv_if_gt C.1.1 C.1.2.1 hd ht (fun q => kt q H locs ls hP hS h) (fun q => kf q H locs ls hP hS h)
theorem v_icmp_gt (C : Cx p m meth c s args cc own nL S) {x y : Int32} {o : Int} (tgt : Nat) (ht : (pc : Int) + o = (tgt : Int)) (hd : decode cc pc = .ok (.if_icmp .gt o, 3)) (kt : y < x → V p l e Rm s m args below meth c Q S nL cells slots n M R tgt lv st) (kf : ¬ y < x → V p l e Rm s m args below meth c Q S nL cells slots n M R (pc + 3) lv st) : V p l e Rm s m args below meth c Q S nL cells slots n M R pc lv (.int y :: .int x :: st) :=
  fun H locs ls hP hS h => lv_icmp_gt C.1.1 C.1.2.1 hd ht (fun q => kt q H locs ls hP hS h) (fun q => kf q H locs ls hP hS h)
theorem v_if_le (C : Cx p m meth c s args cc own nL S) {x : Int32} {o : Int} (tgt : Nat) (ht : (pc : Int) + o = (tgt : Int)) (hd : decode cc pc = .ok (.ifCond .le o, 3)) (kt : x ≤ 0 → V p l e Rm s m args below meth c Q S nL cells slots n M R tgt lv st) (kf : ¬ x ≤ 0 → V p l e Rm s m args below meth c Q S nL cells slots n M R (pc + 3) lv st) : V p l e Rm s m args below meth c Q S nL cells slots n M R pc lv (.int x :: st) :=
  fun H locs ls hP hS h => lv_if_le C.1.1 C.1.2.1 hd ht (fun q => kt q H locs ls hP hS h) (fun q => kf q H locs ls hP hS h)
theorem v_icmp_le (C : Cx p m meth c s args cc own nL S) {x y : Int32} {o : Int} (tgt : Nat) (ht : (pc : Int) + o = (tgt : Int)) (hd : decode cc pc = .ok (.if_icmp .le o, 3)) (kt : x ≤ y → V p l e Rm s m args below meth c Q S nL cells slots n M R tgt lv st) (kf : ¬ x ≤ y → V p l e Rm s m args below meth c Q S nL cells slots n M R (pc + 3) lv st) : V p l e Rm s m args below meth c Q S nL cells slots n M R pc lv (.int y :: .int x :: st) :=
  fun H locs ls hP hS h => lv_icmp_le C.1.1 C.1.2.1 hd ht (fun q => kt q H locs ls hP hS h) (fun q => kf q H locs ls hP hS h)
end VV
