def ix (i : Int32) : Nat := i.toNatClampNeg
def isB (v : Int32) : Prop := v = 0 ∨ v = 1
/-- a written number as an index -/
def Lit (i : Int32) (k : Nat) : Prop := ¬ i < 0 ∧ i.toNatClampNeg = k
theorem isB0 : isB 0 := Or.inl rfl
theorem isB1 : isB 1 := Or.inr rfl
theorem nar_b {v : Int32} (h : isB v) : narrow .boolean (.int v) = .int v := by rcases h with rfl | rfl <;> rfl
theorem fit_b {v : Int32} (h : isB v) : fits .boolean (.int v) = true := by rcases h with rfl | rfl <;> rfl
theorem vpn_b {v : Int32} (h : isB v) : vp_nar .boolean v = v := by rcases h with rfl | rfl <;> rfl
theorem Lit.in {i : Int32} {k z : Nat} (h : Lit i k) (hz : k < z) : vp_in i z := fun q => q.elim h.1 (fun q2 => by have := h.2; omega)
/-- a class, as the kit's rows want it -/
def CRow (ci : Nat) (Cn : String) (T : u_T) (N : Nat) (ty0 : Nat → FieldType) : Prop :=
  vwCl[ci]? = some (Cn, T, N) ∧ ci < 8 ∧ NF ci = N ∧ (∀ w ∈ u_ws Cn T N, w ∈ LG) ∧ (∀ k, k < N → parseFieldDescriptor (T k).2.2.1 = some (ty0 k)) ∧ (∀ a, a < N → ∀ b, b < N → a ≠ b → (T a).2.1 ≠ (T b).2.1) ∧ (∀ k, k < N → defaultValue (ty0 k) = if FK ci k = true then .null else .int 0)
/-- a field's link -/
def FR (own : String) (idx ci k : Nat) (fin : Bool) (ty : FieldType) : Prop :=
  ∃ (Cn : String) (T : u_T) (N : Nat) (ty0 : Nat → FieldType), CRow ci Cn T N ty0 ∧ k < N ∧ ty0 k = ty ∧ (T k).2.2.2 = fin ∧ Cond.fieldLink own idx (T k).1 (T k).2.1 (T k).2.2.1 ∈ LG ∧ (fin = true → own = Cn → (T k).1 = own)
/-- a call's links: virtual, static, static of the nest -/
def MV (own : String) (idx ci : Nat) (y : MethodName) (cd : ByteArray) (mL : Nat) (rt : Option FieldType) (na : Nat) : Prop :=
  (∃ (T : u_T) (N : Nat), vwCl[ci]? = some (y.cls, T, N)) ∧ ci < 8 ∧ Cond.methodLink own idx y ∈ LG ∧ Cond.instanceMethod y ∈ LG ∧ Cond.selects y.cls y y ∈ LG ∧ Cond.initialized y.cls ∈ LG ∧ Cond.code y cd mL rt ∈ LG ∧ y.cls ≠ "java/lang/invoke/MethodHandle" ∧ y.cls ≠ "java/lang/invoke/VarHandle" ∧ (parseMethodDescriptor y.desc).map (fun d => d.parameters.length) = some na
def MS (own : String) (idx : Nat) (y : MethodName) (cd : ByteArray) (mL : Nat) (rt : Option FieldType) (na : Nat) : Prop :=
  Cond.methodLink own idx y ∈ LG ∧ Cond.static y ∈ LG ∧ Cond.initialized y.cls ∈ LG ∧ Cond.code y cd mL rt ∈ LG ∧ y.cls ≠ "java/lang/invoke/MethodHandle" ∧ y.cls ≠ "java/lang/invoke/VarHandle" ∧ (parseMethodDescriptor y.desc).map (fun d => d.parameters.length) = some na
def MN (y : MethodName) (cd : ByteArray) (mL : Nat) (rt : Option FieldType) (na : Nat) : Prop :=
  Cond.static y ∈ LG ∧ Cond.initialized y.cls ∈ LG ∧ Cond.code y cd mL rt ∈ LG ∧ y.cls ≠ "java/lang/invoke/MethodHandle" ∧ y.cls ≠ "java/lang/invoke/VarHandle" ∧ (parseMethodDescriptor y.desc).map (fun d => d.parameters.length) = some na
def MI (y : MethodName) (cd : ByteArray) (mL : Nat) (na : Nat) : Prop :=
  Cond.instanceMethod y ∈ LG ∧ Cond.initialized y.cls ∈ LG ∧ Cond.code y cd mL none ∈ LG ∧ y.cls ≠ "java/lang/invoke/MethodHandle" ∧ y.cls ≠ "java/lang/invoke/VarHandle" ∧ (parseMethodDescriptor y.desc).map (fun d => d.parameters.length) = some na ∧ y.name = "<init>"
theorem xpre_blind {S : XS} {n : Nat} {M : Mem} {R : Rfs} {av : List Value} : FrameBlind (va_Pc av (XPre S n M R)) := fun a U g mk q => ⟨q.1, q.2.1, va_K.moved (u := U) (U := U.calling g mk a) (Vm.Alike.refl U.vm) q.2.2.1, q.2.2.2.same (U := U.calling g mk a) rfl⟩
theorem xpreg_blind {S : XS} {n : Nat} {M : Mem} {R : Rfs} {av : List Value} : FrameBlind (va_Pc av (XPreG S n M R)) := fun a U g mk q => ⟨q.1, q.2.1, q.2.2.1, va_K.moved (u := U) (U := U.calling g mk a) (Vm.Alike.refl U.vm) q.2.2.2.1, q.2.2.2.2.same (U := U.calling g mk a) rfl⟩

section V2
variable {p : Program} {l : Launch} {e : Env} {Rm : Room} {s : State} {m : MethodId} {args : Array Value} {below : List Frame} {meth : Method} {c : Code} {Q : State → Prop}
variable {cc : ByteArray} {own : String} {nL cells slots n pc : Nat} {S : XS} {M : Mem} {R : Rfs} {lv lv' : List (Nat × Value)} {st : List Value}
theorem v_geti (C : Cx p m meth c s args cc own nL S) {idx ci k z o : Nat} {fin : Bool} {ty : FieldType} (hf : FR own idx ci k fin ty) (hs : SH o = (ci, z)) (ho : o < n) (hi : FK ci k = false) (hd : decode cc pc = .ok (.getfield idx, 3)) (kk : V p l e Rm s m args below meth c Q S nL cells slots n M R (pc + 3) lv (.int (M o k) :: st)) : V p l e Rm s m args below meth c Q S nL cells slots n M R pc lv (.ref (XB S + o) :: st) := by
  obtain ⟨Cn, T, N, ty0, ⟨h1, h2, h3, h4, h5, h6, h7⟩, hk, hty, hfin, hlink, hown⟩ := hf
  intro H locs ls hP hS h
  exact va_get (D := S.1) (ci := ci) (v := .int (M o k)) C.1.1 C.1.2.1 C.1.2.2.2.2 h4 C.1.2.2.2.1 C.2.1.1 hP o (xw_obj ho hs h2) h1 k hk (C.1.2.2.2.2 _ hlink) (fun _ h9 => h9) (by simp [h3, hk, XF, hi]) hd (kk H locs ls hP hS h)
theorem v_getr (C : Cx p m meth c s args cc own nL S) {idx ci k z o : Nat} {fin : Bool} {ty : FieldType} (hf : FR own idx ci k fin ty) (hs : SH o = (ci, z)) (ho : o < n) (hi : FK ci k = true) {o' : Nat} (hr : R o k = some o') (hd : decode cc pc = .ok (.getfield idx, 3)) (kk : V p l e Rm s m args below meth c Q S nL cells slots n M R (pc + 3) lv (.ref (XB S + o') :: st)) : V p l e Rm s m args below meth c Q S nL cells slots n M R pc lv (.ref (XB S + o) :: st) := by
  obtain ⟨Cn, T, N, ty0, ⟨h1, h2, h3, h4, h5, h6, h7⟩, hk, hty, hfin, hlink, hown⟩ := hf
  intro H locs ls hP hS h
  exact va_get (D := S.1) (ci := ci) (v := .ref (XB S + o')) C.1.1 C.1.2.1 C.1.2.2.2.2 h4 C.1.2.2.2.1 C.2.1.1 hP o (xw_obj ho hs h2) h1 k hk (C.1.2.2.2.2 _ hlink) (fun _ h9 => h9) (by simp [h3, hk, XF, hi, hr, va_rf]) hd (kk H locs ls hP hS h)
theorem v_putx (C : Cx p m meth c s args cc own nL S) {idx ci k z o : Nat} {ty : FieldType} (hf : FR own idx ci k false ty) (hs : SH o = (ci, z)) (ho : o < n) {v : Int32} (hn : narrow ty (.int v) = .int v) (hfit : fits ty (.int v) = true) (hi : FK ci k = false) (hd : decode cc pc = .ok (.putfield idx, 3)) (kk : ∀ M', M' = mw M o k v → V p l e Rm s m args below meth c Q S nL cells slots n M' R (pc + 3) lv st) : V p l e Rm s m args below meth c Q S nL cells slots n M R pc lv (.int v :: .ref (XB S + o) :: st) := by
  obtain ⟨Cn, T, N, ty0, ⟨h1, h2, h3, h4, h5, h6, h7⟩, hk, hty, hfin, hlink, hown⟩ := hf
  intro H locs ls hP hS h
  refine va_put (D := S.1) (ci := ci) (v := .int v) (ty := ty) C.1.1 C.1.2.1 C.1.2.2.2.2 h4 ty0 h5 h6 C.1.2.2.2.1 C.2.1.1 hP xw_D hS o (xw_obj ho hs h2) h1 k hk (C.1.2.2.2.2 _ hlink) (fun _ h9 => h9) hfin (by rw [← hty]; exact h5 k hk) hn hfit (by simp [h3, hk]) hd (fun H1 locs1 hP1 hD1 hS1 => ?_)
  rw [xw_puti hs h2 hi] at hP1
  exact kk _ rfl H1 locs1 ls hP1 hS1 h
theorem v_puti (C : Cx p m meth c s args cc own nL S) {idx ci k z o : Nat} (hf : FR own idx ci k false .int) (hs : SH o = (ci, z)) (ho : o < n) (hi : FK ci k = false) {v : Int32} (hd : decode cc pc = .ok (.putfield idx, 3)) (kk : ∀ M', M' = mw M o k v → V p l e Rm s m args below meth c Q S nL cells slots n M' R (pc + 3) lv st) : V p l e Rm s m args below meth c Q S nL cells slots n M R pc lv (.int v :: .ref (XB S + o) :: st) := v_putx C hf hs ho rfl rfl hi hd kk
theorem v_putb (C : Cx p m meth c s args cc own nL S) {idx ci k z o : Nat} (hf : FR own idx ci k false .boolean) (hs : SH o = (ci, z)) (ho : o < n) (hi : FK ci k = false) {v : Int32} (hb : isB v) (hd : decode cc pc = .ok (.putfield idx, 3)) (kk : ∀ M', M' = mw M o k v → V p l e Rm s m args below meth c Q S nL cells slots n M' R (pc + 3) lv st) : V p l e Rm s m args below meth c Q S nL cells slots n M R pc lv (.int v :: .ref (XB S + o) :: st) := v_putx C hf hs ho (nar_b hb) (fit_b hb) hi hd kk
theorem v_putr (C : Cx p m meth c s args cc own nL S) {idx ci k z o : Nat} {ty : FieldType} (hf : FR own idx ci k false ty) (hs : SH o = (ci, z)) (ho : o < n) {v : Nat} (hn : narrow ty (.ref (XB S + v)) = .ref (XB S + v)) (hfit : fits ty (.ref (XB S + v)) = true) (hi : FK ci k = true) (hd : decode cc pc = .ok (.putfield idx, 3)) (kk : ∀ R', R' = mr R o k v → V p l e Rm s m args below meth c Q S nL cells slots n M R' (pc + 3) lv st) : V p l e Rm s m args below meth c Q S nL cells slots n M R pc lv (.ref (XB S + v) :: .ref (XB S + o) :: st) := by
  obtain ⟨Cn, T, N, ty0, ⟨h1, h2, h3, h4, h5, h6, h7⟩, hk, hty, hfin, hlink, hown⟩ := hf
  intro H locs ls hP hS h
  refine va_put (D := S.1) (ci := ci) (v := .ref (XB S + v)) (ty := ty) C.1.1 C.1.2.1 C.1.2.2.2.2 h4 ty0 h5 h6 C.1.2.2.2.1 C.2.1.1 hP xw_D hS o (xw_obj ho hs h2) h1 k hk (C.1.2.2.2.2 _ hlink) (fun _ h9 => h9) hfin (by rw [← hty]; exact h5 k hk) hn hfit (by simp [h3, hk]) hd (fun H1 locs1 hP1 hD1 hS1 => ?_)
  rw [xw_putr hs h2 hi] at hP1
  exact kk _ rfl H1 locs1 ls hP1 hS1 h
theorem v_putF (C : Cx p m meth c s args cc own nL S) (hin : meth.name = "<init>") {idx ci k z o : Nat} {ty : FieldType} (hf : FR own idx ci k true ty) (hs : SH o = (ci, z)) (ho : o < n) (hoc : ∀ Cn T N ty0, CRow ci Cn T N ty0 → own = Cn) {v : Nat} (hn : narrow ty (.ref (XB S + v)) = .ref (XB S + v)) (hfit : fits ty (.ref (XB S + v)) = true) (hi : FK ci k = true) (hd : decode cc pc = .ok (.putfield idx, 3)) (kk : ∀ R', R' = mr R o k v → V p l e Rm s m args below meth c Q S nL cells slots n M R' (pc + 3) lv st) : V p l e Rm s m args below meth c Q S nL cells slots n M R pc lv (.ref (XB S + v) :: .ref (XB S + o) :: st) := by
  obtain ⟨Cn, T, N, ty0, ⟨h1, h2, h3, h4, h5, h6, h7⟩, hk, hty, hfin, hlink, hown⟩ := hf
  intro H locs ls hP hS h
  have hOC := hoc Cn T N ty0 ⟨h1, h2, h3, h4, h5, h6, h7⟩
  refine va_putF (D := S.1) (ci := ci) (v := .ref (XB S + v)) (ty := ty) C.1.1 C.1.2.1 C.1.2.2.2.2 h4 ty0 h5 h6 C.1.2.2.2.1 C.2.1.1 hP xw_D hS o (xw_obj ho hs h2) h1 k hk (C.1.2.2.2.2 _ hlink) (fun _ h9 => h9) hfin hin (hown rfl hOC) (by rw [← hty]; exact h5 k hk) hn hfit (by simp [h3, hk]) hd (fun H1 locs1 hP1 hD1 hS1 => ?_)
  rw [xw_putr hs h2 hi] at hP1
  exact kk _ rfl H1 locs1 ls hP1 hS1 h
theorem v_ald (C : Cx p m meth c s args cc own nL S) {a z : Nat} (hs : SH a = (8, z)) (ha : a < n) {i : Int32} (hin : vp_in i z) (hd : decode cc pc = .ok (.iaload, 1)) (kk : V p l e Rm s m args below meth c Q S nL cells slots n M R (pc + 1) lv (.int (M a (ix i)) :: st)) : V p l e Rm s m args below meth c Q S nL cells slots n M R pc lv (.int i :: .ref (XB S + a) :: st) :=
  fun H locs ls hP hS h => va_iald C.1.1 C.1.2.1 C.2.1.1 hP a 0 (xw_i ha hs) rfl hin hd (kk H locs ls hP hS h)
theorem v_aldk (C : Cx p m meth c s args cc own nL S) {a z : Nat} (hs : SH a = (8, z)) (ha : a < n) {i : Int32} {k : Nat} (hi : Lit i k) (hz : k < z) (hd : decode cc pc = .ok (.iaload, 1)) (kk : V p l e Rm s m args below meth c Q S nL cells slots n M R (pc + 1) lv (.int (M a k) :: st)) : V p l e Rm s m args below meth c Q S nL cells slots n M R pc lv (.int i :: .ref (XB S + a) :: st) :=
  v_ald C hs ha (hi.in hz) hd (by rw [show ix i = k from hi.2]; exact kk)
theorem v_ast (C : Cx p m meth c s args cc own nL S) {a z : Nat} (hs : SH a = (8, z)) (ha : a < n) {i : Int32} {x : Int32} (hin : vp_in i z) (hd : decode cc pc = .ok (.iastore, 1)) (kk : ∀ M', M' = mw M a (ix i) x → V p l e Rm s m args below meth c Q S nL cells slots n M' R (pc + 1) lv st) : V p l e Rm s m args below meth c Q S nL cells slots n M R pc lv (.int x :: .int i :: .ref (XB S + a) :: st) :=
  fun H locs ls hP hS h => va_iast C.1.1 C.1.2.1 C.2.1.1 hP xw_D hS a 0 (xw_i ha hs) rfl hin hd (fun H1 locs1 hP1 hD1 hS1 => kk _ rfl H1 locs1 ls (by rw [xw_sti hs] at hP1; exact hP1) hS1 h)
theorem v_astk (C : Cx p m meth c s args cc own nL S) {a z : Nat} (hs : SH a = (8, z)) (ha : a < n) {i : Int32} {k : Nat} {x : Int32} (hi : Lit i k) (hz : k < z) (hd : decode cc pc = .ok (.iastore, 1)) (kk : ∀ M', M' = mw M a k x → V p l e Rm s m args below meth c Q S nL cells slots n M' R (pc + 1) lv st) : V p l e Rm s m args below meth c Q S nL cells slots n M R pc lv (.int x :: .int i :: .ref (XB S + a) :: st) :=
  v_ast C hs ha (hi.in hz) hd (by rw [show ix i = k from hi.2]; exact kk)
theorem v_zald (C : Cx p m meth c s args cc own nL S) {a z : Nat} (hs : SH a = (9, z)) (ha : a < n) {i : Int32} (hin : vp_in i z) (hd : decode cc pc = .ok (.baload, 1)) (kk : V p l e Rm s m args below meth c Q S nL cells slots n M R (pc + 1) lv (.int (M a (ix i)) :: st)) : V p l e Rm s m args below meth c Q S nL cells slots n M R pc lv (.int i :: .ref (XB S + a) :: st) :=
  fun H locs ls hP hS h => va_zald C.1.1 C.1.2.1 C.2.1.1 hP a 1 (xw_z ha hs) rfl hin hd (kk H locs ls hP hS h)
theorem v_zast (C : Cx p m meth c s args cc own nL S) {a z : Nat} (hs : SH a = (9, z)) (ha : a < n) {i : Int32} {x : Int32} (hb : isB x) (hin : vp_in i z) (hd : decode cc pc = .ok (.bastore, 1)) (kk : ∀ M', M' = mw M a (ix i) x → V p l e Rm s m args below meth c Q S nL cells slots n M' R (pc + 1) lv st) : V p l e Rm s m args below meth c Q S nL cells slots n M R pc lv (.int x :: .int i :: .ref (XB S + a) :: st) :=
  fun H locs ls hP hS h => va_zast C.1.1 C.1.2.1 C.2.1.1 hP xw_D hS a 1 (xw_z ha hs) rfl hin hd (fun H1 locs1 hP1 hD1 hS1 => kk _ rfl H1 locs1 ls (by rw [vpn_b hb, xw_stz hs] at hP1; exact hP1) hS1 h)
theorem v_zastk (C : Cx p m meth c s args cc own nL S) {a z : Nat} (hs : SH a = (9, z)) (ha : a < n) {i : Int32} {k : Nat} {x : Int32} (hb : isB x) (hi : Lit i k) (hz : k < z) (hd : decode cc pc = .ok (.bastore, 1)) (kk : ∀ M', M' = mw M a k x → V p l e Rm s m args below meth c Q S nL cells slots n M' R (pc + 1) lv st) : V p l e Rm s m args below meth c Q S nL cells slots n M R pc lv (.int x :: .int i :: .ref (XB S + a) :: st) :=
  v_zast C hs ha hb (hi.in hz) hd (by rw [show ix i = k from hi.2]; exact kk)
theorem v_qald (C : Cx p m meth c s args cc own nL S) {a z : Nat} (hs : SH a = (10, z)) (ha : a < n) {i : Int32} {o' : Nat} (hin : vp_in i z) (hr : R a (ix i) = some o') (hd : decode cc pc = .ok (.aaload, 1)) (kk : V p l e Rm s m args below meth c Q S nL cells slots n M R (pc + 1) lv (.ref (XB S + o') :: st)) : V p l e Rm s m args below meth c Q S nL cells slots n M R pc lv (.int i :: .ref (XB S + a) :: st) := by
  intro H locs ls hP hS h
  refine va_aldq C.1.1 C.1.2.1 C.2.1.1 hP a 2 (xw_q ha hs) rfl hin hd ?_
  have e1 : va_rf ((R a i.toNatClampNeg).map (fun o => XB S + o)) = .ref (XB S + o') := by rw [show R a i.toNatClampNeg = some o' from hr]; rfl
  show W p l e Rm s m args below meth c H locs cells slots Q (F0 m (pc + 1) ls (va_rf ((R a i.toNatClampNeg).map (fun o => XB S + o)) :: st))
  rw [e1]
  exact kk H locs ls hP hS h
theorem v_qastk (C : Cx p m meth c s args cc own nL S) {a z : Nat} (hs : SH a = (10, z)) (ha : a < n) {i : Int32} {k o' z' : Nat} (hi : Lit i k) (hz : k < z) (hs' : SH o' = (4, z')) (ho' : o' < n) (hd : decode cc pc = .ok (.aastore, 1)) (kk : ∀ R', R' = mr R a k o' → V p l e Rm s m args below meth c Q S nL cells slots n M R' (pc + 1) lv st) : V p l e Rm s m args below meth c Q S nL cells slots n M R pc lv (.ref (XB S + o') :: .int i :: .ref (XB S + a) :: st) := by
  intro H locs ls hP hS h
  refine va_astq (r := (RX4, TX4, 14)) C.1.1 C.1.2.1 C.2.1.1 hP xw_D hS a 2 o' 4 (xw_q ha hs) rfl (xw_obj ho' hs' (by decide)) rfl (hi.in hz) hd (fun H1 locs1 hP1 hD1 hS1 => ?_)
  rw [show i.toNatClampNeg = k from hi.2, xw_stq hs] at hP1
  exact kk _ rfl H1 locs1 ls hP1 hS1 h
theorem v_alen (C : Cx p m meth c s args cc own nL S) {a z : Nat} (hs : SH a = (8, z)) (ha : a < n) (hd : decode cc pc = .ok (.arraylength, 1)) (kk : V p l e Rm s m args below meth c Q S nL cells slots n M R (pc + 1) lv (.int (nI z) :: st)) : V p l e Rm s m args below meth c Q S nL cells slots n M R pc lv (.ref (XB S + a) :: st) :=
  fun H locs ls hP hS h => va_alen C.1.1 C.1.2.1 C.2.1.1 hP a 0 (xw_i ha hs) rfl rfl hd (kk H locs ls hP hS h)
theorem v_copy (C : Cx p m meth c s args cc own nL S) {a za b zb idx : Nat} (hs : SH a = (8, za)) (ha : a < n) (hs' : SH b = (8, zb)) (hb : b < n) {sp dp len : Int32} (hlk : Cond.methodLink own idx arraycopyName ∈ LG) (hnat : Cond.native arraycopyName ∈ LG) (hst : Cond.static arraycopyName ∈ LG) (hini : Cond.initialized "java/lang/System" ∈ LG) (h1 : ¬ sp < 0) (h2 : ¬ dp < 0) (h3 : ¬ len < 0) (h4 : ix sp + ix len ≤ za) (h5 : ix dp + ix len ≤ zb) (hfr : 1 ≤ Rm.frames) (hlo : (st.map fun v => v.category).sum + 18 ≤ Rm.locals) (hd : decode cc pc = .ok (.invokestatic idx, 3)) (kk : ∀ M', M' = mcp M a (ix sp) b (ix dp) (ix len) → V p l e Rm s m args below meth c Q S nL cells slots n M' R (pc + 3) lv st) : V p l e Rm s m args below meth c Q S nL cells slots n M R pc lv (.int len :: .int dp :: .ref (XB S + b) :: .int sp :: .ref (XB S + a) :: st) := by
  intro H locs ls hP hS h
  refine va_copyi C.1.1 C.1.2.1 (C.1.2.2.1.trans h.1.symm) C.1.2.2.2.1 (C.1.2.2.2.2 _ hlk) (C.1.2.2.2.2 _ hnat) (C.1.2.2.2.2 _ hst) (C.1.2.2.2.2 _ hini) C.2.1.1 hP xw_D hS a b 0 0 (xw_i ha hs) (xw_i hb hs') rfl rfl rfl h1 h2 h3 h4 h5 (fun _ _ => rfl) hfr hlo hd (fun H1 locs1 hP1 hD1 hS1 => ?_)
  rw [xw_cpi hs'] at hP1
  exact kk _ rfl H1 locs1 ls hP1 hS1 h
theorem v_iret (C : Cx p m meth c s args cc own nL S) {K : Int32 → Mem → Prop} {v : Int32} (hr : meth.sig.returnType = some .int) (hd : decode cc pc = .ok (.ireturn, 1)) (hk : K v M) : V p l e Rm s m args below meth c (MQ below (va_Qi K (XPost S n R) (XA S)) args s cells slots (XA S)) S nL cells slots n M R pc lv [.int v] :=
  fun H locs ls hP hS h => W.iret C.1.1 C.1.2.1 hr (fun t ht hW => ⟨⟨v, M, rfl, hk, show va_P S.1 vwCl (XW S n M R) t.heap by rw [ht]; exact hP⟩, hS.F ht⟩) hS.2.2 hd C.2.2
theorem v_zret (C : Cx p m meth c s args cc own nL S) {K : Int32 → Mem → Prop} {v : Int32} (hb : isB v) (hr : meth.sig.returnType = some .boolean) (hd : decode cc pc = .ok (.ireturn, 1)) (hk : K v M) : V p l e Rm s m args below meth c (MQ below (va_Qi K (XPost S n R) (XA S)) args s cells slots (XA S)) S nL cells slots n M R pc lv [.int v] :=
  fun H locs ls hP hS h => W.zret C.1.1 C.1.2.1 hr (nar_b hb) (fun t ht hW => ⟨⟨v, M, rfl, hk, show va_P S.1 vwCl (XW S n M R) t.heap by rw [ht]; exact hP⟩, hS.F ht⟩) hS.2.2 hd C.2.2
theorem v_vret (C : Cx p m meth c s args cc own nL S) {K : Mem → Prop} (hr : meth.sig.returnType = none) (hd : decode cc pc = .ok (.return_, 1)) (hk : K M) : V p l e Rm s m args below meth c (MQ below (va_Qv K (XPost S n R) (XA S)) args s cells slots (XA S)) S nL cells slots n M R pc lv [] :=
  fun H locs ls hP hS h => W.vret C.1.1 C.1.2.1 hr (fun t ht hW => ⟨⟨M, rfl, hk, show va_P S.1 vwCl (XW S n M R) t.heap by rw [ht]; exact hP⟩, hS.F ht⟩) hS.2.2 hd C.2.2
theorem v_iretR (C : Cx p m meth c s args cc own nL S) {K : Int32 → Mem × Rfs → Prop} {v : Int32} (hr : meth.sig.returnType = some .int) (hd : decode cc pc = .ok (.ireturn, 1)) (hk : K v (M, R)) : V p l e Rm s m args below meth c (MQ below (va_Qi K (fun u t => XPost S n u.2 u.1 t) (XA S)) args s cells slots (XA S)) S nL cells slots n M R pc lv [.int v] :=
  fun H locs ls hP hS h => W.iret C.1.1 C.1.2.1 hr (fun t ht hW => ⟨⟨v, (M, R), rfl, hk, show va_P S.1 vwCl (XW S n M R) t.heap by rw [ht]; exact hP⟩, hS.F ht⟩) hS.2.2 hd C.2.2
theorem v_vretG (C : Cx p m meth c s args cc own nL S) {K : Mem × Rfs → Prop} (hr : meth.sig.returnType = none) (hd : decode cc pc = .ok (.return_, 1)) (hk : K (M, R)) : V p l e Rm s m args below meth c (MQ below (va_Qv K (fun u t => XPost S n u.2 u.1 t) (XA S)) args s cells slots (XA S)) S nL cells slots n M R pc lv [] :=
  fun H locs ls hP hS h => W.vret C.1.1 C.1.2.1 hr (fun t ht hW => ⟨⟨(M, R), rfl, hk, show va_P S.1 vwCl (XW S n M R) t.heap by rw [ht]; exact hP⟩, hS.F ht⟩) hS.2.2 hd C.2.2
theorem v_cvI (C : Cx p m meth c s args cc own nL S) {y : MethodName} {cd : ByteArray} {mL na idx ci z o : Nat} {rt : Option FieldType} {rm : Room} {As : List Value} {K : Int32 → Mem → Prop} (row : MV own idx ci y cd mL rt na) (hM : CI l y cd mL rt rm S n R (.ref (XB S + o) :: As) M K) (hs : SH o = (ci, z)) (ho : o < n) (hn : As.length = na) (hfr : rm.frames + 1 ≤ Rm.frames ∧ 8 + (mL + 11) + rm.locals ≤ Rm.locals) (hcs : rm.cells = 0 ∧ rm.slots = 0 ∧ cells ≤ Rm.cells ∧ slots ≤ Rm.slots) (hW : (st.map fun v => v.category).sum ≤ 8) (hd : decode cc pc = .ok (.invokevirtual idx, 3)) (kk : ∀ r M', K r M' → V p l e Rm s m args below meth c Q S nL cells slots n M' R (pc + 3) lv (.int r :: st)) : V p l e Rm s m args below meth c Q S nL cells slots n M R pc lv (As.reverse ++ .ref (XB S + o) :: st) := by
  obtain ⟨⟨T, N, h1⟩, h2, hlk, hin, hse, hini, hco, hd1, hd2, hd3⟩ := row
  intro H locs ls hP hS h
  have hcw : CallW Rm s args own y.cls idx y cd mL rt (Cond.code y cd mL rt :: LG) rm 0 0 na := ⟨callB_of na C.1.2.2.2.2 (lg_good hco) rfl hcs.1 hcs.2.1 (C.1.2.2.2.2 _ hini) (C.1.2.2.2.2 _ hlk) ⟨hd1, hd2, hd3⟩ hfr, C.1.2.2.2.2 _ hin, C.1.2.2.2.2 _ hse⟩
  refine va_calli (va_runV (As := As) (rest := st) C.1 hM hcw ⟨xpre_blind, va_recv C.2.1.1 hP h1 (xw_obj ho hs h2), fun U hU hW => ⟨rfl, by rw [hU]; exact hP, C.2.1.warm hW⟩⟩ rfl hn h.1 rfl (lv_room hW) hd ⟨hcs.2.2.1, hcs.2.2.2⟩) hS (fun q _ h => h) (fun q h => h) ?_
  intro r u t H1 locs1 ht hvm hw hB hz1 hk1 hS1
  exact kk r u hw H1 locs1 ls (by rw [← ht]; exact hB) hS1 h
theorem v_cvV (C : Cx p m meth c s args cc own nL S) {y : MethodName} {cd : ByteArray} {mL na idx ci z o : Nat} {rm : Room} {As : List Value} {K : Mem → Prop} (row : MV own idx ci y cd mL none na) (hM : CV l y cd mL rm S n R (.ref (XB S + o) :: As) M K) (hs : SH o = (ci, z)) (ho : o < n) (hn : As.length = na) (hfr : rm.frames + 1 ≤ Rm.frames ∧ 8 + (mL + 11) + rm.locals ≤ Rm.locals) (hcs : rm.cells = 0 ∧ rm.slots = 0 ∧ cells ≤ Rm.cells ∧ slots ≤ Rm.slots) (hW : (st.map fun v => v.category).sum ≤ 8) (hd : decode cc pc = .ok (.invokevirtual idx, 3)) (kk : ∀ M', K M' → V p l e Rm s m args below meth c Q S nL cells slots n M' R (pc + 3) lv st) : V p l e Rm s m args below meth c Q S nL cells slots n M R pc lv (As.reverse ++ .ref (XB S + o) :: st) := by
  obtain ⟨⟨T, N, h1⟩, h2, hlk, hin, hse, hini, hco, hd1, hd2, hd3⟩ := row
  intro H locs ls hP hS h
  have hcw : CallW Rm s args own y.cls idx y cd mL none (Cond.code y cd mL none :: LG) rm 0 0 na := ⟨callB_of na C.1.2.2.2.2 (lg_good hco) rfl hcs.1 hcs.2.1 (C.1.2.2.2.2 _ hini) (C.1.2.2.2.2 _ hlk) ⟨hd1, hd2, hd3⟩ hfr, C.1.2.2.2.2 _ hin, C.1.2.2.2.2 _ hse⟩
  refine va_callv (va_runV (As := As) (rest := st) C.1 hM hcw ⟨xpre_blind, va_recv C.2.1.1 hP h1 (xw_obj ho hs h2), fun U hU hW => ⟨rfl, by rw [hU]; exact hP, C.2.1.warm hW⟩⟩ rfl hn h.1 rfl (lv_room hW) hd ⟨hcs.2.2.1, hcs.2.2.2⟩) hS (fun q _ h => h) (fun q h => h) ?_
  intro u t H1 locs1 ht hvm hw hB hz1 hk1 hS1
  exact kk u hw H1 locs1 ls (by rw [← ht]; exact hB) hS1 h
theorem v_csI (C : Cx p m meth c s args cc own nL S) {y : MethodName} {cd : ByteArray} {mL na idx : Nat} {rt : Option FieldType} {rm : Room} {As : List Value} {K : Int32 → Mem → Prop} (row : MS own idx y cd mL rt na) (hM : CI l y cd mL rt rm S n R As M K) (hn : As.length = na) (hfr : rm.frames + 1 ≤ Rm.frames ∧ 8 + (mL + 11) + rm.locals ≤ Rm.locals) (hcs : rm.cells = 0 ∧ rm.slots = 0 ∧ cells ≤ Rm.cells ∧ slots ≤ Rm.slots) (hW : (st.map fun v => v.category).sum ≤ 8) (hd : decode cc pc = .ok (.invokestatic idx, 3)) (kk : ∀ r M', K r M' → V p l e Rm s m args below meth c Q S nL cells slots n M' R (pc + 3) lv (.int r :: st)) : V p l e Rm s m args below meth c Q S nL cells slots n M R pc lv (As.reverse ++ st) := by
  obtain ⟨hlk, hst, hini, hco, hd1, hd2, hd3⟩ := row
  intro H locs ls hP hS h
  have hcw : CallB Rm s args own idx y cd mL rt (Cond.code y cd mL rt :: LG) rm 0 0 na ∧ (Cond.static y).before args s = true := ⟨callB_of na C.1.2.2.2.2 (lg_good hco) rfl hcs.1 hcs.2.1 (C.1.2.2.2.2 _ hini) (C.1.2.2.2.2 _ hlk) ⟨hd1, hd2, hd3⟩ hfr, C.1.2.2.2.2 _ hst⟩
  refine va_calli (va_runS (As := As) (rest := st) C.1 hM hcw ⟨xpre_blind, fun U hU hW => ⟨rfl, by rw [hU]; exact hP, C.2.1.warm hW⟩⟩ rfl hn h.1 rfl (lv_room hW) hd ⟨hcs.2.2.1, hcs.2.2.2⟩) hS (fun q _ h => h) (fun q h => h) ?_
  intro r u t H1 locs1 ht hvm hw hB hz1 hk1 hS1
  exact kk r u hw H1 locs1 ls (by rw [← ht]; exact hB) hS1 h
theorem v_csV (C : Cx p m meth c s args cc own nL S) {y : MethodName} {cd : ByteArray} {mL na idx : Nat} {rm : Room} {As : List Value} {K : Mem → Prop} (row : MS own idx y cd mL none na) (hM : CV l y cd mL rm S n R As M K) (hn : As.length = na) (hfr : rm.frames + 1 ≤ Rm.frames ∧ 8 + (mL + 11) + rm.locals ≤ Rm.locals) (hcs : rm.cells = 0 ∧ rm.slots = 0 ∧ cells ≤ Rm.cells ∧ slots ≤ Rm.slots) (hW : (st.map fun v => v.category).sum ≤ 8) (hd : decode cc pc = .ok (.invokestatic idx, 3)) (kk : ∀ M', K M' → V p l e Rm s m args below meth c Q S nL cells slots n M' R (pc + 3) lv st) : V p l e Rm s m args below meth c Q S nL cells slots n M R pc lv (As.reverse ++ st) := by
  obtain ⟨hlk, hst, hini, hco, hd1, hd2, hd3⟩ := row
  intro H locs ls hP hS h
  have hcw : CallB Rm s args own idx y cd mL none (Cond.code y cd mL none :: LG) rm 0 0 na ∧ (Cond.static y).before args s = true := ⟨callB_of na C.1.2.2.2.2 (lg_good hco) rfl hcs.1 hcs.2.1 (C.1.2.2.2.2 _ hini) (C.1.2.2.2.2 _ hlk) ⟨hd1, hd2, hd3⟩ hfr, C.1.2.2.2.2 _ hst⟩
  refine va_callv (va_runS (As := As) (rest := st) C.1 hM hcw ⟨xpre_blind, fun U hU hW => ⟨rfl, by rw [hU]; exact hP, C.2.1.warm hW⟩⟩ rfl hn h.1 rfl (lv_room hW) hd ⟨hcs.2.2.1, hcs.2.2.2⟩) hS (fun q _ h => h) (fun q h => h) ?_
  intro u t H1 locs1 ht hvm hw hB hz1 hk1 hS1
  exact kk u hw H1 locs1 ls (by rw [← ht]; exact hB) hS1 h
theorem v_cnI (C : Cx p m meth c s args cc own nL S) {y : MethodName} {cd : ByteArray} {mL na idx : Nat} {rt : Option FieldType} {rm : Room} {host : String} {As : List Value} {K : Int32 → Mem → Prop} (hnw : va_Nw (.methodLinkNest own idx y host) s) (row : MN y cd mL rt na) (hM : CI l y cd mL rt rm S n R As M K) (hn : As.length = na) (hfr : rm.frames + 1 ≤ Rm.frames ∧ 8 + (mL + 11) + rm.locals ≤ Rm.locals) (hcs : rm.cells = 0 ∧ rm.slots = 0 ∧ cells ≤ Rm.cells ∧ slots ≤ Rm.slots) (hW : (st.map fun v => v.category).sum ≤ 8) (hd : decode cc pc = .ok (.invokestatic idx, 3)) (kk : ∀ r M', K r M' → V p l e Rm s m args below meth c Q S nL cells slots n M' R (pc + 3) lv (.int r :: st)) : V p l e Rm s m args below meth c Q S nL cells slots n M R pc lv (As.reverse ++ st) := by
  obtain ⟨hst, hini, hco, hd1, hd2, hd3⟩ := row
  intro H locs ls hP hS h
  refine va_calli (va_runSN (As := As) (rest := st) C.1 hM ⟨va_cnB na C.1.2.2.2.2 (lg_good hco) rfl hcs.1 hcs.2.1 hnw (C.1.2.2.2.2 _ hini) ⟨hd1, hd2, hd3⟩ hfr, C.1.2.2.2.2 _ hst, trivial⟩ ⟨xpre_blind, fun U hU hW => ⟨rfl, by rw [hU]; exact hP, C.2.1.warm hW⟩⟩ rfl hn h.1 rfl (lv_room hW) hd ⟨hcs.2.2.1, hcs.2.2.2⟩) hS (fun q _ h => h) (fun q h => h) ?_
  intro r u t H1 locs1 ht hvm hw hB hz1 hk1 hS1
  exact kk r u hw H1 locs1 ls (by rw [← ht]; exact hB) hS1 h
end V2
theorem conI {l : Launch} {y : MethodName} {cd : ByteArray} {mL : Nat} {rt : Option FieldType} {rm : Room} {S : XS} {n : Nat} {R : Rfs} {av : List Value} {M : Mem} {K : Int32 → Mem → Prop} {lv : List (Nat × Value)} (hy : plainName y.cls = true) (hlen : (lg_sl av).length ≤ mL) (hlv : lv_args 0 av = lv)
    (body : ∀ (p : Program) (e : Env) (s : State) (m : MethodId) (args : Array Value) (below : List Frame) (meth : Method) (c : Code), Cx p m meth c s args cd y.cls mL S → meth.sig.returnType = rt → V p l e rm s m args below meth c (MQ below (va_Qi K (XPost S n R) (XA S)) args s 0 0 (XA S)) S mL 0 0 n M R 0 lv []) : CI l y cd mL rt rm S n R av M K := by
  refine Met.ofW (cc := cd) (maxL := mL) (ret := rt) hy rfl ?_
  intro p e s m args below meth c s₁ B hml hv
  obtain ⟨rfl, hP, hK⟩ := hv
  have hts := atoms_spec (ws := Cond.code y cd mL rt :: LG) B.pre
  have hC : Cx p m meth c s av.toArray cd y.cls mL S := ⟨⟨B.exec, B.bytes, hml, findClass_of_methodNamed B.named, fun w hw => hts w (List.mem_cons_of_mem _ hw)⟩, hK, B.notSynchronized⟩
  rw [lg_entry_eq]
  exact body p e s m av.toArray below meth c hC B.returns s.heap [] _ hP va_S.rf (by rw [← hlv]; exact lv_entry av hlen)
theorem conV {l : Launch} {y : MethodName} {cd : ByteArray} {mL : Nat} {rm : Room} {S : XS} {n : Nat} {R : Rfs} {av : List Value} {M : Mem} {K : Mem → Prop} {lv : List (Nat × Value)} (hy : plainName y.cls = true) (hlen : (lg_sl av).length ≤ mL) (hlv : lv_args 0 av = lv)
    (body : ∀ (p : Program) (e : Env) (s : State) (m : MethodId) (args : Array Value) (below : List Frame) (meth : Method) (c : Code), Cx p m meth c s args cd y.cls mL S → meth.sig.returnType = none → V p l e rm s m args below meth c (MQ below (va_Qv K (XPost S n R) (XA S)) args s 0 0 (XA S)) S mL 0 0 n M R 0 lv []) : CV l y cd mL rm S n R av M K := by
  refine Met.ofW (cc := cd) (maxL := mL) (ret := none) hy rfl ?_
  intro p e s m args below meth c s₁ B hml hv
  obtain ⟨rfl, hP, hK⟩ := hv
  have hts := atoms_spec (ws := Cond.code y cd mL none :: LG) B.pre
  have hC : Cx p m meth c s av.toArray cd y.cls mL S := ⟨⟨B.exec, B.bytes, hml, findClass_of_methodNamed B.named, fun w hw => hts w (List.mem_cons_of_mem _ hw)⟩, hK, B.notSynchronized⟩
  rw [lg_entry_eq]
  exact body p e s m av.toArray below meth c hC B.returns s.heap [] _ hP va_S.rf (by rw [← hlv]; exact lv_entry av hlen)
theorem conR {l : Launch} {y : MethodName} {cd : ByteArray} {mL : Nat} {rt : Option FieldType} {rm : Room} {S : XS} {n : Nat} {R : Rfs} {av : List Value} {M : Mem} {K : Int32 → Mem × Rfs → Prop} {lv : List (Nat × Value)} (hy : plainName y.cls = true) (hlen : (lg_sl av).length ≤ mL) (hlv : lv_args 0 av = lv)
    (body : ∀ (p : Program) (e : Env) (s : State) (m : MethodId) (args : Array Value) (below : List Frame) (meth : Method) (c : Code), Cx p m meth c s args cd y.cls mL S → meth.sig.returnType = rt → V p l e rm s m args below meth c (MQ below (va_Qi K (fun u t => XPost S n u.2 u.1 t) (XA S)) args s 0 0 (XA S)) S mL 0 0 n M R 0 lv []) : CR l y cd mL rt rm S n R av M K := by
  refine Met.ofW (cc := cd) (maxL := mL) (ret := rt) hy rfl ?_
  intro p e s m args below meth c s₁ B hml hv
  obtain ⟨rfl, hP, hK⟩ := hv
  have hts := atoms_spec (ws := Cond.code y cd mL rt :: LG) B.pre
  have hC : Cx p m meth c s av.toArray cd y.cls mL S := ⟨⟨B.exec, B.bytes, hml, findClass_of_methodNamed B.named, fun w hw => hts w (List.mem_cons_of_mem _ hw)⟩, hK, B.notSynchronized⟩
  rw [lg_entry_eq]
  exact body p e s m av.toArray below meth c hC B.returns s.heap [] _ hP va_S.rf (by rw [← hlv]; exact lv_entry av hlen)
