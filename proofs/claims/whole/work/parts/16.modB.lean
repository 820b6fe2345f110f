abbrev rmX7_worst : Room := { frames := 1, cells := 0, slots := 0, locals := 20 }
def wp_X7_worst_35  (X4 : Int32 → Int32 → Mem → Prop) (K : Int32 → Mem → Prop) (x2 y0 : Int32) (M : Mem) : Prop := X4 y0 (x2 + (1 : Int32)) M
def L_X7_worst_4   (K : Int32 → Mem → Prop) : Nat → Int32 → Int32 → Mem → Prop
  | 0, _, _, _ => False
  | k + 1, x1, x2, M => ((M 130 10) ≤ x2 → K x1 M) ∧ (¬ (M 130 10) ≤ x2 → vp_in ((57 : Int32) + x2) 349 ∧ (wp_X7_size ((M 131 (ix ((57 : Int32) + x2)))) M (fun r3 M3 => (r3 ≤ x1 → wp_X7_worst_35  (fun x1 x2 M => L_X7_worst_4   K k x1 x2 M) K (x2) (x1) M3) ∧ (¬ r3 ≤ x1 → wp_X7_worst_35  (fun x1 x2 M => L_X7_worst_4   K k x1 x2 M) K (x2) (r3) M3))))
def wp_X7_worst (M : Mem) (K : Int32 → Mem → Prop) : Prop := ∃ j1 : Nat, L_X7_worst_4  K j1 ((0 : Int32)) ((1 : Int32)) M
set_option maxRecDepth 20000 in
theorem tb_X7_worst_35 {p : Program} {e : Env} {s : State} {m : MethodId} {args : Array Value} {below : List Frame} {meth : Method} {c : Code} (l : Launch) (S : XS) (R : Rfs)  (hm : isMod R) (C : Cx p m meth c s args cX7_worst RX7 4 S) (hr : meth.sig.returnType = (some .int)) (K : Int32 → Mem → Prop) (X4 : Int32 → Int32 → Mem → Prop) (hX4 : ∀ (x1 x2 : Int32) (M : Mem), X4 x1 x2 M → V p l e rmX7_worst s m args below meth c (MQ below (va_Qi K (XPost S 148 R) (XA S)) args s 0 0 (XA S)) S 4 0 0 148 M R 4 [(0, .ref (XB S + 130)), (1, .int x1), (2, .int x2)] []) (x2 y0 : Int32) (M : Mem) (h : wp_X7_worst_35  X4 K x2 y0 M) : V p l e rmX7_worst s m args below meth c (MQ below (va_Qi K (XPost S 148 R) (XA S)) args s 0 0 (XA S)) S 4 0 0 148 M R 35 [(0, .ref (XB S + 130)), (2, .int x2)] [.int y0] := by
  refine v_istoren (lv' := [(1, .int y0), (0, .ref (XB S + 130)), (2, .int x2)]) C rfl rfl (Nat.le_of_ble_eq_true rfl) dX7_worst_35 ?_
  refine v_iinc (lv' := [(2, .int (x2 + (1 : Int32))), (1, .int y0), (0, .ref (XB S + 130))]) C 2 rfl kc_1 rfl rfl (Nat.le_of_ble_eq_true rfl) dX7_worst_36 ?_
  refine v_goto C 4 (by decide) dX7_worst_39 ?_
  refine v_loc [2, 1, 0] rfl ?_
  exact hX4 (y0) ((x2 + (1 : Int32))) M h
set_option maxRecDepth 20000 in
theorem tl_X7_worst_4 {p : Program} {e : Env} {s : State} {m : MethodId} {args : Array Value} {below : List Frame} {meth : Method} {c : Code} (l : Launch) (S : XS) (R : Rfs)  (hm : isMod R) (C : Cx p m meth c s args cX7_worst RX7 4 S) (hr : meth.sig.returnType = (some .int)) (K : Int32 → Mem → Prop)   (k : Nat) : ∀ (x1 x2 : Int32) (M : Mem), L_X7_worst_4   K k x1 x2 M → V p l e rmX7_worst s m args below meth c (MQ below (va_Qi K (XPost S 148 R) (XA S)) args s 0 0 (XA S)) S 4 0 0 148 M R 4 [(0, .ref (XB S + 130)), (1, .int x1), (2, .int x2)] [] := by
  induction k with
  | zero => intro x1 x2 M h; exact h.elim
  | succ k ih =>
    intro x1 x2 M h
    refine v_iloadn C 2 rfl rfl dX7_worst_4 ?_
    refine v_aloadn C 0 rfl rfl dX7_worst_5 ?_
    refine v_geti C fr_X7_75 sh_130 (Nat.le_of_ble_eq_true rfl) rfl dX7_worst_6 ?_
    refine v_icmp_ge C 42 (by decide) dX7_worst_9 (fun c2 => ?_) (fun c2 => ?_)
    · replace h := h.1 c2
      refine v_iloadn C 1 rfl rfl dX7_worst_42 ?_
      exact v_iret C hr dX7_worst_43 h
    · replace h := h.2 c2
      refine v_aloadn C 0 rfl rfl dX7_worst_12 ?_
      refine v_getr (o' := 131) C fr_X7_7 sh_130 (Nat.le_of_ble_eq_true rfl) rfl (iMod_r0 hm) dX7_worst_13 ?_
      refine v_bipush C kb_57 dX7_worst_16 ?_
      refine v_iloadn C 2 rfl rfl dX7_worst_18 ?_
      refine v_iadd C dX7_worst_19 ?_
      refine v_ald C sh_131 (Nat.le_of_ble_eq_true rfl) h.1 dX7_worst_20 ?_
      replace h := h.2
      refine v_csI (As := [.int (M 131 (ix ((57 : Int32) + x2)))]) C ms_X7_148 (con_X7_size l S 148 R ((M 131 (ix ((57 : Int32) + x2))))  _ _ h) rfl ⟨(Nat.le_of_ble_eq_true rfl), (Nat.le_of_ble_eq_true rfl)⟩ ⟨rfl, rfl, Nat.zero_le _, Nat.zero_le _⟩ (Nat.le_of_ble_eq_true rfl) dX7_worst_21 (fun r3 M3 h => ?_)
      refine v_istoren (lv' := [(3, .int r3), (0, .ref (XB S + 130)), (1, .int x1), (2, .int x2)]) C rfl rfl (Nat.le_of_ble_eq_true rfl) dX7_worst_24 ?_
      refine v_iloadn C 0 rfl rfl dX7_worst_25 ?_
      refine v_iloadn C 2 rfl rfl dX7_worst_26 ?_
      refine v_icmp_le C 34 (by decide) dX7_worst_27 (fun c4 => ?_) (fun c4 => ?_)
      · replace h := h.1 c4
        refine v_iloadn C 2 rfl rfl dX7_worst_34 ?_
        refine v_loc [1, 3] rfl ?_
        exact tb_X7_worst_35 l S R  hm C hr K (fun x1 x2 M => L_X7_worst_4   K k x1 x2 M) (ih) (x2) (x1) M3 h
      · replace h := h.2 c4
        refine v_iloadn C 0 rfl rfl dX7_worst_30 ?_
        refine v_goto C 35 (by decide) dX7_worst_31 ?_
        refine v_loc [1, 3] rfl ?_
        exact tb_X7_worst_35 l S R  hm C hr K (fun x1 x2 M => L_X7_worst_4   K k x1 x2 M) (ih) (x2) (r3) M3 h
set_option maxRecDepth 20000 in
theorem con_X7_worst (l : Launch) (S : XS) (R : Rfs)  (hm : isMod R) (M : Mem) (K : Int32 → Mem → Prop) (h : wp_X7_worst  M K) : CI l yX7_worst cX7_worst 4 (some .int) rmX7_worst S 148 R [.ref (XB S + 130)] M K := by
  refine conI (lv := [(0, .ref (XB S + 130))]) (by decide) (Nat.le_of_ble_eq_true rfl) rfl ?_
  intro p e s m args below meth c C hr
  replace C : Cx p m meth c s args cX7_worst RX7 4 S := C
  refine v_iconst C kc_0 dX7_worst_0 ?_
  refine v_istoren (lv' := [(1, .int (0 : Int32)), (0, .ref (XB S + 130))]) C rfl rfl (Nat.le_of_ble_eq_true rfl) dX7_worst_1 ?_
  refine v_iconst C kc_1 dX7_worst_2 ?_
  refine v_istoren (lv' := [(2, .int (1 : Int32)), (1, .int (0 : Int32)), (0, .ref (XB S + 130))]) C rfl rfl (Nat.le_of_ble_eq_true rfl) dX7_worst_3 ?_
  refine v_loc [2, 1, 0] rfl ?_
  obtain ⟨k1, h⟩ := h
  exact tl_X7_worst_4 l S R  hm C hr K   k1 ((0 : Int32)) ((1 : Int32)) M h
abbrev rmX7_isSeen : Room := { frames := 2, cells := 0, slots := 0, locals := 43 }
def wp_X7_isSeen_176   (K : Int32 → Mem → Prop) (x3 y0 y1 : Int32) (M : Mem) : Prop := (∀ M16 : Mem, M16 = mw M 131 7 (y1 + y0) → (x3 = 0 → (∀ M18 : Mem, M18 = mw M16 131 8 ((M16 131 8) + (1 : Int32)) → K (1 : Int32) M18)) ∧ (¬ x3 = 0 → (∀ M19 : Mem, M19 = mw M16 131 8 ((M16 131 8) + (0 : Int32)) → K (1 : Int32) M19)))
def wp_X7_isSeen_158   (K : Int32 → Mem → Prop) (x3 y0 : Int32) (M : Mem) : Prop := (∀ M14 : Mem, M14 = mw M 131 56 y0 → (x3 = 0 → wp_X7_isSeen_176   K (x3) ((0 : Int32)) ((M14 131 7)) M14) ∧ (¬ x3 = 0 → wp_X7_isSeen_176   K (x3) ((1 : Int32)) ((M14 131 7)) M14))
def wp_X7_isSeen_142   (K : Int32 → Mem → Prop) (y0 : Int32) (M : Mem) : Prop := (y0 = 0 → wp_X7_isSeen_158   K (y0) ((0 : Int32)) M) ∧ (¬ y0 = 0 → wp_X7_isSeen_158   K (y0) ((1 : Int32)) M)
def wp_X7_isSeen_141   (K : Int32 → Mem → Prop) (M : Mem) : Prop := wp_X7_isSeen_142   K ((0 : Int32)) M
def L_X7_isSeen_84   (K : Int32 → Mem → Prop) : Nat → Int32 → Int32 → Mem → Prop
  | 0, _, _, _ => False
  | k + 1, x2, x3, M => ((4 : Int32) ≤ x3 → (¬ (M 131 55) = 0 → wp_X7_isSeen_141   K  M) ∧ ((M 131 55) = 0 → wp_X7_worst  M (fun r10 M10 => ((M10 142 1) < r10 → wp_X7_isSeen_141   K  M10) ∧ (¬ (M10 142 1) < r10 → wp_X7_isSeen_142   K ((1 : Int32)) M10)))) ∧ (¬ (4 : Int32) ≤ x3 → vp_in ((x2 + (5 : Int32)) + x3) 349 ∧ (vp_in ((57 : Int32) + x3) 349 ∧ (∀ M12 : Mem, M12 = mw M 131 (ix ((57 : Int32) + x3)) (M 131 (ix ((x2 + (5 : Int32)) + x3))) → L_X7_isSeen_84  K k x2 (x3 + (1 : Int32)) M12)))
def wp_X7_isSeen (M : Mem) (K : Int32 → Mem → Prop) : Prop := vp_in ((M 130 10) - (1 : Int32)) 4 ∧ (wp_X7_isThere ((((M 131 5) - (M 139 (ix ((M 130 10) - (1 : Int32))))) - (M 142 0))) M (fun r1 M1 => (¬ r1 = 0 → wp_X7_copyPlace ((((M 131 5) - (M 139 (ix ((M 130 10) - (1 : Int32))))) - (M 142 0))) M1 (fun r3 M3 => vp_in (r3 + (0 : Int32)) 349 ∧ (∀ M4 : Mem, M4 = mw M3 131 (ix (r3 + (0 : Int32))) (0 : Int32) → vp_in (r3 + (1 : Int32)) 349 ∧ ((∀ M5 : Mem, M5 = mw M4 131 54 ((M4 131 (ix (r3 + (1 : Int32)))) + (1 : Int32)) → vp_in (r3 + (3 : Int32)) 349 ∧ ((∀ M6 : Mem, M6 = mw M5 131 55 (M5 131 (ix (r3 + (3 : Int32)))) → ∃ j7 : Nat, L_X7_isSeen_84  K j7 (r3) ((0 : Int32)) M6))))))) ∧ (r1 = 0 → K (0 : Int32) M1)))
set_option maxRecDepth 20000 in
theorem tb_X7_isSeen_176 {p : Program} {e : Env} {s : State} {m : MethodId} {args : Array Value} {below : List Frame} {meth : Method} {c : Code} (l : Launch) (S : XS) (R : Rfs)  (hm : isMod R) (C : Cx p m meth c s args cX7_isSeen RX7 4 S) (hr : meth.sig.returnType = (some .boolean)) (K : Int32 → Mem → Prop)   (x3 y0 y1 : Int32) (M : Mem) (h : wp_X7_isSeen_176   K x3 y0 y1 M) : V p l e rmX7_isSeen s m args below meth c (MQ below (va_Qi K (XPost S 148 R) (XA S)) args s 0 0 (XA S)) S 4 0 0 148 M R 176 [(0, .ref (XB S + 130)), (3, .int x3)] [.int y0, .int y1, .int (7 : Int32), .ref (XB S + 131)] := by
  refine v_iadd C dX7_isSeen_176 ?_
  refine v_astk C sh_131 (Nat.le_of_ble_eq_true rfl) lit_7 (Nat.le_of_ble_eq_true rfl) dX7_isSeen_177 (fun M16 e16 => ?_)
  replace h := h M16 e16
  refine v_aloadn C 0 rfl rfl dX7_isSeen_178 ?_
  refine v_getr (o' := 131) C fr_X7_7 sh_130 (Nat.le_of_ble_eq_true rfl) rfl (iMod_r0 hm) dX7_isSeen_179 ?_
  refine v_bipush C kb_8 dX7_isSeen_182 ?_
  refine v_dup2 C rfl rfl dX7_isSeen_184 ?_
  refine v_aldk C sh_131 (Nat.le_of_ble_eq_true rfl) lit_8 (Nat.le_of_ble_eq_true rfl) dX7_isSeen_185 ?_
  refine v_iloadn C 1 rfl rfl dX7_isSeen_186 ?_
  refine v_if_eq C 194 (by decide) dX7_isSeen_187 (fun c17 => ?_) (fun c17 => ?_)
  · replace h := h.1 c17
    refine v_iconst C kc_1 dX7_isSeen_194 ?_
    refine v_iadd C dX7_isSeen_195 ?_
    refine v_astk C sh_131 (Nat.le_of_ble_eq_true rfl) lit_8 (Nat.le_of_ble_eq_true rfl) dX7_isSeen_196 (fun M18 e18 => ?_)
    replace h := h M18 e18
    refine v_iconst C kc_1 dX7_isSeen_197 ?_
    exact v_zret C isB1 hr dX7_isSeen_198 h
  · replace h := h.2 c17
    refine v_iconst C kc_0 dX7_isSeen_190 ?_
    refine v_goto C 195 (by decide) dX7_isSeen_191 ?_
    refine v_iadd C dX7_isSeen_195 ?_
    refine v_astk C sh_131 (Nat.le_of_ble_eq_true rfl) lit_8 (Nat.le_of_ble_eq_true rfl) dX7_isSeen_196 (fun M19 e19 => ?_)
    replace h := h M19 e19
    refine v_iconst C kc_1 dX7_isSeen_197 ?_
    exact v_zret C isB1 hr dX7_isSeen_198 h
set_option maxRecDepth 20000 in
theorem tb_X7_isSeen_158 {p : Program} {e : Env} {s : State} {m : MethodId} {args : Array Value} {below : List Frame} {meth : Method} {c : Code} (l : Launch) (S : XS) (R : Rfs)  (hm : isMod R) (C : Cx p m meth c s args cX7_isSeen RX7 4 S) (hr : meth.sig.returnType = (some .boolean)) (K : Int32 → Mem → Prop)   (x3 y0 : Int32) (M : Mem) (h : wp_X7_isSeen_158   K x3 y0 M) : V p l e rmX7_isSeen s m args below meth c (MQ below (va_Qi K (XPost S 148 R) (XA S)) args s 0 0 (XA S)) S 4 0 0 148 M R 158 [(0, .ref (XB S + 130)), (3, .int x3)] [.int y0, .int (56 : Int32), .ref (XB S + 131)] := by
  refine v_astk C sh_131 (Nat.le_of_ble_eq_true rfl) lit_56 (Nat.le_of_ble_eq_true rfl) dX7_isSeen_158 (fun M14 e14 => ?_)
  replace h := h M14 e14
  refine v_aloadn C 0 rfl rfl dX7_isSeen_159 ?_
  refine v_getr (o' := 131) C fr_X7_7 sh_130 (Nat.le_of_ble_eq_true rfl) rfl (iMod_r0 hm) dX7_isSeen_160 ?_
  refine v_bipush C kb_7 dX7_isSeen_163 ?_
  refine v_dup2 C rfl rfl dX7_isSeen_165 ?_
  refine v_aldk C sh_131 (Nat.le_of_ble_eq_true rfl) lit_7 (Nat.le_of_ble_eq_true rfl) dX7_isSeen_166 ?_
  refine v_iloadn C 1 rfl rfl dX7_isSeen_167 ?_
  refine v_if_eq C 175 (by decide) dX7_isSeen_168 (fun c15 => ?_) (fun c15 => ?_)
  · replace h := h.1 c15
    refine v_iconst C kc_0 dX7_isSeen_175 ?_
    exact tb_X7_isSeen_176 l S R  hm C hr K   (x3) ((0 : Int32)) ((M14 131 7)) M14 h
  · replace h := h.2 c15
    refine v_iconst C kc_1 dX7_isSeen_171 ?_
    refine v_goto C 176 (by decide) dX7_isSeen_172 ?_
    exact tb_X7_isSeen_176 l S R  hm C hr K   (x3) ((1 : Int32)) ((M14 131 7)) M14 h
set_option maxRecDepth 20000 in
theorem tb_X7_isSeen_142 {p : Program} {e : Env} {s : State} {m : MethodId} {args : Array Value} {below : List Frame} {meth : Method} {c : Code} (l : Launch) (S : XS) (R : Rfs)  (hm : isMod R) (C : Cx p m meth c s args cX7_isSeen RX7 4 S) (hr : meth.sig.returnType = (some .boolean)) (K : Int32 → Mem → Prop)   (y0 : Int32) (M : Mem) (h : wp_X7_isSeen_142   K y0 M) : V p l e rmX7_isSeen s m args below meth c (MQ below (va_Qi K (XPost S 148 R) (XA S)) args s 0 0 (XA S)) S 4 0 0 148 M R 142 [(0, .ref (XB S + 130))] [.int y0] := by
  refine v_istoren (lv' := [(3, .int y0), (0, .ref (XB S + 130))]) C rfl rfl (Nat.le_of_ble_eq_true rfl) dX7_isSeen_142 ?_
  refine v_aloadn C 1 rfl rfl dX7_isSeen_143 ?_
  refine v_getr (o' := 131) C fr_X7_7 sh_130 (Nat.le_of_ble_eq_true rfl) rfl (iMod_r0 hm) dX7_isSeen_144 ?_
  refine v_bipush C kb_56 dX7_isSeen_147 ?_
  refine v_iloadn C 0 rfl rfl dX7_isSeen_149 ?_
  refine v_if_eq C 157 (by decide) dX7_isSeen_150 (fun c13 => ?_) (fun c13 => ?_)
  · replace h := h.1 c13
    refine v_iconst C kc_0 dX7_isSeen_157 ?_
    refine v_loc [1, 0] rfl ?_
    exact tb_X7_isSeen_158 l S R  hm C hr K   (y0) ((0 : Int32)) M h
  · replace h := h.2 c13
    refine v_iconst C kc_1 dX7_isSeen_153 ?_
    refine v_goto C 158 (by decide) dX7_isSeen_154 ?_
    refine v_loc [1, 0] rfl ?_
    exact tb_X7_isSeen_158 l S R  hm C hr K   (y0) ((1 : Int32)) M h
set_option maxRecDepth 20000 in
theorem tb_X7_isSeen_141 {p : Program} {e : Env} {s : State} {m : MethodId} {args : Array Value} {below : List Frame} {meth : Method} {c : Code} (l : Launch) (S : XS) (R : Rfs)  (hm : isMod R) (C : Cx p m meth c s args cX7_isSeen RX7 4 S) (hr : meth.sig.returnType = (some .boolean)) (K : Int32 → Mem → Prop)   (M : Mem) (h : wp_X7_isSeen_141   K  M) : V p l e rmX7_isSeen s m args below meth c (MQ below (va_Qi K (XPost S 148 R) (XA S)) args s 0 0 (XA S)) S 4 0 0 148 M R 141 [(0, .ref (XB S + 130))] [] := by
  refine v_iconst C kc_0 dX7_isSeen_141 ?_
  exact tb_X7_isSeen_142 l S R  hm C hr K   ((0 : Int32)) M h
set_option maxRecDepth 20000 in
theorem tl_X7_isSeen_84 {p : Program} {e : Env} {s : State} {m : MethodId} {args : Array Value} {below : List Frame} {meth : Method} {c : Code} (l : Launch) (S : XS) (R : Rfs)  (hm : isMod R) (C : Cx p m meth c s args cX7_isSeen RX7 4 S) (hr : meth.sig.returnType = (some .boolean)) (K : Int32 → Mem → Prop)   (k : Nat) : ∀ (x2 x3 : Int32) (M : Mem), L_X7_isSeen_84   K k x2 x3 M → V p l e rmX7_isSeen s m args below meth c (MQ below (va_Qi K (XPost S 148 R) (XA S)) args s 0 0 (XA S)) S 4 0 0 148 M R 84 [(0, .ref (XB S + 130)), (2, .int x2), (3, .int x3)] [] := by
  induction k with
  | zero => intro x2 x3 M h; exact h.elim
  | succ k ih =>
    intro x2 x3 M h
    refine v_iloadn C 2 rfl rfl dX7_isSeen_84 ?_
    refine v_iconst C kc_4 dX7_isSeen_85 ?_
    refine v_icmp_ge C 114 (by decide) dX7_isSeen_86 (fun c8 => ?_) (fun c8 => ?_)
    · replace h := h.1 c8
      refine v_aloadn C 0 rfl rfl dX7_isSeen_114 ?_
      refine v_getr (o' := 131) C fr_X7_7 sh_130 (Nat.le_of_ble_eq_true rfl) rfl (iMod_r0 hm) dX7_isSeen_115 ?_
      refine v_bipush C kb_55 dX7_isSeen_118 ?_
      refine v_aldk C sh_131 (Nat.le_of_ble_eq_true rfl) lit_55 (Nat.le_of_ble_eq_true rfl) dX7_isSeen_120 ?_
      refine v_if_ne C 141 (by decide) dX7_isSeen_121 (fun c9 => ?_) (fun c9 => ?_)
      · replace h := h.1 c9
        refine v_loc [0] rfl ?_
        exact tb_X7_isSeen_141 l S R  hm C hr K    M h
      · replace h := h.2 c9
        refine v_aloadn C 0 rfl rfl dX7_isSeen_124 ?_
        refine v_cvI (As := []) C mv_X7_151 (con_X7_worst l S R  hm _ _ h) sh_130 (Nat.le_of_ble_eq_true rfl) rfl ⟨(Nat.le_of_ble_eq_true rfl), (Nat.le_of_ble_eq_true rfl)⟩ ⟨rfl, rfl, Nat.zero_le _, Nat.zero_le _⟩ (Nat.le_of_ble_eq_true rfl) dX7_isSeen_125 (fun r10 M10 h => ?_)
        refine v_aloadn C 0 rfl rfl dX7_isSeen_128 ?_
        refine v_getr (o' := 142) C fr_X7_44 sh_130 (Nat.le_of_ble_eq_true rfl) rfl (iMod_r16 hm) dX7_isSeen_129 ?_
        refine v_iconst C kc_1 dX7_isSeen_132 ?_
        refine v_aldk C sh_142 (Nat.le_of_ble_eq_true rfl) lit_1 (Nat.le_of_ble_eq_true rfl) dX7_isSeen_133 ?_
        refine v_icmp_gt C 141 (by decide) dX7_isSeen_134 (fun c11 => ?_) (fun c11 => ?_)
        · replace h := h.1 c11
          refine v_loc [0] rfl ?_
          exact tb_X7_isSeen_141 l S R  hm C hr K    M10 h
        · replace h := h.2 c11
          refine v_iconst C kc_1 dX7_isSeen_137 ?_
          refine v_goto C 142 (by decide) dX7_isSeen_138 ?_
          refine v_loc [0] rfl ?_
          exact tb_X7_isSeen_142 l S R  hm C hr K   ((1 : Int32)) M10 h
    · replace h := h.2 c8
      refine v_aloadn C 0 rfl rfl dX7_isSeen_89 ?_
      refine v_getr (o' := 131) C fr_X7_7 sh_130 (Nat.le_of_ble_eq_true rfl) rfl (iMod_r0 hm) dX7_isSeen_90 ?_
      refine v_bipush C kb_57 dX7_isSeen_93 ?_
      refine v_iloadn C 2 rfl rfl dX7_isSeen_95 ?_
      refine v_iadd C dX7_isSeen_96 ?_
      refine v_aloadn C 0 rfl rfl dX7_isSeen_97 ?_
      refine v_getr (o' := 131) C fr_X7_7 sh_130 (Nat.le_of_ble_eq_true rfl) rfl (iMod_r0 hm) dX7_isSeen_98 ?_
      refine v_iloadn C 1 rfl rfl dX7_isSeen_101 ?_
      refine v_iconst C kc_5 dX7_isSeen_102 ?_
      refine v_iadd C dX7_isSeen_103 ?_
      refine v_iloadn C 2 rfl rfl dX7_isSeen_104 ?_
      refine v_iadd C dX7_isSeen_105 ?_
      refine v_ald C sh_131 (Nat.le_of_ble_eq_true rfl) h.1 dX7_isSeen_106 ?_
      replace h := h.2
      have hi12 := h.1
      replace h := h.2
      refine v_ast C sh_131 (Nat.le_of_ble_eq_true rfl) hi12 dX7_isSeen_107 (fun M12 e12 => ?_)
      replace h := h M12 e12
      refine v_iinc (lv' := [(3, .int (x3 + (1 : Int32))), (0, .ref (XB S + 130)), (2, .int x2)]) C 2 rfl kc_1 rfl rfl (Nat.le_of_ble_eq_true rfl) dX7_isSeen_108 ?_
      refine v_goto C 84 (by decide) dX7_isSeen_111 ?_
      refine v_loc [1, 2, 0] rfl ?_
      exact ih (x2) ((x3 + (1 : Int32))) M12 h
set_option maxRecDepth 20000 in
theorem con_X7_isSeen (l : Launch) (S : XS) (R : Rfs)  (hm : isMod R) (M : Mem) (K : Int32 → Mem → Prop) (h : wp_X7_isSeen  M K) : CI l yX7_isSeen cX7_isSeen 4 (some .boolean) rmX7_isSeen S 148 R [.ref (XB S + 130)] M K := by
  refine conI (lv := [(0, .ref (XB S + 130))]) (by decide) (Nat.le_of_ble_eq_true rfl) rfl ?_
  intro p e s m args below meth c C hr
  replace C : Cx p m meth c s args cX7_isSeen RX7 4 S := C
  refine v_aloadn C 0 rfl rfl dX7_isSeen_0 ?_
  refine v_getr (o' := 131) C fr_X7_7 sh_130 (Nat.le_of_ble_eq_true rfl) rfl (iMod_r0 hm) dX7_isSeen_1 ?_
  refine v_iconst C kc_5 dX7_isSeen_4 ?_
  refine v_aldk C sh_131 (Nat.le_of_ble_eq_true rfl) lit_5 (Nat.le_of_ble_eq_true rfl) dX7_isSeen_5 ?_
  refine v_aloadn C 0 rfl rfl dX7_isSeen_6 ?_
  refine v_getr (o' := 139) C fr_X7_35 sh_130 (Nat.le_of_ble_eq_true rfl) rfl (iMod_r12 hm) dX7_isSeen_7 ?_
  refine v_aloadn C 0 rfl rfl dX7_isSeen_10 ?_
  refine v_geti C fr_X7_75 sh_130 (Nat.le_of_ble_eq_true rfl) rfl dX7_isSeen_11 ?_
  refine v_iconst C kc_1 dX7_isSeen_14 ?_
  refine v_isub C dX7_isSeen_15 ?_
  refine v_ald C sh_139 (Nat.le_of_ble_eq_true rfl) h.1 dX7_isSeen_16 ?_
  replace h := h.2
  refine v_isub C dX7_isSeen_17 ?_
  refine v_aloadn C 0 rfl rfl dX7_isSeen_18 ?_
  refine v_getr (o' := 142) C fr_X7_44 sh_130 (Nat.le_of_ble_eq_true rfl) rfl (iMod_r16 hm) dX7_isSeen_19 ?_
  refine v_iconst C kc_0 dX7_isSeen_22 ?_
  refine v_aldk C sh_142 (Nat.le_of_ble_eq_true rfl) lit_0 (Nat.le_of_ble_eq_true rfl) dX7_isSeen_23 ?_
  refine v_isub C dX7_isSeen_24 ?_
  refine v_istoren (lv' := [(1, .int (((M 131 5) - (M 139 (ix ((M 130 10) - (1 : Int32))))) - (M 142 0))), (0, .ref (XB S + 130))]) C rfl rfl (Nat.le_of_ble_eq_true rfl) dX7_isSeen_25 ?_
  refine v_aloadn C 1 rfl rfl dX7_isSeen_26 ?_
  refine v_iloadn C 0 rfl rfl dX7_isSeen_27 ?_
  refine v_cvI (As := [.int (((M 131 5) - (M 139 (ix ((M 130 10) - (1 : Int32))))) - (M 142 0))]) C mv_X7_142 (con_X7_isThere l S R ((((M 131 5) - (M 139 (ix ((M 130 10) - (1 : Int32))))) - (M 142 0))) hm _ _ h) sh_130 (Nat.le_of_ble_eq_true rfl) rfl ⟨(Nat.le_of_ble_eq_true rfl), (Nat.le_of_ble_eq_true rfl)⟩ ⟨rfl, rfl, Nat.zero_le _, Nat.zero_le _⟩ (Nat.le_of_ble_eq_true rfl) dX7_isSeen_28 (fun r1 M1 h => ?_)
  refine v_if_ne C 36 (by decide) dX7_isSeen_31 (fun c2 => ?_) (fun c2 => ?_)
  · replace h := h.1 c2
    refine v_iloadn C 0 rfl rfl dX7_isSeen_36 ?_
    refine v_csI (As := [.int (((M 131 5) - (M 139 (ix ((M 130 10) - (1 : Int32))))) - (M 142 0))]) C ms_X7_134 (con_X7_copyPlace l S 148 R ((((M 131 5) - (M 139 (ix ((M 130 10) - (1 : Int32))))) - (M 142 0)))  _ _ h) rfl ⟨(Nat.le_of_ble_eq_true rfl), (Nat.le_of_ble_eq_true rfl)⟩ ⟨rfl, rfl, Nat.zero_le _, Nat.zero_le _⟩ (Nat.le_of_ble_eq_true rfl) dX7_isSeen_37 (fun r3 M3 h => ?_)
    refine v_istoren (lv' := [(2, .int r3), (1, .int (((M 131 5) - (M 139 (ix ((M 130 10) - (1 : Int32))))) - (M 142 0))), (0, .ref (XB S + 130))]) C rfl rfl (Nat.le_of_ble_eq_true rfl) dX7_isSeen_40 ?_
    refine v_aloadn C 2 rfl rfl dX7_isSeen_41 ?_
    refine v_getr (o' := 131) C fr_X7_7 sh_130 (Nat.le_of_ble_eq_true rfl) rfl (iMod_r0 hm) dX7_isSeen_42 ?_
    refine v_iloadn C 0 rfl rfl dX7_isSeen_45 ?_
    refine v_iconst C kc_0 dX7_isSeen_46 ?_
    refine v_iadd C dX7_isSeen_47 ?_
    refine v_iconst C kc_0 dX7_isSeen_48 ?_
    have hi4 := h.1
    replace h := h.2
    refine v_ast C sh_131 (Nat.le_of_ble_eq_true rfl) hi4 dX7_isSeen_49 (fun M4 e4 => ?_)
    replace h := h M4 e4
    refine v_aloadn C 2 rfl rfl dX7_isSeen_50 ?_
    refine v_getr (o' := 131) C fr_X7_7 sh_130 (Nat.le_of_ble_eq_true rfl) rfl (iMod_r0 hm) dX7_isSeen_51 ?_
    refine v_bipush C kb_54 dX7_isSeen_54 ?_
    refine v_aloadn C 2 rfl rfl dX7_isSeen_56 ?_
    refine v_getr (o' := 131) C fr_X7_7 sh_130 (Nat.le_of_ble_eq_true rfl) rfl (iMod_r0 hm) dX7_isSeen_57 ?_
    refine v_iloadn C 0 rfl rfl dX7_isSeen_60 ?_
    refine v_iconst C kc_1 dX7_isSeen_61 ?_
    refine v_iadd C dX7_isSeen_62 ?_
    refine v_ald C sh_131 (Nat.le_of_ble_eq_true rfl) h.1 dX7_isSeen_63 ?_
    replace h := h.2
    refine v_iconst C kc_1 dX7_isSeen_64 ?_
    refine v_iadd C dX7_isSeen_65 ?_
    refine v_astk C sh_131 (Nat.le_of_ble_eq_true rfl) lit_54 (Nat.le_of_ble_eq_true rfl) dX7_isSeen_66 (fun M5 e5 => ?_)
    replace h := h M5 e5
    refine v_aloadn C 2 rfl rfl dX7_isSeen_67 ?_
    refine v_getr (o' := 131) C fr_X7_7 sh_130 (Nat.le_of_ble_eq_true rfl) rfl (iMod_r0 hm) dX7_isSeen_68 ?_
    refine v_bipush C kb_55 dX7_isSeen_71 ?_
    refine v_aloadn C 2 rfl rfl dX7_isSeen_73 ?_
    refine v_getr (o' := 131) C fr_X7_7 sh_130 (Nat.le_of_ble_eq_true rfl) rfl (iMod_r0 hm) dX7_isSeen_74 ?_
    refine v_iloadn C 0 rfl rfl dX7_isSeen_77 ?_
    refine v_iconst C kc_3 dX7_isSeen_78 ?_
    refine v_iadd C dX7_isSeen_79 ?_
    refine v_ald C sh_131 (Nat.le_of_ble_eq_true rfl) h.1 dX7_isSeen_80 ?_
    replace h := h.2
    refine v_astk C sh_131 (Nat.le_of_ble_eq_true rfl) lit_55 (Nat.le_of_ble_eq_true rfl) dX7_isSeen_81 (fun M6 e6 => ?_)
    replace h := h M6 e6
    refine v_iconst C kc_0 dX7_isSeen_82 ?_
    refine v_istoren (lv' := [(3, .int (0 : Int32)), (2, .int r3), (1, .int (((M 131 5) - (M 139 (ix ((M 130 10) - (1 : Int32))))) - (M 142 0))), (0, .ref (XB S + 130))]) C rfl rfl (Nat.le_of_ble_eq_true rfl) dX7_isSeen_83 ?_
    refine v_loc [3, 1, 0] rfl ?_
    obtain ⟨k7, h⟩ := h
    exact tl_X7_isSeen_84 l S R  hm C hr K   k7 (r3) ((0 : Int32)) M6 h
  · replace h := h.2 c2
    refine v_iconst C kc_0 dX7_isSeen_34 ?_
    exact v_zret C isB0 hr dX7_isSeen_35 h
abbrev rmX7_corrections : Room := { frames := 2, cells := 0, slots := 0, locals := 43 }
def wp_X7_corrections_77  (X2 : Int32 → Mem → Prop) (K : Mem → Prop) (x1 : Int32) (M : Mem) : Prop := X2 (x1 + (1 : Int32)) M
def L_X7_corrections_2   (K : Mem → Prop) : Nat → Int32 → Mem → Prop
  | 0, _, _ => False
  | k + 1, x1, M => ((M 130 10) ≤ x1 → K M) ∧ (¬ (M 130 10) ≤ x1 → vp_in ((57 : Int32) + x1) 349 ∧ (vp_in ((18 : Int32) + x1) 349 ∧ (((M 131 (ix ((18 : Int32) + x1))) ≤ 0 → wp_X7_size ((M 131 (ix ((57 : Int32) + x1)))) M (fun r4 M4 => (r4 ≤ (M4 142 2) → wp_X7_corrections_77  (fun x1 M => L_X7_corrections_2   K k x1 M) K (x1) M4) ∧ (¬ r4 ≤ (M4 142 2) → (¬ (M4 131 55) = 0 → wp_X7_corrections_77  (fun x1 M => L_X7_corrections_2   K k x1 M) K (x1) M4) ∧ ((M4 131 55) = 0 → wp_X7_correctedBy (x1) ((M 131 (ix ((57 : Int32) + x1)))) M4 (fun M7 => wp_X7_corrections_77  (fun x1 M => L_X7_corrections_2   K k x1 M) K (x1) M7))))) ∧ (¬ (M 131 (ix ((18 : Int32) + x1))) ≤ 0 → vp_in ((18 : Int32) + x1) 349 ∧ (vp_in ((18 : Int32) + x1) 349 ∧ (∀ M8 : Mem, M8 = mw M 131 (ix ((18 : Int32) + x1)) ((M 131 (ix ((18 : Int32) + x1))) - (1 : Int32)) → wp_X7_corrections_77  (fun x1 M => L_X7_corrections_2   K k x1 M) K (x1) M8))))))
def wp_X7_corrections (M : Mem) (K : Mem → Prop) : Prop := ∃ j1 : Nat, L_X7_corrections_2  K j1 ((1 : Int32)) M
set_option maxRecDepth 20000 in
theorem tb_X7_corrections_77 {p : Program} {e : Env} {s : State} {m : MethodId} {args : Array Value} {below : List Frame} {meth : Method} {c : Code} (l : Launch) (S : XS) (R : Rfs)  (hm : isMod R) (C : Cx p m meth c s args cX7_corrections RX7 3 S) (hr : meth.sig.returnType = none) (K : Mem → Prop) (X2 : Int32 → Mem → Prop) (hX2 : ∀ (x1 : Int32) (M : Mem), X2 x1 M → V p l e rmX7_corrections s m args below meth c (MQ below (va_Qv K (XPost S 148 R) (XA S)) args s 0 0 (XA S)) S 3 0 0 148 M R 2 [(0, .ref (XB S + 130)), (1, .int x1)] []) (x1 : Int32) (M : Mem) (h : wp_X7_corrections_77  X2 K x1 M) : V p l e rmX7_corrections s m args below meth c (MQ below (va_Qv K (XPost S 148 R) (XA S)) args s 0 0 (XA S)) S 3 0 0 148 M R 77 [(0, .ref (XB S + 130)), (1, .int x1)] [] := by
  refine v_iinc (lv' := [(1, .int (x1 + (1 : Int32))), (0, .ref (XB S + 130))]) C 1 rfl kc_1 rfl rfl (Nat.le_of_ble_eq_true rfl) dX7_corrections_77 ?_
  refine v_goto C 2 (by decide) dX7_corrections_80 ?_
  refine v_loc [1, 0] rfl ?_
  exact hX2 ((x1 + (1 : Int32))) M h
set_option maxRecDepth 20000 in
theorem tl_X7_corrections_2 {p : Program} {e : Env} {s : State} {m : MethodId} {args : Array Value} {below : List Frame} {meth : Method} {c : Code} (l : Launch) (S : XS) (R : Rfs)  (hm : isMod R) (C : Cx p m meth c s args cX7_corrections RX7 3 S) (hr : meth.sig.returnType = none) (K : Mem → Prop)   (k : Nat) : ∀ (x1 : Int32) (M : Mem), L_X7_corrections_2   K k x1 M → V p l e rmX7_corrections s m args below meth c (MQ below (va_Qv K (XPost S 148 R) (XA S)) args s 0 0 (XA S)) S 3 0 0 148 M R 2 [(0, .ref (XB S + 130)), (1, .int x1)] [] := by
  induction k with
  | zero => intro x1 M h; exact h.elim
  | succ k ih =>
    intro x1 M h
    refine v_iloadn C 1 rfl rfl dX7_corrections_2 ?_
    refine v_aloadn C 0 rfl rfl dX7_corrections_3 ?_
    refine v_geti C fr_X7_75 sh_130 (Nat.le_of_ble_eq_true rfl) rfl dX7_corrections_4 ?_
    refine v_icmp_ge C 83 (by decide) dX7_corrections_7 (fun c2 => ?_) (fun c2 => ?_)
    · replace h := h.1 c2
      exact v_vret C hr dX7_corrections_83 h
    · replace h := h.2 c2
      refine v_aloadn C 0 rfl rfl dX7_corrections_10 ?_
      refine v_getr (o' := 131) C fr_X7_7 sh_130 (Nat.le_of_ble_eq_true rfl) rfl (iMod_r0 hm) dX7_corrections_11 ?_
      refine v_bipush C kb_57 dX7_corrections_14 ?_
      refine v_iloadn C 1 rfl rfl dX7_corrections_16 ?_
      refine v_iadd C dX7_corrections_17 ?_
      refine v_ald C sh_131 (Nat.le_of_ble_eq_true rfl) h.1 dX7_corrections_18 ?_
      replace h := h.2
      refine v_istoren (lv' := [(2, .int (M 131 (ix ((57 : Int32) + x1)))), (0, .ref (XB S + 130)), (1, .int x1)]) C rfl rfl (Nat.le_of_ble_eq_true rfl) dX7_corrections_19 ?_
      refine v_aloadn C 1 rfl rfl dX7_corrections_20 ?_
      refine v_getr (o' := 131) C fr_X7_7 sh_130 (Nat.le_of_ble_eq_true rfl) rfl (iMod_r0 hm) dX7_corrections_21 ?_
      refine v_bipush C kb_18 dX7_corrections_24 ?_
      refine v_iloadn C 2 rfl rfl dX7_corrections_26 ?_
      refine v_iadd C dX7_corrections_27 ?_
      refine v_ald C sh_131 (Nat.le_of_ble_eq_true rfl) h.1 dX7_corrections_28 ?_
      replace h := h.2
      refine v_if_le C 48 (by decide) dX7_corrections_29 (fun c3 => ?_) (fun c3 => ?_)
      · replace h := h.1 c3
        refine v_iloadn C 0 rfl rfl dX7_corrections_48 ?_
        refine v_csI (As := [.int (M 131 (ix ((57 : Int32) + x1)))]) C ms_X7_148 (con_X7_size l S 148 R ((M 131 (ix ((57 : Int32) + x1))))  _ _ h) rfl ⟨(Nat.le_of_ble_eq_true rfl), (Nat.le_of_ble_eq_true rfl)⟩ ⟨rfl, rfl, Nat.zero_le _, Nat.zero_le _⟩ (Nat.le_of_ble_eq_true rfl) dX7_corrections_49 (fun r4 M4 h => ?_)
        refine v_aloadn C 1 rfl rfl dX7_corrections_52 ?_
        refine v_getr (o' := 142) C fr_X7_44 sh_130 (Nat.le_of_ble_eq_true rfl) rfl (iMod_r16 hm) dX7_corrections_53 ?_
        refine v_iconst C kc_2 dX7_corrections_56 ?_
        refine v_aldk C sh_142 (Nat.le_of_ble_eq_true rfl) lit_2 (Nat.le_of_ble_eq_true rfl) dX7_corrections_57 ?_
        refine v_icmp_le C 77 (by decide) dX7_corrections_58 (fun c5 => ?_) (fun c5 => ?_)
        · replace h := h.1 c5
          refine v_loc [1, 2] rfl ?_
          exact tb_X7_corrections_77 l S R  hm C hr K (fun x1 M => L_X7_corrections_2   K k x1 M) (ih) (x1) M4 h
        · replace h := h.2 c5
          refine v_aloadn C 1 rfl rfl dX7_corrections_61 ?_
          refine v_getr (o' := 131) C fr_X7_7 sh_130 (Nat.le_of_ble_eq_true rfl) rfl (iMod_r0 hm) dX7_corrections_62 ?_
          refine v_bipush C kb_55 dX7_corrections_65 ?_
          refine v_aldk C sh_131 (Nat.le_of_ble_eq_true rfl) lit_55 (Nat.le_of_ble_eq_true rfl) dX7_corrections_67 ?_
          refine v_if_ne C 77 (by decide) dX7_corrections_68 (fun c6 => ?_) (fun c6 => ?_)
          · replace h := h.1 c6
            refine v_loc [1, 2] rfl ?_
            exact tb_X7_corrections_77 l S R  hm C hr K (fun x1 M => L_X7_corrections_2   K k x1 M) (ih) (x1) M4 h
          · replace h := h.2 c6
            refine v_aloadn C 1 rfl rfl dX7_corrections_71 ?_
            refine v_iloadn C 2 rfl rfl dX7_corrections_72 ?_
            refine v_iloadn C 0 rfl rfl dX7_corrections_73 ?_
            refine v_cvV (As := [.int x1, .int (M 131 (ix ((57 : Int32) + x1)))]) C mv_X7_154 (con_X7_correctedBy l S R (x1) ((M 131 (ix ((57 : Int32) + x1)))) hm _ _ h) sh_130 (Nat.le_of_ble_eq_true rfl) rfl ⟨(Nat.le_of_ble_eq_true rfl), (Nat.le_of_ble_eq_true rfl)⟩ ⟨rfl, rfl, Nat.zero_le _, Nat.zero_le _⟩ (Nat.le_of_ble_eq_true rfl) dX7_corrections_74 (fun M7 h => ?_)
            refine v_loc [1, 2] rfl ?_
            exact tb_X7_corrections_77 l S R  hm C hr K (fun x1 M => L_X7_corrections_2   K k x1 M) (ih) (x1) M7 h
      · replace h := h.2 c3
        refine v_aloadn C 1 rfl rfl dX7_corrections_32 ?_
        refine v_getr (o' := 131) C fr_X7_7 sh_130 (Nat.le_of_ble_eq_true rfl) rfl (iMod_r0 hm) dX7_corrections_33 ?_
        refine v_bipush C kb_18 dX7_corrections_36 ?_
        refine v_iloadn C 2 rfl rfl dX7_corrections_38 ?_
        refine v_iadd C dX7_corrections_39 ?_
        refine v_dup2 C rfl rfl dX7_corrections_40 ?_
        refine v_ald C sh_131 (Nat.le_of_ble_eq_true rfl) h.1 dX7_corrections_41 ?_
        replace h := h.2
        refine v_iconst C kc_1 dX7_corrections_42 ?_
        refine v_isub C dX7_corrections_43 ?_
        have hi8 := h.1
        replace h := h.2
        refine v_ast C sh_131 (Nat.le_of_ble_eq_true rfl) hi8 dX7_corrections_44 (fun M8 e8 => ?_)
        replace h := h M8 e8
        refine v_goto C 77 (by decide) dX7_corrections_45 ?_
        refine v_loc [1, 2] rfl ?_
        exact tb_X7_corrections_77 l S R  hm C hr K (fun x1 M => L_X7_corrections_2   K k x1 M) (ih) (x1) M8 h
set_option maxRecDepth 20000 in
theorem con_X7_corrections (l : Launch) (S : XS) (R : Rfs)  (hm : isMod R) (M : Mem) (K : Mem → Prop) (h : wp_X7_corrections  M K) : CV l yX7_corrections cX7_corrections 3 rmX7_corrections S 148 R [.ref (XB S + 130)] M K := by
  refine conV (lv := [(0, .ref (XB S + 130))]) (by decide) (Nat.le_of_ble_eq_true rfl) rfl ?_
  intro p e s m args below meth c C hr
  replace C : Cx p m meth c s args cX7_corrections RX7 3 S := C
  refine v_iconst C kc_1 dX7_corrections_0 ?_
  refine v_istoren (lv' := [(1, .int (1 : Int32)), (0, .ref (XB S + 130))]) C rfl rfl (Nat.le_of_ble_eq_true rfl) dX7_corrections_1 ?_
  refine v_loc [1, 0] rfl ?_
  obtain ⟨k1, h⟩ := h
  exact tl_X7_corrections_2 l S R  hm C hr K   k1 ((1 : Int32)) M h
abbrev rmX7_goes : Room := { frames := 3, cells := 0, slots := 0, locals := 66 }
def wp_X7_goes_159   (K : Int32 → Mem → Prop) (x3 : Int32) (M : Mem) : Prop := ((M 131 3) ≤ 0 → (∀ M22 : Mem, M22 = mw M 131 3 ((M 131 3) + (0 : Int32)) → (isB x3 ∧ K x3 M22))) ∧ (¬ (M 131 3) ≤ 0 → (∀ M23 : Mem, M23 = mw M 131 3 ((M 131 3) + (1 : Int32)) → (isB x3 ∧ K x3 M23)))
def L_X7_goes_127   (K : Int32 → Mem → Prop) : Nat → Int32 → Mem → Prop
  | 0, _, _ => False
  | k + 1, x3, M => ((M 130 10) ≤ x3 → wp_X7_isSeen  M (fun r17 M17 => (r17 = 0 → wp_X7_goes_159   K (r17) M17) ∧ (¬ r17 = 0 → wp_X7_corrections  M17 (fun M19 => wp_X7_goes_159   K (r17) M19)))) ∧ (¬ (M 130 10) ≤ x3 → wp_X7_prints (x3) M (fun M20 => L_X7_goes_127  K k (x3 + (1 : Int32)) M20))
def wp_X7_goes_123   (K : Int32 → Mem → Prop) (y0 y1 : Int32) (M : Mem) : Prop := (∀ M14 : Mem, M14 = mw M 131 2 (y1 - y0) → ∃ j15 : Nat, L_X7_goes_127   K j15 ((1 : Int32)) M14)
def wp_X7_goes_102   (K : Int32 → Mem → Prop) (x1 x2 : Int32) (M : Mem) : Prop := wp_X7_copyBegins (x2) M (fun M12 => (¬ x1 = 0 → wp_X7_goes_123   K ((0 : Int32)) ((M12 131 2)) M12) ∧ (x1 = 0 → wp_X7_goes_123   K ((1 : Int32)) ((M12 131 2)) M12))
def wp_X7_goes_83   (K : Int32 → Mem → Prop) (x1 x2 : Int32) (M : Mem) : Prop := (x2 = 0 → wp_X7_goes_102   K (x1) (x2) M) ∧ (¬ x2 = 0 → wp_X7_goesOnReel  M (fun M10 => (∀ M11 : Mem, M11 = mw M10 131 9 ((M10 131 9) + (1 : Int32)) → wp_X7_goes_102   K (x1) (x2) M11)))
def wp_X7_goes_72   (K : Int32 → Mem → Prop) (x1 y0 : Int32) (M : Mem) : Prop := (¬ y0 = 0 → wp_X7_goes_83   K (x1) (y0) M) ∧ (y0 = 0 → wp_X7_breaks  M (fun M25 => K (0 : Int32) M25))
def wp_X7_goes_71   (K : Int32 → Mem → Prop) (x1 : Int32) (M : Mem) : Prop := wp_X7_goes_72   K (x1) ((0 : Int32)) M
def wp_X7_goes_20   (K : Int32 → Mem → Prop) (x1 y0 : Int32) (M : Mem) : Prop := (¬ x1 = 0 → wp_X7_goes_83   K (x1) (y0) M) ∧ (x1 = 0 → (¬ (M 131 2) = 0 → wp_X7_goes_83   K (x1) (y0) M) ∧ ((M 131 2) = 0 → wp_X7_nextReel  M (fun r5 M5 => (r5 = (-9 : Int32) → wp_X7_goes_71   K (x1) M5) ∧ (¬ r5 = (-9 : Int32) → ((M5 131 3) ≤ 0 → wp_X7_goes_71   K (x1) M5) ∧ (¬ (M5 131 3) ≤ 0 → ((M5 131 3) < (M5 142 3) → wp_X7_goes_71   K (x1) M5) ∧ (¬ (M5 131 3) < (M5 142 3) → wp_X7_goes_72   K (x1) ((1 : Int32)) M5))))))
def wp_X7_goes (x1 : Int32) (M : Mem) (K : Int32 → Mem → Prop) : Prop := (∀ M1 : Mem, M1 = mw M 131 5 ((M 131 5) + (1 : Int32)) → (¬ x1 = (2 : Int32) → wp_X7_goes_20  K (x1) ((0 : Int32)) M1) ∧ (x1 = (2 : Int32) → wp_X7_goes_20  K (x1) ((1 : Int32)) M1))
set_option maxRecDepth 20000 in
theorem tb_X7_goes_159 {p : Program} {e : Env} {s : State} {m : MethodId} {args : Array Value} {below : List Frame} {meth : Method} {c : Code} (l : Launch) (S : XS) (R : Rfs)  (hm : isMod R) (C : Cx p m meth c s args cX7_goes RX7 4 S) (hr : meth.sig.returnType = (some .boolean)) (K : Int32 → Mem → Prop)   (x3 : Int32) (M : Mem) (h : wp_X7_goes_159   K x3 M) : V p l e rmX7_goes s m args below meth c (MQ below (va_Qi K (XPost S 148 R) (XA S)) args s 0 0 (XA S)) S 4 0 0 148 M R 159 [(0, .ref (XB S + 130)), (3, .int x3)] [] := by
  refine v_aloadn C 0 rfl rfl dX7_goes_159 ?_
  refine v_getr (o' := 131) C fr_X7_7 sh_130 (Nat.le_of_ble_eq_true rfl) rfl (iMod_r0 hm) dX7_goes_160 ?_
  refine v_iconst C kc_3 dX7_goes_163 ?_
  refine v_dup2 C rfl rfl dX7_goes_164 ?_
  refine v_aldk C sh_131 (Nat.le_of_ble_eq_true rfl) lit_3 (Nat.le_of_ble_eq_true rfl) dX7_goes_165 ?_
  refine v_aloadn C 0 rfl rfl dX7_goes_166 ?_
  refine v_getr (o' := 131) C fr_X7_7 sh_130 (Nat.le_of_ble_eq_true rfl) rfl (iMod_r0 hm) dX7_goes_167 ?_
  refine v_iconst C kc_3 dX7_goes_170 ?_
  refine v_aldk C sh_131 (Nat.le_of_ble_eq_true rfl) lit_3 (Nat.le_of_ble_eq_true rfl) dX7_goes_171 ?_
  refine v_if_le C 179 (by decide) dX7_goes_172 (fun c21 => ?_) (fun c21 => ?_)
  · replace h := h.1 c21
    refine v_iconst C kc_0 dX7_goes_179 ?_
    refine v_iadd C dX7_goes_180 ?_
    refine v_astk C sh_131 (Nat.le_of_ble_eq_true rfl) lit_3 (Nat.le_of_ble_eq_true rfl) dX7_goes_181 (fun M22 e22 => ?_)
    replace h := h M22 e22
    refine v_iloadn C 1 rfl rfl dX7_goes_182 ?_
    exact v_zret C h.1 hr dX7_goes_183 h.2
  · replace h := h.2 c21
    refine v_iconst C kc_1 dX7_goes_175 ?_
    refine v_goto C 180 (by decide) dX7_goes_176 ?_
    refine v_iadd C dX7_goes_180 ?_
    refine v_astk C sh_131 (Nat.le_of_ble_eq_true rfl) lit_3 (Nat.le_of_ble_eq_true rfl) dX7_goes_181 (fun M23 e23 => ?_)
    replace h := h M23 e23
    refine v_iloadn C 1 rfl rfl dX7_goes_182 ?_
    exact v_zret C h.1 hr dX7_goes_183 h.2
set_option maxRecDepth 20000 in
theorem tl_X7_goes_127 {p : Program} {e : Env} {s : State} {m : MethodId} {args : Array Value} {below : List Frame} {meth : Method} {c : Code} (l : Launch) (S : XS) (R : Rfs)  (hm : isMod R) (C : Cx p m meth c s args cX7_goes RX7 4 S) (hr : meth.sig.returnType = (some .boolean)) (K : Int32 → Mem → Prop)   (k : Nat) : ∀ (x3 : Int32) (M : Mem), L_X7_goes_127   K k x3 M → V p l e rmX7_goes s m args below meth c (MQ below (va_Qi K (XPost S 148 R) (XA S)) args s 0 0 (XA S)) S 4 0 0 148 M R 127 [(0, .ref (XB S + 130)), (3, .int x3)] [] := by
  induction k with
  | zero => intro x3 M h; exact h.elim
  | succ k ih =>
    intro x3 M h
    refine v_iloadn C 1 rfl rfl dX7_goes_127 ?_
    refine v_aloadn C 0 rfl rfl dX7_goes_128 ?_
    refine v_geti C fr_X7_75 sh_130 (Nat.le_of_ble_eq_true rfl) rfl dX7_goes_129 ?_
    refine v_icmp_ge C 146 (by decide) dX7_goes_132 (fun c16 => ?_) (fun c16 => ?_)
    · replace h := h.1 c16
      refine v_aloadn C 0 rfl rfl dX7_goes_146 ?_
      refine v_cvI (As := []) C mv_X7_175 (con_X7_isSeen l S R  hm _ _ h) sh_130 (Nat.le_of_ble_eq_true rfl) rfl ⟨(Nat.le_of_ble_eq_true rfl), (Nat.le_of_ble_eq_true rfl)⟩ ⟨rfl, rfl, Nat.zero_le _, Nat.zero_le _⟩ (Nat.le_of_ble_eq_true rfl) dX7_goes_147 (fun r17 M17 h => ?_)
      refine v_istoren (lv' := [(3, .int r17), (0, .ref (XB S + 130))]) C rfl rfl (Nat.le_of_ble_eq_true rfl) dX7_goes_150 ?_
      refine v_iloadn C 0 rfl rfl dX7_goes_151 ?_
      refine v_if_eq C 159 (by decide) dX7_goes_152 (fun c18 => ?_) (fun c18 => ?_)
      · replace h := h.1 c18
        refine v_loc [1, 0] rfl ?_
        exact tb_X7_goes_159 l S R  hm C hr K   (r17) M17 h
      · replace h := h.2 c18
        refine v_aloadn C 1 rfl rfl dX7_goes_155 ?_
        refine v_cvV (As := []) C mv_X7_178 (con_X7_corrections l S R  hm _ _ h) sh_130 (Nat.le_of_ble_eq_true rfl) rfl ⟨(Nat.le_of_ble_eq_true rfl), (Nat.le_of_ble_eq_true rfl)⟩ ⟨rfl, rfl, Nat.zero_le _, Nat.zero_le _⟩ (Nat.le_of_ble_eq_true rfl) dX7_goes_156 (fun M19 h => ?_)
        refine v_loc [1, 0] rfl ?_
        exact tb_X7_goes_159 l S R  hm C hr K   (r17) M19 h
    · replace h := h.2 c16
      refine v_aloadn C 0 rfl rfl dX7_goes_135 ?_
      refine v_iloadn C 1 rfl rfl dX7_goes_136 ?_
      refine v_cvV (As := [.int x3]) C mv_X7_171 (con_X7_prints l S R (x3) hm _ _ h) sh_130 (Nat.le_of_ble_eq_true rfl) rfl ⟨(Nat.le_of_ble_eq_true rfl), (Nat.le_of_ble_eq_true rfl)⟩ ⟨rfl, rfl, Nat.zero_le _, Nat.zero_le _⟩ (Nat.le_of_ble_eq_true rfl) dX7_goes_137 (fun M20 h => ?_)
      refine v_iinc (lv' := [(3, .int (x3 + (1 : Int32))), (0, .ref (XB S + 130))]) C 1 rfl kc_1 rfl rfl (Nat.le_of_ble_eq_true rfl) dX7_goes_140 ?_
      refine v_goto C 127 (by decide) dX7_goes_143 ?_
      refine v_loc [1, 0] rfl ?_
      exact ih ((x3 + (1 : Int32))) M20 h
set_option maxRecDepth 20000 in
theorem tb_X7_goes_123 {p : Program} {e : Env} {s : State} {m : MethodId} {args : Array Value} {below : List Frame} {meth : Method} {c : Code} (l : Launch) (S : XS) (R : Rfs)  (hm : isMod R) (C : Cx p m meth c s args cX7_goes RX7 4 S) (hr : meth.sig.returnType = (some .boolean)) (K : Int32 → Mem → Prop)   (y0 y1 : Int32) (M : Mem) (h : wp_X7_goes_123   K y0 y1 M) : V p l e rmX7_goes s m args below meth c (MQ below (va_Qi K (XPost S 148 R) (XA S)) args s 0 0 (XA S)) S 4 0 0 148 M R 123 [(0, .ref (XB S + 130))] [.int y0, .int y1, .int (2 : Int32), .ref (XB S + 131)] := by
  refine v_isub C dX7_goes_123 ?_
  refine v_astk C sh_131 (Nat.le_of_ble_eq_true rfl) lit_2 (Nat.le_of_ble_eq_true rfl) dX7_goes_124 (fun M14 e14 => ?_)
  replace h := h M14 e14
  refine v_iconst C kc_1 dX7_goes_125 ?_
  refine v_istoren (lv' := [(3, .int (1 : Int32)), (0, .ref (XB S + 130))]) C rfl rfl (Nat.le_of_ble_eq_true rfl) dX7_goes_126 ?_
  refine v_loc [1, 0] rfl ?_
  obtain ⟨k15, h⟩ := h
  exact tl_X7_goes_127 l S R  hm C hr K   k15 ((1 : Int32)) M14 h
set_option maxRecDepth 20000 in
theorem tb_X7_goes_102 {p : Program} {e : Env} {s : State} {m : MethodId} {args : Array Value} {below : List Frame} {meth : Method} {c : Code} (l : Launch) (S : XS) (R : Rfs)  (hm : isMod R) (C : Cx p m meth c s args cX7_goes RX7 4 S) (hr : meth.sig.returnType = (some .boolean)) (K : Int32 → Mem → Prop)   (x1 x2 : Int32) (M : Mem) (h : wp_X7_goes_102   K x1 x2 M) : V p l e rmX7_goes s m args below meth c (MQ below (va_Qi K (XPost S 148 R) (XA S)) args s 0 0 (XA S)) S 4 0 0 148 M R 102 [(0, .ref (XB S + 130)), (1, .int x1), (2, .int x2)] [] := by
  refine v_aloadn C 0 rfl rfl dX7_goes_102 ?_
  refine v_iloadn C 2 rfl rfl dX7_goes_103 ?_
  refine v_cvV (As := [.int x2]) C mv_X7_167 (con_X7_copyBegins l S R (x2) hm _ _ h) sh_130 (Nat.le_of_ble_eq_true rfl) rfl ⟨(Nat.le_of_ble_eq_true rfl), (Nat.le_of_ble_eq_true rfl)⟩ ⟨rfl, rfl, Nat.zero_le _, Nat.zero_le _⟩ (Nat.le_of_ble_eq_true rfl) dX7_goes_104 (fun M12 h => ?_)
  refine v_aloadn C 0 rfl rfl dX7_goes_107 ?_
  refine v_getr (o' := 131) C fr_X7_7 sh_130 (Nat.le_of_ble_eq_true rfl) rfl (iMod_r0 hm) dX7_goes_108 ?_
  refine v_iconst C kc_2 dX7_goes_111 ?_
  refine v_dup2 C rfl rfl dX7_goes_112 ?_
  refine v_aldk C sh_131 (Nat.le_of_ble_eq_true rfl) lit_2 (Nat.le_of_ble_eq_true rfl) dX7_goes_113 ?_
  refine v_iloadn C 1 rfl rfl dX7_goes_114 ?_
  refine v_if_ne C 122 (by decide) dX7_goes_115 (fun c13 => ?_) (fun c13 => ?_)
  · replace h := h.1 c13
    refine v_iconst C kc_0 dX7_goes_122 ?_
    refine v_loc [0] rfl ?_
    exact tb_X7_goes_123 l S R  hm C hr K   ((0 : Int32)) ((M12 131 2)) M12 h
  · replace h := h.2 c13
    refine v_iconst C kc_1 dX7_goes_118 ?_
    refine v_goto C 123 (by decide) dX7_goes_119 ?_
    refine v_loc [0] rfl ?_
    exact tb_X7_goes_123 l S R  hm C hr K   ((1 : Int32)) ((M12 131 2)) M12 h
set_option maxRecDepth 20000 in
theorem tb_X7_goes_83 {p : Program} {e : Env} {s : State} {m : MethodId} {args : Array Value} {below : List Frame} {meth : Method} {c : Code} (l : Launch) (S : XS) (R : Rfs)  (hm : isMod R) (C : Cx p m meth c s args cX7_goes RX7 4 S) (hr : meth.sig.returnType = (some .boolean)) (K : Int32 → Mem → Prop)   (x1 x2 : Int32) (M : Mem) (h : wp_X7_goes_83   K x1 x2 M) : V p l e rmX7_goes s m args below meth c (MQ below (va_Qi K (XPost S 148 R) (XA S)) args s 0 0 (XA S)) S 4 0 0 148 M R 83 [(0, .ref (XB S + 130)), (1, .int x1), (2, .int x2)] [] := by
  refine v_iloadn C 2 rfl rfl dX7_goes_83 ?_
  refine v_if_eq C 102 (by decide) dX7_goes_84 (fun c9 => ?_) (fun c9 => ?_)
  · replace h := h.1 c9
    exact tb_X7_goes_102 l S R  hm C hr K   (x1) (x2) M h
  · replace h := h.2 c9
    refine v_aloadn C 0 rfl rfl dX7_goes_87 ?_
    refine v_cvV (As := []) C mv_X7_164 (con_X7_goesOnReel l S R  hm _ _ h) sh_130 (Nat.le_of_ble_eq_true rfl) rfl ⟨(Nat.le_of_ble_eq_true rfl), (Nat.le_of_ble_eq_true rfl)⟩ ⟨rfl, rfl, Nat.zero_le _, Nat.zero_le _⟩ (Nat.le_of_ble_eq_true rfl) dX7_goes_88 (fun M10 h => ?_)
    refine v_aloadn C 0 rfl rfl dX7_goes_91 ?_
    refine v_getr (o' := 131) C fr_X7_7 sh_130 (Nat.le_of_ble_eq_true rfl) rfl (iMod_r0 hm) dX7_goes_92 ?_
    refine v_bipush C kb_9 dX7_goes_95 ?_
    refine v_dup2 C rfl rfl dX7_goes_97 ?_
    refine v_aldk C sh_131 (Nat.le_of_ble_eq_true rfl) lit_9 (Nat.le_of_ble_eq_true rfl) dX7_goes_98 ?_
    refine v_iconst C kc_1 dX7_goes_99 ?_
    refine v_iadd C dX7_goes_100 ?_
    refine v_astk C sh_131 (Nat.le_of_ble_eq_true rfl) lit_9 (Nat.le_of_ble_eq_true rfl) dX7_goes_101 (fun M11 e11 => ?_)
    replace h := h M11 e11
    exact tb_X7_goes_102 l S R  hm C hr K   (x1) (x2) M11 h
set_option maxRecDepth 20000 in
theorem tb_X7_goes_72 {p : Program} {e : Env} {s : State} {m : MethodId} {args : Array Value} {below : List Frame} {meth : Method} {c : Code} (l : Launch) (S : XS) (R : Rfs)  (hm : isMod R) (C : Cx p m meth c s args cX7_goes RX7 4 S) (hr : meth.sig.returnType = (some .boolean)) (K : Int32 → Mem → Prop)   (x1 y0 : Int32) (M : Mem) (h : wp_X7_goes_72   K x1 y0 M) : V p l e rmX7_goes s m args below meth c (MQ below (va_Qi K (XPost S 148 R) (XA S)) args s 0 0 (XA S)) S 4 0 0 148 M R 72 [(0, .ref (XB S + 130)), (1, .int x1)] [.int y0] := by
  refine v_istoren (lv' := [(2, .int y0), (0, .ref (XB S + 130)), (1, .int x1)]) C rfl rfl (Nat.le_of_ble_eq_true rfl) dX7_goes_72 ?_
  refine v_iloadn C 0 rfl rfl dX7_goes_73 ?_
  refine v_if_ne C 83 (by decide) dX7_goes_74 (fun c24 => ?_) (fun c24 => ?_)
  · replace h := h.1 c24
    refine v_loc [1, 2, 0] rfl ?_
    exact tb_X7_goes_83 l S R  hm C hr K   (x1) (y0) M h
  · replace h := h.2 c24
    refine v_aloadn C 1 rfl rfl dX7_goes_77 ?_
    refine v_cvV (As := []) C mv_X7_161 (con_X7_breaks l S R  hm _ _ h) sh_130 (Nat.le_of_ble_eq_true rfl) rfl ⟨(Nat.le_of_ble_eq_true rfl), (Nat.le_of_ble_eq_true rfl)⟩ ⟨rfl, rfl, Nat.zero_le _, Nat.zero_le _⟩ (Nat.le_of_ble_eq_true rfl) dX7_goes_78 (fun M25 h => ?_)
    refine v_iconst C kc_0 dX7_goes_81 ?_
    exact v_zret C isB0 hr dX7_goes_82 h
set_option maxRecDepth 20000 in
theorem tb_X7_goes_71 {p : Program} {e : Env} {s : State} {m : MethodId} {args : Array Value} {below : List Frame} {meth : Method} {c : Code} (l : Launch) (S : XS) (R : Rfs)  (hm : isMod R) (C : Cx p m meth c s args cX7_goes RX7 4 S) (hr : meth.sig.returnType = (some .boolean)) (K : Int32 → Mem → Prop)   (x1 : Int32) (M : Mem) (h : wp_X7_goes_71   K x1 M) : V p l e rmX7_goes s m args below meth c (MQ below (va_Qi K (XPost S 148 R) (XA S)) args s 0 0 (XA S)) S 4 0 0 148 M R 71 [(0, .ref (XB S + 130)), (1, .int x1)] [] := by
  refine v_iconst C kc_0 dX7_goes_71 ?_
  exact tb_X7_goes_72 l S R  hm C hr K   (x1) ((0 : Int32)) M h
set_option maxRecDepth 20000 in
theorem tb_X7_goes_20 {p : Program} {e : Env} {s : State} {m : MethodId} {args : Array Value} {below : List Frame} {meth : Method} {c : Code} (l : Launch) (S : XS) (R : Rfs)  (hm : isMod R) (C : Cx p m meth c s args cX7_goes RX7 4 S) (hr : meth.sig.returnType = (some .boolean)) (K : Int32 → Mem → Prop)   (x1 y0 : Int32) (M : Mem) (h : wp_X7_goes_20   K x1 y0 M) : V p l e rmX7_goes s m args below meth c (MQ below (va_Qi K (XPost S 148 R) (XA S)) args s 0 0 (XA S)) S 4 0 0 148 M R 20 [(0, .ref (XB S + 130)), (1, .int x1)] [.int y0] := by
  refine v_istoren (lv' := [(2, .int y0), (0, .ref (XB S + 130)), (1, .int x1)]) C rfl rfl (Nat.le_of_ble_eq_true rfl) dX7_goes_20 ?_
  refine v_iloadn C 2 rfl rfl dX7_goes_21 ?_
  refine v_if_ne C 83 (by decide) dX7_goes_22 (fun c3 => ?_) (fun c3 => ?_)
  · replace h := h.1 c3
    refine v_loc [1, 2, 0] rfl ?_
    exact tb_X7_goes_83 l S R  hm C hr K   (x1) (y0) M h
  · replace h := h.2 c3
    refine v_aloadn C 1 rfl rfl dX7_goes_25 ?_
    refine v_getr (o' := 131) C fr_X7_7 sh_130 (Nat.le_of_ble_eq_true rfl) rfl (iMod_r0 hm) dX7_goes_26 ?_
    refine v_iconst C kc_2 dX7_goes_29 ?_
    refine v_aldk C sh_131 (Nat.le_of_ble_eq_true rfl) lit_2 (Nat.le_of_ble_eq_true rfl) dX7_goes_30 ?_
    refine v_if_ne C 83 (by decide) dX7_goes_31 (fun c4 => ?_) (fun c4 => ?_)
    · replace h := h.1 c4
      refine v_loc [1, 2, 0] rfl ?_
      exact tb_X7_goes_83 l S R  hm C hr K   (x1) (y0) M h
    · replace h := h.2 c4
      refine v_aloadn C 1 rfl rfl dX7_goes_34 ?_
      refine v_cvI (As := []) C mv_X7_158 (con_X7_nextReel l S R  hm _ _ h) sh_130 (Nat.le_of_ble_eq_true rfl) rfl ⟨(Nat.le_of_ble_eq_true rfl), (Nat.le_of_ble_eq_true rfl)⟩ ⟨rfl, rfl, Nat.zero_le _, Nat.zero_le _⟩ (Nat.le_of_ble_eq_true rfl) dX7_goes_35 (fun r5 M5 h => ?_)
      refine v_bipush C kb_m9 dX7_goes_38 ?_
      refine v_icmp_eq C 71 (by decide) dX7_goes_40 (fun c6 => ?_) (fun c6 => ?_)
      · replace h := h.1 c6
        refine v_loc [1, 2] rfl ?_
        exact tb_X7_goes_71 l S R  hm C hr K   (x1) M5 h
      · replace h := h.2 c6
        refine v_aloadn C 1 rfl rfl dX7_goes_43 ?_
        refine v_getr (o' := 131) C fr_X7_7 sh_130 (Nat.le_of_ble_eq_true rfl) rfl (iMod_r0 hm) dX7_goes_44 ?_
        refine v_iconst C kc_3 dX7_goes_47 ?_
        refine v_aldk C sh_131 (Nat.le_of_ble_eq_true rfl) lit_3 (Nat.le_of_ble_eq_true rfl) dX7_goes_48 ?_
        refine v_if_le C 71 (by decide) dX7_goes_49 (fun c7 => ?_) (fun c7 => ?_)
        · replace h := h.1 c7
          refine v_loc [1, 2] rfl ?_
          exact tb_X7_goes_71 l S R  hm C hr K   (x1) M5 h
        · replace h := h.2 c7
          refine v_aloadn C 1 rfl rfl dX7_goes_52 ?_
          refine v_getr (o' := 131) C fr_X7_7 sh_130 (Nat.le_of_ble_eq_true rfl) rfl (iMod_r0 hm) dX7_goes_53 ?_
          refine v_iconst C kc_3 dX7_goes_56 ?_
          refine v_aldk C sh_131 (Nat.le_of_ble_eq_true rfl) lit_3 (Nat.le_of_ble_eq_true rfl) dX7_goes_57 ?_
          refine v_aloadn C 1 rfl rfl dX7_goes_58 ?_
          refine v_getr (o' := 142) C fr_X7_44 sh_130 (Nat.le_of_ble_eq_true rfl) rfl (iMod_r16 hm) dX7_goes_59 ?_
          refine v_iconst C kc_3 dX7_goes_62 ?_
          refine v_aldk C sh_142 (Nat.le_of_ble_eq_true rfl) lit_3 (Nat.le_of_ble_eq_true rfl) dX7_goes_63 ?_
          refine v_icmp_lt C 71 (by decide) dX7_goes_64 (fun c8 => ?_) (fun c8 => ?_)
          · replace h := h.1 c8
            refine v_loc [1, 2] rfl ?_
            exact tb_X7_goes_71 l S R  hm C hr K   (x1) M5 h
          · replace h := h.2 c8
            refine v_iconst C kc_1 dX7_goes_67 ?_
            refine v_goto C 72 (by decide) dX7_goes_68 ?_
            refine v_loc [1, 2] rfl ?_
            exact tb_X7_goes_72 l S R  hm C hr K   (x1) ((1 : Int32)) M5 h
set_option maxRecDepth 20000 in
theorem con_X7_goes (l : Launch) (S : XS) (R : Rfs) (x1 : Int32) (hm : isMod R) (M : Mem) (K : Int32 → Mem → Prop) (h : wp_X7_goes x1 M K) : CI l yX7_goes cX7_goes 4 (some .boolean) rmX7_goes S 148 R [.ref (XB S + 130), .int x1] M K := by
  refine conI (lv := [(0, .ref (XB S + 130)), (1, .int x1)]) (by decide) (Nat.le_of_ble_eq_true rfl) rfl ?_
  intro p e s m args below meth c C hr
  replace C : Cx p m meth c s args cX7_goes RX7 4 S := C
  refine v_aloadn C 0 rfl rfl dX7_goes_0 ?_
  refine v_getr (o' := 131) C fr_X7_7 sh_130 (Nat.le_of_ble_eq_true rfl) rfl (iMod_r0 hm) dX7_goes_1 ?_
  refine v_iconst C kc_5 dX7_goes_4 ?_
  refine v_dup2 C rfl rfl dX7_goes_5 ?_
  refine v_aldk C sh_131 (Nat.le_of_ble_eq_true rfl) lit_5 (Nat.le_of_ble_eq_true rfl) dX7_goes_6 ?_
  refine v_iconst C kc_1 dX7_goes_7 ?_
  refine v_iadd C dX7_goes_8 ?_
  refine v_astk C sh_131 (Nat.le_of_ble_eq_true rfl) lit_5 (Nat.le_of_ble_eq_true rfl) dX7_goes_9 (fun M1 e1 => ?_)
  replace h := h M1 e1
  refine v_iloadn C 1 rfl rfl dX7_goes_10 ?_
  refine v_iconst C kc_2 dX7_goes_11 ?_
  refine v_icmp_ne C 19 (by decide) dX7_goes_12 (fun c2 => ?_) (fun c2 => ?_)
  · replace h := h.1 c2
    refine v_iconst C kc_0 dX7_goes_19 ?_
    exact tb_X7_goes_20 l S R  hm C hr K   (x1) ((0 : Int32)) M1 h
  · replace h := h.2 c2
    refine v_iconst C kc_1 dX7_goes_15 ?_
    refine v_goto C 20 (by decide) dX7_goes_16 ?_
    exact tb_X7_goes_20 l S R  hm C hr K   (x1) ((1 : Int32)) M1 h
abbrev rmX7_ticks : Room := { frames := 4, cells := 0, slots := 0, locals := 89 }
def L_X7_ticks_55   (K : Int32 → Mem → Prop) : Nat → Int32 → Int32 → Int32 → Mem → Prop
  | 0, _, _, _, _ => False
  | k + 1, x1, x2, x3, M => (x1 ≤ x3 → K ((M 131 7) - x2) M) ∧ (¬ x1 ≤ x3 → (¬ (M 131 0) = (1 : Int32) → K ((M 131 7) - x2) M) ∧ ((M 131 0) = (1 : Int32) → wp_X7_goes ((0 : Int32)) M (fun r9 M9 => L_X7_ticks_55  K k x1 x2 (x3 + (1 : Int32)) M9)))
def wp_X7_ticks (x1 : Int32) (M : Mem) (K : Int32 → Mem → Prop) : Prop := wp_X7_in (x1) ((1 : Int32)) ((60 : Int32)) M (fun r1 M1 => (¬ r1 = 0 → (¬ (M1 131 0) = 0 → (((M1 131 5) + x1) ≤ (9999 : Int32) → wp_X7_remembers M1 (fun M5 => ∃ j6 : Nat, L_X7_ticks_55  K j6 (x1) ((M5 131 7)) ((0 : Int32)) M5)) ∧ (¬ ((M1 131 5) + x1) ≤ (9999 : Int32) → K (-3 : Int32) M1)) ∧ ((M1 131 0) = 0 → K (-2 : Int32) M1)) ∧ (r1 = 0 → K (-1 : Int32) M1))
set_option maxRecDepth 20000 in
theorem tl_X7_ticks_55 {p : Program} {e : Env} {s : State} {m : MethodId} {args : Array Value} {below : List Frame} {meth : Method} {c : Code} (l : Launch) (S : XS) (R : Rfs)  (hm : isMod R) (C : Cx p m meth c s args cX7_ticks RX7 4 S) (hr : meth.sig.returnType = (some .int)) (K : Int32 → Mem → Prop)   (k : Nat) : ∀ (x1 x2 x3 : Int32) (M : Mem), L_X7_ticks_55   K k x1 x2 x3 M → V p l e rmX7_ticks s m args below meth c (MQ below (va_Qi K (XPost S 148 R) (XA S)) args s 0 0 (XA S)) S 4 0 0 148 M R 55 [(0, .ref (XB S + 130)), (1, .int x1), (2, .int x2), (3, .int x3)] [] := by
  induction k with
  | zero => intro x1 x2 x3 M h; exact h.elim
  | succ k ih =>
    intro x1 x2 x3 M h
    refine v_iloadn C 3 rfl rfl dX7_ticks_55 ?_
    refine v_iloadn C 1 rfl rfl dX7_ticks_56 ?_
    refine v_icmp_ge C 82 (by decide) dX7_ticks_57 (fun c7 => ?_) (fun c7 => ?_)
    · replace h := h.1 c7
      refine v_aloadn C 0 rfl rfl dX7_ticks_82 ?_
      refine v_getr (o' := 131) C fr_X7_7 sh_130 (Nat.le_of_ble_eq_true rfl) rfl (iMod_r0 hm) dX7_ticks_83 ?_
      refine v_bipush C kb_7 dX7_ticks_86 ?_
      refine v_aldk C sh_131 (Nat.le_of_ble_eq_true rfl) lit_7 (Nat.le_of_ble_eq_true rfl) dX7_ticks_88 ?_
      refine v_iloadn C 2 rfl rfl dX7_ticks_89 ?_
      refine v_isub C dX7_ticks_90 ?_
      exact v_iret C hr dX7_ticks_91 h
    · replace h := h.2 c7
      refine v_aloadn C 0 rfl rfl dX7_ticks_60 ?_
      refine v_getr (o' := 131) C fr_X7_7 sh_130 (Nat.le_of_ble_eq_true rfl) rfl (iMod_r0 hm) dX7_ticks_61 ?_
      refine v_iconst C kc_0 dX7_ticks_64 ?_
      refine v_aldk C sh_131 (Nat.le_of_ble_eq_true rfl) lit_0 (Nat.le_of_ble_eq_true rfl) dX7_ticks_65 ?_
      refine v_iconst C kc_1 dX7_ticks_66 ?_
      refine v_icmp_ne C 82 (by decide) dX7_ticks_67 (fun c8 => ?_) (fun c8 => ?_)
      · replace h := h.1 c8
        refine v_aloadn C 0 rfl rfl dX7_ticks_82 ?_
        refine v_getr (o' := 131) C fr_X7_7 sh_130 (Nat.le_of_ble_eq_true rfl) rfl (iMod_r0 hm) dX7_ticks_83 ?_
        refine v_bipush C kb_7 dX7_ticks_86 ?_
        refine v_aldk C sh_131 (Nat.le_of_ble_eq_true rfl) lit_7 (Nat.le_of_ble_eq_true rfl) dX7_ticks_88 ?_
        refine v_iloadn C 2 rfl rfl dX7_ticks_89 ?_
        refine v_isub C dX7_ticks_90 ?_
        exact v_iret C hr dX7_ticks_91 h
      · replace h := h.2 c8
        refine v_aloadn C 0 rfl rfl dX7_ticks_70 ?_
        refine v_iconst C kc_0 dX7_ticks_71 ?_
        refine v_cvI (As := [.int (0 : Int32)]) C mv_X7_184 (con_X7_goes l S R ((0 : Int32)) hm _ _ h) sh_130 (Nat.le_of_ble_eq_true rfl) rfl ⟨(Nat.le_of_ble_eq_true rfl), (Nat.le_of_ble_eq_true rfl)⟩ ⟨rfl, rfl, Nat.zero_le _, Nat.zero_le _⟩ (Nat.le_of_ble_eq_true rfl) dX7_ticks_72 (fun r9 M9 h => ?_)
        refine v_pop C rfl dX7_ticks_75 ?_
        refine v_iinc (lv' := [(3, .int (x3 + (1 : Int32))), (0, .ref (XB S + 130)), (1, .int x1), (2, .int x2)]) C 3 rfl kc_1 rfl rfl (Nat.le_of_ble_eq_true rfl) dX7_ticks_76 ?_
        refine v_goto C 55 (by decide) dX7_ticks_79 ?_
        refine v_loc [1, 2, 3, 0] rfl ?_
        exact ih (x1) (x2) ((x3 + (1 : Int32))) M9 h
set_option maxRecDepth 20000 in
theorem con_X7_ticks (l : Launch) (S : XS) (R : Rfs) (x1 : Int32) (hm : isMod R) (M : Mem) (K : Int32 → Mem → Prop) (h : wp_X7_ticks x1 M K) : CI l yX7_ticks cX7_ticks 4 (some .int) rmX7_ticks S 148 R [.ref (XB S + 130), .int x1] M K := by
  refine conI (lv := [(0, .ref (XB S + 130)), (1, .int x1)]) (by decide) (Nat.le_of_ble_eq_true rfl) rfl ?_
  intro p e s m args below meth c C hr
  replace C : Cx p m meth c s args cX7_ticks RX7 4 S := C
  refine v_iloadn C 1 rfl rfl dX7_ticks_0 ?_
  refine v_iconst C kc_1 dX7_ticks_1 ?_
  refine v_bipush C kb_60 dX7_ticks_2 ?_
  refine v_csI (As := [.int x1, .int (1 : Int32), .int (60 : Int32)]) C ms_X7_96 (con_X7_in l S 148 R (x1) ((1 : Int32)) ((60 : Int32))  _ _ h) rfl ⟨(Nat.le_of_ble_eq_true rfl), (Nat.le_of_ble_eq_true rfl)⟩ ⟨rfl, rfl, Nat.zero_le _, Nat.zero_le _⟩ (Nat.le_of_ble_eq_true rfl) dX7_ticks_4 (fun r1 M1 h => ?_)
  refine v_if_ne C 12 (by decide) dX7_ticks_7 (fun c2 => ?_) (fun c2 => ?_)
  · replace h := h.1 c2
    refine v_aloadn C 0 rfl rfl dX7_ticks_12 ?_
    refine v_getr (o' := 131) C fr_X7_7 sh_130 (Nat.le_of_ble_eq_true rfl) rfl (iMod_r0 hm) dX7_ticks_13 ?_
    refine v_iconst C kc_0 dX7_ticks_16 ?_
    refine v_aldk C sh_131 (Nat.le_of_ble_eq_true rfl) lit_0 (Nat.le_of_ble_eq_true rfl) dX7_ticks_17 ?_
    refine v_if_ne C 24 (by decide) dX7_ticks_18 (fun c3 => ?_) (fun c3 => ?_)
    · replace h := h.1 c3
      refine v_aloadn C 0 rfl rfl dX7_ticks_24 ?_
      refine v_getr (o' := 131) C fr_X7_7 sh_130 (Nat.le_of_ble_eq_true rfl) rfl (iMod_r0 hm) dX7_ticks_25 ?_
      refine v_iconst C kc_5 dX7_ticks_28 ?_
      refine v_aldk C sh_131 (Nat.le_of_ble_eq_true rfl) lit_5 (Nat.le_of_ble_eq_true rfl) dX7_ticks_29 ?_
      refine v_iloadn C 1 rfl rfl dX7_ticks_30 ?_
      refine v_iadd C dX7_ticks_31 ?_
      refine v_sipush C ks_9999 dX7_ticks_32 ?_
      refine v_icmp_le C 41 (by decide) dX7_ticks_35 (fun c4 => ?_) (fun c4 => ?_)
      · replace h := h.1 c4
        refine v_aloadn C 0 rfl rfl dX7_ticks_41 ?_
        refine v_cvV (As := []) C mv_X7_181 (con_X7_remembers l S R  hm _ _ h) sh_130 (Nat.le_of_ble_eq_true rfl) rfl ⟨(Nat.le_of_ble_eq_true rfl), (Nat.le_of_ble_eq_true rfl)⟩ ⟨rfl, rfl, Nat.zero_le _, Nat.zero_le _⟩ (Nat.le_of_ble_eq_true rfl) dX7_ticks_42 (fun M5 h => ?_)
        refine v_aloadn C 0 rfl rfl dX7_ticks_45 ?_
        refine v_getr (o' := 131) C fr_X7_7 sh_130 (Nat.le_of_ble_eq_true rfl) rfl (iMod_r0 hm) dX7_ticks_46 ?_
        refine v_bipush C kb_7 dX7_ticks_49 ?_
        refine v_aldk C sh_131 (Nat.le_of_ble_eq_true rfl) lit_7 (Nat.le_of_ble_eq_true rfl) dX7_ticks_51 ?_
        refine v_istoren (lv' := [(2, .int (M5 131 7)), (0, .ref (XB S + 130)), (1, .int x1)]) C rfl rfl (Nat.le_of_ble_eq_true rfl) dX7_ticks_52 ?_
        refine v_iconst C kc_0 dX7_ticks_53 ?_
        refine v_istoren (lv' := [(3, .int (0 : Int32)), (2, .int (M5 131 7)), (0, .ref (XB S + 130)), (1, .int x1)]) C rfl rfl (Nat.le_of_ble_eq_true rfl) dX7_ticks_54 ?_
        refine v_loc [2, 3, 1, 0] rfl ?_
        obtain ⟨k6, h⟩ := h
        exact tl_X7_ticks_55 l S R  hm C hr K   k6 (x1) ((M5 131 7)) ((0 : Int32)) M5 h
      · replace h := h.2 c4
        refine v_bipush C kb_m3 dX7_ticks_38 ?_
        exact v_iret C hr dX7_ticks_40 h
    · replace h := h.2 c3
      refine v_bipush C kb_m2 dX7_ticks_21 ?_
      exact v_iret C hr dX7_ticks_23 h
  · replace h := h.2 c2
    refine v_iconst C kc_m1 dX7_ticks_10 ?_
    exact v_iret C hr dX7_ticks_11 h
abbrev rmX7_isLater : Room := { frames := 1, cells := 0, slots := 0, locals := 22 }
def wp_X7_isLater (x1 : Int32) (M : Mem) (K : Int32 → Mem → Prop) : Prop := wp_X7_in (x1) ((1 : Int32)) (((M 130 10) - (1 : Int32))) M (fun r1 M1 => (isB r1 ∧ K r1 M1))
set_option maxRecDepth 20000 in
theorem con_X7_isLater (l : Launch) (S : XS) (R : Rfs) (x1 : Int32) (hm : isMod R) (M : Mem) (K : Int32 → Mem → Prop) (h : wp_X7_isLater x1 M K) : CI l yX7_isLater cX7_isLater 2 (some .boolean) rmX7_isLater S 148 R [.ref (XB S + 130), .int x1] M K := by
  refine conI (lv := [(0, .ref (XB S + 130)), (1, .int x1)]) (by decide) (Nat.le_of_ble_eq_true rfl) rfl ?_
  intro p e s m args below meth c C hr
  replace C : Cx p m meth c s args cX7_isLater RX7 2 S := C
  refine v_iloadn C 1 rfl rfl dX7_isLater_0 ?_
  refine v_iconst C kc_1 dX7_isLater_1 ?_
  refine v_aloadn C 0 rfl rfl dX7_isLater_2 ?_
  refine v_geti C fr_X7_75 sh_130 (Nat.le_of_ble_eq_true rfl) rfl dX7_isLater_3 ?_
  refine v_iconst C kc_1 dX7_isLater_6 ?_
  refine v_isub C dX7_isLater_7 ?_
  refine v_csI (As := [.int x1, .int (1 : Int32), .int ((M 130 10) - (1 : Int32))]) C ms_X7_96 (con_X7_in l S 148 R (x1) ((1 : Int32)) (((M 130 10) - (1 : Int32)))  _ _ h) rfl ⟨(Nat.le_of_ble_eq_true rfl), (Nat.le_of_ble_eq_true rfl)⟩ ⟨rfl, rfl, Nat.zero_le _, Nat.zero_le _⟩ (Nat.le_of_ble_eq_true rfl) dX7_isLater_8 (fun r1 M1 h => ?_)
  exact v_zret C h.1 hr dX7_isLater_11 h.2
abbrev rmX7_drifts : Room := { frames := 2, cells := 0, slots := 0, locals := 43 }
def wp_X7_drifts (x1 : Int32) (x2 : Int32) (M : Mem) (K : Int32 → Mem → Prop) : Prop := wp_X7_isLater (x1) M (fun r1 M1 => (r1 = 0 → K (-1 : Int32) M1) ∧ (¬ r1 = 0 → wp_X7_in (x2) ((-20 : Int32)) ((20 : Int32)) M1 (fun r3 M3 => (¬ r3 = 0 → vp_in ((10 : Int32) + x1) 349 ∧ ((¬ (M3 131 (ix ((10 : Int32) + x1))) = x2 → wp_X7_remembers M3 (fun M6 => vp_in ((10 : Int32) + x1) 349 ∧ (∀ M7 : Mem, M7 = mw M6 131 (ix ((10 : Int32) + x1)) x2 → K (1 : Int32) M7))) ∧ ((M3 131 (ix ((10 : Int32) + x1))) = x2 → K (-2 : Int32) M3))) ∧ (r3 = 0 → K (-1 : Int32) M3))))
set_option maxRecDepth 20000 in
theorem con_X7_drifts (l : Launch) (S : XS) (R : Rfs) (x1 : Int32) (x2 : Int32) (hm : isMod R) (M : Mem) (K : Int32 → Mem → Prop) (h : wp_X7_drifts x1 x2 M K) : CI l yX7_drifts cX7_drifts 3 (some .int) rmX7_drifts S 148 R [.ref (XB S + 130), .int x1, .int x2] M K := by
  refine conI (lv := [(0, .ref (XB S + 130)), (1, .int x1), (2, .int x2)]) (by decide) (Nat.le_of_ble_eq_true rfl) rfl ?_
  intro p e s m args below meth c C hr
  replace C : Cx p m meth c s args cX7_drifts RX7 3 S := C
  refine v_aloadn C 0 rfl rfl dX7_drifts_0 ?_
  refine v_iloadn C 1 rfl rfl dX7_drifts_1 ?_
  refine v_cvI (As := [.int x1]) C mv_X7_187 (con_X7_isLater l S R (x1) hm _ _ h) sh_130 (Nat.le_of_ble_eq_true rfl) rfl ⟨(Nat.le_of_ble_eq_true rfl), (Nat.le_of_ble_eq_true rfl)⟩ ⟨rfl, rfl, Nat.zero_le _, Nat.zero_le _⟩ (Nat.le_of_ble_eq_true rfl) dX7_drifts_2 (fun r1 M1 h => ?_)
  refine v_if_eq C 19 (by decide) dX7_drifts_5 (fun c2 => ?_) (fun c2 => ?_)
  · replace h := h.1 c2
    refine v_iconst C kc_m1 dX7_drifts_19 ?_
    exact v_iret C hr dX7_drifts_20 h
  · replace h := h.2 c2
    refine v_iloadn C 2 rfl rfl dX7_drifts_8 ?_
    refine v_bipush C kb_m20 dX7_drifts_9 ?_
    refine v_bipush C kb_20 dX7_drifts_11 ?_
    refine v_csI (As := [.int x2, .int (-20 : Int32), .int (20 : Int32)]) C ms_X7_96 (con_X7_in l S 148 R (x2) ((-20 : Int32)) ((20 : Int32))  _ _ h) rfl ⟨(Nat.le_of_ble_eq_true rfl), (Nat.le_of_ble_eq_true rfl)⟩ ⟨rfl, rfl, Nat.zero_le _, Nat.zero_le _⟩ (Nat.le_of_ble_eq_true rfl) dX7_drifts_13 (fun r3 M3 h => ?_)
    refine v_if_ne C 21 (by decide) dX7_drifts_16 (fun c4 => ?_) (fun c4 => ?_)
    · replace h := h.1 c4
      refine v_aloadn C 0 rfl rfl dX7_drifts_21 ?_
      refine v_getr (o' := 131) C fr_X7_7 sh_130 (Nat.le_of_ble_eq_true rfl) rfl (iMod_r0 hm) dX7_drifts_22 ?_
      refine v_bipush C kb_10 dX7_drifts_25 ?_
      refine v_iloadn C 1 rfl rfl dX7_drifts_27 ?_
      refine v_iadd C dX7_drifts_28 ?_
      refine v_ald C sh_131 (Nat.le_of_ble_eq_true rfl) h.1 dX7_drifts_29 ?_
      replace h := h.2
      refine v_iloadn C 2 rfl rfl dX7_drifts_30 ?_
      refine v_icmp_ne C 37 (by decide) dX7_drifts_31 (fun c5 => ?_) (fun c5 => ?_)
      · replace h := h.1 c5
        refine v_aloadn C 0 rfl rfl dX7_drifts_37 ?_
        refine v_cvV (As := []) C mv_X7_181 (con_X7_remembers l S R  hm _ _ h) sh_130 (Nat.le_of_ble_eq_true rfl) rfl ⟨(Nat.le_of_ble_eq_true rfl), (Nat.le_of_ble_eq_true rfl)⟩ ⟨rfl, rfl, Nat.zero_le _, Nat.zero_le _⟩ (Nat.le_of_ble_eq_true rfl) dX7_drifts_38 (fun M6 h => ?_)
        refine v_aloadn C 0 rfl rfl dX7_drifts_41 ?_
        refine v_getr (o' := 131) C fr_X7_7 sh_130 (Nat.le_of_ble_eq_true rfl) rfl (iMod_r0 hm) dX7_drifts_42 ?_
        refine v_bipush C kb_10 dX7_drifts_45 ?_
        refine v_iloadn C 1 rfl rfl dX7_drifts_47 ?_
        refine v_iadd C dX7_drifts_48 ?_
        refine v_iloadn C 2 rfl rfl dX7_drifts_49 ?_
        have hi7 := h.1
        replace h := h.2
        refine v_ast C sh_131 (Nat.le_of_ble_eq_true rfl) hi7 dX7_drifts_50 (fun M7 e7 => ?_)
        replace h := h M7 e7
        refine v_iconst C kc_1 dX7_drifts_51 ?_
        exact v_iret C hr dX7_drifts_52 h
      · replace h := h.2 c5
        refine v_bipush C kb_m2 dX7_drifts_34 ?_
        exact v_iret C hr dX7_drifts_36 h
    · replace h := h.2 c4
      refine v_iconst C kc_m1 dX7_drifts_19 ?_
      exact v_iret C hr dX7_drifts_20 h
abbrev rmX7_corrects : Room := { frames := 2, cells := 0, slots := 0, locals := 43 }
def wp_X7_corrects (x1 : Int32) (x2 : Int32) (M : Mem) (K : Int32 → Mem → Prop) : Prop := wp_X7_isLater (x1) M (fun r1 M1 => (r1 = 0 → K (-1 : Int32) M1) ∧ (¬ r1 = 0 → wp_X7_in (x2) ((-20 : Int32)) ((20 : Int32)) M1 (fun r3 M3 => (r3 = 0 → K (-1 : Int32) M3) ∧ (¬ r3 = 0 → (¬ x2 = 0 → wp_X7_remembers M3 (fun M6 => wp_X7_correctedBy (x1) (x2) M6 (fun M7 => vp_in ((18 : Int32) + x1) 349 ∧ (K (M7 131 (ix ((18 : Int32) + x1))) M7)))) ∧ (x2 = 0 → K (-1 : Int32) M3)))))
set_option maxRecDepth 20000 in
theorem con_X7_corrects (l : Launch) (S : XS) (R : Rfs) (x1 : Int32) (x2 : Int32) (hm : isMod R) (M : Mem) (K : Int32 → Mem → Prop) (h : wp_X7_corrects x1 x2 M K) : CI l yX7_corrects cX7_corrects 3 (some .int) rmX7_corrects S 148 R [.ref (XB S + 130), .int x1, .int x2] M K := by
  refine conI (lv := [(0, .ref (XB S + 130)), (1, .int x1), (2, .int x2)]) (by decide) (Nat.le_of_ble_eq_true rfl) rfl ?_
  intro p e s m args below meth c C hr
  replace C : Cx p m meth c s args cX7_corrects RX7 3 S := C
  refine v_aloadn C 0 rfl rfl dX7_corrects_0 ?_
  refine v_iloadn C 1 rfl rfl dX7_corrects_1 ?_
  refine v_cvI (As := [.int x1]) C mv_X7_187 (con_X7_isLater l S R (x1) hm _ _ h) sh_130 (Nat.le_of_ble_eq_true rfl) rfl ⟨(Nat.le_of_ble_eq_true rfl), (Nat.le_of_ble_eq_true rfl)⟩ ⟨rfl, rfl, Nat.zero_le _, Nat.zero_le _⟩ (Nat.le_of_ble_eq_true rfl) dX7_corrects_2 (fun r1 M1 h => ?_)
  refine v_if_eq C 23 (by decide) dX7_corrects_5 (fun c2 => ?_) (fun c2 => ?_)
  · replace h := h.1 c2
    refine v_iconst C kc_m1 dX7_corrects_23 ?_
    exact v_iret C hr dX7_corrects_24 h
  · replace h := h.2 c2
    refine v_iloadn C 2 rfl rfl dX7_corrects_8 ?_
    refine v_bipush C kb_m20 dX7_corrects_9 ?_
    refine v_bipush C kb_20 dX7_corrects_11 ?_
    refine v_csI (As := [.int x2, .int (-20 : Int32), .int (20 : Int32)]) C ms_X7_96 (con_X7_in l S 148 R (x2) ((-20 : Int32)) ((20 : Int32))  _ _ h) rfl ⟨(Nat.le_of_ble_eq_true rfl), (Nat.le_of_ble_eq_true rfl)⟩ ⟨rfl, rfl, Nat.zero_le _, Nat.zero_le _⟩ (Nat.le_of_ble_eq_true rfl) dX7_corrects_13 (fun r3 M3 h => ?_)
    refine v_if_eq C 23 (by decide) dX7_corrects_16 (fun c4 => ?_) (fun c4 => ?_)
    · replace h := h.1 c4
      refine v_iconst C kc_m1 dX7_corrects_23 ?_
      exact v_iret C hr dX7_corrects_24 h
    · replace h := h.2 c4
      refine v_iloadn C 2 rfl rfl dX7_corrects_19 ?_
      refine v_if_ne C 25 (by decide) dX7_corrects_20 (fun c5 => ?_) (fun c5 => ?_)
      · replace h := h.1 c5
        refine v_aloadn C 0 rfl rfl dX7_corrects_25 ?_
        refine v_cvV (As := []) C mv_X7_181 (con_X7_remembers l S R  hm _ _ h) sh_130 (Nat.le_of_ble_eq_true rfl) rfl ⟨(Nat.le_of_ble_eq_true rfl), (Nat.le_of_ble_eq_true rfl)⟩ ⟨rfl, rfl, Nat.zero_le _, Nat.zero_le _⟩ (Nat.le_of_ble_eq_true rfl) dX7_corrects_26 (fun M6 h => ?_)
        refine v_aloadn C 0 rfl rfl dX7_corrects_29 ?_
        refine v_iloadn C 1 rfl rfl dX7_corrects_30 ?_
        refine v_iloadn C 2 rfl rfl dX7_corrects_31 ?_
        refine v_cvV (As := [.int x1, .int x2]) C mv_X7_154 (con_X7_correctedBy l S R (x1) (x2) hm _ _ h) sh_130 (Nat.le_of_ble_eq_true rfl) rfl ⟨(Nat.le_of_ble_eq_true rfl), (Nat.le_of_ble_eq_true rfl)⟩ ⟨rfl, rfl, Nat.zero_le _, Nat.zero_le _⟩ (Nat.le_of_ble_eq_true rfl) dX7_corrects_32 (fun M7 h => ?_)
        refine v_aloadn C 0 rfl rfl dX7_corrects_35 ?_
        refine v_getr (o' := 131) C fr_X7_7 sh_130 (Nat.le_of_ble_eq_true rfl) rfl (iMod_r0 hm) dX7_corrects_36 ?_
        refine v_bipush C kb_18 dX7_corrects_39 ?_
        refine v_iloadn C 1 rfl rfl dX7_corrects_41 ?_
        refine v_iadd C dX7_corrects_42 ?_
        refine v_ald C sh_131 (Nat.le_of_ble_eq_true rfl) h.1 dX7_corrects_43 ?_
        replace h := h.2
        exact v_iret C hr dX7_corrects_44 h
      · replace h := h.2 c5
        refine v_iconst C kc_m1 dX7_corrects_23 ?_
        exact v_iret C hr dX7_corrects_24 h
abbrev rmX7_spins : Room := { frames := 1, cells := 0, slots := 0, locals := 21 }
def wp_X7_spins (M : Mem) (K : Int32 → Mem → Prop) : Prop := ((M 131 0) = 0 → K (-2 : Int32) M) ∧ (¬ (M 131 0) = 0 → wp_X7_nextReel M (fun r2 M2 => (r2 = (-9 : Int32) → K (-2 : Int32) M2) ∧ (¬ r2 = (-9 : Int32) → ((M2 131 3) ≤ 0 → wp_X7_remembers M2 (fun M5 => (∀ M6 : Mem, M6 = mw M5 131 3 (1 : Int32) → wp_X7_nextReel M6 (fun r7 M7 => K r7 M7)))) ∧ (¬ (M2 131 3) ≤ 0 → K (-2 : Int32) M2))))
set_option maxRecDepth 20000 in
theorem con_X7_spins (l : Launch) (S : XS) (R : Rfs)  (hm : isMod R) (M : Mem) (K : Int32 → Mem → Prop) (h : wp_X7_spins  M K) : CI l yX7_spins cX7_spins 1 (some .int) rmX7_spins S 148 R [.ref (XB S + 130)] M K := by
  refine conI (lv := [(0, .ref (XB S + 130))]) (by decide) (Nat.le_of_ble_eq_true rfl) rfl ?_
  intro p e s m args below meth c C hr
  replace C : Cx p m meth c s args cX7_spins RX7 1 S := C
  refine v_aloadn C 0 rfl rfl dX7_spins_0 ?_
  refine v_getr (o' := 131) C fr_X7_7 sh_130 (Nat.le_of_ble_eq_true rfl) rfl (iMod_r0 hm) dX7_spins_1 ?_
  refine v_iconst C kc_0 dX7_spins_4 ?_
  refine v_aldk C sh_131 (Nat.le_of_ble_eq_true rfl) lit_0 (Nat.le_of_ble_eq_true rfl) dX7_spins_5 ?_
  refine v_if_eq C 27 (by decide) dX7_spins_6 (fun c1 => ?_) (fun c1 => ?_)
  · replace h := h.1 c1
    refine v_bipush C kb_m2 dX7_spins_27 ?_
    exact v_iret C hr dX7_spins_29 h
  · replace h := h.2 c1
    refine v_aloadn C 0 rfl rfl dX7_spins_9 ?_
    refine v_cvI (As := []) C mv_X7_158 (con_X7_nextReel l S R  hm _ _ h) sh_130 (Nat.le_of_ble_eq_true rfl) rfl ⟨(Nat.le_of_ble_eq_true rfl), (Nat.le_of_ble_eq_true rfl)⟩ ⟨rfl, rfl, Nat.zero_le _, Nat.zero_le _⟩ (Nat.le_of_ble_eq_true rfl) dX7_spins_10 (fun r2 M2 h => ?_)
    refine v_bipush C kb_m9 dX7_spins_13 ?_
    refine v_icmp_eq C 27 (by decide) dX7_spins_15 (fun c3 => ?_) (fun c3 => ?_)
    · replace h := h.1 c3
      refine v_bipush C kb_m2 dX7_spins_27 ?_
      exact v_iret C hr dX7_spins_29 h
    · replace h := h.2 c3
      refine v_aloadn C 0 rfl rfl dX7_spins_18 ?_
      refine v_getr (o' := 131) C fr_X7_7 sh_130 (Nat.le_of_ble_eq_true rfl) rfl (iMod_r0 hm) dX7_spins_19 ?_
      refine v_iconst C kc_3 dX7_spins_22 ?_
      refine v_aldk C sh_131 (Nat.le_of_ble_eq_true rfl) lit_3 (Nat.le_of_ble_eq_true rfl) dX7_spins_23 ?_
      refine v_if_le C 30 (by decide) dX7_spins_24 (fun c4 => ?_) (fun c4 => ?_)
      · replace h := h.1 c4
        refine v_aloadn C 0 rfl rfl dX7_spins_30 ?_
        refine v_cvV (As := []) C mv_X7_181 (con_X7_remembers l S R  hm _ _ h) sh_130 (Nat.le_of_ble_eq_true rfl) rfl ⟨(Nat.le_of_ble_eq_true rfl), (Nat.le_of_ble_eq_true rfl)⟩ ⟨rfl, rfl, Nat.zero_le _, Nat.zero_le _⟩ (Nat.le_of_ble_eq_true rfl) dX7_spins_31 (fun M5 h => ?_)
        refine v_aloadn C 0 rfl rfl dX7_spins_34 ?_
        refine v_getr (o' := 131) C fr_X7_7 sh_130 (Nat.le_of_ble_eq_true rfl) rfl (iMod_r0 hm) dX7_spins_35 ?_
        refine v_iconst C kc_3 dX7_spins_38 ?_
        refine v_iconst C kc_1 dX7_spins_39 ?_
        refine v_astk C sh_131 (Nat.le_of_ble_eq_true rfl) lit_3 (Nat.le_of_ble_eq_true rfl) dX7_spins_40 (fun M6 e6 => ?_)
        replace h := h M6 e6
        refine v_aloadn C 0 rfl rfl dX7_spins_41 ?_
        refine v_cvI (As := []) C mv_X7_158 (con_X7_nextReel l S R  hm _ _ h) sh_130 (Nat.le_of_ble_eq_true rfl) rfl ⟨(Nat.le_of_ble_eq_true rfl), (Nat.le_of_ble_eq_true rfl)⟩ ⟨rfl, rfl, Nat.zero_le _, Nat.zero_le _⟩ (Nat.le_of_ble_eq_true rfl) dX7_spins_42 (fun r7 M7 h => ?_)
        exact v_iret C hr dX7_spins_45 h
      · replace h := h.2 c4
        refine v_bipush C kb_m2 dX7_spins_27 ?_
        exact v_iret C hr dX7_spins_29 h
abbrev rmX7_starts : Room := { frames := 1, cells := 0, slots := 0, locals := 21 }
def L_X7_starts_39   (K : Int32 → Mem → Prop) : Nat → Int32 → Mem → Prop
  | 0, _, _ => False
  | k + 1, x1, M => ((4 : Int32) ≤ x1 → K (M 131 1) M) ∧ (¬ (4 : Int32) ≤ x1 → vp_in ((18 : Int32) + x1) 349 ∧ (∀ M9 : Mem, M9 = mw M 131 (ix ((18 : Int32) + x1)) (0 : Int32) → L_X7_starts_39  K k (x1 + (1 : Int32)) M9))
def wp_X7_starts (M : Mem) (K : Int32 → Mem → Prop) : Prop := ((M 131 0) = (1 : Int32) → K (-2 : Int32) M) ∧ (¬ (M 131 0) = (1 : Int32) → wp_X7_nextReel M (fun r2 M2 => (¬ r2 = (-9 : Int32) → wp_X7_remembers M2 (fun M4 => wp_X7_goesOnReel M4 (fun M5 => (∀ M6 : Mem, M6 = mw M5 131 0 (1 : Int32) → ∃ j7 : Nat, L_X7_starts_39  K j7 ((0 : Int32)) M6)))) ∧ (r2 = (-9 : Int32) → K (-2 : Int32) M2)))
set_option maxRecDepth 20000 in
theorem tl_X7_starts_39 {p : Program} {e : Env} {s : State} {m : MethodId} {args : Array Value} {below : List Frame} {meth : Method} {c : Code} (l : Launch) (S : XS) (R : Rfs)  (hm : isMod R) (C : Cx p m meth c s args cX7_starts RX7 2 S) (hr : meth.sig.returnType = (some .int)) (K : Int32 → Mem → Prop)   (k : Nat) : ∀ (x1 : Int32) (M : Mem), L_X7_starts_39   K k x1 M → V p l e rmX7_starts s m args below meth c (MQ below (va_Qi K (XPost S 148 R) (XA S)) args s 0 0 (XA S)) S 2 0 0 148 M R 39 [(0, .ref (XB S + 130)), (1, .int x1)] [] := by
  induction k with
  | zero => intro x1 M h; exact h.elim
  | succ k ih =>
    intro x1 M h
    refine v_iloadn C 1 rfl rfl dX7_starts_39 ?_
    refine v_iconst C kc_4 dX7_starts_40 ?_
    refine v_icmp_ge C 60 (by decide) dX7_starts_41 (fun c8 => ?_) (fun c8 => ?_)
    · replace h := h.1 c8
      refine v_aloadn C 0 rfl rfl dX7_starts_60 ?_
      refine v_getr (o' := 131) C fr_X7_7 sh_130 (Nat.le_of_ble_eq_true rfl) rfl (iMod_r0 hm) dX7_starts_61 ?_
      refine v_iconst C kc_1 dX7_starts_64 ?_
      refine v_aldk C sh_131 (Nat.le_of_ble_eq_true rfl) lit_1 (Nat.le_of_ble_eq_true rfl) dX7_starts_65 ?_
      exact v_iret C hr dX7_starts_66 h
    · replace h := h.2 c8
      refine v_aloadn C 0 rfl rfl dX7_starts_44 ?_
      refine v_getr (o' := 131) C fr_X7_7 sh_130 (Nat.le_of_ble_eq_true rfl) rfl (iMod_r0 hm) dX7_starts_45 ?_
      refine v_bipush C kb_18 dX7_starts_48 ?_
      refine v_iloadn C 1 rfl rfl dX7_starts_50 ?_
      refine v_iadd C dX7_starts_51 ?_
      refine v_iconst C kc_0 dX7_starts_52 ?_
      have hi9 := h.1
      replace h := h.2
      refine v_ast C sh_131 (Nat.le_of_ble_eq_true rfl) hi9 dX7_starts_53 (fun M9 e9 => ?_)
      replace h := h M9 e9
      refine v_iinc (lv' := [(1, .int (x1 + (1 : Int32))), (0, .ref (XB S + 130))]) C 1 rfl kc_1 rfl rfl (Nat.le_of_ble_eq_true rfl) dX7_starts_54 ?_
      refine v_goto C 39 (by decide) dX7_starts_57 ?_
      refine v_loc [1, 0] rfl ?_
      exact ih ((x1 + (1 : Int32))) M9 h
set_option maxRecDepth 20000 in
theorem con_X7_starts (l : Launch) (S : XS) (R : Rfs)  (hm : isMod R) (M : Mem) (K : Int32 → Mem → Prop) (h : wp_X7_starts  M K) : CI l yX7_starts cX7_starts 2 (some .int) rmX7_starts S 148 R [.ref (XB S + 130)] M K := by
  refine conI (lv := [(0, .ref (XB S + 130))]) (by decide) (Nat.le_of_ble_eq_true rfl) rfl ?_
  intro p e s m args below meth c C hr
  replace C : Cx p m meth c s args cX7_starts RX7 2 S := C
  refine v_aloadn C 0 rfl rfl dX7_starts_0 ?_
  refine v_getr (o' := 131) C fr_X7_7 sh_130 (Nat.le_of_ble_eq_true rfl) rfl (iMod_r0 hm) dX7_starts_1 ?_
  refine v_iconst C kc_0 dX7_starts_4 ?_
  refine v_aldk C sh_131 (Nat.le_of_ble_eq_true rfl) lit_0 (Nat.le_of_ble_eq_true rfl) dX7_starts_5 ?_
  refine v_iconst C kc_1 dX7_starts_6 ?_
  refine v_icmp_eq C 19 (by decide) dX7_starts_7 (fun c1 => ?_) (fun c1 => ?_)
  · replace h := h.1 c1
    refine v_bipush C kb_m2 dX7_starts_19 ?_
    exact v_iret C hr dX7_starts_21 h
  · replace h := h.2 c1
    refine v_aloadn C 0 rfl rfl dX7_starts_10 ?_
    refine v_cvI (As := []) C mv_X7_158 (con_X7_nextReel l S R  hm _ _ h) sh_130 (Nat.le_of_ble_eq_true rfl) rfl ⟨(Nat.le_of_ble_eq_true rfl), (Nat.le_of_ble_eq_true rfl)⟩ ⟨rfl, rfl, Nat.zero_le _, Nat.zero_le _⟩ (Nat.le_of_ble_eq_true rfl) dX7_starts_11 (fun r2 M2 h => ?_)
    refine v_bipush C kb_m9 dX7_starts_14 ?_
    refine v_icmp_ne C 22 (by decide) dX7_starts_16 (fun c3 => ?_) (fun c3 => ?_)
    · replace h := h.1 c3
      refine v_aloadn C 0 rfl rfl dX7_starts_22 ?_
      refine v_cvV (As := []) C mv_X7_181 (con_X7_remembers l S R  hm _ _ h) sh_130 (Nat.le_of_ble_eq_true rfl) rfl ⟨(Nat.le_of_ble_eq_true rfl), (Nat.le_of_ble_eq_true rfl)⟩ ⟨rfl, rfl, Nat.zero_le _, Nat.zero_le _⟩ (Nat.le_of_ble_eq_true rfl) dX7_starts_23 (fun M4 h => ?_)
      refine v_aloadn C 0 rfl rfl dX7_starts_26 ?_
      refine v_cvV (As := []) C mv_X7_164 (con_X7_goesOnReel l S R  hm _ _ h) sh_130 (Nat.le_of_ble_eq_true rfl) rfl ⟨(Nat.le_of_ble_eq_true rfl), (Nat.le_of_ble_eq_true rfl)⟩ ⟨rfl, rfl, Nat.zero_le _, Nat.zero_le _⟩ (Nat.le_of_ble_eq_true rfl) dX7_starts_27 (fun M5 h => ?_)
      refine v_aloadn C 0 rfl rfl dX7_starts_30 ?_
      refine v_getr (o' := 131) C fr_X7_7 sh_130 (Nat.le_of_ble_eq_true rfl) rfl (iMod_r0 hm) dX7_starts_31 ?_
      refine v_iconst C kc_0 dX7_starts_34 ?_
      refine v_iconst C kc_1 dX7_starts_35 ?_
      refine v_astk C sh_131 (Nat.le_of_ble_eq_true rfl) lit_0 (Nat.le_of_ble_eq_true rfl) dX7_starts_36 (fun M6 e6 => ?_)
      replace h := h M6 e6
      refine v_iconst C kc_0 dX7_starts_37 ?_
      refine v_istoren (lv' := [(1, .int (0 : Int32)), (0, .ref (XB S + 130))]) C rfl rfl (Nat.le_of_ble_eq_true rfl) dX7_starts_38 ?_
      refine v_loc [1, 0] rfl ?_
      obtain ⟨k7, h⟩ := h
      exact tl_X7_starts_39 l S R  hm C hr K   k7 ((0 : Int32)) M6 h
    · replace h := h.2 c3
      refine v_bipush C kb_m2 dX7_starts_19 ?_
      exact v_iret C hr dX7_starts_21 h
abbrev rmX7_aheads : Room := { frames := 1, cells := 0, slots := 0, locals := 22 }
def wp_X7_aheads (x1 : Int32) (M : Mem) (K : Int32 → Mem → Prop) : Prop := wp_X7_in (x1) ((0 : Int32)) ((1 : Int32)) M (fun r1 M1 => (¬ r1 = 0 → (¬ (M1 131 4) = x1 → wp_X7_remembers M1 (fun M4 => (∀ M5 : Mem, M5 = mw M4 131 4 x1 → K (1 : Int32) M5))) ∧ ((M1 131 4) = x1 → K (-2 : Int32) M1)) ∧ (r1 = 0 → K (-1 : Int32) M1))
set_option maxRecDepth 20000 in
theorem con_X7_aheads (l : Launch) (S : XS) (R : Rfs) (x1 : Int32) (hm : isMod R) (M : Mem) (K : Int32 → Mem → Prop) (h : wp_X7_aheads x1 M K) : CI l yX7_aheads cX7_aheads 2 (some .int) rmX7_aheads S 148 R [.ref (XB S + 130), .int x1] M K := by
  refine conI (lv := [(0, .ref (XB S + 130)), (1, .int x1)]) (by decide) (Nat.le_of_ble_eq_true rfl) rfl ?_
  intro p e s m args below meth c C hr
  replace C : Cx p m meth c s args cX7_aheads RX7 2 S := C
  refine v_iloadn C 1 rfl rfl dX7_aheads_0 ?_
  refine v_iconst C kc_0 dX7_aheads_1 ?_
  refine v_iconst C kc_1 dX7_aheads_2 ?_
  refine v_csI (As := [.int x1, .int (0 : Int32), .int (1 : Int32)]) C ms_X7_96 (con_X7_in l S 148 R (x1) ((0 : Int32)) ((1 : Int32))  _ _ h) rfl ⟨(Nat.le_of_ble_eq_true rfl), (Nat.le_of_ble_eq_true rfl)⟩ ⟨rfl, rfl, Nat.zero_le _, Nat.zero_le _⟩ (Nat.le_of_ble_eq_true rfl) dX7_aheads_3 (fun r1 M1 h => ?_)
  refine v_if_ne C 11 (by decide) dX7_aheads_6 (fun c2 => ?_) (fun c2 => ?_)
  · replace h := h.1 c2
    refine v_aloadn C 0 rfl rfl dX7_aheads_11 ?_
    refine v_getr (o' := 131) C fr_X7_7 sh_130 (Nat.le_of_ble_eq_true rfl) rfl (iMod_r0 hm) dX7_aheads_12 ?_
    refine v_iconst C kc_4 dX7_aheads_15 ?_
    refine v_aldk C sh_131 (Nat.le_of_ble_eq_true rfl) lit_4 (Nat.le_of_ble_eq_true rfl) dX7_aheads_16 ?_
    refine v_iloadn C 1 rfl rfl dX7_aheads_17 ?_
    refine v_icmp_ne C 24 (by decide) dX7_aheads_18 (fun c3 => ?_) (fun c3 => ?_)
    · replace h := h.1 c3
      refine v_aloadn C 0 rfl rfl dX7_aheads_24 ?_
      refine v_cvV (As := []) C mv_X7_181 (con_X7_remembers l S R  hm _ _ h) sh_130 (Nat.le_of_ble_eq_true rfl) rfl ⟨(Nat.le_of_ble_eq_true rfl), (Nat.le_of_ble_eq_true rfl)⟩ ⟨rfl, rfl, Nat.zero_le _, Nat.zero_le _⟩ (Nat.le_of_ble_eq_true rfl) dX7_aheads_25 (fun M4 h => ?_)
      refine v_aloadn C 0 rfl rfl dX7_aheads_28 ?_
      refine v_getr (o' := 131) C fr_X7_7 sh_130 (Nat.le_of_ble_eq_true rfl) rfl (iMod_r0 hm) dX7_aheads_29 ?_
      refine v_iconst C kc_4 dX7_aheads_32 ?_
      refine v_iloadn C 1 rfl rfl dX7_aheads_33 ?_
      refine v_astk C sh_131 (Nat.le_of_ble_eq_true rfl) lit_4 (Nat.le_of_ble_eq_true rfl) dX7_aheads_34 (fun M5 e5 => ?_)
      replace h := h M5 e5
      refine v_iconst C kc_1 dX7_aheads_35 ?_
      exact v_iret C hr dX7_aheads_36 h
    · replace h := h.2 c3
      refine v_bipush C kb_m2 dX7_aheads_21 ?_
      exact v_iret C hr dX7_aheads_23 h
  · replace h := h.2 c2
    refine v_iconst C kc_m1 dX7_aheads_9 ?_
    exact v_iret C hr dX7_aheads_10 h
abbrev rmX7_passedTo : Room := { frames := 0, cells := 0, slots := 0, locals := 0 }
def L_X7_passedTo_4   (K : Int32 → Mem → Prop) : Nat → Int32 → Int32 → Int32 → Mem → Prop
  | 0, _, _, _, _ => False
  | k + 1, x1, x2, x3, M => ((8 : Int32) ≤ x3 → K x2 M) ∧ (¬ (8 : Int32) ≤ x3 → vp_in (((22 : Int32) + ((8 : Int32) * x1)) + x3) 349 ∧ (L_X7_passedTo_4  K k x1 (x2 + (M 131 (ix (((22 : Int32) + ((8 : Int32) * x1)) + x3)))) (x3 + (1 : Int32)) M))
def wp_X7_passedTo (x1 : Int32) (M : Mem) (K : Int32 → Mem → Prop) : Prop := ∃ j1 : Nat, L_X7_passedTo_4  K j1 (x1) ((0 : Int32)) ((0 : Int32)) M
set_option maxRecDepth 20000 in
theorem tl_X7_passedTo_4 {p : Program} {e : Env} {s : State} {m : MethodId} {args : Array Value} {below : List Frame} {meth : Method} {c : Code} (l : Launch) (S : XS) (R : Rfs)  (hm : isMod R) (C : Cx p m meth c s args cX7_passedTo RX7 4 S) (hr : meth.sig.returnType = (some .int)) (K : Int32 → Mem → Prop)   (k : Nat) : ∀ (x1 x2 x3 : Int32) (M : Mem), L_X7_passedTo_4   K k x1 x2 x3 M → V p l e rmX7_passedTo s m args below meth c (MQ below (va_Qi K (XPost S 148 R) (XA S)) args s 0 0 (XA S)) S 4 0 0 148 M R 4 [(0, .ref (XB S + 130)), (1, .int x1), (2, .int x2), (3, .int x3)] [] := by
  induction k with
  | zero => intro x1 x2 x3 M h; exact h.elim
  | succ k ih =>
    intro x1 x2 x3 M h
    refine v_iloadn C 3 rfl rfl dX7_passedTo_4 ?_
    refine v_bipush C kb_8 dX7_passedTo_5 ?_
    refine v_icmp_ge C 33 (by decide) dX7_passedTo_7 (fun c2 => ?_) (fun c2 => ?_)
    · replace h := h.1 c2
      refine v_iloadn C 2 rfl rfl dX7_passedTo_33 ?_
      exact v_iret C hr dX7_passedTo_34 h
    · replace h := h.2 c2
      refine v_iloadn C 2 rfl rfl dX7_passedTo_10 ?_
      refine v_aloadn C 0 rfl rfl dX7_passedTo_11 ?_
      refine v_getr (o' := 131) C fr_X7_7 sh_130 (Nat.le_of_ble_eq_true rfl) rfl (iMod_r0 hm) dX7_passedTo_12 ?_
      refine v_bipush C kb_22 dX7_passedTo_15 ?_
      refine v_bipush C kb_8 dX7_passedTo_17 ?_
      refine v_iloadn C 1 rfl rfl dX7_passedTo_19 ?_
      refine v_imul C dX7_passedTo_20 ?_
      refine v_iadd C dX7_passedTo_21 ?_
      refine v_iloadn C 3 rfl rfl dX7_passedTo_22 ?_
      refine v_iadd C dX7_passedTo_23 ?_
      refine v_ald C sh_131 (Nat.le_of_ble_eq_true rfl) h.1 dX7_passedTo_24 ?_
      replace h := h.2
      refine v_iadd C dX7_passedTo_25 ?_
      refine v_istoren (lv' := [(2, .int (x2 + (M 131 (ix (((22 : Int32) + ((8 : Int32) * x1)) + x3))))), (0, .ref (XB S + 130)), (1, .int x1), (3, .int x3)]) C rfl rfl (Nat.le_of_ble_eq_true rfl) dX7_passedTo_26 ?_
      refine v_iinc (lv' := [(3, .int (x3 + (1 : Int32))), (2, .int (x2 + (M 131 (ix (((22 : Int32) + ((8 : Int32) * x1)) + x3))))), (0, .ref (XB S + 130)), (1, .int x1)]) C 3 rfl kc_1 rfl rfl (Nat.le_of_ble_eq_true rfl) dX7_passedTo_27 ?_
      refine v_goto C 4 (by decide) dX7_passedTo_30 ?_
      refine v_loc [2, 3, 1, 0] rfl ?_
      exact ih (x1) ((x2 + (M 131 (ix (((22 : Int32) + ((8 : Int32) * x1)) + x3))))) ((x3 + (1 : Int32))) M h
set_option maxRecDepth 20000 in
theorem con_X7_passedTo (l : Launch) (S : XS) (R : Rfs) (x1 : Int32) (hm : isMod R) (M : Mem) (K : Int32 → Mem → Prop) (h : wp_X7_passedTo x1 M K) : CI l yX7_passedTo cX7_passedTo 4 (some .int) rmX7_passedTo S 148 R [.ref (XB S + 130), .int x1] M K := by
  refine conI (lv := [(0, .ref (XB S + 130)), (1, .int x1)]) (by decide) (Nat.le_of_ble_eq_true rfl) rfl ?_
  intro p e s m args below meth c C hr
  replace C : Cx p m meth c s args cX7_passedTo RX7 4 S := C
  refine v_iconst C kc_0 dX7_passedTo_0 ?_
  refine v_istoren (lv' := [(2, .int (0 : Int32)), (0, .ref (XB S + 130)), (1, .int x1)]) C rfl rfl (Nat.le_of_ble_eq_true rfl) dX7_passedTo_1 ?_
  refine v_iconst C kc_0 dX7_passedTo_2 ?_
  refine v_istoren (lv' := [(3, .int (0 : Int32)), (2, .int (0 : Int32)), (0, .ref (XB S + 130)), (1, .int x1)]) C rfl rfl (Nat.le_of_ble_eq_true rfl) dX7_passedTo_3 ?_
  refine v_loc [2, 3, 1, 0] rfl ?_
  obtain ⟨k1, h⟩ := h
  exact tl_X7_passedTo_4 l S R  hm C hr K   k1 (x1) ((0 : Int32)) ((0 : Int32)) M h
abbrev rmX7_unit : Room := { frames := 1, cells := 0, slots := 0, locals := 23 }
def wp_X7_unit (x1 : Int32) (x2 : Int32) (M : Mem) (K : Int32 → Mem → Prop) : Prop := wp_X7_in (x1) ((0 : Int32)) (((M 130 10) - (1 : Int32))) M (fun r1 M1 => (r1 = 0 → K (-1000000 : Int32) M1) ∧ (¬ r1 = 0 → wp_X7_in (x2) ((0 : Int32)) ((5 : Int32)) M1 (fun r3 M3 => (¬ r3 = 0 → (x2 = (0 : Int32) → vp_in x1 4 ∧ (K (M3 138 (ix x1)) M3)) ∧ (x2 = (1 : Int32) → vp_in x1 4 ∧ (K (M3 139 (ix x1)) M3)) ∧ (x2 = (2 : Int32) → vp_in ((10 : Int32) + x1) 349 ∧ (K (M3 131 (ix ((10 : Int32) + x1))) M3)) ∧ (x2 = (3 : Int32) → vp_in ((14 : Int32) + x1) 349 ∧ (K (M3 131 (ix ((14 : Int32) + x1))) M3)) ∧ (x2 = (4 : Int32) → vp_in ((18 : Int32) + x1) 349 ∧ (K (M3 131 (ix ((18 : Int32) + x1))) M3)) ∧ (¬ x2 = (0 : Int32) → ¬ x2 = (1 : Int32) → ¬ x2 = (2 : Int32) → ¬ x2 = (3 : Int32) → ¬ x2 = (4 : Int32) → wp_X7_passedTo (x1) M3 (fun r6 M6 => K r6 M6))) ∧ (r3 = 0 → K (-1000000 : Int32) M3))))
set_option maxRecDepth 20000 in
theorem con_X7_unit (l : Launch) (S : XS) (R : Rfs) (x1 : Int32) (x2 : Int32) (hm : isMod R) (M : Mem) (K : Int32 → Mem → Prop) (h : wp_X7_unit x1 x2 M K) : CI l yX7_unit cX7_unit 3 (some .int) rmX7_unit S 148 R [.ref (XB S + 130), .int x1, .int x2] M K := by
  refine conI (lv := [(0, .ref (XB S + 130)), (1, .int x1), (2, .int x2)]) (by decide) (Nat.le_of_ble_eq_true rfl) rfl ?_
  intro p e s m args below meth c C hr
  replace C : Cx p m meth c s args cX7_unit RX7 3 S := C
  refine v_iloadn C 1 rfl rfl dX7_unit_0 ?_
  refine v_iconst C kc_0 dX7_unit_1 ?_
  refine v_aloadn C 0 rfl rfl dX7_unit_2 ?_
  refine v_geti C fr_X7_75 sh_130 (Nat.le_of_ble_eq_true rfl) rfl dX7_unit_3 ?_
  refine v_iconst C kc_1 dX7_unit_6 ?_
  refine v_isub C dX7_unit_7 ?_
  refine v_csI (As := [.int x1, .int (0 : Int32), .int ((M 130 10) - (1 : Int32))]) C ms_X7_96 (con_X7_in l S 148 R (x1) ((0 : Int32)) (((M 130 10) - (1 : Int32)))  _ _ h) rfl ⟨(Nat.le_of_ble_eq_true rfl), (Nat.le_of_ble_eq_true rfl)⟩ ⟨rfl, rfl, Nat.zero_le _, Nat.zero_le _⟩ (Nat.le_of_ble_eq_true rfl) dX7_unit_8 (fun r1 M1 h => ?_)
  refine v_if_eq C 23 (by decide) dX7_unit_11 (fun c2 => ?_) (fun c2 => ?_)
  · replace h := h.1 c2
    refine v_ldc C wx_X7_190 dX7_unit_23 ?_
    exact v_iret C hr dX7_unit_25 h
  · replace h := h.2 c2
    refine v_iloadn C 2 rfl rfl dX7_unit_14 ?_
    refine v_iconst C kc_0 dX7_unit_15 ?_
    refine v_iconst C kc_5 dX7_unit_16 ?_
    refine v_csI (As := [.int x2, .int (0 : Int32), .int (5 : Int32)]) C ms_X7_96 (con_X7_in l S 148 R (x2) ((0 : Int32)) ((5 : Int32))  _ _ h) rfl ⟨(Nat.le_of_ble_eq_true rfl), (Nat.le_of_ble_eq_true rfl)⟩ ⟨rfl, rfl, Nat.zero_le _, Nat.zero_le _⟩ (Nat.le_of_ble_eq_true rfl) dX7_unit_17 (fun r3 M3 h => ?_)
    refine v_if_ne C 26 (by decide) dX7_unit_20 (fun c4 => ?_) (fun c4 => ?_)
    · replace h := h.1 c4
      refine v_iloadn C 2 rfl rfl dX7_unit_26 ?_
      by_cases s5_0 : x2 = (0 : Int32)
      · replace h := h.1 s5_0
        refine v_tin (off := 33) C 60 0 (by rw [s5_0]; decide) (by decide) (by decide) (by decide) (by decide) dX7_unit_27 ?_
        refine v_aloadn C 0 rfl rfl dX7_unit_60 ?_
        refine v_getr (o' := 138) C fr_X7_32 sh_130 (Nat.le_of_ble_eq_true rfl) rfl (iMod_r11 hm) dX7_unit_61 ?_
        refine v_iloadn C 1 rfl rfl dX7_unit_64 ?_
        refine v_ald C sh_138 (Nat.le_of_ble_eq_true rfl) h.1 dX7_unit_65 ?_
        replace h := h.2
        exact v_iret C hr dX7_unit_66 h
      by_cases s5_1 : x2 = (1 : Int32)
      · replace h := h.2.1 s5_1
        refine v_tin (off := 40) C 67 1 (by rw [s5_1]; decide) (by decide) (by decide) (by decide) (by decide) dX7_unit_27 ?_
        refine v_aloadn C 0 rfl rfl dX7_unit_67 ?_
        refine v_getr (o' := 139) C fr_X7_35 sh_130 (Nat.le_of_ble_eq_true rfl) rfl (iMod_r12 hm) dX7_unit_68 ?_
        refine v_iloadn C 1 rfl rfl dX7_unit_71 ?_
        refine v_ald C sh_139 (Nat.le_of_ble_eq_true rfl) h.1 dX7_unit_72 ?_
        replace h := h.2
        exact v_iret C hr dX7_unit_73 h
      by_cases s5_2 : x2 = (2 : Int32)
      · replace h := h.2.2.1 s5_2
        refine v_tin (off := 47) C 74 2 (by rw [s5_2]; decide) (by decide) (by decide) (by decide) (by decide) dX7_unit_27 ?_
        refine v_aloadn C 0 rfl rfl dX7_unit_74 ?_
        refine v_getr (o' := 131) C fr_X7_7 sh_130 (Nat.le_of_ble_eq_true rfl) rfl (iMod_r0 hm) dX7_unit_75 ?_
        refine v_bipush C kb_10 dX7_unit_78 ?_
        refine v_iloadn C 1 rfl rfl dX7_unit_80 ?_
        refine v_iadd C dX7_unit_81 ?_
        refine v_ald C sh_131 (Nat.le_of_ble_eq_true rfl) h.1 dX7_unit_82 ?_
        replace h := h.2
        exact v_iret C hr dX7_unit_83 h
      by_cases s5_3 : x2 = (3 : Int32)
      · replace h := h.2.2.2.1 s5_3
        refine v_tin (off := 57) C 84 3 (by rw [s5_3]; decide) (by decide) (by decide) (by decide) (by decide) dX7_unit_27 ?_
        refine v_aloadn C 0 rfl rfl dX7_unit_84 ?_
        refine v_getr (o' := 131) C fr_X7_7 sh_130 (Nat.le_of_ble_eq_true rfl) rfl (iMod_r0 hm) dX7_unit_85 ?_
        refine v_bipush C kb_14 dX7_unit_88 ?_
        refine v_iloadn C 1 rfl rfl dX7_unit_90 ?_
        refine v_iadd C dX7_unit_91 ?_
        refine v_ald C sh_131 (Nat.le_of_ble_eq_true rfl) h.1 dX7_unit_92 ?_
        replace h := h.2
        exact v_iret C hr dX7_unit_93 h
      by_cases s5_4 : x2 = (4 : Int32)
      · replace h := h.2.2.2.2.1 s5_4
        refine v_tin (off := 67) C 94 4 (by rw [s5_4]; decide) (by decide) (by decide) (by decide) (by decide) dX7_unit_27 ?_
        refine v_aloadn C 0 rfl rfl dX7_unit_94 ?_
        refine v_getr (o' := 131) C fr_X7_7 sh_130 (Nat.le_of_ble_eq_true rfl) rfl (iMod_r0 hm) dX7_unit_95 ?_
        refine v_bipush C kb_18 dX7_unit_98 ?_
        refine v_iloadn C 1 rfl rfl dX7_unit_100 ?_
        refine v_iadd C dX7_unit_101 ?_
        refine v_ald C sh_131 (Nat.le_of_ble_eq_true rfl) h.1 dX7_unit_102 ?_
        replace h := h.2
        exact v_iret C hr dX7_unit_103 h
      replace h := h.2.2.2.2.2 s5_0 s5_1 s5_2 s5_3 s5_4
      have t5_0 := ne_ti 0 0 (by decide) s5_0
      have t5_1 := ne_ti 1 1 (by decide) s5_1
      have t5_2 := ne_ti 2 2 (by decide) s5_2
      have t5_3 := ne_ti 3 3 (by decide) s5_3
      have t5_4 := ne_ti 4 4 (by decide) s5_4
      refine v_tout C 104 (by omega) (by decide) dX7_unit_27 ?_
      refine v_aloadn C 0 rfl rfl dX7_unit_104 ?_
      refine v_iloadn C 1 rfl rfl dX7_unit_105 ?_
      refine v_cvI (As := [.int x1]) C mv_X7_191 (con_X7_passedTo l S R (x1) hm _ _ h) sh_130 (Nat.le_of_ble_eq_true rfl) rfl ⟨(Nat.le_of_ble_eq_true rfl), (Nat.le_of_ble_eq_true rfl)⟩ ⟨rfl, rfl, Nat.zero_le _, Nat.zero_le _⟩ (Nat.le_of_ble_eq_true rfl) dX7_unit_106 (fun r6 M6 h => ?_)
      exact v_iret C hr dX7_unit_109 h
    · replace h := h.2 c4
      refine v_ldc C wx_X7_190 dX7_unit_23 ?_
      exact v_iret C hr dX7_unit_25 h
abbrev rmX7_reel : Room := { frames := 1, cells := 0, slots := 0, locals := 22 }
def wp_X7_reel_52   (K : Int32 → Mem → Prop) (x1 : Int32) (M : Mem) : Prop := vp_in x1 8 ∧ (K (M 140 (ix x1)) M)
def wp_X7_reel (x1 : Int32) (x2 : Int32) (M : Mem) (K : Int32 → Mem → Prop) : Prop := wp_X7_in (x1) ((0 : Int32)) (((M 130 13) - (1 : Int32))) M (fun r1 M1 => (r1 = 0 → K (-1000000 : Int32) M1) ∧ (¬ r1 = 0 → wp_X7_in (x2) ((0 : Int32)) ((2 : Int32)) M1 (fun r3 M3 => (¬ r3 = 0 → (¬ x2 = (1 : Int32) → (x2 = 0 → wp_X7_reel_52  K (x1) M3) ∧ (¬ x2 = 0 → (x1 ≤ (M3 131 1) → (¬ x1 = (M3 131 1) → K (0 : Int32) M3) ∧ (x1 = (M3 131 1) → K (M3 131 2) M3)) ∧ (¬ x1 ≤ (M3 131 1) → wp_X7_reel_52  K (x1) M3))) ∧ (x2 = (1 : Int32) → vp_in x1 8 ∧ (K (M3 141 (ix x1)) M3))) ∧ (r3 = 0 → K (-1000000 : Int32) M3))))
set_option maxRecDepth 20000 in
theorem tb_X7_reel_52 {p : Program} {e : Env} {s : State} {m : MethodId} {args : Array Value} {below : List Frame} {meth : Method} {c : Code} (l : Launch) (S : XS) (R : Rfs)  (hm : isMod R) (C : Cx p m meth c s args cX7_reel RX7 3 S) (hr : meth.sig.returnType = (some .int)) (K : Int32 → Mem → Prop)   (x1 : Int32) (M : Mem) (h : wp_X7_reel_52   K x1 M) : V p l e rmX7_reel s m args below meth c (MQ below (va_Qi K (XPost S 148 R) (XA S)) args s 0 0 (XA S)) S 3 0 0 148 M R 52 [(0, .ref (XB S + 130)), (1, .int x1)] [] := by
  refine v_aloadn C 0 rfl rfl dX7_reel_52 ?_
  refine v_getr (o' := 140) C fr_X7_38 sh_130 (Nat.le_of_ble_eq_true rfl) rfl (iMod_r14 hm) dX7_reel_53 ?_
  refine v_iloadn C 1 rfl rfl dX7_reel_56 ?_
  refine v_ald C sh_140 (Nat.le_of_ble_eq_true rfl) h.1 dX7_reel_57 ?_
  replace h := h.2
  refine v_goto C 81 (by decide) dX7_reel_58 ?_
  exact v_iret C hr dX7_reel_81 h
set_option maxRecDepth 20000 in
theorem con_X7_reel (l : Launch) (S : XS) (R : Rfs) (x1 : Int32) (x2 : Int32) (hm : isMod R) (M : Mem) (K : Int32 → Mem → Prop) (h : wp_X7_reel x1 x2 M K) : CI l yX7_reel cX7_reel 3 (some .int) rmX7_reel S 148 R [.ref (XB S + 130), .int x1, .int x2] M K := by
  refine conI (lv := [(0, .ref (XB S + 130)), (1, .int x1), (2, .int x2)]) (by decide) (Nat.le_of_ble_eq_true rfl) rfl ?_
  intro p e s m args below meth c C hr
  replace C : Cx p m meth c s args cX7_reel RX7 3 S := C
  refine v_iloadn C 1 rfl rfl dX7_reel_0 ?_
  refine v_iconst C kc_0 dX7_reel_1 ?_
  refine v_aloadn C 0 rfl rfl dX7_reel_2 ?_
  refine v_geti C fr_X7_78 sh_130 (Nat.le_of_ble_eq_true rfl) rfl dX7_reel_3 ?_
  refine v_iconst C kc_1 dX7_reel_6 ?_
  refine v_isub C dX7_reel_7 ?_
  refine v_csI (As := [.int x1, .int (0 : Int32), .int ((M 130 13) - (1 : Int32))]) C ms_X7_96 (con_X7_in l S 148 R (x1) ((0 : Int32)) (((M 130 13) - (1 : Int32)))  _ _ h) rfl ⟨(Nat.le_of_ble_eq_true rfl), (Nat.le_of_ble_eq_true rfl)⟩ ⟨rfl, rfl, Nat.zero_le _, Nat.zero_le _⟩ (Nat.le_of_ble_eq_true rfl) dX7_reel_8 (fun r1 M1 h => ?_)
  refine v_if_eq C 23 (by decide) dX7_reel_11 (fun c2 => ?_) (fun c2 => ?_)
  · replace h := h.1 c2
    refine v_ldc C wx_X7_190 dX7_reel_23 ?_
    exact v_iret C hr dX7_reel_25 h
  · replace h := h.2 c2
    refine v_iloadn C 2 rfl rfl dX7_reel_14 ?_
    refine v_iconst C kc_0 dX7_reel_15 ?_
    refine v_iconst C kc_2 dX7_reel_16 ?_
    refine v_csI (As := [.int x2, .int (0 : Int32), .int (2 : Int32)]) C ms_X7_96 (con_X7_in l S 148 R (x2) ((0 : Int32)) ((2 : Int32))  _ _ h) rfl ⟨(Nat.le_of_ble_eq_true rfl), (Nat.le_of_ble_eq_true rfl)⟩ ⟨rfl, rfl, Nat.zero_le _, Nat.zero_le _⟩ (Nat.le_of_ble_eq_true rfl) dX7_reel_17 (fun r3 M3 h => ?_)
    refine v_if_ne C 26 (by decide) dX7_reel_20 (fun c4 => ?_) (fun c4 => ?_)
    · replace h := h.1 c4
      refine v_iloadn C 2 rfl rfl dX7_reel_26 ?_
      refine v_iconst C kc_1 dX7_reel_27 ?_
      refine v_icmp_ne C 38 (by decide) dX7_reel_28 (fun c5 => ?_) (fun c5 => ?_)
      · replace h := h.1 c5
        refine v_iloadn C 2 rfl rfl dX7_reel_38 ?_
        refine v_if_eq C 52 (by decide) dX7_reel_39 (fun c6 => ?_) (fun c6 => ?_)
        · replace h := h.1 c6
          refine v_loc [0, 1] rfl ?_
          exact tb_X7_reel_52 l S R  hm C hr K   (x1) M3 h
        · replace h := h.2 c6
          refine v_iloadn C 1 rfl rfl dX7_reel_42 ?_
          refine v_aloadn C 0 rfl rfl dX7_reel_43 ?_
          refine v_getr (o' := 131) C fr_X7_7 sh_130 (Nat.le_of_ble_eq_true rfl) rfl (iMod_r0 hm) dX7_reel_44 ?_
          refine v_iconst C kc_1 dX7_reel_47 ?_
          refine v_aldk C sh_131 (Nat.le_of_ble_eq_true rfl) lit_1 (Nat.le_of_ble_eq_true rfl) dX7_reel_48 ?_
          refine v_icmp_le C 61 (by decide) dX7_reel_49 (fun c7 => ?_) (fun c7 => ?_)
          · replace h := h.1 c7
            refine v_iloadn C 1 rfl rfl dX7_reel_61 ?_
            refine v_aloadn C 0 rfl rfl dX7_reel_62 ?_
            refine v_getr (o' := 131) C fr_X7_7 sh_130 (Nat.le_of_ble_eq_true rfl) rfl (iMod_r0 hm) dX7_reel_63 ?_
            refine v_iconst C kc_1 dX7_reel_66 ?_
            refine v_aldk C sh_131 (Nat.le_of_ble_eq_true rfl) lit_1 (Nat.le_of_ble_eq_true rfl) dX7_reel_67 ?_
            refine v_icmp_ne C 80 (by decide) dX7_reel_68 (fun c8 => ?_) (fun c8 => ?_)
            · replace h := h.1 c8
              refine v_iconst C kc_0 dX7_reel_80 ?_
              exact v_iret C hr dX7_reel_81 h
            · replace h := h.2 c8
              refine v_aloadn C 0 rfl rfl dX7_reel_71 ?_
              refine v_getr (o' := 131) C fr_X7_7 sh_130 (Nat.le_of_ble_eq_true rfl) rfl (iMod_r0 hm) dX7_reel_72 ?_
              refine v_iconst C kc_2 dX7_reel_75 ?_
              refine v_aldk C sh_131 (Nat.le_of_ble_eq_true rfl) lit_2 (Nat.le_of_ble_eq_true rfl) dX7_reel_76 ?_
              refine v_goto C 81 (by decide) dX7_reel_77 ?_
              exact v_iret C hr dX7_reel_81 h
          · replace h := h.2 c7
            refine v_loc [0, 1] rfl ?_
            exact tb_X7_reel_52 l S R  hm C hr K   (x1) M3 h
      · replace h := h.2 c5
        refine v_aloadn C 0 rfl rfl dX7_reel_31 ?_
        refine v_getr (o' := 141) C fr_X7_41 sh_130 (Nat.le_of_ble_eq_true rfl) rfl (iMod_r15 hm) dX7_reel_32 ?_
        refine v_iloadn C 1 rfl rfl dX7_reel_35 ?_
        refine v_ald C sh_141 (Nat.le_of_ble_eq_true rfl) h.1 dX7_reel_36 ?_
        replace h := h.2
        exact v_iret C hr dX7_reel_37 h
    · replace h := h.2 c4
      refine v_ldc C wx_X7_190 dX7_reel_23 ?_
      exact v_iret C hr dX7_reel_25 h
abbrev rmX7_last : Room := { frames := 1, cells := 0, slots := 0, locals := 22 }
def wp_X7_last (x1 : Int32) (M : Mem) (K : Int32 → Mem → Prop) : Prop := wp_X7_in (x1) ((0 : Int32)) ((6 : Int32)) M (fun r1 M1 => (¬ r1 = 0 → (¬ (M1 131 54) = 0 → (¬ x1 = 0 → vp_in ((54 : Int32) + x1) 349 ∧ (K (M1 131 (ix ((54 : Int32) + x1))) M1)) ∧ (x1 = 0 → K ((M1 131 54) - (1 : Int32)) M1)) ∧ ((M1 131 54) = 0 → K (-2000000 : Int32) M1)) ∧ (r1 = 0 → K (-1000000 : Int32) M1))
set_option maxRecDepth 20000 in
theorem con_X7_last (l : Launch) (S : XS) (R : Rfs) (x1 : Int32) (hm : isMod R) (M : Mem) (K : Int32 → Mem → Prop) (h : wp_X7_last x1 M K) : CI l yX7_last cX7_last 2 (some .int) rmX7_last S 148 R [.ref (XB S + 130), .int x1] M K := by
  refine conI (lv := [(0, .ref (XB S + 130)), (1, .int x1)]) (by decide) (Nat.le_of_ble_eq_true rfl) rfl ?_
  intro p e s m args below meth c C hr
  replace C : Cx p m meth c s args cX7_last RX7 2 S := C
  refine v_iloadn C 1 rfl rfl dX7_last_0 ?_
  refine v_iconst C kc_0 dX7_last_1 ?_
  refine v_bipush C kb_6 dX7_last_2 ?_
  refine v_csI (As := [.int x1, .int (0 : Int32), .int (6 : Int32)]) C ms_X7_96 (con_X7_in l S 148 R (x1) ((0 : Int32)) ((6 : Int32))  _ _ h) rfl ⟨(Nat.le_of_ble_eq_true rfl), (Nat.le_of_ble_eq_true rfl)⟩ ⟨rfl, rfl, Nat.zero_le _, Nat.zero_le _⟩ (Nat.le_of_ble_eq_true rfl) dX7_last_4 (fun r1 M1 h => ?_)
  refine v_if_ne C 13 (by decide) dX7_last_7 (fun c2 => ?_) (fun c2 => ?_)
  · replace h := h.1 c2
    refine v_aloadn C 0 rfl rfl dX7_last_13 ?_
    refine v_getr (o' := 131) C fr_X7_7 sh_130 (Nat.le_of_ble_eq_true rfl) rfl (iMod_r0 hm) dX7_last_14 ?_
    refine v_bipush C kb_54 dX7_last_17 ?_
    refine v_aldk C sh_131 (Nat.le_of_ble_eq_true rfl) lit_54 (Nat.le_of_ble_eq_true rfl) dX7_last_19 ?_
    refine v_if_ne C 26 (by decide) dX7_last_20 (fun c3 => ?_) (fun c3 => ?_)
    · replace h := h.1 c3
      refine v_iloadn C 1 rfl rfl dX7_last_26 ?_
      refine v_if_ne C 42 (by decide) dX7_last_27 (fun c4 => ?_) (fun c4 => ?_)
      · replace h := h.1 c4
        refine v_aloadn C 0 rfl rfl dX7_last_42 ?_
        refine v_getr (o' := 131) C fr_X7_7 sh_130 (Nat.le_of_ble_eq_true rfl) rfl (iMod_r0 hm) dX7_last_43 ?_
        refine v_bipush C kb_54 dX7_last_46 ?_
        refine v_iloadn C 1 rfl rfl dX7_last_48 ?_
        refine v_iadd C dX7_last_49 ?_
        refine v_ald C sh_131 (Nat.le_of_ble_eq_true rfl) h.1 dX7_last_50 ?_
        replace h := h.2
        exact v_iret C hr dX7_last_51 h
      · replace h := h.2 c4
        refine v_aloadn C 0 rfl rfl dX7_last_30 ?_
        refine v_getr (o' := 131) C fr_X7_7 sh_130 (Nat.le_of_ble_eq_true rfl) rfl (iMod_r0 hm) dX7_last_31 ?_
        refine v_bipush C kb_54 dX7_last_34 ?_
        refine v_aldk C sh_131 (Nat.le_of_ble_eq_true rfl) lit_54 (Nat.le_of_ble_eq_true rfl) dX7_last_36 ?_
        refine v_iconst C kc_1 dX7_last_37 ?_
        refine v_isub C dX7_last_38 ?_
        refine v_goto C 51 (by decide) dX7_last_39 ?_
        exact v_iret C hr dX7_last_51 h
    · replace h := h.2 c3
      refine v_ldc C wx_X7_194 dX7_last_23 ?_
      exact v_iret C hr dX7_last_25 h
  · replace h := h.2 c2
    refine v_ldc C wx_X7_190 dX7_last_10 ?_
    exact v_iret C hr dX7_last_12 h
abbrev rmX7_error : Room := { frames := 2, cells := 0, slots := 0, locals := 41 }
def wp_X7_error_100  (X31 : Int32 → Int32 → Int32 → Int32 → Mem → Prop) (K : Int32 → Mem → Prop) (x1 x2 x3 x4 : Int32) (M : Mem) : Prop := X31 x1 x2 x3 (x4 + (-1 : Int32)) M
def L_X7_error_31   (K : Int32 → Mem → Prop) : Nat → Int32 → Int32 → Int32 → Int32 → Mem → Prop
  | 0, _, _, _, _, _ => False
  | k + 1, x1, x2, x3, x4, M => (x4 ≤ ((M 131 5) - (32 : Int32)) → K (-2000000 : Int32) M) ∧ (¬ x4 ≤ ((M 131 5) - (32 : Int32)) → wp_X7_isThere (x4) M (fun r6 M6 => (r6 = 0 → wp_X7_error_100  (fun x1 x2 x3 x4 M => L_X7_error_31   K k x1 x2 x3 x4 M) K (x1) (x2) (x3) (x4) M6) ∧ (¬ r6 = 0 → (¬ x3 = x2 → wp_X7_error_100  (fun x1 x2 x3 x4 M => L_X7_error_31   K k x1 x2 x3 x4 M) K (x1) (x2) ((x3 + (1 : Int32))) (x4) M6) ∧ (x3 = x2 → vp_in x1 4 ∧ ((((M6 131 5) - x4) < (M6 139 (ix x1)) → K (-2000000 : Int32) M6) ∧ (¬ ((M6 131 5) - x4) < (M6 139 (ix x1)) → wp_X7_copyPlace (x4) M6 (fun r10 M10 => vp_in ((r10 + (5 : Int32)) + x1) 349 ∧ (K (M10 131 (ix ((r10 + (5 : Int32)) + x1))) M10))))))))
def wp_X7_error (x1 : Int32) (x2 : Int32) (M : Mem) (K : Int32 → Mem → Prop) : Prop := wp_X7_in (x1) ((0 : Int32)) (((M 130 10) - (1 : Int32))) M (fun r1 M1 => (r1 = 0 → K (-1000000 : Int32) M1) ∧ (¬ r1 = 0 → (0 ≤ x2 → ∃ j4 : Nat, L_X7_error_31  K j4 (x1) (x2) ((0 : Int32)) ((M1 131 5)) M1) ∧ (¬ 0 ≤ x2 → K (-1000000 : Int32) M1)))
set_option maxRecDepth 20000 in
theorem tb_X7_error_100 {p : Program} {e : Env} {s : State} {m : MethodId} {args : Array Value} {below : List Frame} {meth : Method} {c : Code} (l : Launch) (S : XS) (R : Rfs)  (hm : isMod R) (C : Cx p m meth c s args cX7_error RX7 5 S) (hr : meth.sig.returnType = (some .int)) (K : Int32 → Mem → Prop) (X31 : Int32 → Int32 → Int32 → Int32 → Mem → Prop) (hX31 : ∀ (x1 x2 x3 x4 : Int32) (M : Mem), X31 x1 x2 x3 x4 M → V p l e rmX7_error s m args below meth c (MQ below (va_Qi K (XPost S 148 R) (XA S)) args s 0 0 (XA S)) S 5 0 0 148 M R 31 [(0, .ref (XB S + 130)), (1, .int x1), (2, .int x2), (3, .int x3), (4, .int x4)] []) (x1 x2 x3 x4 : Int32) (M : Mem) (h : wp_X7_error_100  X31 K x1 x2 x3 x4 M) : V p l e rmX7_error s m args below meth c (MQ below (va_Qi K (XPost S 148 R) (XA S)) args s 0 0 (XA S)) S 5 0 0 148 M R 100 [(0, .ref (XB S + 130)), (1, .int x1), (2, .int x2), (3, .int x3), (4, .int x4)] [] := by
  refine v_iinc (lv' := [(4, .int (x4 + (-1 : Int32))), (0, .ref (XB S + 130)), (1, .int x1), (2, .int x2), (3, .int x3)]) C 4 rfl kc_m1 rfl rfl (Nat.le_of_ble_eq_true rfl) dX7_error_100 ?_
  refine v_goto C 31 (by decide) dX7_error_103 ?_
  refine v_loc [1, 2, 3, 4, 0] rfl ?_
  exact hX31 (x1) (x2) (x3) ((x4 + (-1 : Int32))) M h
set_option maxRecDepth 20000 in
theorem tl_X7_error_31 {p : Program} {e : Env} {s : State} {m : MethodId} {args : Array Value} {below : List Frame} {meth : Method} {c : Code} (l : Launch) (S : XS) (R : Rfs)  (hm : isMod R) (C : Cx p m meth c s args cX7_error RX7 5 S) (hr : meth.sig.returnType = (some .int)) (K : Int32 → Mem → Prop)   (k : Nat) : ∀ (x1 x2 x3 x4 : Int32) (M : Mem), L_X7_error_31   K k x1 x2 x3 x4 M → V p l e rmX7_error s m args below meth c (MQ below (va_Qi K (XPost S 148 R) (XA S)) args s 0 0 (XA S)) S 5 0 0 148 M R 31 [(0, .ref (XB S + 130)), (1, .int x1), (2, .int x2), (3, .int x3), (4, .int x4)] [] := by
  induction k with
  | zero => intro x1 x2 x3 x4 M h; exact h.elim
  | succ k ih =>
    intro x1 x2 x3 x4 M h
    refine v_iload C 4 rfl dX7_error_31 ?_
    refine v_aloadn C 0 rfl rfl dX7_error_33 ?_
    refine v_getr (o' := 131) C fr_X7_7 sh_130 (Nat.le_of_ble_eq_true rfl) rfl (iMod_r0 hm) dX7_error_34 ?_
    refine v_iconst C kc_5 dX7_error_37 ?_
    refine v_aldk C sh_131 (Nat.le_of_ble_eq_true rfl) lit_5 (Nat.le_of_ble_eq_true rfl) dX7_error_38 ?_
    refine v_bipush C kb_32 dX7_error_39 ?_
    refine v_isub C dX7_error_41 ?_
    refine v_icmp_le C 106 (by decide) dX7_error_42 (fun c5 => ?_) (fun c5 => ?_)
    · replace h := h.1 c5
      refine v_ldc C wx_X7_194 dX7_error_106 ?_
      exact v_iret C hr dX7_error_108 h
    · replace h := h.2 c5
      refine v_aloadn C 0 rfl rfl dX7_error_45 ?_
      refine v_iload C 4 rfl dX7_error_46 ?_
      refine v_cvI (As := [.int x4]) C mv_X7_142 (con_X7_isThere l S R (x4) hm _ _ h) sh_130 (Nat.le_of_ble_eq_true rfl) rfl ⟨(Nat.le_of_ble_eq_true rfl), (Nat.le_of_ble_eq_true rfl)⟩ ⟨rfl, rfl, Nat.zero_le _, Nat.zero_le _⟩ (Nat.le_of_ble_eq_true rfl) dX7_error_48 (fun r6 M6 h => ?_)
      refine v_if_eq C 100 (by decide) dX7_error_51 (fun c7 => ?_) (fun c7 => ?_)
      · replace h := h.1 c7
        exact tb_X7_error_100 l S R  hm C hr K (fun x1 x2 x3 x4 M => L_X7_error_31   K k x1 x2 x3 x4 M) (ih) (x1) (x2) (x3) (x4) M6 h
      · replace h := h.2 c7
        refine v_iloadn C 3 rfl rfl dX7_error_54 ?_
        refine v_iloadn C 2 rfl rfl dX7_error_55 ?_
        refine v_icmp_ne C 97 (by decide) dX7_error_56 (fun c8 => ?_) (fun c8 => ?_)
        · replace h := h.1 c8
          refine v_iinc (lv' := [(3, .int (x3 + (1 : Int32))), (0, .ref (XB S + 130)), (1, .int x1), (2, .int x2), (4, .int x4)]) C 3 rfl kc_1 rfl rfl (Nat.le_of_ble_eq_true rfl) dX7_error_97 ?_
          refine v_loc [1, 2, 3, 0, 4] rfl ?_
          exact tb_X7_error_100 l S R  hm C hr K (fun x1 x2 x3 x4 M => L_X7_error_31   K k x1 x2 x3 x4 M) (ih) (x1) (x2) ((x3 + (1 : Int32))) (x4) M6 h
        · replace h := h.2 c8
          refine v_aloadn C 0 rfl rfl dX7_error_59 ?_
          refine v_getr (o' := 131) C fr_X7_7 sh_130 (Nat.le_of_ble_eq_true rfl) rfl (iMod_r0 hm) dX7_error_60 ?_
          refine v_iconst C kc_5 dX7_error_63 ?_
          refine v_aldk C sh_131 (Nat.le_of_ble_eq_true rfl) lit_5 (Nat.le_of_ble_eq_true rfl) dX7_error_64 ?_
          refine v_iload C 4 rfl dX7_error_65 ?_
          refine v_isub C dX7_error_67 ?_
          refine v_aloadn C 0 rfl rfl dX7_error_68 ?_
          refine v_getr (o' := 139) C fr_X7_35 sh_130 (Nat.le_of_ble_eq_true rfl) rfl (iMod_r12 hm) dX7_error_69 ?_
          refine v_iloadn C 1 rfl rfl dX7_error_72 ?_
          refine v_ald C sh_139 (Nat.le_of_ble_eq_true rfl) h.1 dX7_error_73 ?_
          replace h := h.2
          refine v_icmp_lt C 94 (by decide) dX7_error_74 (fun c9 => ?_) (fun c9 => ?_)
          · replace h := h.1 c9
            refine v_ldc C wx_X7_194 dX7_error_94 ?_
            exact v_iret C hr dX7_error_96 h
          · replace h := h.2 c9
            refine v_aloadn C 0 rfl rfl dX7_error_77 ?_
            refine v_getr (o' := 131) C fr_X7_7 sh_130 (Nat.le_of_ble_eq_true rfl) rfl (iMod_r0 hm) dX7_error_78 ?_
            refine v_iload C 4 rfl dX7_error_81 ?_
            refine v_csI (As := [.int x4]) C ms_X7_134 (con_X7_copyPlace l S 148 R (x4)  _ _ h) rfl ⟨(Nat.le_of_ble_eq_true rfl), (Nat.le_of_ble_eq_true rfl)⟩ ⟨rfl, rfl, Nat.zero_le _, Nat.zero_le _⟩ (Nat.le_of_ble_eq_true rfl) dX7_error_83 (fun r10 M10 h => ?_)
            refine v_iconst C kc_5 dX7_error_86 ?_
            refine v_iadd C dX7_error_87 ?_
            refine v_iloadn C 1 rfl rfl dX7_error_88 ?_
            refine v_iadd C dX7_error_89 ?_
            refine v_ald C sh_131 (Nat.le_of_ble_eq_true rfl) h.1 dX7_error_90 ?_
            replace h := h.2
            refine v_goto C 96 (by decide) dX7_error_91 ?_
            exact v_iret C hr dX7_error_96 h
set_option maxRecDepth 20000 in
theorem con_X7_error (l : Launch) (S : XS) (R : Rfs) (x1 : Int32) (x2 : Int32) (hm : isMod R) (M : Mem) (K : Int32 → Mem → Prop) (h : wp_X7_error x1 x2 M K) : CI l yX7_error cX7_error 5 (some .int) rmX7_error S 148 R [.ref (XB S + 130), .int x1, .int x2] M K := by
  refine conI (lv := [(0, .ref (XB S + 130)), (1, .int x1), (2, .int x2)]) (by decide) (Nat.le_of_ble_eq_true rfl) rfl ?_
  intro p e s m args below meth c C hr
  replace C : Cx p m meth c s args cX7_error RX7 5 S := C
  refine v_iloadn C 1 rfl rfl dX7_error_0 ?_
  refine v_iconst C kc_0 dX7_error_1 ?_
  refine v_aloadn C 0 rfl rfl dX7_error_2 ?_
  refine v_geti C fr_X7_75 sh_130 (Nat.le_of_ble_eq_true rfl) rfl dX7_error_3 ?_
  refine v_iconst C kc_1 dX7_error_6 ?_
  refine v_isub C dX7_error_7 ?_
  refine v_csI (As := [.int x1, .int (0 : Int32), .int ((M 130 10) - (1 : Int32))]) C ms_X7_96 (con_X7_in l S 148 R (x1) ((0 : Int32)) (((M 130 10) - (1 : Int32)))  _ _ h) rfl ⟨(Nat.le_of_ble_eq_true rfl), (Nat.le_of_ble_eq_true rfl)⟩ ⟨rfl, rfl, Nat.zero_le _, Nat.zero_le _⟩ (Nat.le_of_ble_eq_true rfl) dX7_error_8 (fun r1 M1 h => ?_)
  refine v_if_eq C 18 (by decide) dX7_error_11 (fun c2 => ?_) (fun c2 => ?_)
  · replace h := h.1 c2
    refine v_ldc C wx_X7_190 dX7_error_18 ?_
    exact v_iret C hr dX7_error_20 h
  · replace h := h.2 c2
    refine v_iloadn C 2 rfl rfl dX7_error_14 ?_
    refine v_if_ge C 21 (by decide) dX7_error_15 (fun c3 => ?_) (fun c3 => ?_)
    · replace h := h.1 c3
      refine v_iconst C kc_0 dX7_error_21 ?_
      refine v_istoren (lv' := [(3, .int (0 : Int32)), (0, .ref (XB S + 130)), (1, .int x1), (2, .int x2)]) C rfl rfl (Nat.le_of_ble_eq_true rfl) dX7_error_22 ?_
      refine v_aloadn C 1 rfl rfl dX7_error_23 ?_
      refine v_getr (o' := 131) C fr_X7_7 sh_130 (Nat.le_of_ble_eq_true rfl) rfl (iMod_r0 hm) dX7_error_24 ?_
      refine v_iconst C kc_5 dX7_error_27 ?_
      refine v_aldk C sh_131 (Nat.le_of_ble_eq_true rfl) lit_5 (Nat.le_of_ble_eq_true rfl) dX7_error_28 ?_
      refine v_istore (lv' := [(4, .int (M1 131 5)), (3, .int (0 : Int32)), (0, .ref (XB S + 130)), (1, .int x1), (2, .int x2)]) C rfl (Nat.le_of_ble_eq_true rfl) dX7_error_29 ?_
      refine v_loc [2, 3, 4, 1, 0] rfl ?_
      obtain ⟨k4, h⟩ := h
      exact tl_X7_error_31 l S R  hm C hr K   k4 (x1) (x2) ((0 : Int32)) ((M1 131 5)) M1 h
    · replace h := h.2 c3
      refine v_ldc C wx_X7_190 dX7_error_18 ?_
      exact v_iret C hr dX7_error_20 h
abbrev rmX7_steady : Room := { frames := 4, cells := 0, slots := 0, locals := 89 }
def wp_X7_steady_64  (X29 : Int32 → Int32 → Mem → Prop) (K : Int32 → Mem → Prop) (x2 y0 : Int32) (M : Mem) : Prop := X29 y0 (x2 + (1 : Int32)) M
def wp_X7_steady_63  (X29 : Int32 → Int32 → Mem → Prop) (K : Int32 → Mem → Prop) (x1 x2 : Int32) (M : Mem) : Prop := wp_X7_steady_64  X29 K (x2) (x1) M
def L_X7_steady_29   (K : Int32 → Mem → Prop) : Nat → Int32 → Int32 → Mem → Prop
  | 0, _, _, _ => False
  | k + 1, x1, x2, M => ((300 : Int32) < x2 → wp_X7_comesBack  M (fun M6 => (x1 ≤ (200 : Int32) → K x1 M6) ∧ (¬ x1 ≤ (200 : Int32) → K (-9 : Int32) M6))) ∧ (¬ (300 : Int32) < x2 → wp_X7_goes ((1 : Int32)) M (fun r8 M8 => (r8 = 0 → wp_X7_steady_63  (fun x1 x2 M => L_X7_steady_29   K k x1 x2 M) K (x1) (x2) M8) ∧ (¬ r8 = 0 → wp_X7_worst  M8 (fun r10 M10 => (r10 ≤ (M10 142 2) → wp_X7_steady_63  (fun x1 x2 M => L_X7_steady_29   K k x1 x2 M) K (x1) (x2) M10) ∧ (¬ r10 ≤ (M10 142 2) → wp_X7_steady_64  (fun x1 x2 M => L_X7_steady_29   K k x1 x2 M) K (x2) (x2) M10)))))
def wp_X7_steady (M : Mem) (K : Int32 → Mem → Prop) : Prop := ((M 131 0) = 0 → K (-9 : Int32) M) ∧ (¬ (M 131 0) = 0 → (0 ≤ (M 131 1) → wp_X7_laysAside M (fun M3 => ∃ j4 : Nat, L_X7_steady_29  K j4 ((0 : Int32)) ((1 : Int32)) M3)) ∧ (¬ 0 ≤ (M 131 1) → K (-9 : Int32) M))
set_option maxRecDepth 20000 in
theorem tb_X7_steady_64 {p : Program} {e : Env} {s : State} {m : MethodId} {args : Array Value} {below : List Frame} {meth : Method} {c : Code} (l : Launch) (S : XS) (R : Rfs)  (hm : isMod R) (C : Cx p m meth c s args cX7_steady RX7 4 S) (hr : meth.sig.returnType = (some .int)) (K : Int32 → Mem → Prop) (X29 : Int32 → Int32 → Mem → Prop) (hX29 : ∀ (x1 x2 : Int32) (M : Mem), X29 x1 x2 M → V p l e rmX7_steady s m args below meth c (MQ below (va_Qi K (XPost S 148 R) (XA S)) args s 0 0 (XA S)) S 4 0 0 148 M R 29 [(0, .ref (XB S + 130)), (1, .int x1), (2, .int x2)] []) (x2 y0 : Int32) (M : Mem) (h : wp_X7_steady_64  X29 K x2 y0 M) : V p l e rmX7_steady s m args below meth c (MQ below (va_Qi K (XPost S 148 R) (XA S)) args s 0 0 (XA S)) S 4 0 0 148 M R 64 [(0, .ref (XB S + 130)), (2, .int x2)] [.int y0] := by
  refine v_istoren (lv' := [(1, .int y0), (0, .ref (XB S + 130)), (2, .int x2)]) C rfl rfl (Nat.le_of_ble_eq_true rfl) dX7_steady_64 ?_
  refine v_iinc (lv' := [(2, .int (x2 + (1 : Int32))), (1, .int y0), (0, .ref (XB S + 130))]) C 2 rfl kc_1 rfl rfl (Nat.le_of_ble_eq_true rfl) dX7_steady_65 ?_
  refine v_goto C 29 (by decide) dX7_steady_68 ?_
  refine v_loc [2, 1, 0] rfl ?_
  exact hX29 (y0) ((x2 + (1 : Int32))) M h
set_option maxRecDepth 20000 in
theorem tb_X7_steady_63 {p : Program} {e : Env} {s : State} {m : MethodId} {args : Array Value} {below : List Frame} {meth : Method} {c : Code} (l : Launch) (S : XS) (R : Rfs)  (hm : isMod R) (C : Cx p m meth c s args cX7_steady RX7 4 S) (hr : meth.sig.returnType = (some .int)) (K : Int32 → Mem → Prop) (X29 : Int32 → Int32 → Mem → Prop) (hX29 : ∀ (x1 x2 : Int32) (M : Mem), X29 x1 x2 M → V p l e rmX7_steady s m args below meth c (MQ below (va_Qi K (XPost S 148 R) (XA S)) args s 0 0 (XA S)) S 4 0 0 148 M R 29 [(0, .ref (XB S + 130)), (1, .int x1), (2, .int x2)] []) (x1 x2 : Int32) (M : Mem) (h : wp_X7_steady_63  X29 K x1 x2 M) : V p l e rmX7_steady s m args below meth c (MQ below (va_Qi K (XPost S 148 R) (XA S)) args s 0 0 (XA S)) S 4 0 0 148 M R 63 [(0, .ref (XB S + 130)), (1, .int x1), (2, .int x2)] [] := by
  refine v_iloadn C 1 rfl rfl dX7_steady_63 ?_
  refine v_loc [0, 2] rfl ?_
  exact tb_X7_steady_64 l S R  hm C hr K X29 (hX29) (x2) (x1) M h
set_option maxRecDepth 20000 in
theorem tl_X7_steady_29 {p : Program} {e : Env} {s : State} {m : MethodId} {args : Array Value} {below : List Frame} {meth : Method} {c : Code} (l : Launch) (S : XS) (R : Rfs)  (hm : isMod R) (C : Cx p m meth c s args cX7_steady RX7 4 S) (hr : meth.sig.returnType = (some .int)) (K : Int32 → Mem → Prop)   (k : Nat) : ∀ (x1 x2 : Int32) (M : Mem), L_X7_steady_29   K k x1 x2 M → V p l e rmX7_steady s m args below meth c (MQ below (va_Qi K (XPost S 148 R) (XA S)) args s 0 0 (XA S)) S 4 0 0 148 M R 29 [(0, .ref (XB S + 130)), (1, .int x1), (2, .int x2)] [] := by
  induction k with
  | zero => intro x1 x2 M h; exact h.elim
  | succ k ih =>
    intro x1 x2 M h
    refine v_iloadn C 2 rfl rfl dX7_steady_29 ?_
    refine v_sipush C ks_300 dX7_steady_30 ?_
    refine v_icmp_gt C 71 (by decide) dX7_steady_33 (fun c5 => ?_) (fun c5 => ?_)
    · replace h := h.1 c5
      refine v_aloadn C 0 rfl rfl dX7_steady_71 ?_
      refine v_cvV (As := []) C mv_X7_198 (con_X7_comesBack l S R  hm _ _ h) sh_130 (Nat.le_of_ble_eq_true rfl) rfl ⟨(Nat.le_of_ble_eq_true rfl), (Nat.le_of_ble_eq_true rfl)⟩ ⟨rfl, rfl, Nat.zero_le _, Nat.zero_le _⟩ (Nat.le_of_ble_eq_true rfl) dX7_steady_72 (fun M6 h => ?_)
      refine v_iloadn C 1 rfl rfl dX7_steady_75 ?_
      refine v_sipush C ks_200 dX7_steady_76 ?_
      refine v_icmp_le C 87 (by decide) dX7_steady_79 (fun c7 => ?_) (fun c7 => ?_)
      · replace h := h.1 c7
        refine v_iloadn C 1 rfl rfl dX7_steady_87 ?_
        exact v_iret C hr dX7_steady_88 h
      · replace h := h.2 c7
        refine v_bipush C kb_m9 dX7_steady_82 ?_
        refine v_goto C 88 (by decide) dX7_steady_84 ?_
        exact v_iret C hr dX7_steady_88 h
    · replace h := h.2 c5
      refine v_aloadn C 0 rfl rfl dX7_steady_36 ?_
      refine v_iconst C kc_1 dX7_steady_37 ?_
      refine v_cvI (As := [.int (1 : Int32)]) C mv_X7_184 (con_X7_goes l S R ((1 : Int32)) hm _ _ h) sh_130 (Nat.le_of_ble_eq_true rfl) rfl ⟨(Nat.le_of_ble_eq_true rfl), (Nat.le_of_ble_eq_true rfl)⟩ ⟨rfl, rfl, Nat.zero_le _, Nat.zero_le _⟩ (Nat.le_of_ble_eq_true rfl) dX7_steady_38 (fun r8 M8 h => ?_)
      refine v_istoren (lv' := [(3, .int r8), (0, .ref (XB S + 130)), (1, .int x1), (2, .int x2)]) C rfl rfl (Nat.le_of_ble_eq_true rfl) dX7_steady_41 ?_
      refine v_iloadn C 0 rfl rfl dX7_steady_42 ?_
      refine v_if_eq C 63 (by decide) dX7_steady_43 (fun c9 => ?_) (fun c9 => ?_)
      · replace h := h.1 c9
        refine v_loc [1, 2, 3] rfl ?_
        exact tb_X7_steady_63 l S R  hm C hr K (fun x1 x2 M => L_X7_steady_29   K k x1 x2 M) (ih) (x1) (x2) M8 h
      · replace h := h.2 c9
        refine v_aloadn C 1 rfl rfl dX7_steady_46 ?_
        refine v_cvI (As := []) C mv_X7_151 (con_X7_worst l S R  hm _ _ h) sh_130 (Nat.le_of_ble_eq_true rfl) rfl ⟨(Nat.le_of_ble_eq_true rfl), (Nat.le_of_ble_eq_true rfl)⟩ ⟨rfl, rfl, Nat.zero_le _, Nat.zero_le _⟩ (Nat.le_of_ble_eq_true rfl) dX7_steady_47 (fun r10 M10 h => ?_)
        refine v_aloadn C 1 rfl rfl dX7_steady_50 ?_
        refine v_getr (o' := 142) C fr_X7_44 sh_130 (Nat.le_of_ble_eq_true rfl) rfl (iMod_r16 hm) dX7_steady_51 ?_
        refine v_iconst C kc_2 dX7_steady_54 ?_
        refine v_aldk C sh_142 (Nat.le_of_ble_eq_true rfl) lit_2 (Nat.le_of_ble_eq_true rfl) dX7_steady_55 ?_
        refine v_icmp_le C 63 (by decide) dX7_steady_56 (fun c11 => ?_) (fun c11 => ?_)
        · replace h := h.1 c11
          refine v_loc [1, 2, 3] rfl ?_
          exact tb_X7_steady_63 l S R  hm C hr K (fun x1 x2 M => L_X7_steady_29   K k x1 x2 M) (ih) (x1) (x2) M10 h
        · replace h := h.2 c11
          refine v_iloadn C 3 rfl rfl dX7_steady_59 ?_
          refine v_goto C 64 (by decide) dX7_steady_60 ?_
          refine v_loc [1, 3] rfl ?_
          exact tb_X7_steady_64 l S R  hm C hr K (fun x1 x2 M => L_X7_steady_29   K k x1 x2 M) (ih) (x2) (x2) M10 h
set_option maxRecDepth 20000 in
theorem con_X7_steady (l : Launch) (S : XS) (R : Rfs)  (hm : isMod R) (M : Mem) (K : Int32 → Mem → Prop) (h : wp_X7_steady  M K) : CI l yX7_steady cX7_steady 4 (some .int) rmX7_steady S 148 R [.ref (XB S + 130)] M K := by
  refine conI (lv := [(0, .ref (XB S + 130))]) (by decide) (Nat.le_of_ble_eq_true rfl) rfl ?_
  intro p e s m args below meth c C hr
  replace C : Cx p m meth c s args cX7_steady RX7 4 S := C
  refine v_aloadn C 0 rfl rfl dX7_steady_0 ?_
  refine v_getr (o' := 131) C fr_X7_7 sh_130 (Nat.le_of_ble_eq_true rfl) rfl (iMod_r0 hm) dX7_steady_1 ?_
  refine v_iconst C kc_0 dX7_steady_4 ?_
  refine v_aldk C sh_131 (Nat.le_of_ble_eq_true rfl) lit_0 (Nat.le_of_ble_eq_true rfl) dX7_steady_5 ?_
  refine v_if_eq C 18 (by decide) dX7_steady_6 (fun c1 => ?_) (fun c1 => ?_)
  · replace h := h.1 c1
    refine v_bipush C kb_m9 dX7_steady_18 ?_
    exact v_iret C hr dX7_steady_20 h
  · replace h := h.2 c1
    refine v_aloadn C 0 rfl rfl dX7_steady_9 ?_
    refine v_getr (o' := 131) C fr_X7_7 sh_130 (Nat.le_of_ble_eq_true rfl) rfl (iMod_r0 hm) dX7_steady_10 ?_
    refine v_iconst C kc_1 dX7_steady_13 ?_
    refine v_aldk C sh_131 (Nat.le_of_ble_eq_true rfl) lit_1 (Nat.le_of_ble_eq_true rfl) dX7_steady_14 ?_
    refine v_if_ge C 21 (by decide) dX7_steady_15 (fun c2 => ?_) (fun c2 => ?_)
    · replace h := h.1 c2
      refine v_aloadn C 0 rfl rfl dX7_steady_21 ?_
      refine v_cvV (As := []) C mv_X7_195 (con_X7_laysAside l S R  hm _ _ h) sh_130 (Nat.le_of_ble_eq_true rfl) rfl ⟨(Nat.le_of_ble_eq_true rfl), (Nat.le_of_ble_eq_true rfl)⟩ ⟨rfl, rfl, Nat.zero_le _, Nat.zero_le _⟩ (Nat.le_of_ble_eq_true rfl) dX7_steady_22 (fun M3 h => ?_)
      refine v_iconst C kc_0 dX7_steady_25 ?_
      refine v_istoren (lv' := [(1, .int (0 : Int32)), (0, .ref (XB S + 130))]) C rfl rfl (Nat.le_of_ble_eq_true rfl) dX7_steady_26 ?_
      refine v_iconst C kc_1 dX7_steady_27 ?_
      refine v_istoren (lv' := [(2, .int (1 : Int32)), (1, .int (0 : Int32)), (0, .ref (XB S + 130))]) C rfl rfl (Nat.le_of_ble_eq_true rfl) dX7_steady_28 ?_
      refine v_loc [2, 1, 0] rfl ?_
      obtain ⟨k4, h⟩ := h
      exact tl_X7_steady_29 l S R  hm C hr K   k4 ((0 : Int32)) ((1 : Int32)) M3 h
    · replace h := h.2 c2
      refine v_bipush C kb_m9 dX7_steady_18 ?_
      exact v_iret C hr dX7_steady_20 h
abbrev rmX7_wasteBy : Room := { frames := 4, cells := 0, slots := 0, locals := 89 }
def wp_X7_wasteBy_31  (X14 : Int32 → Int32 → Int32 → Mem → Prop) (K : Int32 → Mem → Prop) (x1 x2 x3 y0 : Int32) (M : Mem) : Prop := wp_X7_goes (y0) M (fun r6 M6 => X14 x1 x2 (x3 + (1 : Int32)) M6)
def L_X7_wasteBy_14   (K : Int32 → Mem → Prop) : Nat → Int32 → Int32 → Int32 → Mem → Prop
  | 0, _, _, _, _ => False
  | k + 1, x1, x2, x3, M => ((200 : Int32) ≤ x3 → wp_X7_comesBack  M (fun M4 => K ((M 131 8) - x2) M4)) ∧ (¬ (200 : Int32) ≤ x3 → (¬ x3 = 0 → wp_X7_wasteBy_31  (fun x1 x2 x3 M => L_X7_wasteBy_14   K k x1 x2 x3 M) K (x1) (x2) (x3) ((1 : Int32)) M) ∧ (x3 = 0 → wp_X7_wasteBy_31  (fun x1 x2 x3 M => L_X7_wasteBy_14   K k x1 x2 x3 M) K (x1) (x2) (x3) (x1) M))
def wp_X7_wasteBy (x1 : Int32) (M : Mem) (K : Int32 → Mem → Prop) : Prop := wp_X7_laysAside M (fun M1 => ∃ j2 : Nat, L_X7_wasteBy_14  K j2 (x1) ((M1 131 8)) ((0 : Int32)) M1)
set_option maxRecDepth 20000 in
theorem tb_X7_wasteBy_31 {p : Program} {e : Env} {s : State} {m : MethodId} {args : Array Value} {below : List Frame} {meth : Method} {c : Code} (l : Launch) (S : XS) (R : Rfs)  (hm : isMod R) (C : Cx p m meth c s args cX7_wasteBy RX7 4 S) (hr : meth.sig.returnType = (some .int)) (K : Int32 → Mem → Prop) (X14 : Int32 → Int32 → Int32 → Mem → Prop) (hX14 : ∀ (x1 x2 x3 : Int32) (M : Mem), X14 x1 x2 x3 M → V p l e rmX7_wasteBy s m args below meth c (MQ below (va_Qi K (XPost S 148 R) (XA S)) args s 0 0 (XA S)) S 4 0 0 148 M R 14 [(0, .ref (XB S + 130)), (1, .int x1), (2, .int x2), (3, .int x3)] []) (x1 x2 x3 y0 : Int32) (M : Mem) (h : wp_X7_wasteBy_31  X14 K x1 x2 x3 y0 M) : V p l e rmX7_wasteBy s m args below meth c (MQ below (va_Qi K (XPost S 148 R) (XA S)) args s 0 0 (XA S)) S 4 0 0 148 M R 31 [(0, .ref (XB S + 130)), (1, .int x1), (2, .int x2), (3, .int x3)] [.int y0, .ref (XB S + 130)] := by
  refine v_cvI (As := [.int y0]) C mv_X7_184 (con_X7_goes l S R (y0) hm _ _ h) sh_130 (Nat.le_of_ble_eq_true rfl) rfl ⟨(Nat.le_of_ble_eq_true rfl), (Nat.le_of_ble_eq_true rfl)⟩ ⟨rfl, rfl, Nat.zero_le _, Nat.zero_le _⟩ (Nat.le_of_ble_eq_true rfl) dX7_wasteBy_31 (fun r6 M6 h => ?_)
  refine v_pop C rfl dX7_wasteBy_34 ?_
  refine v_iinc (lv' := [(3, .int (x3 + (1 : Int32))), (0, .ref (XB S + 130)), (1, .int x1), (2, .int x2)]) C 3 rfl kc_1 rfl rfl (Nat.le_of_ble_eq_true rfl) dX7_wasteBy_35 ?_
  refine v_goto C 14 (by decide) dX7_wasteBy_38 ?_
  refine v_loc [1, 2, 3, 0] rfl ?_
  exact hX14 (x1) (x2) ((x3 + (1 : Int32))) M6 h
set_option maxRecDepth 20000 in
theorem tl_X7_wasteBy_14 {p : Program} {e : Env} {s : State} {m : MethodId} {args : Array Value} {below : List Frame} {meth : Method} {c : Code} (l : Launch) (S : XS) (R : Rfs)  (hm : isMod R) (C : Cx p m meth c s args cX7_wasteBy RX7 4 S) (hr : meth.sig.returnType = (some .int)) (K : Int32 → Mem → Prop)   (k : Nat) : ∀ (x1 x2 x3 : Int32) (M : Mem), L_X7_wasteBy_14   K k x1 x2 x3 M → V p l e rmX7_wasteBy s m args below meth c (MQ below (va_Qi K (XPost S 148 R) (XA S)) args s 0 0 (XA S)) S 4 0 0 148 M R 14 [(0, .ref (XB S + 130)), (1, .int x1), (2, .int x2), (3, .int x3)] [] := by
  induction k with
  | zero => intro x1 x2 x3 M h; exact h.elim
  | succ k ih =>
    intro x1 x2 x3 M h
    refine v_iloadn C 3 rfl rfl dX7_wasteBy_14 ?_
    refine v_sipush C ks_200 dX7_wasteBy_15 ?_
    refine v_icmp_ge C 41 (by decide) dX7_wasteBy_18 (fun c3 => ?_) (fun c3 => ?_)
    · replace h := h.1 c3
      refine v_aloadn C 0 rfl rfl dX7_wasteBy_41 ?_
      refine v_getr (o' := 131) C fr_X7_7 sh_130 (Nat.le_of_ble_eq_true rfl) rfl (iMod_r0 hm) dX7_wasteBy_42 ?_
      refine v_bipush C kb_8 dX7_wasteBy_45 ?_
      refine v_aldk C sh_131 (Nat.le_of_ble_eq_true rfl) lit_8 (Nat.le_of_ble_eq_true rfl) dX7_wasteBy_47 ?_
      refine v_iloadn C 2 rfl rfl dX7_wasteBy_48 ?_
      refine v_isub C dX7_wasteBy_49 ?_
      refine v_istoren (lv' := [(3, .int ((M 131 8) - x2)), (0, .ref (XB S + 130)), (1, .int x1), (2, .int x2)]) C rfl rfl (Nat.le_of_ble_eq_true rfl) dX7_wasteBy_50 ?_
      refine v_aloadn C 1 rfl rfl dX7_wasteBy_51 ?_
      refine v_cvV (As := []) C mv_X7_198 (con_X7_comesBack l S R  hm _ _ h) sh_130 (Nat.le_of_ble_eq_true rfl) rfl ⟨(Nat.le_of_ble_eq_true rfl), (Nat.le_of_ble_eq_true rfl)⟩ ⟨rfl, rfl, Nat.zero_le _, Nat.zero_le _⟩ (Nat.le_of_ble_eq_true rfl) dX7_wasteBy_52 (fun M4 h => ?_)
      refine v_iloadn C 0 rfl rfl dX7_wasteBy_55 ?_
      exact v_iret C hr dX7_wasteBy_56 h
    · replace h := h.2 c3
      refine v_aloadn C 0 rfl rfl dX7_wasteBy_21 ?_
      refine v_iloadn C 3 rfl rfl dX7_wasteBy_22 ?_
      refine v_if_ne C 30 (by decide) dX7_wasteBy_23 (fun c5 => ?_) (fun c5 => ?_)
      · replace h := h.1 c5
        refine v_iconst C kc_1 dX7_wasteBy_30 ?_
        exact tb_X7_wasteBy_31 l S R  hm C hr K (fun x1 x2 x3 M => L_X7_wasteBy_14   K k x1 x2 x3 M) (ih) (x1) (x2) (x3) ((1 : Int32)) M h
      · replace h := h.2 c5
        refine v_iloadn C 1 rfl rfl dX7_wasteBy_26 ?_
        refine v_goto C 31 (by decide) dX7_wasteBy_27 ?_
        exact tb_X7_wasteBy_31 l S R  hm C hr K (fun x1 x2 x3 M => L_X7_wasteBy_14   K k x1 x2 x3 M) (ih) (x1) (x2) (x3) (x1) M h
set_option maxRecDepth 20000 in
theorem con_X7_wasteBy (l : Launch) (S : XS) (R : Rfs) (x1 : Int32) (hm : isMod R) (M : Mem) (K : Int32 → Mem → Prop) (h : wp_X7_wasteBy x1 M K) : CI l yX7_wasteBy cX7_wasteBy 4 (some .int) rmX7_wasteBy S 148 R [.ref (XB S + 130), .int x1] M K := by
  refine conI (lv := [(0, .ref (XB S + 130)), (1, .int x1)]) (by decide) (Nat.le_of_ble_eq_true rfl) rfl ?_
  intro p e s m args below meth c C hr
  replace C : Cx p m meth c s args cX7_wasteBy RX7 4 S := C
  refine v_aloadn C 0 rfl rfl dX7_wasteBy_0 ?_
  refine v_cvV (As := []) C mv_X7_195 (con_X7_laysAside l S R  hm _ _ h) sh_130 (Nat.le_of_ble_eq_true rfl) rfl ⟨(Nat.le_of_ble_eq_true rfl), (Nat.le_of_ble_eq_true rfl)⟩ ⟨rfl, rfl, Nat.zero_le _, Nat.zero_le _⟩ (Nat.le_of_ble_eq_true rfl) dX7_wasteBy_1 (fun M1 h => ?_)
  refine v_aloadn C 0 rfl rfl dX7_wasteBy_4 ?_
  refine v_getr (o' := 131) C fr_X7_7 sh_130 (Nat.le_of_ble_eq_true rfl) rfl (iMod_r0 hm) dX7_wasteBy_5 ?_
  refine v_bipush C kb_8 dX7_wasteBy_8 ?_
  refine v_aldk C sh_131 (Nat.le_of_ble_eq_true rfl) lit_8 (Nat.le_of_ble_eq_true rfl) dX7_wasteBy_10 ?_
  refine v_istoren (lv' := [(2, .int (M1 131 8)), (0, .ref (XB S + 130)), (1, .int x1)]) C rfl rfl (Nat.le_of_ble_eq_true rfl) dX7_wasteBy_11 ?_
  refine v_iconst C kc_0 dX7_wasteBy_12 ?_
  refine v_istoren (lv' := [(3, .int (0 : Int32)), (2, .int (M1 131 8)), (0, .ref (XB S + 130)), (1, .int x1)]) C rfl rfl (Nat.le_of_ble_eq_true rfl) dX7_wasteBy_13 ?_
  refine v_loc [2, 3, 1, 0] rfl ?_
  obtain ⟨k2, h⟩ := h
  exact tl_X7_wasteBy_14 l S R  hm C hr K   k2 (x1) ((M1 131 8)) ((0 : Int32)) M1 h
abbrev rmX7_cost : Room := { frames := 5, cells := 0, slots := 0, locals := 112 }
def wp_X7_cost (M : Mem) (K : Int32 → Mem → Prop) : Prop := ((M 131 0) = 0 → K (-2000000 : Int32) M) ∧ (¬ (M 131 0) = 0 → wp_X7_nextReel M (fun r2 M2 => (¬ r2 = (-9 : Int32) → wp_X7_wasteBy ((2 : Int32)) M2 (fun r4 M4 => wp_X7_wasteBy ((1 : Int32)) M4 (fun r5 M5 => K (r4 - r5) M5))) ∧ (r2 = (-9 : Int32) → K (-2000000 : Int32) M2)))
set_option maxRecDepth 20000 in
theorem con_X7_cost (l : Launch) (S : XS) (R : Rfs)  (hm : isMod R) (M : Mem) (K : Int32 → Mem → Prop) (h : wp_X7_cost  M K) : CI l yX7_cost cX7_cost 1 (some .int) rmX7_cost S 148 R [.ref (XB S + 130)] M K := by
  refine conI (lv := [(0, .ref (XB S + 130))]) (by decide) (Nat.le_of_ble_eq_true rfl) rfl ?_
  intro p e s m args below meth c C hr
  replace C : Cx p m meth c s args cX7_cost RX7 1 S := C
  refine v_aloadn C 0 rfl rfl dX7_cost_0 ?_
  refine v_getr (o' := 131) C fr_X7_7 sh_130 (Nat.le_of_ble_eq_true rfl) rfl (iMod_r0 hm) dX7_cost_1 ?_
  refine v_iconst C kc_0 dX7_cost_4 ?_
  refine v_aldk C sh_131 (Nat.le_of_ble_eq_true rfl) lit_0 (Nat.le_of_ble_eq_true rfl) dX7_cost_5 ?_
  refine v_if_eq C 18 (by decide) dX7_cost_6 (fun c1 => ?_) (fun c1 => ?_)
  · replace h := h.1 c1
    refine v_ldc C wx_X7_194 dX7_cost_18 ?_
    exact v_iret C hr dX7_cost_20 h
  · replace h := h.2 c1
    refine v_aloadn C 0 rfl rfl dX7_cost_9 ?_
    refine v_cvI (As := []) C mv_X7_158 (con_X7_nextReel l S R  hm _ _ h) sh_130 (Nat.le_of_ble_eq_true rfl) rfl ⟨(Nat.le_of_ble_eq_true rfl), (Nat.le_of_ble_eq_true rfl)⟩ ⟨rfl, rfl, Nat.zero_le _, Nat.zero_le _⟩ (Nat.le_of_ble_eq_true rfl) dX7_cost_10 (fun r2 M2 h => ?_)
    refine v_bipush C kb_m9 dX7_cost_13 ?_
    refine v_icmp_ne C 21 (by decide) dX7_cost_15 (fun c3 => ?_) (fun c3 => ?_)
    · replace h := h.1 c3
      refine v_aloadn C 0 rfl rfl dX7_cost_21 ?_
      refine v_iconst C kc_2 dX7_cost_22 ?_
      refine v_cvI (As := [.int (2 : Int32)]) C mv_X7_201 (con_X7_wasteBy l S R ((2 : Int32)) hm _ _ h) sh_130 (Nat.le_of_ble_eq_true rfl) rfl ⟨(Nat.le_of_ble_eq_true rfl), (Nat.le_of_ble_eq_true rfl)⟩ ⟨rfl, rfl, Nat.zero_le _, Nat.zero_le _⟩ (Nat.le_of_ble_eq_true rfl) dX7_cost_23 (fun r4 M4 h => ?_)
      refine v_aloadn C 0 rfl rfl dX7_cost_26 ?_
      refine v_iconst C kc_1 dX7_cost_27 ?_
      refine v_cvI (As := [.int (1 : Int32)]) C mv_X7_201 (con_X7_wasteBy l S R ((1 : Int32)) hm _ _ h) sh_130 (Nat.le_of_ble_eq_true rfl) rfl ⟨(Nat.le_of_ble_eq_true rfl), (Nat.le_of_ble_eq_true rfl)⟩ ⟨rfl, rfl, Nat.zero_le _, Nat.zero_le _⟩ (Nat.le_of_ble_eq_true rfl) dX7_cost_28 (fun r5 M5 h => ?_)
      refine v_isub C dX7_cost_31 ?_
      exact v_iret C hr dX7_cost_32 h
    · replace h := h.2 c3
      refine v_ldc C wx_X7_194 dX7_cost_18 ?_
      exact v_iret C hr dX7_cost_20 h
abbrev rmX7_sees : Room := { frames := 2, cells := 0, slots := 0, locals := 43 }
def wp_X7_sees (x1 : Int32) (x2 : Int32) (M : Mem) (K : Int32 → Mem → Prop) : Prop := wp_X7_isLater (x1) M (fun r1 M1 => (r1 = 0 → K (-1 : Int32) M1) ∧ (¬ r1 = 0 → wp_X7_in (x2) ((-99 : Int32)) ((99 : Int32)) M1 (fun r3 M3 => (¬ r3 = 0 → (¬ (M3 130 9) = (6 : Int32) → vp_in ((2 : Int32) * (M3 130 9)) 12 ∧ (∀ M6 : Mem, M6 = mw M3 137 (ix ((2 : Int32) * (M3 130 9))) x1 → vp_in (((2 : Int32) * (M6 130 9)) + (1 : Int32)) 12 ∧ (∀ M7 : Mem, M7 = mw M6 137 (ix (((2 : Int32) * (M6 130 9)) + (1 : Int32))) x2 → (∀ M8 : Mem, M8 = mw M7 130 9 ((M7 130 9) + (1 : Int32)) → K (M8 130 9) M8)))) ∧ ((M3 130 9) = (6 : Int32) → K (-3 : Int32) M3)) ∧ (r3 = 0 → K (-1 : Int32) M3))))
set_option maxRecDepth 20000 in
theorem con_X7_sees (l : Launch) (S : XS) (R : Rfs) (x1 : Int32) (x2 : Int32) (hm : isMod R) (M : Mem) (K : Int32 → Mem → Prop) (h : wp_X7_sees x1 x2 M K) : CI l yX7_sees cX7_sees 3 (some .int) rmX7_sees S 148 R [.ref (XB S + 130), .int x1, .int x2] M K := by
  refine conI (lv := [(0, .ref (XB S + 130)), (1, .int x1), (2, .int x2)]) (by decide) (Nat.le_of_ble_eq_true rfl) rfl ?_
  intro p e s m args below meth c C hr
  replace C : Cx p m meth c s args cX7_sees RX7 3 S := C
  refine v_aloadn C 0 rfl rfl dX7_sees_0 ?_
  refine v_iloadn C 1 rfl rfl dX7_sees_1 ?_
  refine v_cvI (As := [.int x1]) C mv_X7_187 (con_X7_isLater l S R (x1) hm _ _ h) sh_130 (Nat.le_of_ble_eq_true rfl) rfl ⟨(Nat.le_of_ble_eq_true rfl), (Nat.le_of_ble_eq_true rfl)⟩ ⟨rfl, rfl, Nat.zero_le _, Nat.zero_le _⟩ (Nat.le_of_ble_eq_true rfl) dX7_sees_2 (fun r1 M1 h => ?_)
  refine v_if_eq C 19 (by decide) dX7_sees_5 (fun c2 => ?_) (fun c2 => ?_)
  · replace h := h.1 c2
    refine v_iconst C kc_m1 dX7_sees_19 ?_
    exact v_iret C hr dX7_sees_20 h
  · replace h := h.2 c2
    refine v_iloadn C 2 rfl rfl dX7_sees_8 ?_
    refine v_bipush C kb_m99 dX7_sees_9 ?_
    refine v_bipush C kb_99 dX7_sees_11 ?_
    refine v_csI (As := [.int x2, .int (-99 : Int32), .int (99 : Int32)]) C ms_X7_96 (con_X7_in l S 148 R (x2) ((-99 : Int32)) ((99 : Int32))  _ _ h) rfl ⟨(Nat.le_of_ble_eq_true rfl), (Nat.le_of_ble_eq_true rfl)⟩ ⟨rfl, rfl, Nat.zero_le _, Nat.zero_le _⟩ (Nat.le_of_ble_eq_true rfl) dX7_sees_13 (fun r3 M3 h => ?_)
    refine v_if_ne C 21 (by decide) dX7_sees_16 (fun c4 => ?_) (fun c4 => ?_)
    · replace h := h.1 c4
      refine v_aloadn C 0 rfl rfl dX7_sees_21 ?_
      refine v_geti C fr_X7_84 sh_130 (Nat.le_of_ble_eq_true rfl) rfl dX7_sees_22 ?_
      refine v_bipush C kb_6 dX7_sees_25 ?_
      refine v_icmp_ne C 33 (by decide) dX7_sees_27 (fun c5 => ?_) (fun c5 => ?_)
      · replace h := h.1 c5
        refine v_aloadn C 0 rfl rfl dX7_sees_33 ?_
        refine v_getr (o' := 137) C fr_X7_29 sh_130 (Nat.le_of_ble_eq_true rfl) rfl (iMod_r8 hm) dX7_sees_34 ?_
        refine v_iconst C kc_2 dX7_sees_37 ?_
        refine v_aloadn C 0 rfl rfl dX7_sees_38 ?_
        refine v_geti C fr_X7_84 sh_130 (Nat.le_of_ble_eq_true rfl) rfl dX7_sees_39 ?_
        refine v_imul C dX7_sees_42 ?_
        refine v_iloadn C 1 rfl rfl dX7_sees_43 ?_
        have hi6 := h.1
        replace h := h.2
        refine v_ast C sh_137 (Nat.le_of_ble_eq_true rfl) hi6 dX7_sees_44 (fun M6 e6 => ?_)
        replace h := h M6 e6
        refine v_aloadn C 0 rfl rfl dX7_sees_45 ?_
        refine v_getr (o' := 137) C fr_X7_29 sh_130 (Nat.le_of_ble_eq_true rfl) rfl (iMod_r8 hm) dX7_sees_46 ?_
        refine v_iconst C kc_2 dX7_sees_49 ?_
        refine v_aloadn C 0 rfl rfl dX7_sees_50 ?_
        refine v_geti C fr_X7_84 sh_130 (Nat.le_of_ble_eq_true rfl) rfl dX7_sees_51 ?_
        refine v_imul C dX7_sees_54 ?_
        refine v_iconst C kc_1 dX7_sees_55 ?_
        refine v_iadd C dX7_sees_56 ?_
        refine v_iloadn C 2 rfl rfl dX7_sees_57 ?_
        have hi7 := h.1
        replace h := h.2
        refine v_ast C sh_137 (Nat.le_of_ble_eq_true rfl) hi7 dX7_sees_58 (fun M7 e7 => ?_)
        replace h := h M7 e7
        refine v_aloadn C 0 rfl rfl dX7_sees_59 ?_
        refine v_dup C rfl dX7_sees_60 ?_
        refine v_geti C fr_X7_84 sh_130 (Nat.le_of_ble_eq_true rfl) rfl dX7_sees_61 ?_
        refine v_iconst C kc_1 dX7_sees_64 ?_
        refine v_iadd C dX7_sees_65 ?_
        refine v_puti C fr_X7_84 sh_130 (Nat.le_of_ble_eq_true rfl) rfl dX7_sees_66 (fun M8 e8 => ?_)
        replace h := h M8 e8
        refine v_aloadn C 0 rfl rfl dX7_sees_69 ?_
        refine v_geti C fr_X7_84 sh_130 (Nat.le_of_ble_eq_true rfl) rfl dX7_sees_70 ?_
        exact v_iret C hr dX7_sees_73 h
      · replace h := h.2 c5
        refine v_bipush C kb_m3 dX7_sees_30 ?_
        exact v_iret C hr dX7_sees_32 h
    · replace h := h.2 c4
      refine v_iconst C kc_m1 dX7_sees_19 ?_
      exact v_iret C hr dX7_sees_20 h
abbrev rmX7_forget : Room := { frames := 0, cells := 0, slots := 0, locals := 0 }
def wp_X7_forget (M : Mem) (K : Int32 → Mem → Prop) : Prop := (∀ M1 : Mem, M1 = mw M 130 9 (0 : Int32) → K (M 130 9) M1)
set_option maxRecDepth 20000 in
theorem con_X7_forget (l : Launch) (S : XS) (R : Rfs)  (hm : isMod R) (M : Mem) (K : Int32 → Mem → Prop) (h : wp_X7_forget  M K) : CI l yX7_forget cX7_forget 2 (some .int) rmX7_forget S 148 R [.ref (XB S + 130)] M K := by
  refine conI (lv := [(0, .ref (XB S + 130))]) (by decide) (Nat.le_of_ble_eq_true rfl) rfl ?_
  intro p e s m args below meth c C hr
  replace C : Cx p m meth c s args cX7_forget RX7 2 S := C
  refine v_aloadn C 0 rfl rfl dX7_forget_0 ?_
  refine v_geti C fr_X7_84 sh_130 (Nat.le_of_ble_eq_true rfl) rfl dX7_forget_1 ?_
  refine v_istoren (lv' := [(1, .int (M 130 9)), (0, .ref (XB S + 130))]) C rfl rfl (Nat.le_of_ble_eq_true rfl) dX7_forget_4 ?_
  refine v_aloadn C 1 rfl rfl dX7_forget_5 ?_
  refine v_iconst C kc_0 dX7_forget_6 ?_
  refine v_puti C fr_X7_84 sh_130 (Nat.le_of_ble_eq_true rfl) rfl dX7_forget_7 (fun M1 e1 => ?_)
  replace h := h M1 e1
  refine v_iloadn C 0 rfl rfl dX7_forget_10 ?_
  exact v_iret C hr dX7_forget_11 h
abbrev rmX7_times : Room := { frames := 0, cells := 0, slots := 0, locals := 0 }
def wp_X7_times (x0 : Int32) (x1 : Int32) (M : Mem) (K : Int32 → Mem → Prop) : Prop := (¬ x0 = 0 → ((4 : Int32) ≤ x0 → (x1 < (x0 - (3 : Int32)) → K (0 : Int32) M) ∧ (¬ x1 < (x0 - (3 : Int32)) → K (1 : Int32) M)) ∧ (¬ (4 : Int32) ≤ x0 → (¬ x1 = x0 → K (0 : Int32) M) ∧ (x1 = x0 → K (1 : Int32) M))) ∧ (x0 = 0 → K x1 M)
set_option maxRecDepth 20000 in
theorem con_X7_times (l : Launch) (S : XS) (n : Nat) (R : Rfs) (x0 : Int32) (x1 : Int32)  (M : Mem) (K : Int32 → Mem → Prop) (h : wp_X7_times x0 x1 M K) : CI l yX7_times cX7_times 2 (some .int) rmX7_times S n R [.int x0, .int x1] M K := by
  refine conI (lv := [(0, .int x0), (1, .int x1)]) (by decide) (Nat.le_of_ble_eq_true rfl) rfl ?_
  intro p e s m args below meth c C hr
  replace C : Cx p m meth c s args cX7_times RX7 2 S := C
  refine v_iloadn C 0 rfl rfl dX7_times_0 ?_
  refine v_if_ne C 6 (by decide) dX7_times_1 (fun c1 => ?_) (fun c1 => ?_)
  · replace h := h.1 c1
    refine v_iloadn C 0 rfl rfl dX7_times_6 ?_
    refine v_iconst C kc_4 dX7_times_7 ?_
    refine v_icmp_ge C 24 (by decide) dX7_times_8 (fun c2 => ?_) (fun c2 => ?_)
    · replace h := h.1 c2
      refine v_iloadn C 1 rfl rfl dX7_times_24 ?_
      refine v_iloadn C 0 rfl rfl dX7_times_25 ?_
      refine v_iconst C kc_3 dX7_times_26 ?_
      refine v_isub C dX7_times_27 ?_
      refine v_icmp_lt C 35 (by decide) dX7_times_28 (fun c3 => ?_) (fun c3 => ?_)
      · replace h := h.1 c3
        refine v_iconst C kc_0 dX7_times_35 ?_
        exact v_iret C hr dX7_times_36 h
      · replace h := h.2 c3
        refine v_iconst C kc_1 dX7_times_31 ?_
        refine v_goto C 36 (by decide) dX7_times_32 ?_
        exact v_iret C hr dX7_times_36 h
    · replace h := h.2 c2
      refine v_iloadn C 1 rfl rfl dX7_times_11 ?_
      refine v_iloadn C 0 rfl rfl dX7_times_12 ?_
      refine v_icmp_ne C 20 (by decide) dX7_times_13 (fun c4 => ?_) (fun c4 => ?_)
      · replace h := h.1 c4
        refine v_iconst C kc_0 dX7_times_20 ?_
        refine v_goto C 36 (by decide) dX7_times_21 ?_
        exact v_iret C hr dX7_times_36 h
      · replace h := h.2 c4
        refine v_iconst C kc_1 dX7_times_16 ?_
        refine v_goto C 36 (by decide) dX7_times_17 ?_
        exact v_iret C hr dX7_times_36 h
  · replace h := h.2 c1
    refine v_iloadn C 1 rfl rfl dX7_times_4 ?_
    exact v_iret C hr dX7_times_5 h
abbrev rmX7_isCause : Room := { frames := 1, cells := 0, slots := 0, locals := 22 }
def wp_X7_isCause_34   (K : Int32 → Mem → Prop) (M : Mem) : Prop := K (1 : Int32) M
def wp_X7_isCause (x1 : Int32) (M : Mem) (K : Int32 → Mem → Prop) : Prop := (x1 = 0 → wp_X7_isCause_34  K M) ∧ (¬ x1 = 0 → wp_X7_in (x1) ((1 : Int32)) (((M 130 10) - (1 : Int32))) M (fun r2 M2 => (¬ r2 = 0 → wp_X7_isCause_34  K M2) ∧ (r2 = 0 → wp_X7_in ((x1 - (3 : Int32))) ((1 : Int32)) (((M2 130 10) - (1 : Int32))) M2 (fun r4 M4 => (r4 = 0 → K (0 : Int32) M4) ∧ (¬ r4 = 0 → wp_X7_isCause_34  K M4)))))
set_option maxRecDepth 20000 in
theorem tb_X7_isCause_34 {p : Program} {e : Env} {s : State} {m : MethodId} {args : Array Value} {below : List Frame} {meth : Method} {c : Code} (l : Launch) (S : XS) (R : Rfs)  (hm : isMod R) (C : Cx p m meth c s args cX7_isCause RX7 2 S) (hr : meth.sig.returnType = (some .boolean)) (K : Int32 → Mem → Prop)   (M : Mem) (h : wp_X7_isCause_34   K  M) : V p l e rmX7_isCause s m args below meth c (MQ below (va_Qi K (XPost S 148 R) (XA S)) args s 0 0 (XA S)) S 2 0 0 148 M R 34 [] [] := by
  refine v_iconst C kc_1 dX7_isCause_34 ?_
  refine v_goto C 39 (by decide) dX7_isCause_35 ?_
  exact v_zret C isB1 hr dX7_isCause_39 h
set_option maxRecDepth 20000 in
theorem con_X7_isCause (l : Launch) (S : XS) (R : Rfs) (x1 : Int32) (hm : isMod R) (M : Mem) (K : Int32 → Mem → Prop) (h : wp_X7_isCause x1 M K) : CI l yX7_isCause cX7_isCause 2 (some .boolean) rmX7_isCause S 148 R [.ref (XB S + 130), .int x1] M K := by
  refine conI (lv := [(0, .ref (XB S + 130)), (1, .int x1)]) (by decide) (Nat.le_of_ble_eq_true rfl) rfl ?_
  intro p e s m args below meth c C hr
  replace C : Cx p m meth c s args cX7_isCause RX7 2 S := C
  refine v_iloadn C 1 rfl rfl dX7_isCause_0 ?_
  refine v_if_eq C 34 (by decide) dX7_isCause_1 (fun c1 => ?_) (fun c1 => ?_)
  · replace h := h.1 c1
    refine v_loc [] rfl ?_
    exact tb_X7_isCause_34 l S R  hm C hr K    M h
  · replace h := h.2 c1
    refine v_iloadn C 1 rfl rfl dX7_isCause_4 ?_
    refine v_iconst C kc_1 dX7_isCause_5 ?_
    refine v_aloadn C 0 rfl rfl dX7_isCause_6 ?_
    refine v_geti C fr_X7_75 sh_130 (Nat.le_of_ble_eq_true rfl) rfl dX7_isCause_7 ?_
    refine v_iconst C kc_1 dX7_isCause_10 ?_
    refine v_isub C dX7_isCause_11 ?_
    refine v_csI (As := [.int x1, .int (1 : Int32), .int ((M 130 10) - (1 : Int32))]) C ms_X7_96 (con_X7_in l S 148 R (x1) ((1 : Int32)) (((M 130 10) - (1 : Int32)))  _ _ h) rfl ⟨(Nat.le_of_ble_eq_true rfl), (Nat.le_of_ble_eq_true rfl)⟩ ⟨rfl, rfl, Nat.zero_le _, Nat.zero_le _⟩ (Nat.le_of_ble_eq_true rfl) dX7_isCause_12 (fun r2 M2 h => ?_)
    refine v_if_ne C 34 (by decide) dX7_isCause_15 (fun c3 => ?_) (fun c3 => ?_)
    · replace h := h.1 c3
      refine v_loc [] rfl ?_
      exact tb_X7_isCause_34 l S R  hm C hr K    M2 h
    · replace h := h.2 c3
      refine v_iloadn C 1 rfl rfl dX7_isCause_18 ?_
      refine v_iconst C kc_3 dX7_isCause_19 ?_
      refine v_isub C dX7_isCause_20 ?_
      refine v_iconst C kc_1 dX7_isCause_21 ?_
      refine v_aloadn C 0 rfl rfl dX7_isCause_22 ?_
      refine v_geti C fr_X7_75 sh_130 (Nat.le_of_ble_eq_true rfl) rfl dX7_isCause_23 ?_
      refine v_iconst C kc_1 dX7_isCause_26 ?_
      refine v_isub C dX7_isCause_27 ?_
      refine v_csI (As := [.int (x1 - (3 : Int32)), .int (1 : Int32), .int ((M2 130 10) - (1 : Int32))]) C ms_X7_96 (con_X7_in l S 148 R ((x1 - (3 : Int32))) ((1 : Int32)) (((M2 130 10) - (1 : Int32)))  _ _ h) rfl ⟨(Nat.le_of_ble_eq_true rfl), (Nat.le_of_ble_eq_true rfl)⟩ ⟨rfl, rfl, Nat.zero_le _, Nat.zero_le _⟩ (Nat.le_of_ble_eq_true rfl) dX7_isCause_28 (fun r4 M4 h => ?_)
      refine v_if_eq C 38 (by decide) dX7_isCause_31 (fun c5 => ?_) (fun c5 => ?_)
      · replace h := h.1 c5
        refine v_iconst C kc_0 dX7_isCause_38 ?_
        exact v_zret C isB0 hr dX7_isCause_39 h
      · replace h := h.2 c5
        refine v_loc [] rfl ?_
        exact tb_X7_isCause_34 l S R  hm C hr K    M4 h
abbrev rmX7_isSo : Room := { frames := 1, cells := 0, slots := 0, locals := 21 }
def wp_X7_isSo_76  (X3 : Int32 → Int32 → Mem → Prop) (K : Int32 → Mem → Prop) (x1 x2 x3 : Int32) (M : Mem) : Prop := (x3 = 0 → X3 x1 (x2 + (1 : Int32)) M) ∧ (¬ x3 = 0 → K (1 : Int32) M)
def wp_X7_isSo_69  (X3 : Int32 → Int32 → Mem → Prop) (X22 : Int32 → Int32 → Int32 → Int32 → Mem → Prop) (K : Int32 → Mem → Prop) (x1 x2 x4 y0 : Int32) (M : Mem) : Prop := X22 x1 x2 y0 (x4 + (1 : Int32)) M
def L_X7_isSo_22  (X3 : Int32 → Int32 → Mem → Prop) (K : Int32 → Mem → Prop) : Nat → Int32 → Int32 → Int32 → Int32 → Mem → Prop
  | 0, _, _, _, _, _ => False
  | k + 1, x1, x2, x3, x4, M => ((M 130 9) ≤ x4 → wp_X7_isSo_76  X3 K (x1) (x2) (x3) M) ∧ (¬ (M 130 9) ≤ x4 → (x3 = 0 → wp_X7_isSo_76  X3 K (x1) (x2) (x3) M) ∧ (¬ x3 = 0 → vp_in ((2 : Int32) * x4) 12 ∧ (wp_X7_times (x1) ((M 137 (ix ((2 : Int32) * x4)))) M (fun r7 M7 => vp_in (((2 : Int32) * x4) + (1 : Int32)) 12 ∧ ((¬ (r7 * x2) = (M7 137 (ix (((2 : Int32) * x4) + (1 : Int32)))) → wp_X7_isSo_69  X3 (fun x1 x2 x3 x4 M => L_X7_isSo_22  X3 K k x1 x2 x3 x4 M) K (x1) (x2) (x4) ((0 : Int32)) M7) ∧ ((r7 * x2) = (M7 137 (ix (((2 : Int32) * x4) + (1 : Int32)))) → wp_X7_isSo_69  X3 (fun x1 x2 x3 x4 M => L_X7_isSo_22  X3 K k x1 x2 x3 x4 M) K (x1) (x2) (x4) ((1 : Int32)) M7))))))
def wp_X7_isSo_18  (X3 : Int32 → Int32 → Mem → Prop) (K : Int32 → Mem → Prop) (x1 x2 y0 : Int32) (M : Mem) : Prop := ∃ j4 : Nat, L_X7_isSo_22  X3 K j4 (x1) (x2) (y0) ((0 : Int32)) M
def L_X7_isSo_3   (K : Int32 → Mem → Prop) : Nat → Int32 → Int32 → Mem → Prop
  | 0, _, _, _ => False
  | k + 1, x1, x2, M => ((20 : Int32) < x2 → K (0 : Int32) M) ∧ (¬ (20 : Int32) < x2 → (x2 = 0 → wp_X7_isSo_18  (fun x1 x2 M => L_X7_isSo_3   K k x1 x2 M) K (x1) (x2) ((0 : Int32)) M) ∧ (¬ x2 = 0 → wp_X7_isSo_18  (fun x1 x2 M => L_X7_isSo_3   K k x1 x2 M) K (x1) (x2) ((1 : Int32)) M))
def wp_X7_isSo (x1 : Int32) (M : Mem) (K : Int32 → Mem → Prop) : Prop := ∃ j1 : Nat, L_X7_isSo_3  K j1 (x1) ((-20 : Int32)) M
set_option maxRecDepth 20000 in
theorem tb_X7_isSo_76 {p : Program} {e : Env} {s : State} {m : MethodId} {args : Array Value} {below : List Frame} {meth : Method} {c : Code} (l : Launch) (S : XS) (R : Rfs)  (hm : isMod R) (C : Cx p m meth c s args cX7_isSo RX7 5 S) (hr : meth.sig.returnType = (some .boolean)) (K : Int32 → Mem → Prop) (X3 : Int32 → Int32 → Mem → Prop) (hX3 : ∀ (x1 x2 : Int32) (M : Mem), X3 x1 x2 M → V p l e rmX7_isSo s m args below meth c (MQ below (va_Qi K (XPost S 148 R) (XA S)) args s 0 0 (XA S)) S 5 0 0 148 M R 3 [(0, .ref (XB S + 130)), (1, .int x1), (2, .int x2)] []) (x1 x2 x3 : Int32) (M : Mem) (h : wp_X7_isSo_76  X3 K x1 x2 x3 M) : V p l e rmX7_isSo s m args below meth c (MQ below (va_Qi K (XPost S 148 R) (XA S)) args s 0 0 (XA S)) S 5 0 0 148 M R 76 [(0, .ref (XB S + 130)), (1, .int x1), (2, .int x2), (3, .int x3)] [] := by
  refine v_iloadn C 3 rfl rfl dX7_isSo_76 ?_
  refine v_if_eq C 82 (by decide) dX7_isSo_77 (fun c9 => ?_) (fun c9 => ?_)
  · replace h := h.1 c9
    refine v_iinc (lv' := [(2, .int (x2 + (1 : Int32))), (0, .ref (XB S + 130)), (1, .int x1), (3, .int x3)]) C 2 rfl kc_1 rfl rfl (Nat.le_of_ble_eq_true rfl) dX7_isSo_82 ?_
    refine v_goto C 3 (by decide) dX7_isSo_85 ?_
    refine v_loc [1, 2, 0] rfl ?_
    exact hX3 (x1) ((x2 + (1 : Int32))) M h
  · replace h := h.2 c9
    refine v_iconst C kc_1 dX7_isSo_80 ?_
    exact v_zret C isB1 hr dX7_isSo_81 h
set_option maxRecDepth 20000 in
theorem tb_X7_isSo_69 {p : Program} {e : Env} {s : State} {m : MethodId} {args : Array Value} {below : List Frame} {meth : Method} {c : Code} (l : Launch) (S : XS) (R : Rfs)  (hm : isMod R) (C : Cx p m meth c s args cX7_isSo RX7 5 S) (hr : meth.sig.returnType = (some .boolean)) (K : Int32 → Mem → Prop) (X3 : Int32 → Int32 → Mem → Prop) (X22 : Int32 → Int32 → Int32 → Int32 → Mem → Prop) (hX3 : ∀ (x1 x2 : Int32) (M : Mem), X3 x1 x2 M → V p l e rmX7_isSo s m args below meth c (MQ below (va_Qi K (XPost S 148 R) (XA S)) args s 0 0 (XA S)) S 5 0 0 148 M R 3 [(0, .ref (XB S + 130)), (1, .int x1), (2, .int x2)] []) (hX22 : ∀ (x1 x2 x3 x4 : Int32) (M : Mem), X22 x1 x2 x3 x4 M → V p l e rmX7_isSo s m args below meth c (MQ below (va_Qi K (XPost S 148 R) (XA S)) args s 0 0 (XA S)) S 5 0 0 148 M R 22 [(0, .ref (XB S + 130)), (1, .int x1), (2, .int x2), (3, .int x3), (4, .int x4)] []) (x1 x2 x4 y0 : Int32) (M : Mem) (h : wp_X7_isSo_69  X3 X22 K x1 x2 x4 y0 M) : V p l e rmX7_isSo s m args below meth c (MQ below (va_Qi K (XPost S 148 R) (XA S)) args s 0 0 (XA S)) S 5 0 0 148 M R 69 [(0, .ref (XB S + 130)), (1, .int x1), (2, .int x2), (4, .int x4)] [.int y0] := by
  refine v_istoren (lv' := [(3, .int y0), (0, .ref (XB S + 130)), (1, .int x1), (2, .int x2), (4, .int x4)]) C rfl rfl (Nat.le_of_ble_eq_true rfl) dX7_isSo_69 ?_
  refine v_iinc (lv' := [(4, .int (x4 + (1 : Int32))), (3, .int y0), (0, .ref (XB S + 130)), (1, .int x1), (2, .int x2)]) C 4 rfl kc_1 rfl rfl (Nat.le_of_ble_eq_true rfl) dX7_isSo_70 ?_
  refine v_goto C 22 (by decide) dX7_isSo_73 ?_
  refine v_loc [2, 3, 4, 1, 0] rfl ?_
  exact hX22 (x1) (x2) (y0) ((x4 + (1 : Int32))) M h
set_option maxRecDepth 20000 in
theorem tl_X7_isSo_22 {p : Program} {e : Env} {s : State} {m : MethodId} {args : Array Value} {below : List Frame} {meth : Method} {c : Code} (l : Launch) (S : XS) (R : Rfs)  (hm : isMod R) (C : Cx p m meth c s args cX7_isSo RX7 5 S) (hr : meth.sig.returnType = (some .boolean)) (K : Int32 → Mem → Prop) (X3 : Int32 → Int32 → Mem → Prop) (hX3 : ∀ (x1 x2 : Int32) (M : Mem), X3 x1 x2 M → V p l e rmX7_isSo s m args below meth c (MQ below (va_Qi K (XPost S 148 R) (XA S)) args s 0 0 (XA S)) S 5 0 0 148 M R 3 [(0, .ref (XB S + 130)), (1, .int x1), (2, .int x2)] []) (k : Nat) : ∀ (x1 x2 x3 x4 : Int32) (M : Mem), L_X7_isSo_22  X3 K k x1 x2 x3 x4 M → V p l e rmX7_isSo s m args below meth c (MQ below (va_Qi K (XPost S 148 R) (XA S)) args s 0 0 (XA S)) S 5 0 0 148 M R 22 [(0, .ref (XB S + 130)), (1, .int x1), (2, .int x2), (3, .int x3), (4, .int x4)] [] := by
  induction k with
  | zero => intro x1 x2 x3 x4 M h; exact h.elim
  | succ k ih =>
    intro x1 x2 x3 x4 M h
    refine v_iload C 4 rfl dX7_isSo_22 ?_
    refine v_aloadn C 0 rfl rfl dX7_isSo_24 ?_
    refine v_geti C fr_X7_84 sh_130 (Nat.le_of_ble_eq_true rfl) rfl dX7_isSo_25 ?_
    refine v_icmp_ge C 76 (by decide) dX7_isSo_28 (fun c5 => ?_) (fun c5 => ?_)
    · replace h := h.1 c5
      refine v_loc [0, 1, 2, 3] rfl ?_
      exact tb_X7_isSo_76 l S R  hm C hr K X3 (hX3) (x1) (x2) (x3) M h
    · replace h := h.2 c5
      refine v_iloadn C 3 rfl rfl dX7_isSo_31 ?_
      refine v_if_eq C 76 (by decide) dX7_isSo_32 (fun c6 => ?_) (fun c6 => ?_)
      · replace h := h.1 c6
        refine v_loc [0, 1, 2, 3] rfl ?_
        exact tb_X7_isSo_76 l S R  hm C hr K X3 (hX3) (x1) (x2) (x3) M h
      · replace h := h.2 c6
        refine v_iloadn C 1 rfl rfl dX7_isSo_35 ?_
        refine v_aloadn C 0 rfl rfl dX7_isSo_36 ?_
        refine v_getr (o' := 137) C fr_X7_29 sh_130 (Nat.le_of_ble_eq_true rfl) rfl (iMod_r8 hm) dX7_isSo_37 ?_
        refine v_iconst C kc_2 dX7_isSo_40 ?_
        refine v_iload C 4 rfl dX7_isSo_41 ?_
        refine v_imul C dX7_isSo_43 ?_
        refine v_ald C sh_137 (Nat.le_of_ble_eq_true rfl) h.1 dX7_isSo_44 ?_
        replace h := h.2
        refine v_csI (As := [.int x1, .int (M 137 (ix ((2 : Int32) * x4)))]) C ms_X7_204 (con_X7_times l S 148 R (x1) ((M 137 (ix ((2 : Int32) * x4))))  _ _ h) rfl ⟨(Nat.le_of_ble_eq_true rfl), (Nat.le_of_ble_eq_true rfl)⟩ ⟨rfl, rfl, Nat.zero_le _, Nat.zero_le _⟩ (Nat.le_of_ble_eq_true rfl) dX7_isSo_45 (fun r7 M7 h => ?_)
        refine v_iloadn C 2 rfl rfl dX7_isSo_48 ?_
        refine v_imul C dX7_isSo_49 ?_
        refine v_aloadn C 0 rfl rfl dX7_isSo_50 ?_
        refine v_getr (o' := 137) C fr_X7_29 sh_130 (Nat.le_of_ble_eq_true rfl) rfl (iMod_r8 hm) dX7_isSo_51 ?_
        refine v_iconst C kc_2 dX7_isSo_54 ?_
        refine v_iload C 4 rfl dX7_isSo_55 ?_
        refine v_imul C dX7_isSo_57 ?_
        refine v_iconst C kc_1 dX7_isSo_58 ?_
        refine v_iadd C dX7_isSo_59 ?_
        refine v_ald C sh_137 (Nat.le_of_ble_eq_true rfl) h.1 dX7_isSo_60 ?_
        replace h := h.2
        refine v_icmp_ne C 68 (by decide) dX7_isSo_61 (fun c8 => ?_) (fun c8 => ?_)
        · replace h := h.1 c8
          refine v_iconst C kc_0 dX7_isSo_68 ?_
          refine v_loc [0, 1, 2, 4] rfl ?_
          exact tb_X7_isSo_69 l S R  hm C hr K X3 (fun x1 x2 x3 x4 M => L_X7_isSo_22  X3 K k x1 x2 x3 x4 M) (hX3) (ih) (x1) (x2) (x4) ((0 : Int32)) M7 h
        · replace h := h.2 c8
          refine v_iconst C kc_1 dX7_isSo_64 ?_
          refine v_goto C 69 (by decide) dX7_isSo_65 ?_
          refine v_loc [0, 1, 2, 4] rfl ?_
          exact tb_X7_isSo_69 l S R  hm C hr K X3 (fun x1 x2 x3 x4 M => L_X7_isSo_22  X3 K k x1 x2 x3 x4 M) (hX3) (ih) (x1) (x2) (x4) ((1 : Int32)) M7 h
set_option maxRecDepth 20000 in
theorem tb_X7_isSo_18 {p : Program} {e : Env} {s : State} {m : MethodId} {args : Array Value} {below : List Frame} {meth : Method} {c : Code} (l : Launch) (S : XS) (R : Rfs)  (hm : isMod R) (C : Cx p m meth c s args cX7_isSo RX7 5 S) (hr : meth.sig.returnType = (some .boolean)) (K : Int32 → Mem → Prop) (X3 : Int32 → Int32 → Mem → Prop) (hX3 : ∀ (x1 x2 : Int32) (M : Mem), X3 x1 x2 M → V p l e rmX7_isSo s m args below meth c (MQ below (va_Qi K (XPost S 148 R) (XA S)) args s 0 0 (XA S)) S 5 0 0 148 M R 3 [(0, .ref (XB S + 130)), (1, .int x1), (2, .int x2)] []) (x1 x2 y0 : Int32) (M : Mem) (h : wp_X7_isSo_18  X3 K x1 x2 y0 M) : V p l e rmX7_isSo s m args below meth c (MQ below (va_Qi K (XPost S 148 R) (XA S)) args s 0 0 (XA S)) S 5 0 0 148 M R 18 [(0, .ref (XB S + 130)), (1, .int x1), (2, .int x2)] [.int y0] := by
  refine v_istoren (lv' := [(3, .int y0), (0, .ref (XB S + 130)), (1, .int x1), (2, .int x2)]) C rfl rfl (Nat.le_of_ble_eq_true rfl) dX7_isSo_18 ?_
  refine v_iconst C kc_0 dX7_isSo_19 ?_
  refine v_istore (lv' := [(4, .int (0 : Int32)), (3, .int y0), (0, .ref (XB S + 130)), (1, .int x1), (2, .int x2)]) C rfl (Nat.le_of_ble_eq_true rfl) dX7_isSo_20 ?_
  refine v_loc [2, 3, 4, 1, 0] rfl ?_
  obtain ⟨k4, h⟩ := h
  exact tl_X7_isSo_22 l S R  hm C hr K X3 (hX3) k4 (x1) (x2) (y0) ((0 : Int32)) M h
set_option maxRecDepth 20000 in
theorem tl_X7_isSo_3 {p : Program} {e : Env} {s : State} {m : MethodId} {args : Array Value} {below : List Frame} {meth : Method} {c : Code} (l : Launch) (S : XS) (R : Rfs)  (hm : isMod R) (C : Cx p m meth c s args cX7_isSo RX7 5 S) (hr : meth.sig.returnType = (some .boolean)) (K : Int32 → Mem → Prop)   (k : Nat) : ∀ (x1 x2 : Int32) (M : Mem), L_X7_isSo_3   K k x1 x2 M → V p l e rmX7_isSo s m args below meth c (MQ below (va_Qi K (XPost S 148 R) (XA S)) args s 0 0 (XA S)) S 5 0 0 148 M R 3 [(0, .ref (XB S + 130)), (1, .int x1), (2, .int x2)] [] := by
  induction k with
  | zero => intro x1 x2 M h; exact h.elim
  | succ k ih =>
    intro x1 x2 M h
    refine v_iloadn C 2 rfl rfl dX7_isSo_3 ?_
    refine v_bipush C kb_20 dX7_isSo_4 ?_
    refine v_icmp_gt C 88 (by decide) dX7_isSo_6 (fun c2 => ?_) (fun c2 => ?_)
    · replace h := h.1 c2
      refine v_iconst C kc_0 dX7_isSo_88 ?_
      exact v_zret C isB0 hr dX7_isSo_89 h
    · replace h := h.2 c2
      refine v_iloadn C 2 rfl rfl dX7_isSo_9 ?_
      refine v_if_eq C 17 (by decide) dX7_isSo_10 (fun c3 => ?_) (fun c3 => ?_)
      · replace h := h.1 c3
        refine v_iconst C kc_0 dX7_isSo_17 ?_
        exact tb_X7_isSo_18 l S R  hm C hr K (fun x1 x2 M => L_X7_isSo_3   K k x1 x2 M) (ih) (x1) (x2) ((0 : Int32)) M h
      · replace h := h.2 c3
        refine v_iconst C kc_1 dX7_isSo_13 ?_
        refine v_goto C 18 (by decide) dX7_isSo_14 ?_
        exact tb_X7_isSo_18 l S R  hm C hr K (fun x1 x2 M => L_X7_isSo_3   K k x1 x2 M) (ih) (x1) (x2) ((1 : Int32)) M h
set_option maxRecDepth 20000 in
theorem con_X7_isSo (l : Launch) (S : XS) (R : Rfs) (x1 : Int32) (hm : isMod R) (M : Mem) (K : Int32 → Mem → Prop) (h : wp_X7_isSo x1 M K) : CI l yX7_isSo cX7_isSo 5 (some .boolean) rmX7_isSo S 148 R [.ref (XB S + 130), .int x1] M K := by
  refine conI (lv := [(0, .ref (XB S + 130)), (1, .int x1)]) (by decide) (Nat.le_of_ble_eq_true rfl) rfl ?_
  intro p e s m args below meth c C hr
  replace C : Cx p m meth c s args cX7_isSo RX7 5 S := C
  refine v_bipush C kb_m20 dX7_isSo_0 ?_
  refine v_istoren (lv' := [(2, .int (-20 : Int32)), (0, .ref (XB S + 130)), (1, .int x1)]) C rfl rfl (Nat.le_of_ble_eq_true rfl) dX7_isSo_2 ?_
  refine v_loc [1, 2, 0] rfl ?_
  obtain ⟨k1, h⟩ := h
  exact tl_X7_isSo_3 l S R  hm C hr K   k1 (x1) ((-20 : Int32)) M h
abbrev rmX7_causes : Room := { frames := 2, cells := 0, slots := 0, locals := 45 }
def wp_X7_causes_34  (X4 : Int32 → Int32 → Mem → Prop) (K : Int32 → Mem → Prop) (x2 y0 y1 : Int32) (M : Mem) : Prop := X4 (y1 ||| y0) (x2 + (1 : Int32)) M
def wp_X7_causes_33  (X4 : Int32 → Int32 → Mem → Prop) (K : Int32 → Mem → Prop) (x2 y0 : Int32) (M : Mem) : Prop := wp_X7_causes_34  X4 K (x2) ((0 : Int32)) (y0) M
def L_X7_causes_4   (K : Int32 → Mem → Prop) : Nat → Int32 → Int32 → Mem → Prop
  | 0, _, _, _ => False
  | k + 1, x1, x2, M => ((7 : Int32) ≤ x2 → K x1 M) ∧ (¬ (7 : Int32) ≤ x2 → wp_X7_isCause (x2) M (fun r3 M3 => (r3 = 0 → wp_X7_causes_33  (fun x1 x2 M => L_X7_causes_4   K k x1 x2 M) K (x2) (x1) M3) ∧ (¬ r3 = 0 → wp_X7_isSo (x2) M3 (fun r5 M5 => (r5 = 0 → wp_X7_causes_33  (fun x1 x2 M => L_X7_causes_4   K k x1 x2 M) K (x2) (x1) M5) ∧ (¬ r5 = 0 → wp_X7_causes_34  (fun x1 x2 M => L_X7_causes_4   K k x1 x2 M) K (x2) (((1 : Int32) <<< (x2 &&& 31))) (x1) M5)))))
def wp_X7_causes (M : Mem) (K : Int32 → Mem → Prop) : Prop := ∃ j1 : Nat, L_X7_causes_4  K j1 ((0 : Int32)) ((0 : Int32)) M
set_option maxRecDepth 20000 in
theorem tb_X7_causes_34 {p : Program} {e : Env} {s : State} {m : MethodId} {args : Array Value} {below : List Frame} {meth : Method} {c : Code} (l : Launch) (S : XS) (R : Rfs)  (hm : isMod R) (C : Cx p m meth c s args cX7_causes RX7 3 S) (hr : meth.sig.returnType = (some .int)) (K : Int32 → Mem → Prop) (X4 : Int32 → Int32 → Mem → Prop) (hX4 : ∀ (x1 x2 : Int32) (M : Mem), X4 x1 x2 M → V p l e rmX7_causes s m args below meth c (MQ below (va_Qi K (XPost S 148 R) (XA S)) args s 0 0 (XA S)) S 3 0 0 148 M R 4 [(0, .ref (XB S + 130)), (1, .int x1), (2, .int x2)] []) (x2 y0 y1 : Int32) (M : Mem) (h : wp_X7_causes_34  X4 K x2 y0 y1 M) : V p l e rmX7_causes s m args below meth c (MQ below (va_Qi K (XPost S 148 R) (XA S)) args s 0 0 (XA S)) S 3 0 0 148 M R 34 [(0, .ref (XB S + 130)), (2, .int x2)] [.int y0, .int y1] := by
  refine v_ior C dX7_causes_34 ?_
  refine v_istoren (lv' := [(1, .int (y1 ||| y0)), (0, .ref (XB S + 130)), (2, .int x2)]) C rfl rfl (Nat.le_of_ble_eq_true rfl) dX7_causes_35 ?_
  refine v_iinc (lv' := [(2, .int (x2 + (1 : Int32))), (1, .int (y1 ||| y0)), (0, .ref (XB S + 130))]) C 2 rfl kc_1 rfl rfl (Nat.le_of_ble_eq_true rfl) dX7_causes_36 ?_
  refine v_goto C 4 (by decide) dX7_causes_39 ?_
  refine v_loc [2, 1, 0] rfl ?_
  exact hX4 ((y1 ||| y0)) ((x2 + (1 : Int32))) M h
set_option maxRecDepth 20000 in
theorem tb_X7_causes_33 {p : Program} {e : Env} {s : State} {m : MethodId} {args : Array Value} {below : List Frame} {meth : Method} {c : Code} (l : Launch) (S : XS) (R : Rfs)  (hm : isMod R) (C : Cx p m meth c s args cX7_causes RX7 3 S) (hr : meth.sig.returnType = (some .int)) (K : Int32 → Mem → Prop) (X4 : Int32 → Int32 → Mem → Prop) (hX4 : ∀ (x1 x2 : Int32) (M : Mem), X4 x1 x2 M → V p l e rmX7_causes s m args below meth c (MQ below (va_Qi K (XPost S 148 R) (XA S)) args s 0 0 (XA S)) S 3 0 0 148 M R 4 [(0, .ref (XB S + 130)), (1, .int x1), (2, .int x2)] []) (x2 y0 : Int32) (M : Mem) (h : wp_X7_causes_33  X4 K x2 y0 M) : V p l e rmX7_causes s m args below meth c (MQ below (va_Qi K (XPost S 148 R) (XA S)) args s 0 0 (XA S)) S 3 0 0 148 M R 33 [(0, .ref (XB S + 130)), (2, .int x2)] [.int y0] := by
  refine v_iconst C kc_0 dX7_causes_33 ?_
  exact tb_X7_causes_34 l S R  hm C hr K X4 (hX4) (x2) ((0 : Int32)) (y0) M h
set_option maxRecDepth 20000 in
theorem tl_X7_causes_4 {p : Program} {e : Env} {s : State} {m : MethodId} {args : Array Value} {below : List Frame} {meth : Method} {c : Code} (l : Launch) (S : XS) (R : Rfs)  (hm : isMod R) (C : Cx p m meth c s args cX7_causes RX7 3 S) (hr : meth.sig.returnType = (some .int)) (K : Int32 → Mem → Prop)   (k : Nat) : ∀ (x1 x2 : Int32) (M : Mem), L_X7_causes_4   K k x1 x2 M → V p l e rmX7_causes s m args below meth c (MQ below (va_Qi K (XPost S 148 R) (XA S)) args s 0 0 (XA S)) S 3 0 0 148 M R 4 [(0, .ref (XB S + 130)), (1, .int x1), (2, .int x2)] [] := by
  induction k with
  | zero => intro x1 x2 M h; exact h.elim
  | succ k ih =>
    intro x1 x2 M h
    refine v_iloadn C 2 rfl rfl dX7_causes_4 ?_
    refine v_bipush C kb_7 dX7_causes_5 ?_
    refine v_icmp_ge C 42 (by decide) dX7_causes_7 (fun c2 => ?_) (fun c2 => ?_)
    · replace h := h.1 c2
      refine v_iloadn C 1 rfl rfl dX7_causes_42 ?_
      exact v_iret C hr dX7_causes_43 h
    · replace h := h.2 c2
      refine v_iloadn C 1 rfl rfl dX7_causes_10 ?_
      refine v_aloadn C 0 rfl rfl dX7_causes_11 ?_
      refine v_iloadn C 2 rfl rfl dX7_causes_12 ?_
      refine v_cvI (As := [.int x2]) C mv_X7_207 (con_X7_isCause l S R (x2) hm _ _ h) sh_130 (Nat.le_of_ble_eq_true rfl) rfl ⟨(Nat.le_of_ble_eq_true rfl), (Nat.le_of_ble_eq_true rfl)⟩ ⟨rfl, rfl, Nat.zero_le _, Nat.zero_le _⟩ (Nat.le_of_ble_eq_true rfl) dX7_causes_13 (fun r3 M3 h => ?_)
      refine v_if_eq C 33 (by decide) dX7_causes_16 (fun c4 => ?_) (fun c4 => ?_)
      · replace h := h.1 c4
        refine v_loc [0, 2] rfl ?_
        exact tb_X7_causes_33 l S R  hm C hr K (fun x1 x2 M => L_X7_causes_4   K k x1 x2 M) (ih) (x2) (x1) M3 h
      · replace h := h.2 c4
        refine v_aloadn C 0 rfl rfl dX7_causes_19 ?_
        refine v_iloadn C 2 rfl rfl dX7_causes_20 ?_
        refine v_cvI (As := [.int x2]) C mv_X7_210 (con_X7_isSo l S R (x2) hm _ _ h) sh_130 (Nat.le_of_ble_eq_true rfl) rfl ⟨(Nat.le_of_ble_eq_true rfl), (Nat.le_of_ble_eq_true rfl)⟩ ⟨rfl, rfl, Nat.zero_le _, Nat.zero_le _⟩ (Nat.le_of_ble_eq_true rfl) dX7_causes_21 (fun r5 M5 h => ?_)
        refine v_if_eq C 33 (by decide) dX7_causes_24 (fun c6 => ?_) (fun c6 => ?_)
        · replace h := h.1 c6
          refine v_loc [0, 2] rfl ?_
          exact tb_X7_causes_33 l S R  hm C hr K (fun x1 x2 M => L_X7_causes_4   K k x1 x2 M) (ih) (x2) (x1) M5 h
        · replace h := h.2 c6
          refine v_iconst C kc_1 dX7_causes_27 ?_
          refine v_iloadn C 2 rfl rfl dX7_causes_28 ?_
          refine v_ishl C dX7_causes_29 ?_
          refine v_goto C 34 (by decide) dX7_causes_30 ?_
          refine v_loc [0, 2] rfl ?_
          exact tb_X7_causes_34 l S R  hm C hr K (fun x1 x2 M => L_X7_causes_4   K k x1 x2 M) (ih) (x2) (((1 : Int32) <<< (x2 &&& 31))) (x1) M5 h
set_option maxRecDepth 20000 in
theorem con_X7_causes (l : Launch) (S : XS) (R : Rfs)  (hm : isMod R) (M : Mem) (K : Int32 → Mem → Prop) (h : wp_X7_causes  M K) : CI l yX7_causes cX7_causes 3 (some .int) rmX7_causes S 148 R [.ref (XB S + 130)] M K := by
  refine conI (lv := [(0, .ref (XB S + 130))]) (by decide) (Nat.le_of_ble_eq_true rfl) rfl ?_
  intro p e s m args below meth c C hr
  replace C : Cx p m meth c s args cX7_causes RX7 3 S := C
  refine v_iconst C kc_0 dX7_causes_0 ?_
  refine v_istoren (lv' := [(1, .int (0 : Int32)), (0, .ref (XB S + 130))]) C rfl rfl (Nat.le_of_ble_eq_true rfl) dX7_causes_1 ?_
  refine v_iconst C kc_0 dX7_causes_2 ?_
  refine v_istoren (lv' := [(2, .int (0 : Int32)), (1, .int (0 : Int32)), (0, .ref (XB S + 130))]) C rfl rfl (Nat.le_of_ble_eq_true rfl) dX7_causes_3 ?_
  refine v_loc [2, 1, 0] rfl ?_
  obtain ⟨k1, h⟩ := h
  exact tl_X7_causes_4 l S R  hm C hr K   k1 ((0 : Int32)) ((0 : Int32)) M h
abbrev rmX7_which : Room := { frames := 3, cells := 0, slots := 0, locals := 67 }
def wp_X7_which (M : Mem) (K : Int32 → Mem → Prop) : Prop := wp_X7_causes M (fun r1 M1 => K r1 M1)
set_option maxRecDepth 20000 in
theorem con_X7_which (l : Launch) (S : XS) (R : Rfs)  (hm : isMod R) (M : Mem) (K : Int32 → Mem → Prop) (h : wp_X7_which  M K) : CI l yX7_which cX7_which 1 (some .int) rmX7_which S 148 R [.ref (XB S + 130)] M K := by
  refine conI (lv := [(0, .ref (XB S + 130))]) (by decide) (Nat.le_of_ble_eq_true rfl) rfl ?_
  intro p e s m args below meth c C hr
  replace C : Cx p m meth c s args cX7_which RX7 1 S := C
  refine v_aloadn C 0 rfl rfl dX7_which_0 ?_
  refine v_cvI (As := []) C mv_X7_213 (con_X7_causes l S R  hm _ _ h) sh_130 (Nat.le_of_ble_eq_true rfl) rfl ⟨(Nat.le_of_ble_eq_true rfl), (Nat.le_of_ble_eq_true rfl)⟩ ⟨rfl, rfl, Nat.zero_le _, Nat.zero_le _⟩ (Nat.le_of_ble_eq_true rfl) dX7_which_1 (fun r1 M1 h => ?_)
  exact v_iret C hr dX7_which_4 h
abbrev rmX7_look : Room := { frames := 3, cells := 0, slots := 0, locals := 67 }
def wp_X7_look_147  (X25 : Int32 → Int32 → Int32 → Int32 → Mem → Prop) (K : Int32 → Mem → Prop) (x1 x2 x4 y0 : Int32) (M : Mem) : Prop := X25 x1 x2 y0 (x4 + (1 : Int32)) M
def wp_X7_look_134  (X25 : Int32 → Int32 → Int32 → Int32 → Mem → Prop) (K : Int32 → Mem → Prop) (x1 x3 x4 x7 y0 : Int32) (M : Mem) : Prop := (x3 ≤ x7 → wp_X7_look_147  X25 K (x1) (y0) (x4) (x3) M) ∧ (¬ x3 ≤ x7 → wp_X7_look_147  X25 K (x1) (y0) (x4) (x7) M)
def wp_X7_look_120  (X25 : Int32 → Int32 → Int32 → Int32 → Mem → Prop) (K : Int32 → Mem → Prop) (x1 x2 x3 x4 y0 : Int32) (M : Mem) : Prop := (x3 ≤ y0 → wp_X7_look_134  X25 K (x1) (x3) (x4) (y0) (x2) M) ∧ (¬ x3 ≤ y0 → wp_X7_look_134  X25 K (x1) (x3) (x4) (y0) (x4) M)
def wp_X7_look_100  (X25 : Int32 → Int32 → Int32 → Int32 → Mem → Prop) (X43 : Int32 → Int32 → Int32 → Int32 → Int32 → Int32 → Int32 → Mem → Prop) (K : Int32 → Mem → Prop) (x1 x2 x3 x4 x5 x6 x7 : Int32) (M : Mem) : Prop := X43 x1 x2 x3 x4 x5 x6 (x7 + (1 : Int32)) M
def wp_X7_look_97  (X25 : Int32 → Int32 → Int32 → Int32 → Mem → Prop) (X43 : Int32 → Int32 → Int32 → Int32 → Int32 → Int32 → Int32 → Mem → Prop) (K : Int32 → Mem → Prop) (x1 x2 x3 x4 x5 x7 y0 y1 : Int32) (M : Mem) : Prop := wp_X7_look_100  X25 X43 K (x1) (x2) (x3) (x4) (x5) ((y1 + y0)) (x7) M
def wp_X7_look_77  (X25 : Int32 → Int32 → Int32 → Int32 → Mem → Prop) (X43 : Int32 → Int32 → Int32 → Int32 → Int32 → Int32 → Int32 → Mem → Prop) (K : Int32 → Mem → Prop) (x1 x2 x3 x4 x6 x7 y0 y1 : Int32) (M : Mem) : Prop := wp_X7_times (x7) (x4) M (fun r13 M13 => (¬ r13 = 0 → wp_X7_look_97  X25 X43 K (x1) (x2) (x3) (x4) ((y1 + y0)) (x7) ((1 : Int32)) (x6) M13) ∧ (r13 = 0 → wp_X7_look_97  X25 X43 K (x1) (x2) (x3) (x4) ((y1 + y0)) (x7) ((0 : Int32)) (x6) M13))
def L_X7_look_43  (X25 : Int32 → Int32 → Int32 → Int32 → Mem → Prop) (K : Int32 → Mem → Prop) : Nat → Int32 → Int32 → Int32 → Int32 → Int32 → Int32 → Int32 → Mem → Prop
  | 0, _, _, _, _, _, _, _, _ => False
  | k + 1, x1, x2, x3, x4, x5, x6, x7, M => ((7 : Int32) ≤ x7 → (x5 ≤ x6 → wp_X7_look_120  X25 K (x1) (x2) (x3) (x4) (x6) M) ∧ (¬ x5 ≤ x6 → wp_X7_look_120  X25 K (x1) (x2) (x3) (x4) (x5) M)) ∧ (¬ (7 : Int32) ≤ x7 → (¬ ((x1 >>> (x7 &&& 31)) &&& (1 : Int32)) = (1 : Int32) → wp_X7_look_100  X25 (fun x1 x2 x3 x4 x5 x6 x7 M => L_X7_look_43  X25 K k x1 x2 x3 x4 x5 x6 x7 M) K (x1) (x2) (x3) (x4) (x5) (x6) (x7) M) ∧ (((x1 >>> (x7 &&& 31)) &&& (1 : Int32)) = (1 : Int32) → wp_X7_times (x7) (x4) M (fun r9 M9 => (¬ r9 = 0 → wp_X7_look_77  X25 (fun x1 x2 x3 x4 x5 x6 x7 M => L_X7_look_43  X25 K k x1 x2 x3 x4 x5 x6 x7 M) K (x1) (x2) (x3) (x4) (x6) (x7) ((0 : Int32)) (x5) M9) ∧ (r9 = 0 → wp_X7_look_77  X25 (fun x1 x2 x3 x4 x5 x6 x7 M => L_X7_look_43  X25 K k x1 x2 x3 x4 x5 x6 x7 M) K (x1) (x2) (x3) (x4) (x6) (x7) ((1 : Int32)) (x5) M9))))
def L_X7_look_25   (K : Int32 → Mem → Prop) : Nat → Int32 → Int32 → Int32 → Int32 → Mem → Prop
  | 0, _, _, _, _, _ => False
  | k + 1, x1, x2, x3, x4, M => ((M 130 10) ≤ x4 → K x2 M) ∧ (¬ (M 130 10) ≤ x4 → ∃ j5 : Nat, L_X7_look_43  (fun x1 x2 x3 x4 M => L_X7_look_25   K k x1 x2 x3 x4 M) K j5 (x1) (x2) (x3) (x4) ((0 : Int32)) ((0 : Int32)) ((0 : Int32)) M)
def wp_X7_look (M : Mem) (K : Int32 → Mem → Prop) : Prop := wp_X7_causes M (fun r1 M1 => (¬ (r1 &&& (r1 - (1 : Int32))) = 0 → ∃ j3 : Nat, L_X7_look_25  K j3 (r1) ((-9 : Int32)) ((8 : Int32)) ((1 : Int32)) M1) ∧ ((r1 &&& (r1 - (1 : Int32))) = 0 → K (-9 : Int32) M1))
set_option maxRecDepth 20000 in
theorem tb_X7_look_147 {p : Program} {e : Env} {s : State} {m : MethodId} {args : Array Value} {below : List Frame} {meth : Method} {c : Code} (l : Launch) (S : XS) (R : Rfs)  (hm : isMod R) (C : Cx p m meth c s args cX7_look RX7 8 S) (hr : meth.sig.returnType = (some .int)) (K : Int32 → Mem → Prop) (X25 : Int32 → Int32 → Int32 → Int32 → Mem → Prop) (hX25 : ∀ (x1 x2 x3 x4 : Int32) (M : Mem), X25 x1 x2 x3 x4 M → V p l e rmX7_look s m args below meth c (MQ below (va_Qi K (XPost S 148 R) (XA S)) args s 0 0 (XA S)) S 8 0 0 148 M R 25 [(0, .ref (XB S + 130)), (1, .int x1), (2, .int x2), (3, .int x3), (4, .int x4)] []) (x1 x2 x4 y0 : Int32) (M : Mem) (h : wp_X7_look_147  X25 K x1 x2 x4 y0 M) : V p l e rmX7_look s m args below meth c (MQ below (va_Qi K (XPost S 148 R) (XA S)) args s 0 0 (XA S)) S 8 0 0 148 M R 147 [(0, .ref (XB S + 130)), (1, .int x1), (2, .int x2), (4, .int x4)] [.int y0] := by
  refine v_istoren (lv' := [(3, .int y0), (0, .ref (XB S + 130)), (1, .int x1), (2, .int x2), (4, .int x4)]) C rfl rfl (Nat.le_of_ble_eq_true rfl) dX7_look_147 ?_
  refine v_iinc (lv' := [(4, .int (x4 + (1 : Int32))), (3, .int y0), (0, .ref (XB S + 130)), (1, .int x1), (2, .int x2)]) C 4 rfl kc_1 rfl rfl (Nat.le_of_ble_eq_true rfl) dX7_look_148 ?_
  refine v_goto C 25 (by decide) dX7_look_151 ?_
  refine v_loc [2, 3, 4, 1, 0] rfl ?_
  exact hX25 (x1) (x2) (y0) ((x4 + (1 : Int32))) M h
set_option maxRecDepth 20000 in
theorem tb_X7_look_134 {p : Program} {e : Env} {s : State} {m : MethodId} {args : Array Value} {below : List Frame} {meth : Method} {c : Code} (l : Launch) (S : XS) (R : Rfs)  (hm : isMod R) (C : Cx p m meth c s args cX7_look RX7 8 S) (hr : meth.sig.returnType = (some .int)) (K : Int32 → Mem → Prop) (X25 : Int32 → Int32 → Int32 → Int32 → Mem → Prop) (hX25 : ∀ (x1 x2 x3 x4 : Int32) (M : Mem), X25 x1 x2 x3 x4 M → V p l e rmX7_look s m args below meth c (MQ below (va_Qi K (XPost S 148 R) (XA S)) args s 0 0 (XA S)) S 8 0 0 148 M R 25 [(0, .ref (XB S + 130)), (1, .int x1), (2, .int x2), (3, .int x3), (4, .int x4)] []) (x1 x3 x4 x7 y0 : Int32) (M : Mem) (h : wp_X7_look_134  X25 K x1 x3 x4 x7 y0 M) : V p l e rmX7_look s m args below meth c (MQ below (va_Qi K (XPost S 148 R) (XA S)) args s 0 0 (XA S)) S 8 0 0 148 M R 134 [(0, .ref (XB S + 130)), (1, .int x1), (3, .int x3), (4, .int x4), (7, .int x7)] [.int y0] := by
  refine v_istoren (lv' := [(2, .int y0), (0, .ref (XB S + 130)), (1, .int x1), (3, .int x3), (4, .int x4), (7, .int x7)]) C rfl rfl (Nat.le_of_ble_eq_true rfl) dX7_look_134 ?_
  refine v_iload C 5 rfl dX7_look_135 ?_
  refine v_iloadn C 3 rfl rfl dX7_look_137 ?_
  refine v_icmp_ge C 146 (by decide) dX7_look_138 (fun c12 => ?_) (fun c12 => ?_)
  · replace h := h.1 c12
    refine v_iloadn C 3 rfl rfl dX7_look_146 ?_
    refine v_loc [1, 2, 0, 4] rfl ?_
    exact tb_X7_look_147 l S R  hm C hr K X25 (hX25) (x1) (y0) (x4) (x3) M h
  · replace h := h.2 c12
    refine v_iload C 5 rfl dX7_look_141 ?_
    refine v_goto C 147 (by decide) dX7_look_143 ?_
    refine v_loc [1, 2, 0, 4] rfl ?_
    exact tb_X7_look_147 l S R  hm C hr K X25 (hX25) (x1) (y0) (x4) (x7) M h
set_option maxRecDepth 20000 in
theorem tb_X7_look_120 {p : Program} {e : Env} {s : State} {m : MethodId} {args : Array Value} {below : List Frame} {meth : Method} {c : Code} (l : Launch) (S : XS) (R : Rfs)  (hm : isMod R) (C : Cx p m meth c s args cX7_look RX7 8 S) (hr : meth.sig.returnType = (some .int)) (K : Int32 → Mem → Prop) (X25 : Int32 → Int32 → Int32 → Int32 → Mem → Prop) (hX25 : ∀ (x1 x2 x3 x4 : Int32) (M : Mem), X25 x1 x2 x3 x4 M → V p l e rmX7_look s m args below meth c (MQ below (va_Qi K (XPost S 148 R) (XA S)) args s 0 0 (XA S)) S 8 0 0 148 M R 25 [(0, .ref (XB S + 130)), (1, .int x1), (2, .int x2), (3, .int x3), (4, .int x4)] []) (x1 x2 x3 x4 y0 : Int32) (M : Mem) (h : wp_X7_look_120  X25 K x1 x2 x3 x4 y0 M) : V p l e rmX7_look s m args below meth c (MQ below (va_Qi K (XPost S 148 R) (XA S)) args s 0 0 (XA S)) S 8 0 0 148 M R 120 [(0, .ref (XB S + 130)), (1, .int x1), (2, .int x2), (3, .int x3), (4, .int x4)] [.int y0] := by
  refine v_istore (lv' := [(7, .int y0), (0, .ref (XB S + 130)), (1, .int x1), (2, .int x2), (3, .int x3), (4, .int x4)]) C rfl (Nat.le_of_ble_eq_true rfl) dX7_look_120 ?_
  refine v_iload C 0 rfl dX7_look_122 ?_
  refine v_iloadn C 4 rfl rfl dX7_look_124 ?_
  refine v_icmp_ge C 133 (by decide) dX7_look_125 (fun c11 => ?_) (fun c11 => ?_)
  · replace h := h.1 c11
    refine v_iloadn C 3 rfl rfl dX7_look_133 ?_
    refine v_loc [1, 2, 4, 5, 0] rfl ?_
    exact tb_X7_look_134 l S R  hm C hr K X25 (hX25) (x1) (x3) (x4) (y0) (x2) M h
  · replace h := h.2 c11
    refine v_iload C 5 rfl dX7_look_128 ?_
    refine v_goto C 134 (by decide) dX7_look_130 ?_
    refine v_loc [1, 2, 4, 5, 0] rfl ?_
    exact tb_X7_look_134 l S R  hm C hr K X25 (hX25) (x1) (x3) (x4) (y0) (x4) M h
set_option maxRecDepth 20000 in
theorem tb_X7_look_100 {p : Program} {e : Env} {s : State} {m : MethodId} {args : Array Value} {below : List Frame} {meth : Method} {c : Code} (l : Launch) (S : XS) (R : Rfs)  (hm : isMod R) (C : Cx p m meth c s args cX7_look RX7 8 S) (hr : meth.sig.returnType = (some .int)) (K : Int32 → Mem → Prop) (X25 : Int32 → Int32 → Int32 → Int32 → Mem → Prop) (X43 : Int32 → Int32 → Int32 → Int32 → Int32 → Int32 → Int32 → Mem → Prop) (hX25 : ∀ (x1 x2 x3 x4 : Int32) (M : Mem), X25 x1 x2 x3 x4 M → V p l e rmX7_look s m args below meth c (MQ below (va_Qi K (XPost S 148 R) (XA S)) args s 0 0 (XA S)) S 8 0 0 148 M R 25 [(0, .ref (XB S + 130)), (1, .int x1), (2, .int x2), (3, .int x3), (4, .int x4)] []) (hX43 : ∀ (x1 x2 x3 x4 x5 x6 x7 : Int32) (M : Mem), X43 x1 x2 x3 x4 x5 x6 x7 M → V p l e rmX7_look s m args below meth c (MQ below (va_Qi K (XPost S 148 R) (XA S)) args s 0 0 (XA S)) S 8 0 0 148 M R 43 [(0, .ref (XB S + 130)), (1, .int x1), (2, .int x2), (3, .int x3), (4, .int x4), (5, .int x5), (6, .int x6), (7, .int x7)] []) (x1 x2 x3 x4 x5 x6 x7 : Int32) (M : Mem) (h : wp_X7_look_100  X25 X43 K x1 x2 x3 x4 x5 x6 x7 M) : V p l e rmX7_look s m args below meth c (MQ below (va_Qi K (XPost S 148 R) (XA S)) args s 0 0 (XA S)) S 8 0 0 148 M R 100 [(0, .ref (XB S + 130)), (1, .int x1), (2, .int x2), (3, .int x3), (4, .int x4), (5, .int x5), (6, .int x6), (7, .int x7)] [] := by
  refine v_iinc (lv' := [(7, .int (x7 + (1 : Int32))), (0, .ref (XB S + 130)), (1, .int x1), (2, .int x2), (3, .int x3), (4, .int x4), (5, .int x5), (6, .int x6)]) C 7 rfl kc_1 rfl rfl (Nat.le_of_ble_eq_true rfl) dX7_look_100 ?_
  refine v_goto C 43 (by decide) dX7_look_103 ?_
  refine v_loc [1, 2, 3, 4, 5, 6, 7, 0] rfl ?_
  exact hX43 (x1) (x2) (x3) (x4) (x5) (x6) ((x7 + (1 : Int32))) M h
set_option maxRecDepth 20000 in
theorem tb_X7_look_97 {p : Program} {e : Env} {s : State} {m : MethodId} {args : Array Value} {below : List Frame} {meth : Method} {c : Code} (l : Launch) (S : XS) (R : Rfs)  (hm : isMod R) (C : Cx p m meth c s args cX7_look RX7 8 S) (hr : meth.sig.returnType = (some .int)) (K : Int32 → Mem → Prop) (X25 : Int32 → Int32 → Int32 → Int32 → Mem → Prop) (X43 : Int32 → Int32 → Int32 → Int32 → Int32 → Int32 → Int32 → Mem → Prop) (hX25 : ∀ (x1 x2 x3 x4 : Int32) (M : Mem), X25 x1 x2 x3 x4 M → V p l e rmX7_look s m args below meth c (MQ below (va_Qi K (XPost S 148 R) (XA S)) args s 0 0 (XA S)) S 8 0 0 148 M R 25 [(0, .ref (XB S + 130)), (1, .int x1), (2, .int x2), (3, .int x3), (4, .int x4)] []) (hX43 : ∀ (x1 x2 x3 x4 x5 x6 x7 : Int32) (M : Mem), X43 x1 x2 x3 x4 x5 x6 x7 M → V p l e rmX7_look s m args below meth c (MQ below (va_Qi K (XPost S 148 R) (XA S)) args s 0 0 (XA S)) S 8 0 0 148 M R 43 [(0, .ref (XB S + 130)), (1, .int x1), (2, .int x2), (3, .int x3), (4, .int x4), (5, .int x5), (6, .int x6), (7, .int x7)] []) (x1 x2 x3 x4 x5 x7 y0 y1 : Int32) (M : Mem) (h : wp_X7_look_97  X25 X43 K x1 x2 x3 x4 x5 x7 y0 y1 M) : V p l e rmX7_look s m args below meth c (MQ below (va_Qi K (XPost S 148 R) (XA S)) args s 0 0 (XA S)) S 8 0 0 148 M R 97 [(0, .ref (XB S + 130)), (1, .int x1), (2, .int x2), (3, .int x3), (4, .int x4), (5, .int x5), (7, .int x7)] [.int y0, .int y1] := by
  refine v_iadd C dX7_look_97 ?_
  refine v_istore (lv' := [(6, .int (y1 + y0)), (0, .ref (XB S + 130)), (1, .int x1), (2, .int x2), (3, .int x3), (4, .int x4), (5, .int x5), (7, .int x7)]) C rfl (Nat.le_of_ble_eq_true rfl) dX7_look_98 ?_
  refine v_loc [1, 2, 3, 4, 5, 6, 0, 7] rfl ?_
  exact tb_X7_look_100 l S R  hm C hr K X25 X43 (hX25) (hX43) (x1) (x2) (x3) (x4) (x5) ((y1 + y0)) (x7) M h
set_option maxRecDepth 20000 in
theorem tb_X7_look_77 {p : Program} {e : Env} {s : State} {m : MethodId} {args : Array Value} {below : List Frame} {meth : Method} {c : Code} (l : Launch) (S : XS) (R : Rfs)  (hm : isMod R) (C : Cx p m meth c s args cX7_look RX7 8 S) (hr : meth.sig.returnType = (some .int)) (K : Int32 → Mem → Prop) (X25 : Int32 → Int32 → Int32 → Int32 → Mem → Prop) (X43 : Int32 → Int32 → Int32 → Int32 → Int32 → Int32 → Int32 → Mem → Prop) (hX25 : ∀ (x1 x2 x3 x4 : Int32) (M : Mem), X25 x1 x2 x3 x4 M → V p l e rmX7_look s m args below meth c (MQ below (va_Qi K (XPost S 148 R) (XA S)) args s 0 0 (XA S)) S 8 0 0 148 M R 25 [(0, .ref (XB S + 130)), (1, .int x1), (2, .int x2), (3, .int x3), (4, .int x4)] []) (hX43 : ∀ (x1 x2 x3 x4 x5 x6 x7 : Int32) (M : Mem), X43 x1 x2 x3 x4 x5 x6 x7 M → V p l e rmX7_look s m args below meth c (MQ below (va_Qi K (XPost S 148 R) (XA S)) args s 0 0 (XA S)) S 8 0 0 148 M R 43 [(0, .ref (XB S + 130)), (1, .int x1), (2, .int x2), (3, .int x3), (4, .int x4), (5, .int x5), (6, .int x6), (7, .int x7)] []) (x1 x2 x3 x4 x6 x7 y0 y1 : Int32) (M : Mem) (h : wp_X7_look_77  X25 X43 K x1 x2 x3 x4 x6 x7 y0 y1 M) : V p l e rmX7_look s m args below meth c (MQ below (va_Qi K (XPost S 148 R) (XA S)) args s 0 0 (XA S)) S 8 0 0 148 M R 77 [(0, .ref (XB S + 130)), (1, .int x1), (2, .int x2), (3, .int x3), (4, .int x4), (6, .int x6), (7, .int x7)] [.int y0, .int y1] := by
  refine v_iadd C dX7_look_77 ?_
  refine v_istore (lv' := [(5, .int (y1 + y0)), (0, .ref (XB S + 130)), (1, .int x1), (2, .int x2), (3, .int x3), (4, .int x4), (6, .int x6), (7, .int x7)]) C rfl (Nat.le_of_ble_eq_true rfl) dX7_look_78 ?_
  refine v_iload C 6 rfl dX7_look_80 ?_
  refine v_iload C 7 rfl dX7_look_82 ?_
  refine v_iload C 5 rfl dX7_look_84 ?_
  refine v_csI (As := [.int x7, .int x4]) C ms_X7_204 (con_X7_times l S 148 R (x7) (x4)  _ _ h) rfl ⟨(Nat.le_of_ble_eq_true rfl), (Nat.le_of_ble_eq_true rfl)⟩ ⟨rfl, rfl, Nat.zero_le _, Nat.zero_le _⟩ (Nat.le_of_ble_eq_true rfl) dX7_look_86 (fun r13 M13 h => ?_)
  refine v_if_ne C 96 (by decide) dX7_look_89 (fun c14 => ?_) (fun c14 => ?_)
  · replace h := h.1 c14
    refine v_iconst C kc_1 dX7_look_96 ?_
    refine v_loc [1, 2, 3, 4, 5, 0, 7] rfl ?_
    exact tb_X7_look_97 l S R  hm C hr K X25 X43 (hX25) (hX43) (x1) (x2) (x3) (x4) ((y1 + y0)) (x7) ((1 : Int32)) (x6) M13 h
  · replace h := h.2 c14
    refine v_iconst C kc_0 dX7_look_92 ?_
    refine v_goto C 97 (by decide) dX7_look_93 ?_
    refine v_loc [1, 2, 3, 4, 5, 0, 7] rfl ?_
    exact tb_X7_look_97 l S R  hm C hr K X25 X43 (hX25) (hX43) (x1) (x2) (x3) (x4) ((y1 + y0)) (x7) ((0 : Int32)) (x6) M13 h
set_option maxRecDepth 20000 in
theorem tl_X7_look_43 {p : Program} {e : Env} {s : State} {m : MethodId} {args : Array Value} {below : List Frame} {meth : Method} {c : Code} (l : Launch) (S : XS) (R : Rfs)  (hm : isMod R) (C : Cx p m meth c s args cX7_look RX7 8 S) (hr : meth.sig.returnType = (some .int)) (K : Int32 → Mem → Prop) (X25 : Int32 → Int32 → Int32 → Int32 → Mem → Prop) (hX25 : ∀ (x1 x2 x3 x4 : Int32) (M : Mem), X25 x1 x2 x3 x4 M → V p l e rmX7_look s m args below meth c (MQ below (va_Qi K (XPost S 148 R) (XA S)) args s 0 0 (XA S)) S 8 0 0 148 M R 25 [(0, .ref (XB S + 130)), (1, .int x1), (2, .int x2), (3, .int x3), (4, .int x4)] []) (k : Nat) : ∀ (x1 x2 x3 x4 x5 x6 x7 : Int32) (M : Mem), L_X7_look_43  X25 K k x1 x2 x3 x4 x5 x6 x7 M → V p l e rmX7_look s m args below meth c (MQ below (va_Qi K (XPost S 148 R) (XA S)) args s 0 0 (XA S)) S 8 0 0 148 M R 43 [(0, .ref (XB S + 130)), (1, .int x1), (2, .int x2), (3, .int x3), (4, .int x4), (5, .int x5), (6, .int x6), (7, .int x7)] [] := by
  induction k with
  | zero => intro x1 x2 x3 x4 x5 x6 x7 M h; exact h.elim
  | succ k ih =>
    intro x1 x2 x3 x4 x5 x6 x7 M h
    refine v_iload C 7 rfl dX7_look_43 ?_
    refine v_bipush C kb_7 dX7_look_45 ?_
    refine v_icmp_ge C 106 (by decide) dX7_look_47 (fun c6 => ?_) (fun c6 => ?_)
    · replace h := h.1 c6
      refine v_iload C 5 rfl dX7_look_106 ?_
      refine v_iload C 6 rfl dX7_look_108 ?_
      refine v_icmp_le C 118 (by decide) dX7_look_110 (fun c7 => ?_) (fun c7 => ?_)
      · replace h := h.1 c7
        refine v_iload C 6 rfl dX7_look_118 ?_
        refine v_loc [0, 1, 2, 3, 4] rfl ?_
        exact tb_X7_look_120 l S R  hm C hr K X25 (hX25) (x1) (x2) (x3) (x4) (x6) M h
      · replace h := h.2 c7
        refine v_iload C 5 rfl dX7_look_113 ?_
        refine v_goto C 120 (by decide) dX7_look_115 ?_
        refine v_loc [0, 1, 2, 3, 4] rfl ?_
        exact tb_X7_look_120 l S R  hm C hr K X25 (hX25) (x1) (x2) (x3) (x4) (x5) M h
    · replace h := h.2 c6
      refine v_iloadn C 1 rfl rfl dX7_look_50 ?_
      refine v_iload C 7 rfl dX7_look_51 ?_
      refine v_ishr C dX7_look_53 ?_
      refine v_iconst C kc_1 dX7_look_54 ?_
      refine v_iand C dX7_look_55 ?_
      refine v_iconst C kc_1 dX7_look_56 ?_
      refine v_icmp_ne C 100 (by decide) dX7_look_57 (fun c8 => ?_) (fun c8 => ?_)
      · replace h := h.1 c8
        exact tb_X7_look_100 l S R  hm C hr K X25 (fun x1 x2 x3 x4 x5 x6 x7 M => L_X7_look_43  X25 K k x1 x2 x3 x4 x5 x6 x7 M) (hX25) (ih) (x1) (x2) (x3) (x4) (x5) (x6) (x7) M h
      · replace h := h.2 c8
        refine v_iload C 5 rfl dX7_look_60 ?_
        refine v_iload C 7 rfl dX7_look_62 ?_
        refine v_iload C 4 rfl dX7_look_64 ?_
        refine v_csI (As := [.int x7, .int x4]) C ms_X7_204 (con_X7_times l S 148 R (x7) (x4)  _ _ h) rfl ⟨(Nat.le_of_ble_eq_true rfl), (Nat.le_of_ble_eq_true rfl)⟩ ⟨rfl, rfl, Nat.zero_le _, Nat.zero_le _⟩ (Nat.le_of_ble_eq_true rfl) dX7_look_66 (fun r9 M9 h => ?_)
        refine v_if_ne C 76 (by decide) dX7_look_69 (fun c10 => ?_) (fun c10 => ?_)
        · replace h := h.1 c10
          refine v_iconst C kc_0 dX7_look_76 ?_
          refine v_loc [0, 1, 2, 3, 4, 6, 7] rfl ?_
          exact tb_X7_look_77 l S R  hm C hr K X25 (fun x1 x2 x3 x4 x5 x6 x7 M => L_X7_look_43  X25 K k x1 x2 x3 x4 x5 x6 x7 M) (hX25) (ih) (x1) (x2) (x3) (x4) (x6) (x7) ((0 : Int32)) (x5) M9 h
        · replace h := h.2 c10
          refine v_iconst C kc_1 dX7_look_72 ?_
          refine v_goto C 77 (by decide) dX7_look_73 ?_
          refine v_loc [0, 1, 2, 3, 4, 6, 7] rfl ?_
          exact tb_X7_look_77 l S R  hm C hr K X25 (fun x1 x2 x3 x4 x5 x6 x7 M => L_X7_look_43  X25 K k x1 x2 x3 x4 x5 x6 x7 M) (hX25) (ih) (x1) (x2) (x3) (x4) (x6) (x7) ((1 : Int32)) (x5) M9 h
set_option maxRecDepth 20000 in
theorem tl_X7_look_25 {p : Program} {e : Env} {s : State} {m : MethodId} {args : Array Value} {below : List Frame} {meth : Method} {c : Code} (l : Launch) (S : XS) (R : Rfs)  (hm : isMod R) (C : Cx p m meth c s args cX7_look RX7 8 S) (hr : meth.sig.returnType = (some .int)) (K : Int32 → Mem → Prop)   (k : Nat) : ∀ (x1 x2 x3 x4 : Int32) (M : Mem), L_X7_look_25   K k x1 x2 x3 x4 M → V p l e rmX7_look s m args below meth c (MQ below (va_Qi K (XPost S 148 R) (XA S)) args s 0 0 (XA S)) S 8 0 0 148 M R 25 [(0, .ref (XB S + 130)), (1, .int x1), (2, .int x2), (3, .int x3), (4, .int x4)] [] := by
  induction k with
  | zero => intro x1 x2 x3 x4 M h; exact h.elim
  | succ k ih =>
    intro x1 x2 x3 x4 M h
    refine v_iload C 4 rfl dX7_look_25 ?_
    refine v_aloadn C 0 rfl rfl dX7_look_27 ?_
    refine v_geti C fr_X7_75 sh_130 (Nat.le_of_ble_eq_true rfl) rfl dX7_look_28 ?_
    refine v_icmp_ge C 154 (by decide) dX7_look_31 (fun c4 => ?_) (fun c4 => ?_)
    · replace h := h.1 c4
      refine v_iloadn C 2 rfl rfl dX7_look_154 ?_
      exact v_iret C hr dX7_look_155 h
    · replace h := h.2 c4
      refine v_iconst C kc_0 dX7_look_34 ?_
      refine v_istore (lv' := [(5, .int (0 : Int32)), (0, .ref (XB S + 130)), (1, .int x1), (2, .int x2), (3, .int x3), (4, .int x4)]) C rfl (Nat.le_of_ble_eq_true rfl) dX7_look_35 ?_
      refine v_iconst C kc_0 dX7_look_37 ?_
      refine v_istore (lv' := [(6, .int (0 : Int32)), (5, .int (0 : Int32)), (0, .ref (XB S + 130)), (1, .int x1), (2, .int x2), (3, .int x3), (4, .int x4)]) C rfl (Nat.le_of_ble_eq_true rfl) dX7_look_38 ?_
      refine v_iconst C kc_0 dX7_look_40 ?_
      refine v_istore (lv' := [(7, .int (0 : Int32)), (6, .int (0 : Int32)), (5, .int (0 : Int32)), (0, .ref (XB S + 130)), (1, .int x1), (2, .int x2), (3, .int x3), (4, .int x4)]) C rfl (Nat.le_of_ble_eq_true rfl) dX7_look_41 ?_
      refine v_loc [3, 4, 5, 6, 7, 2, 1, 0] rfl ?_
      obtain ⟨k5, h⟩ := h
      exact tl_X7_look_43 l S R  hm C hr K (fun x1 x2 x3 x4 M => L_X7_look_25   K k x1 x2 x3 x4 M) (ih) k5 (x1) (x2) (x3) (x4) ((0 : Int32)) ((0 : Int32)) ((0 : Int32)) M h
set_option maxRecDepth 20000 in
theorem con_X7_look (l : Launch) (S : XS) (R : Rfs)  (hm : isMod R) (M : Mem) (K : Int32 → Mem → Prop) (h : wp_X7_look  M K) : CI l yX7_look cX7_look 8 (some .int) rmX7_look S 148 R [.ref (XB S + 130)] M K := by
  refine conI (lv := [(0, .ref (XB S + 130))]) (by decide) (Nat.le_of_ble_eq_true rfl) rfl ?_
  intro p e s m args below meth c C hr
  replace C : Cx p m meth c s args cX7_look RX7 8 S := C
  refine v_aloadn C 0 rfl rfl dX7_look_0 ?_
  refine v_cvI (As := []) C mv_X7_213 (con_X7_causes l S R  hm _ _ h) sh_130 (Nat.le_of_ble_eq_true rfl) rfl ⟨(Nat.le_of_ble_eq_true rfl), (Nat.le_of_ble_eq_true rfl)⟩ ⟨rfl, rfl, Nat.zero_le _, Nat.zero_le _⟩ (Nat.le_of_ble_eq_true rfl) dX7_look_1 (fun r1 M1 h => ?_)
  refine v_istoren (lv' := [(1, .int r1), (0, .ref (XB S + 130))]) C rfl rfl (Nat.le_of_ble_eq_true rfl) dX7_look_4 ?_
  refine v_iloadn C 0 rfl rfl dX7_look_5 ?_
  refine v_iloadn C 0 rfl rfl dX7_look_6 ?_
  refine v_iconst C kc_1 dX7_look_7 ?_
  refine v_isub C dX7_look_8 ?_
  refine v_iand C dX7_look_9 ?_
  refine v_if_ne C 16 (by decide) dX7_look_10 (fun c2 => ?_) (fun c2 => ?_)
  · replace h := h.1 c2
    refine v_bipush C kb_m9 dX7_look_16 ?_
    refine v_istoren (lv' := [(2, .int (-9 : Int32)), (1, .int r1), (0, .ref (XB S + 130))]) C rfl rfl (Nat.le_of_ble_eq_true rfl) dX7_look_18 ?_
    refine v_bipush C kb_8 dX7_look_19 ?_
    refine v_istoren (lv' := [(3, .int (8 : Int32)), (2, .int (-9 : Int32)), (1, .int r1), (0, .ref (XB S + 130))]) C rfl rfl (Nat.le_of_ble_eq_true rfl) dX7_look_21 ?_
    refine v_iconst C kc_1 dX7_look_22 ?_
    refine v_istore (lv' := [(4, .int (1 : Int32)), (3, .int (8 : Int32)), (2, .int (-9 : Int32)), (1, .int r1), (0, .ref (XB S + 130))]) C rfl (Nat.le_of_ble_eq_true rfl) dX7_look_23 ?_
    refine v_loc [4, 3, 2, 1, 0] rfl ?_
    obtain ⟨k3, h⟩ := h
    exact tl_X7_look_25 l S R  hm C hr K   k3 (r1) ((-9 : Int32)) ((8 : Int32)) ((1 : Int32)) M1 h
  · replace h := h.2 c2
    refine v_bipush C kb_m9 dX7_look_13 ?_
    exact v_iret C hr dX7_look_15 h
abbrev rmX7_keep : Room := { frames := 1, cells := 0, slots := 0, locals := 22 }
def L_X7_keep_13   (K : Int32 → Mem → Prop) : Nat → Int32 → Int32 → Mem → Prop
  | 0, _, _, _ => False
  | k + 1, x1, x2, M => ((349 : Int32) ≤ x2 → vp_in x1 2 ∧ (∀ M5 : Mem, M5 = mw M 135 (ix x1) (1 : Int32) → K (M5 131 5) M5)) ∧ (¬ (349 : Int32) ≤ x2 → vp_in x2 349 ∧ (vp_in (((349 : Int32) * x1) + x2) 698 ∧ (∀ M6 : Mem, M6 = mw M 134 (ix (((349 : Int32) * x1) + x2)) (M 131 (ix x2)) → L_X7_keep_13  K k x1 (x2 + (1 : Int32)) M6)))
def wp_X7_keep (x1 : Int32) (M : Mem) (K : Int32 → Mem → Prop) : Prop := wp_X7_in (x1) ((0 : Int32)) ((1 : Int32)) M (fun r1 M1 => (¬ r1 = 0 → ∃ j3 : Nat, L_X7_keep_13  K j3 (x1) ((0 : Int32)) M1) ∧ (r1 = 0 → K (-1 : Int32) M1))
set_option maxRecDepth 20000 in
theorem tl_X7_keep_13 {p : Program} {e : Env} {s : State} {m : MethodId} {args : Array Value} {below : List Frame} {meth : Method} {c : Code} (l : Launch) (S : XS) (R : Rfs)  (hm : isMod R) (C : Cx p m meth c s args cX7_keep RX7 3 S) (hr : meth.sig.returnType = (some .int)) (K : Int32 → Mem → Prop)   (k : Nat) : ∀ (x1 x2 : Int32) (M : Mem), L_X7_keep_13   K k x1 x2 M → V p l e rmX7_keep s m args below meth c (MQ below (va_Qi K (XPost S 148 R) (XA S)) args s 0 0 (XA S)) S 3 0 0 148 M R 13 [(0, .ref (XB S + 130)), (1, .int x1), (2, .int x2)] [] := by
  induction k with
  | zero => intro x1 x2 M h; exact h.elim
  | succ k ih =>
    intro x1 x2 M h
    refine v_iloadn C 2 rfl rfl dX7_keep_13 ?_
    refine v_sipush C ks_349 dX7_keep_14 ?_
    refine v_icmp_ge C 44 (by decide) dX7_keep_17 (fun c4 => ?_) (fun c4 => ?_)
    · replace h := h.1 c4
      refine v_aloadn C 0 rfl rfl dX7_keep_44 ?_
      refine v_getr (o' := 135) C fr_X7_22 sh_130 (Nat.le_of_ble_eq_true rfl) rfl (iMod_r5 hm) dX7_keep_45 ?_
      refine v_iloadn C 1 rfl rfl dX7_keep_48 ?_
      refine v_iconst C kc_1 dX7_keep_49 ?_
      have hi5 := h.1
      replace h := h.2
      refine v_zast C sh_135 (Nat.le_of_ble_eq_true rfl) isB1 hi5 dX7_keep_50 (fun M5 e5 => ?_)
      replace h := h M5 e5
      refine v_aloadn C 0 rfl rfl dX7_keep_51 ?_
      refine v_getr (o' := 131) C fr_X7_7 sh_130 (Nat.le_of_ble_eq_true rfl) rfl (iMod_r0 hm) dX7_keep_52 ?_
      refine v_iconst C kc_5 dX7_keep_55 ?_
      refine v_aldk C sh_131 (Nat.le_of_ble_eq_true rfl) lit_5 (Nat.le_of_ble_eq_true rfl) dX7_keep_56 ?_
      exact v_iret C hr dX7_keep_57 h
    · replace h := h.2 c4
      refine v_aloadn C 0 rfl rfl dX7_keep_20 ?_
      refine v_getr (o' := 134) C fr_X7_19 sh_130 (Nat.le_of_ble_eq_true rfl) rfl (iMod_r4 hm) dX7_keep_21 ?_
      refine v_sipush C ks_349 dX7_keep_24 ?_
      refine v_iloadn C 1 rfl rfl dX7_keep_27 ?_
      refine v_imul C dX7_keep_28 ?_
      refine v_iloadn C 2 rfl rfl dX7_keep_29 ?_
      refine v_iadd C dX7_keep_30 ?_
      refine v_aloadn C 0 rfl rfl dX7_keep_31 ?_
      refine v_getr (o' := 131) C fr_X7_7 sh_130 (Nat.le_of_ble_eq_true rfl) rfl (iMod_r0 hm) dX7_keep_32 ?_
      refine v_iloadn C 2 rfl rfl dX7_keep_35 ?_
      refine v_ald C sh_131 (Nat.le_of_ble_eq_true rfl) h.1 dX7_keep_36 ?_
      replace h := h.2
      have hi6 := h.1
      replace h := h.2
      refine v_ast C sh_134 (Nat.le_of_ble_eq_true rfl) hi6 dX7_keep_37 (fun M6 e6 => ?_)
      replace h := h M6 e6
      refine v_iinc (lv' := [(2, .int (x2 + (1 : Int32))), (0, .ref (XB S + 130)), (1, .int x1)]) C 2 rfl kc_1 rfl rfl (Nat.le_of_ble_eq_true rfl) dX7_keep_38 ?_
      refine v_goto C 13 (by decide) dX7_keep_41 ?_
      refine v_loc [1, 2, 0] rfl ?_
      exact ih (x1) ((x2 + (1 : Int32))) M6 h
set_option maxRecDepth 20000 in
theorem con_X7_keep (l : Launch) (S : XS) (R : Rfs) (x1 : Int32) (hm : isMod R) (M : Mem) (K : Int32 → Mem → Prop) (h : wp_X7_keep x1 M K) : CI l yX7_keep cX7_keep 3 (some .int) rmX7_keep S 148 R [.ref (XB S + 130), .int x1] M K := by
  refine conI (lv := [(0, .ref (XB S + 130)), (1, .int x1)]) (by decide) (Nat.le_of_ble_eq_true rfl) rfl ?_
  intro p e s m args below meth c C hr
  replace C : Cx p m meth c s args cX7_keep RX7 3 S := C
  refine v_iloadn C 1 rfl rfl dX7_keep_0 ?_
  refine v_iconst C kc_0 dX7_keep_1 ?_
  refine v_iconst C kc_1 dX7_keep_2 ?_
  refine v_csI (As := [.int x1, .int (0 : Int32), .int (1 : Int32)]) C ms_X7_96 (con_X7_in l S 148 R (x1) ((0 : Int32)) ((1 : Int32))  _ _ h) rfl ⟨(Nat.le_of_ble_eq_true rfl), (Nat.le_of_ble_eq_true rfl)⟩ ⟨rfl, rfl, Nat.zero_le _, Nat.zero_le _⟩ (Nat.le_of_ble_eq_true rfl) dX7_keep_3 (fun r1 M1 h => ?_)
  refine v_if_ne C 11 (by decide) dX7_keep_6 (fun c2 => ?_) (fun c2 => ?_)
  · replace h := h.1 c2
    refine v_iconst C kc_0 dX7_keep_11 ?_
    refine v_istoren (lv' := [(2, .int (0 : Int32)), (0, .ref (XB S + 130)), (1, .int x1)]) C rfl rfl (Nat.le_of_ble_eq_true rfl) dX7_keep_12 ?_
    refine v_loc [1, 2, 0] rfl ?_
    obtain ⟨k3, h⟩ := h
    exact tl_X7_keep_13 l S R  hm C hr K   k3 (x1) ((0 : Int32)) M1 h
  · replace h := h.2 c2
    refine v_iconst C kc_m1 dX7_keep_9 ?_
    exact v_iret C hr dX7_keep_10 h
abbrev rmX7_back : Room := { frames := 1, cells := 0, slots := 0, locals := 22 }
def L_X7_back_25   (K : Int32 → Mem → Prop) : Nat → Int32 → Int32 → Mem → Prop
  | 0, _, _, _ => False
  | k + 1, x1, x2, M => ((349 : Int32) ≤ x2 → (∀ M6 : Mem, M6 = mw M 130 3 (0 : Int32) → K (M6 131 5) M6)) ∧ (¬ (349 : Int32) ≤ x2 → vp_in (((349 : Int32) * x1) + x2) 698 ∧ (vp_in x2 349 ∧ (∀ M7 : Mem, M7 = mw M 131 (ix x2) (M 134 (ix (((349 : Int32) * x1) + x2))) → L_X7_back_25  K k x1 (x2 + (1 : Int32)) M7)))
def wp_X7_back (x1 : Int32) (M : Mem) (K : Int32 → Mem → Prop) : Prop := wp_X7_in (x1) ((0 : Int32)) ((1 : Int32)) M (fun r1 M1 => (¬ r1 = 0 → vp_in x1 2 ∧ ((¬ (M1 135 (ix x1)) = 0 → ∃ j4 : Nat, L_X7_back_25  K j4 (x1) ((0 : Int32)) M1) ∧ ((M1 135 (ix x1)) = 0 → K (-2 : Int32) M1))) ∧ (r1 = 0 → K (-1 : Int32) M1))
set_option maxRecDepth 20000 in
theorem tl_X7_back_25 {p : Program} {e : Env} {s : State} {m : MethodId} {args : Array Value} {below : List Frame} {meth : Method} {c : Code} (l : Launch) (S : XS) (R : Rfs)  (hm : isMod R) (C : Cx p m meth c s args cX7_back RX7 3 S) (hr : meth.sig.returnType = (some .int)) (K : Int32 → Mem → Prop)   (k : Nat) : ∀ (x1 x2 : Int32) (M : Mem), L_X7_back_25   K k x1 x2 M → V p l e rmX7_back s m args below meth c (MQ below (va_Qi K (XPost S 148 R) (XA S)) args s 0 0 (XA S)) S 3 0 0 148 M R 25 [(0, .ref (XB S + 130)), (1, .int x1), (2, .int x2)] [] := by
  induction k with
  | zero => intro x1 x2 M h; exact h.elim
  | succ k ih =>
    intro x1 x2 M h
    refine v_iloadn C 2 rfl rfl dX7_back_25 ?_
    refine v_sipush C ks_349 dX7_back_26 ?_
    refine v_icmp_ge C 56 (by decide) dX7_back_29 (fun c5 => ?_) (fun c5 => ?_)
    · replace h := h.1 c5
      refine v_aloadn C 0 rfl rfl dX7_back_56 ?_
      refine v_iconst C kc_0 dX7_back_57 ?_
      refine v_puti C fr_X7_81 sh_130 (Nat.le_of_ble_eq_true rfl) rfl dX7_back_58 (fun M6 e6 => ?_)
      replace h := h M6 e6
      refine v_aloadn C 0 rfl rfl dX7_back_61 ?_
      refine v_getr (o' := 131) C fr_X7_7 sh_130 (Nat.le_of_ble_eq_true rfl) rfl (iMod_r0 hm) dX7_back_62 ?_
      refine v_iconst C kc_5 dX7_back_65 ?_
      refine v_aldk C sh_131 (Nat.le_of_ble_eq_true rfl) lit_5 (Nat.le_of_ble_eq_true rfl) dX7_back_66 ?_
      exact v_iret C hr dX7_back_67 h
    · replace h := h.2 c5
      refine v_aloadn C 0 rfl rfl dX7_back_32 ?_
      refine v_getr (o' := 131) C fr_X7_7 sh_130 (Nat.le_of_ble_eq_true rfl) rfl (iMod_r0 hm) dX7_back_33 ?_
      refine v_iloadn C 2 rfl rfl dX7_back_36 ?_
      refine v_aloadn C 0 rfl rfl dX7_back_37 ?_
      refine v_getr (o' := 134) C fr_X7_19 sh_130 (Nat.le_of_ble_eq_true rfl) rfl (iMod_r4 hm) dX7_back_38 ?_
      refine v_sipush C ks_349 dX7_back_41 ?_
      refine v_iloadn C 1 rfl rfl dX7_back_44 ?_
      refine v_imul C dX7_back_45 ?_
      refine v_iloadn C 2 rfl rfl dX7_back_46 ?_
      refine v_iadd C dX7_back_47 ?_
      refine v_ald C sh_134 (Nat.le_of_ble_eq_true rfl) h.1 dX7_back_48 ?_
      replace h := h.2
      have hi7 := h.1
      replace h := h.2
      refine v_ast C sh_131 (Nat.le_of_ble_eq_true rfl) hi7 dX7_back_49 (fun M7 e7 => ?_)
      replace h := h M7 e7
      refine v_iinc (lv' := [(2, .int (x2 + (1 : Int32))), (0, .ref (XB S + 130)), (1, .int x1)]) C 2 rfl kc_1 rfl rfl (Nat.le_of_ble_eq_true rfl) dX7_back_50 ?_
      refine v_goto C 25 (by decide) dX7_back_53 ?_
      refine v_loc [1, 2, 0] rfl ?_
      exact ih (x1) ((x2 + (1 : Int32))) M7 h
set_option maxRecDepth 20000 in
theorem con_X7_back (l : Launch) (S : XS) (R : Rfs) (x1 : Int32) (hm : isMod R) (M : Mem) (K : Int32 → Mem → Prop) (h : wp_X7_back x1 M K) : CI l yX7_back cX7_back 3 (some .int) rmX7_back S 148 R [.ref (XB S + 130), .int x1] M K := by
  refine conI (lv := [(0, .ref (XB S + 130)), (1, .int x1)]) (by decide) (Nat.le_of_ble_eq_true rfl) rfl ?_
  intro p e s m args below meth c C hr
  replace C : Cx p m meth c s args cX7_back RX7 3 S := C
  refine v_iloadn C 1 rfl rfl dX7_back_0 ?_
  refine v_iconst C kc_0 dX7_back_1 ?_
  refine v_iconst C kc_1 dX7_back_2 ?_
  refine v_csI (As := [.int x1, .int (0 : Int32), .int (1 : Int32)]) C ms_X7_96 (con_X7_in l S 148 R (x1) ((0 : Int32)) ((1 : Int32))  _ _ h) rfl ⟨(Nat.le_of_ble_eq_true rfl), (Nat.le_of_ble_eq_true rfl)⟩ ⟨rfl, rfl, Nat.zero_le _, Nat.zero_le _⟩ (Nat.le_of_ble_eq_true rfl) dX7_back_3 (fun r1 M1 h => ?_)
  refine v_if_ne C 11 (by decide) dX7_back_6 (fun c2 => ?_) (fun c2 => ?_)
  · replace h := h.1 c2
    refine v_aloadn C 0 rfl rfl dX7_back_11 ?_
    refine v_getr (o' := 135) C fr_X7_22 sh_130 (Nat.le_of_ble_eq_true rfl) rfl (iMod_r5 hm) dX7_back_12 ?_
    refine v_iloadn C 1 rfl rfl dX7_back_15 ?_
    refine v_zald C sh_135 (Nat.le_of_ble_eq_true rfl) h.1 dX7_back_16 ?_
    replace h := h.2
    refine v_if_ne C 23 (by decide) dX7_back_17 (fun c3 => ?_) (fun c3 => ?_)
    · replace h := h.1 c3
      refine v_iconst C kc_0 dX7_back_23 ?_
      refine v_istoren (lv' := [(2, .int (0 : Int32)), (0, .ref (XB S + 130)), (1, .int x1)]) C rfl rfl (Nat.le_of_ble_eq_true rfl) dX7_back_24 ?_
      refine v_loc [1, 2, 0] rfl ?_
      obtain ⟨k4, h⟩ := h
      exact tl_X7_back_25 l S R  hm C hr K   k4 (x1) ((0 : Int32)) M1 h
    · replace h := h.2 c3
      refine v_bipush C kb_m2 dX7_back_20 ?_
      exact v_iret C hr dX7_back_22 h
  · replace h := h.2 c2
    refine v_iconst C kc_m1 dX7_back_9 ?_
    exact v_iret C hr dX7_back_10 h
abbrev rmX7_underWay : Room := { frames := 1, cells := 0, slots := 0, locals := 20 }
def L_X7_underWay_4   (K : Int32 → Mem → Prop) : Nat → Int32 → Int32 → Mem → Prop
  | 0, _, _, _ => False
  | k + 1, x1, x2, M => ((32 : Int32) ≤ x2 → K x1 M) ∧ (¬ (32 : Int32) ≤ x2 → wp_X7_copyPlace (x2) M (fun r3 M3 => vp_in r3 349 ∧ (L_X7_underWay_4  K k (x1 + (M3 131 (ix r3))) (x2 + (1 : Int32)) M3)))
def wp_X7_underWay (M : Mem) (K : Int32 → Mem → Prop) : Prop := ∃ j1 : Nat, L_X7_underWay_4  K j1 ((0 : Int32)) ((0 : Int32)) M
set_option maxRecDepth 20000 in
theorem tl_X7_underWay_4 {p : Program} {e : Env} {s : State} {m : MethodId} {args : Array Value} {below : List Frame} {meth : Method} {c : Code} (l : Launch) (S : XS) (R : Rfs)  (hm : isMod R) (C : Cx p m meth c s args cX7_underWay RX7 3 S) (hr : meth.sig.returnType = (some .int)) (K : Int32 → Mem → Prop)   (k : Nat) : ∀ (x1 x2 : Int32) (M : Mem), L_X7_underWay_4   K k x1 x2 M → V p l e rmX7_underWay s m args below meth c (MQ below (va_Qi K (XPost S 148 R) (XA S)) args s 0 0 (XA S)) S 3 0 0 148 M R 4 [(0, .ref (XB S + 130)), (1, .int x1), (2, .int x2)] [] := by
  induction k with
  | zero => intro x1 x2 M h; exact h.elim
  | succ k ih =>
    intro x1 x2 M h
    refine v_iloadn C 2 rfl rfl dX7_underWay_4 ?_
    refine v_bipush C kb_32 dX7_underWay_5 ?_
    refine v_icmp_ge C 28 (by decide) dX7_underWay_7 (fun c2 => ?_) (fun c2 => ?_)
    · replace h := h.1 c2
      refine v_iloadn C 1 rfl rfl dX7_underWay_28 ?_
      exact v_iret C hr dX7_underWay_29 h
    · replace h := h.2 c2
      refine v_iloadn C 1 rfl rfl dX7_underWay_10 ?_
      refine v_aloadn C 0 rfl rfl dX7_underWay_11 ?_
      refine v_getr (o' := 131) C fr_X7_7 sh_130 (Nat.le_of_ble_eq_true rfl) rfl (iMod_r0 hm) dX7_underWay_12 ?_
      refine v_iloadn C 2 rfl rfl dX7_underWay_15 ?_
      refine v_csI (As := [.int x2]) C ms_X7_134 (con_X7_copyPlace l S 148 R (x2)  _ _ h) rfl ⟨(Nat.le_of_ble_eq_true rfl), (Nat.le_of_ble_eq_true rfl)⟩ ⟨rfl, rfl, Nat.zero_le _, Nat.zero_le _⟩ (Nat.le_of_ble_eq_true rfl) dX7_underWay_16 (fun r3 M3 h => ?_)
      refine v_ald C sh_131 (Nat.le_of_ble_eq_true rfl) h.1 dX7_underWay_19 ?_
      replace h := h.2
      refine v_iadd C dX7_underWay_20 ?_
      refine v_istoren (lv' := [(1, .int (x1 + (M3 131 (ix r3)))), (0, .ref (XB S + 130)), (2, .int x2)]) C rfl rfl (Nat.le_of_ble_eq_true rfl) dX7_underWay_21 ?_
      refine v_iinc (lv' := [(2, .int (x2 + (1 : Int32))), (1, .int (x1 + (M3 131 (ix r3)))), (0, .ref (XB S + 130))]) C 2 rfl kc_1 rfl rfl (Nat.le_of_ble_eq_true rfl) dX7_underWay_22 ?_
      refine v_goto C 4 (by decide) dX7_underWay_25 ?_
      refine v_loc [2, 1, 0] rfl ?_
      exact ih ((x1 + (M3 131 (ix r3)))) ((x2 + (1 : Int32))) M3 h
set_option maxRecDepth 20000 in
theorem con_X7_underWay (l : Launch) (S : XS) (R : Rfs)  (hm : isMod R) (M : Mem) (K : Int32 → Mem → Prop) (h : wp_X7_underWay  M K) : CI l yX7_underWay cX7_underWay 3 (some .int) rmX7_underWay S 148 R [.ref (XB S + 130)] M K := by
  refine conI (lv := [(0, .ref (XB S + 130))]) (by decide) (Nat.le_of_ble_eq_true rfl) rfl ?_
  intro p e s m args below meth c C hr
  replace C : Cx p m meth c s args cX7_underWay RX7 3 S := C
  refine v_iconst C kc_0 dX7_underWay_0 ?_
  refine v_istoren (lv' := [(1, .int (0 : Int32)), (0, .ref (XB S + 130))]) C rfl rfl (Nat.le_of_ble_eq_true rfl) dX7_underWay_1 ?_
  refine v_iconst C kc_0 dX7_underWay_2 ?_
  refine v_istoren (lv' := [(2, .int (0 : Int32)), (1, .int (0 : Int32)), (0, .ref (XB S + 130))]) C rfl rfl (Nat.le_of_ble_eq_true rfl) dX7_underWay_3 ?_
  refine v_loc [2, 1, 0] rfl ?_
  obtain ⟨k1, h⟩ := h
  exact tl_X7_underWay_4 l S R  hm C hr K   k1 ((0 : Int32)) ((0 : Int32)) M h
abbrev rmX7_count : Room := { frames := 2, cells := 0, slots := 0, locals := 42 }
def wp_X7_count (x1 : Int32) (M : Mem) (K : Int32 → Mem → Prop) : Prop := (x1 = (0 : Int32) → K (M 130 10) M) ∧ (x1 = (1 : Int32) → K (M 130 13) M) ∧ (x1 = (2 : Int32) → K (M 131 5) M) ∧ (x1 = (3 : Int32) → K (M 131 6) M) ∧ (x1 = (4 : Int32) → K (M 131 7) M) ∧ (x1 = (5 : Int32) → K (M 131 8) M) ∧ (x1 = (6 : Int32) → wp_X7_underWay M (fun r2 M2 => K r2 M2)) ∧ (x1 = (7 : Int32) → (0 ≤ (M 131 1) → K (M 131 1) M) ∧ (¬ 0 ≤ (M 131 1) → K (-9 : Int32) M)) ∧ (x1 = (8 : Int32) → wp_X7_nextReel M (fun r4 M4 => K r4 M4)) ∧ (x1 = (9 : Int32) → K (M 131 3) M) ∧ (x1 = (10 : Int32) → K (M 131 0) M) ∧ (x1 = (11 : Int32) → K (M 131 4) M) ∧ (x1 = (12 : Int32) → K (M 131 9) M) ∧ (x1 = (13 : Int32) → vp_in (x1 - (13 : Int32)) 4 ∧ (K (M 142 (ix (x1 - (13 : Int32)))) M)) ∧ (x1 = (14 : Int32) → vp_in (x1 - (13 : Int32)) 4 ∧ (K (M 142 (ix (x1 - (13 : Int32)))) M)) ∧ (x1 = (15 : Int32) → vp_in (x1 - (13 : Int32)) 4 ∧ (K (M 142 (ix (x1 - (13 : Int32)))) M)) ∧ (x1 = (16 : Int32) → vp_in (x1 - (13 : Int32)) 4 ∧ (K (M 142 (ix (x1 - (13 : Int32)))) M)) ∧ (x1 = (17 : Int32) → K (M 130 9) M) ∧ (x1 = (18 : Int32) → K (M 130 7) M) ∧ (x1 = (19 : Int32) → K (M 130 3) M) ∧ (¬ x1 = (0 : Int32) → ¬ x1 = (1 : Int32) → ¬ x1 = (2 : Int32) → ¬ x1 = (3 : Int32) → ¬ x1 = (4 : Int32) → ¬ x1 = (5 : Int32) → ¬ x1 = (6 : Int32) → ¬ x1 = (7 : Int32) → ¬ x1 = (8 : Int32) → ¬ x1 = (9 : Int32) → ¬ x1 = (10 : Int32) → ¬ x1 = (11 : Int32) → ¬ x1 = (12 : Int32) → ¬ x1 = (13 : Int32) → ¬ x1 = (14 : Int32) → ¬ x1 = (15 : Int32) → ¬ x1 = (16 : Int32) → ¬ x1 = (17 : Int32) → ¬ x1 = (18 : Int32) → ¬ x1 = (19 : Int32) → K (-1 : Int32) M)
set_option maxRecDepth 20000 in
theorem con_X7_count (l : Launch) (S : XS) (R : Rfs) (x1 : Int32) (hm : isMod R) (M : Mem) (K : Int32 → Mem → Prop) (h : wp_X7_count x1 M K) : CI l yX7_count cX7_count 2 (some .int) rmX7_count S 148 R [.ref (XB S + 130), .int x1] M K := by
  refine conI (lv := [(0, .ref (XB S + 130)), (1, .int x1)]) (by decide) (Nat.le_of_ble_eq_true rfl) rfl ?_
  intro p e s m args below meth c C hr
  replace C : Cx p m meth c s args cX7_count RX7 2 S := C
  refine v_iloadn C 1 rfl rfl dX7_count_0 ?_
  by_cases s1_0 : x1 = (0 : Int32)
  · replace h := h.1 s1_0
    refine v_tin (off := 95) C 96 0 (by rw [s1_0]; decide) (by decide) (by decide) (by decide) (by decide) dX7_count_1 ?_
    refine v_aloadn C 0 rfl rfl dX7_count_96 ?_
    refine v_geti C fr_X7_75 sh_130 (Nat.le_of_ble_eq_true rfl) rfl dX7_count_97 ?_
    exact v_iret C hr dX7_count_100 h
  by_cases s1_1 : x1 = (1 : Int32)
  · replace h := h.2.1 s1_1
    refine v_tin (off := 100) C 101 1 (by rw [s1_1]; decide) (by decide) (by decide) (by decide) (by decide) dX7_count_1 ?_
    refine v_aloadn C 0 rfl rfl dX7_count_101 ?_
    refine v_geti C fr_X7_78 sh_130 (Nat.le_of_ble_eq_true rfl) rfl dX7_count_102 ?_
    exact v_iret C hr dX7_count_105 h
  by_cases s1_2 : x1 = (2 : Int32)
  · replace h := h.2.2.1 s1_2
    refine v_tin (off := 105) C 106 2 (by rw [s1_2]; decide) (by decide) (by decide) (by decide) (by decide) dX7_count_1 ?_
    refine v_aloadn C 0 rfl rfl dX7_count_106 ?_
    refine v_getr (o' := 131) C fr_X7_7 sh_130 (Nat.le_of_ble_eq_true rfl) rfl (iMod_r0 hm) dX7_count_107 ?_
    refine v_iconst C kc_5 dX7_count_110 ?_
    refine v_aldk C sh_131 (Nat.le_of_ble_eq_true rfl) lit_5 (Nat.le_of_ble_eq_true rfl) dX7_count_111 ?_
    exact v_iret C hr dX7_count_112 h
  by_cases s1_3 : x1 = (3 : Int32)
  · replace h := h.2.2.2.1 s1_3
    refine v_tin (off := 112) C 113 3 (by rw [s1_3]; decide) (by decide) (by decide) (by decide) (by decide) dX7_count_1 ?_
    refine v_aloadn C 0 rfl rfl dX7_count_113 ?_
    refine v_getr (o' := 131) C fr_X7_7 sh_130 (Nat.le_of_ble_eq_true rfl) rfl (iMod_r0 hm) dX7_count_114 ?_
    refine v_bipush C kb_6 dX7_count_117 ?_
    refine v_aldk C sh_131 (Nat.le_of_ble_eq_true rfl) lit_6 (Nat.le_of_ble_eq_true rfl) dX7_count_119 ?_
    exact v_iret C hr dX7_count_120 h
  by_cases s1_4 : x1 = (4 : Int32)
  · replace h := h.2.2.2.2.1 s1_4
    refine v_tin (off := 120) C 121 4 (by rw [s1_4]; decide) (by decide) (by decide) (by decide) (by decide) dX7_count_1 ?_
    refine v_aloadn C 0 rfl rfl dX7_count_121 ?_
    refine v_getr (o' := 131) C fr_X7_7 sh_130 (Nat.le_of_ble_eq_true rfl) rfl (iMod_r0 hm) dX7_count_122 ?_
    refine v_bipush C kb_7 dX7_count_125 ?_
    refine v_aldk C sh_131 (Nat.le_of_ble_eq_true rfl) lit_7 (Nat.le_of_ble_eq_true rfl) dX7_count_127 ?_
    exact v_iret C hr dX7_count_128 h
  by_cases s1_5 : x1 = (5 : Int32)
  · replace h := h.2.2.2.2.2.1 s1_5
    refine v_tin (off := 128) C 129 5 (by rw [s1_5]; decide) (by decide) (by decide) (by decide) (by decide) dX7_count_1 ?_
    refine v_aloadn C 0 rfl rfl dX7_count_129 ?_
    refine v_getr (o' := 131) C fr_X7_7 sh_130 (Nat.le_of_ble_eq_true rfl) rfl (iMod_r0 hm) dX7_count_130 ?_
    refine v_bipush C kb_8 dX7_count_133 ?_
    refine v_aldk C sh_131 (Nat.le_of_ble_eq_true rfl) lit_8 (Nat.le_of_ble_eq_true rfl) dX7_count_135 ?_
    exact v_iret C hr dX7_count_136 h
  by_cases s1_6 : x1 = (6 : Int32)
  · replace h := h.2.2.2.2.2.2.1 s1_6
    refine v_tin (off := 136) C 137 6 (by rw [s1_6]; decide) (by decide) (by decide) (by decide) (by decide) dX7_count_1 ?_
    refine v_aloadn C 0 rfl rfl dX7_count_137 ?_
    refine v_cvI (As := []) C mv_X7_216 (con_X7_underWay l S R  hm _ _ h) sh_130 (Nat.le_of_ble_eq_true rfl) rfl ⟨(Nat.le_of_ble_eq_true rfl), (Nat.le_of_ble_eq_true rfl)⟩ ⟨rfl, rfl, Nat.zero_le _, Nat.zero_le _⟩ (Nat.le_of_ble_eq_true rfl) dX7_count_138 (fun r2 M2 h => ?_)
    exact v_iret C hr dX7_count_141 h
  by_cases s1_7 : x1 = (7 : Int32)
  · replace h := h.2.2.2.2.2.2.2.1 s1_7
    refine v_tin (off := 141) C 142 7 (by rw [s1_7]; decide) (by decide) (by decide) (by decide) (by decide) dX7_count_1 ?_
    refine v_aloadn C 0 rfl rfl dX7_count_142 ?_
    refine v_getr (o' := 131) C fr_X7_7 sh_130 (Nat.le_of_ble_eq_true rfl) rfl (iMod_r0 hm) dX7_count_143 ?_
    refine v_iconst C kc_1 dX7_count_146 ?_
    refine v_aldk C sh_131 (Nat.le_of_ble_eq_true rfl) lit_1 (Nat.le_of_ble_eq_true rfl) dX7_count_147 ?_
    refine v_if_ge C 156 (by decide) dX7_count_148 (fun c3 => ?_) (fun c3 => ?_)
    · replace h := h.1 c3
      refine v_aloadn C 0 rfl rfl dX7_count_156 ?_
      refine v_getr (o' := 131) C fr_X7_7 sh_130 (Nat.le_of_ble_eq_true rfl) rfl (iMod_r0 hm) dX7_count_157 ?_
      refine v_iconst C kc_1 dX7_count_160 ?_
      refine v_aldk C sh_131 (Nat.le_of_ble_eq_true rfl) lit_1 (Nat.le_of_ble_eq_true rfl) dX7_count_161 ?_
      exact v_iret C hr dX7_count_162 h
    · replace h := h.2 c3
      refine v_bipush C kb_m9 dX7_count_151 ?_
      refine v_goto C 162 (by decide) dX7_count_153 ?_
      exact v_iret C hr dX7_count_162 h
  by_cases s1_8 : x1 = (8 : Int32)
  · replace h := h.2.2.2.2.2.2.2.2.1 s1_8
    refine v_tin (off := 162) C 163 8 (by rw [s1_8]; decide) (by decide) (by decide) (by decide) (by decide) dX7_count_1 ?_
    refine v_aloadn C 0 rfl rfl dX7_count_163 ?_
    refine v_cvI (As := []) C mv_X7_158 (con_X7_nextReel l S R  hm _ _ h) sh_130 (Nat.le_of_ble_eq_true rfl) rfl ⟨(Nat.le_of_ble_eq_true rfl), (Nat.le_of_ble_eq_true rfl)⟩ ⟨rfl, rfl, Nat.zero_le _, Nat.zero_le _⟩ (Nat.le_of_ble_eq_true rfl) dX7_count_164 (fun r4 M4 h => ?_)
    exact v_iret C hr dX7_count_167 h
  by_cases s1_9 : x1 = (9 : Int32)
  · replace h := h.2.2.2.2.2.2.2.2.2.1 s1_9
    refine v_tin (off := 167) C 168 9 (by rw [s1_9]; decide) (by decide) (by decide) (by decide) (by decide) dX7_count_1 ?_
    refine v_aloadn C 0 rfl rfl dX7_count_168 ?_
    refine v_getr (o' := 131) C fr_X7_7 sh_130 (Nat.le_of_ble_eq_true rfl) rfl (iMod_r0 hm) dX7_count_169 ?_
    refine v_iconst C kc_3 dX7_count_172 ?_
    refine v_aldk C sh_131 (Nat.le_of_ble_eq_true rfl) lit_3 (Nat.le_of_ble_eq_true rfl) dX7_count_173 ?_
    exact v_iret C hr dX7_count_174 h
  by_cases s1_10 : x1 = (10 : Int32)
  · replace h := h.2.2.2.2.2.2.2.2.2.2.1 s1_10
    refine v_tin (off := 174) C 175 10 (by rw [s1_10]; decide) (by decide) (by decide) (by decide) (by decide) dX7_count_1 ?_
    refine v_aloadn C 0 rfl rfl dX7_count_175 ?_
    refine v_getr (o' := 131) C fr_X7_7 sh_130 (Nat.le_of_ble_eq_true rfl) rfl (iMod_r0 hm) dX7_count_176 ?_
    refine v_iconst C kc_0 dX7_count_179 ?_
    refine v_aldk C sh_131 (Nat.le_of_ble_eq_true rfl) lit_0 (Nat.le_of_ble_eq_true rfl) dX7_count_180 ?_
    exact v_iret C hr dX7_count_181 h
  by_cases s1_11 : x1 = (11 : Int32)
  · replace h := h.2.2.2.2.2.2.2.2.2.2.2.1 s1_11
    refine v_tin (off := 181) C 182 11 (by rw [s1_11]; decide) (by decide) (by decide) (by decide) (by decide) dX7_count_1 ?_
    refine v_aloadn C 0 rfl rfl dX7_count_182 ?_
    refine v_getr (o' := 131) C fr_X7_7 sh_130 (Nat.le_of_ble_eq_true rfl) rfl (iMod_r0 hm) dX7_count_183 ?_
    refine v_iconst C kc_4 dX7_count_186 ?_
    refine v_aldk C sh_131 (Nat.le_of_ble_eq_true rfl) lit_4 (Nat.le_of_ble_eq_true rfl) dX7_count_187 ?_
    exact v_iret C hr dX7_count_188 h
  by_cases s1_12 : x1 = (12 : Int32)
  · replace h := h.2.2.2.2.2.2.2.2.2.2.2.2.1 s1_12
    refine v_tin (off := 188) C 189 12 (by rw [s1_12]; decide) (by decide) (by decide) (by decide) (by decide) dX7_count_1 ?_
    refine v_aloadn C 0 rfl rfl dX7_count_189 ?_
    refine v_getr (o' := 131) C fr_X7_7 sh_130 (Nat.le_of_ble_eq_true rfl) rfl (iMod_r0 hm) dX7_count_190 ?_
    refine v_bipush C kb_9 dX7_count_193 ?_
    refine v_aldk C sh_131 (Nat.le_of_ble_eq_true rfl) lit_9 (Nat.le_of_ble_eq_true rfl) dX7_count_195 ?_
    exact v_iret C hr dX7_count_196 h
  by_cases s1_13 : x1 = (13 : Int32)
  · replace h := h.2.2.2.2.2.2.2.2.2.2.2.2.2.1 s1_13
    refine v_tin (off := 196) C 197 13 (by rw [s1_13]; decide) (by decide) (by decide) (by decide) (by decide) dX7_count_1 ?_
    refine v_aloadn C 0 rfl rfl dX7_count_197 ?_
    refine v_getr (o' := 142) C fr_X7_44 sh_130 (Nat.le_of_ble_eq_true rfl) rfl (iMod_r16 hm) dX7_count_198 ?_
    refine v_iloadn C 1 rfl rfl dX7_count_201 ?_
    refine v_bipush C kb_13 dX7_count_202 ?_
    refine v_isub C dX7_count_204 ?_
    refine v_ald C sh_142 (Nat.le_of_ble_eq_true rfl) h.1 dX7_count_205 ?_
    replace h := h.2
    exact v_iret C hr dX7_count_206 h
  by_cases s1_14 : x1 = (14 : Int32)
  · replace h := h.2.2.2.2.2.2.2.2.2.2.2.2.2.2.1 s1_14
    refine v_tin (off := 196) C 197 14 (by rw [s1_14]; decide) (by decide) (by decide) (by decide) (by decide) dX7_count_1 ?_
    refine v_aloadn C 0 rfl rfl dX7_count_197 ?_
    refine v_getr (o' := 142) C fr_X7_44 sh_130 (Nat.le_of_ble_eq_true rfl) rfl (iMod_r16 hm) dX7_count_198 ?_
    refine v_iloadn C 1 rfl rfl dX7_count_201 ?_
    refine v_bipush C kb_13 dX7_count_202 ?_
    refine v_isub C dX7_count_204 ?_
    refine v_ald C sh_142 (Nat.le_of_ble_eq_true rfl) h.1 dX7_count_205 ?_
    replace h := h.2
    exact v_iret C hr dX7_count_206 h
  by_cases s1_15 : x1 = (15 : Int32)
  · replace h := h.2.2.2.2.2.2.2.2.2.2.2.2.2.2.2.1 s1_15
    refine v_tin (off := 196) C 197 15 (by rw [s1_15]; decide) (by decide) (by decide) (by decide) (by decide) dX7_count_1 ?_
    refine v_aloadn C 0 rfl rfl dX7_count_197 ?_
    refine v_getr (o' := 142) C fr_X7_44 sh_130 (Nat.le_of_ble_eq_true rfl) rfl (iMod_r16 hm) dX7_count_198 ?_
    refine v_iloadn C 1 rfl rfl dX7_count_201 ?_
    refine v_bipush C kb_13 dX7_count_202 ?_
    refine v_isub C dX7_count_204 ?_
    refine v_ald C sh_142 (Nat.le_of_ble_eq_true rfl) h.1 dX7_count_205 ?_
    replace h := h.2
    exact v_iret C hr dX7_count_206 h
  by_cases s1_16 : x1 = (16 : Int32)
  · replace h := h.2.2.2.2.2.2.2.2.2.2.2.2.2.2.2.2.1 s1_16
    refine v_tin (off := 196) C 197 16 (by rw [s1_16]; decide) (by decide) (by decide) (by decide) (by decide) dX7_count_1 ?_
    refine v_aloadn C 0 rfl rfl dX7_count_197 ?_
    refine v_getr (o' := 142) C fr_X7_44 sh_130 (Nat.le_of_ble_eq_true rfl) rfl (iMod_r16 hm) dX7_count_198 ?_
    refine v_iloadn C 1 rfl rfl dX7_count_201 ?_
    refine v_bipush C kb_13 dX7_count_202 ?_
    refine v_isub C dX7_count_204 ?_
    refine v_ald C sh_142 (Nat.le_of_ble_eq_true rfl) h.1 dX7_count_205 ?_
    replace h := h.2
    exact v_iret C hr dX7_count_206 h
  by_cases s1_17 : x1 = (17 : Int32)
  · replace h := h.2.2.2.2.2.2.2.2.2.2.2.2.2.2.2.2.2.1 s1_17
    refine v_tin (off := 206) C 207 17 (by rw [s1_17]; decide) (by decide) (by decide) (by decide) (by decide) dX7_count_1 ?_
    refine v_aloadn C 0 rfl rfl dX7_count_207 ?_
    refine v_geti C fr_X7_84 sh_130 (Nat.le_of_ble_eq_true rfl) rfl dX7_count_208 ?_
    exact v_iret C hr dX7_count_211 h
  by_cases s1_18 : x1 = (18 : Int32)
  · replace h := h.2.2.2.2.2.2.2.2.2.2.2.2.2.2.2.2.2.2.1 s1_18
    refine v_tin (off := 211) C 212 18 (by rw [s1_18]; decide) (by decide) (by decide) (by decide) (by decide) dX7_count_1 ?_
    refine v_aloadn C 0 rfl rfl dX7_count_212 ?_
    refine v_geti C fr_X7_90 sh_130 (Nat.le_of_ble_eq_true rfl) rfl dX7_count_213 ?_
    exact v_iret C hr dX7_count_216 h
  by_cases s1_19 : x1 = (19 : Int32)
  · replace h := h.2.2.2.2.2.2.2.2.2.2.2.2.2.2.2.2.2.2.2.1 s1_19
    refine v_tin (off := 216) C 217 19 (by rw [s1_19]; decide) (by decide) (by decide) (by decide) (by decide) dX7_count_1 ?_
    refine v_aloadn C 0 rfl rfl dX7_count_217 ?_
    refine v_geti C fr_X7_81 sh_130 (Nat.le_of_ble_eq_true rfl) rfl dX7_count_218 ?_
    exact v_iret C hr dX7_count_221 h
  replace h := h.2.2.2.2.2.2.2.2.2.2.2.2.2.2.2.2.2.2.2.2 s1_0 s1_1 s1_2 s1_3 s1_4 s1_5 s1_6 s1_7 s1_8 s1_9 s1_10 s1_11 s1_12 s1_13 s1_14 s1_15 s1_16 s1_17 s1_18 s1_19
  have t1_0 := ne_ti 0 0 (by decide) s1_0
  have t1_1 := ne_ti 1 1 (by decide) s1_1
  have t1_2 := ne_ti 2 2 (by decide) s1_2
  have t1_3 := ne_ti 3 3 (by decide) s1_3
  have t1_4 := ne_ti 4 4 (by decide) s1_4
  have t1_5 := ne_ti 5 5 (by decide) s1_5
  have t1_6 := ne_ti 6 6 (by decide) s1_6
  have t1_7 := ne_ti 7 7 (by decide) s1_7
  have t1_8 := ne_ti 8 8 (by decide) s1_8
  have t1_9 := ne_ti 9 9 (by decide) s1_9
  have t1_10 := ne_ti 10 10 (by decide) s1_10
  have t1_11 := ne_ti 11 11 (by decide) s1_11
  have t1_12 := ne_ti 12 12 (by decide) s1_12
  have t1_13 := ne_ti 13 13 (by decide) s1_13
  have t1_14 := ne_ti 14 14 (by decide) s1_14
  have t1_15 := ne_ti 15 15 (by decide) s1_15
  have t1_16 := ne_ti 16 16 (by decide) s1_16
  have t1_17 := ne_ti 17 17 (by decide) s1_17
  have t1_18 := ne_ti 18 18 (by decide) s1_18
  have t1_19 := ne_ti 19 19 (by decide) s1_19
  refine v_tout C 222 (by omega) (by decide) dX7_count_1 ?_
  refine v_iconst C kc_m1 dX7_count_222 ?_
  exact v_iret C hr dX7_count_223 h
