abbrev rmJ7_fill_53178 : Room := { frames := 0, cells := 0, slots := 0, locals := 0 }
def L_J7_fill_53178_5 (o0 : Nat) (z0 : Nat)  (K : Mem → Prop) : Nat → Int32 → Int32 → Int32 → Mem → Prop
  | 0, _, _, _, _ => False
  | k + 1, x1, x2, x3, M => (x3 ≤ x2 → K M) ∧ (¬ x3 ≤ x2 → vp_in x2 z0 ∧ (∀ M3 : Mem, M3 = mw M o0 (ix x2) x1 → L_J7_fill_53178_5 o0 z0  K k x1 (x2 + (1 : Int32)) x3 M3))
def wp_J7_fill_53178 (o0 z0 : Nat) (x1 : Int32) (M : Mem) (K : Mem → Prop) : Prop := ∃ j1 : Nat, L_J7_fill_53178_5 o0 z0 K j1 (x1) ((0 : Int32)) ((nI z0)) M
set_option maxRecDepth 20000 in
theorem tl_J7_fill_53178_5 {p : Program} {e : Env} {s : State} {m : MethodId} {args : Array Value} {below : List Frame} {meth : Method} {c : Code} (l : Launch) (S : XS) (n : Nat) (R : Rfs) (o0 : Nat) (z0 : Nat) (hs0 : SH o0 = (8, z0)) (ho0 : o0 < n) (C : Cx p m meth c s args cJ7_fill_53178 RJ7 4 S) (hr : meth.sig.returnType = none) (K : Mem → Prop)   (k : Nat) : ∀ (x1 x2 x3 : Int32) (M : Mem), L_J7_fill_53178_5 o0 z0  K k x1 x2 x3 M → V p l e rmJ7_fill_53178 s m args below meth c (MQ below (va_Qv K (XPost S n R) (XA S)) args s 0 0 (XA S)) S 4 0 0 n M R 5 [(0, .ref (XB S + o0)), (1, .int x1), (2, .int x2), (3, .int x3)] [] := by
  induction k with
  | zero => intro x1 x2 x3 M h; exact h.elim
  | succ k ih =>
    intro x1 x2 x3 M h
    refine v_iloadn C 2 rfl rfl dJ7_fill_53178_5 ?_
    refine v_iloadn C 3 rfl rfl dJ7_fill_53178_6 ?_
    refine v_icmp_ge C 20 (by decide) dJ7_fill_53178_7 (fun c2 => ?_) (fun c2 => ?_)
    · replace h := h.1 c2
      exact v_vret C hr dJ7_fill_53178_20 h
    · replace h := h.2 c2
      refine v_aloadn C 0 rfl rfl dJ7_fill_53178_10 ?_
      refine v_iloadn C 2 rfl rfl dJ7_fill_53178_11 ?_
      refine v_iloadn C 1 rfl rfl dJ7_fill_53178_12 ?_
      have hi3 := h.1
      replace h := h.2
      refine v_ast C hs0 ho0 hi3 dJ7_fill_53178_13 (fun M3 e3 => ?_)
      replace h := h M3 e3
      refine v_iinc (lv' := [(2, .int (x2 + (1 : Int32))), (0, .ref (XB S + o0)), (1, .int x1), (3, .int x3)]) C 2 rfl kc_1 rfl rfl (Nat.le_of_ble_eq_true rfl) dJ7_fill_53178_14 ?_
      refine v_goto C 5 (by decide) dJ7_fill_53178_17 ?_
      refine v_loc [1, 2, 0, 3] rfl ?_
      exact ih (x1) ((x2 + (1 : Int32))) (x3) M3 h
set_option maxRecDepth 20000 in
theorem con_J7_fill_53178 (l : Launch) (S : XS) (n : Nat) (R : Rfs) (o0 z0 : Nat) (x1 : Int32) (hs0 : SH o0 = (8, z0)) (ho0 : o0 < n) (M : Mem) (K : Mem → Prop) (h : wp_J7_fill_53178 o0 z0 x1 M K) : CV l yJ7_fill_53178 cJ7_fill_53178 4 rmJ7_fill_53178 S n R [.ref (XB S + o0), .int x1] M K := by
  refine conV (lv := [(0, .ref (XB S + o0)), (1, .int x1)]) (by decide) (Nat.le_of_ble_eq_true rfl) rfl ?_
  intro p e s m args below meth c C hr
  replace C : Cx p m meth c s args cJ7_fill_53178 RJ7 4 S := C
  refine v_iconst C kc_0 dJ7_fill_53178_0 ?_
  refine v_istoren (lv' := [(2, .int (0 : Int32)), (0, .ref (XB S + o0)), (1, .int x1)]) C rfl rfl (Nat.le_of_ble_eq_true rfl) dJ7_fill_53178_1 ?_
  refine v_aloadn C 1 rfl rfl dJ7_fill_53178_2 ?_
  refine v_alen C hs0 ho0 dJ7_fill_53178_3 ?_
  refine v_istoren (lv' := [(3, .int (nI z0)), (2, .int (0 : Int32)), (0, .ref (XB S + o0)), (1, .int x1)]) C rfl rfl (Nat.le_of_ble_eq_true rfl) dJ7_fill_53178_4 ?_
  refine v_loc [2, 3, 1, 0] rfl ?_
  obtain ⟨k1, h⟩ := h
  exact tl_J7_fill_53178_5 l S n R o0 z0 hs0 ho0 C hr K   k1 (x1) ((0 : Int32)) ((nI z0)) M h
abbrev rmJ6_bitCount_0f7a4 : Room := { frames := 0, cells := 0, slots := 0, locals := 0 }
def wp_J6_bitCount_0f7a4 (x0 : Int32) (M : Mem) (K : Int32 → Mem → Prop) : Prop := K ((((((((x0 - ((((x0).toUInt32 >>> (((1 : Int32)).toUInt32 &&& Int32.toUInt32 31)).toInt32) &&& (1431655765 : Int32))) &&& (858993459 : Int32)) + (((((x0 - ((((x0).toUInt32 >>> (((1 : Int32)).toUInt32 &&& Int32.toUInt32 31)).toInt32) &&& (1431655765 : Int32)))).toUInt32 >>> (((2 : Int32)).toUInt32 &&& Int32.toUInt32 31)).toInt32) &&& (858993459 : Int32))) + ((((((x0 - ((((x0).toUInt32 >>> (((1 : Int32)).toUInt32 &&& Int32.toUInt32 31)).toInt32) &&& (1431655765 : Int32))) &&& (858993459 : Int32)) + (((((x0 - ((((x0).toUInt32 >>> (((1 : Int32)).toUInt32 &&& Int32.toUInt32 31)).toInt32) &&& (1431655765 : Int32)))).toUInt32 >>> (((2 : Int32)).toUInt32 &&& Int32.toUInt32 31)).toInt32) &&& (858993459 : Int32)))).toUInt32 >>> (((4 : Int32)).toUInt32 &&& Int32.toUInt32 31)).toInt32)) &&& (252645135 : Int32)) + ((((((((x0 - ((((x0).toUInt32 >>> (((1 : Int32)).toUInt32 &&& Int32.toUInt32 31)).toInt32) &&& (1431655765 : Int32))) &&& (858993459 : Int32)) + (((((x0 - ((((x0).toUInt32 >>> (((1 : Int32)).toUInt32 &&& Int32.toUInt32 31)).toInt32) &&& (1431655765 : Int32)))).toUInt32 >>> (((2 : Int32)).toUInt32 &&& Int32.toUInt32 31)).toInt32) &&& (858993459 : Int32))) + ((((((x0 - ((((x0).toUInt32 >>> (((1 : Int32)).toUInt32 &&& Int32.toUInt32 31)).toInt32) &&& (1431655765 : Int32))) &&& (858993459 : Int32)) + (((((x0 - ((((x0).toUInt32 >>> (((1 : Int32)).toUInt32 &&& Int32.toUInt32 31)).toInt32) &&& (1431655765 : Int32)))).toUInt32 >>> (((2 : Int32)).toUInt32 &&& Int32.toUInt32 31)).toInt32) &&& (858993459 : Int32)))).toUInt32 >>> (((4 : Int32)).toUInt32 &&& Int32.toUInt32 31)).toInt32)) &&& (252645135 : Int32))).toUInt32 >>> (((8 : Int32)).toUInt32 &&& Int32.toUInt32 31)).toInt32)) + (((((((((x0 - ((((x0).toUInt32 >>> (((1 : Int32)).toUInt32 &&& Int32.toUInt32 31)).toInt32) &&& (1431655765 : Int32))) &&& (858993459 : Int32)) + (((((x0 - ((((x0).toUInt32 >>> (((1 : Int32)).toUInt32 &&& Int32.toUInt32 31)).toInt32) &&& (1431655765 : Int32)))).toUInt32 >>> (((2 : Int32)).toUInt32 &&& Int32.toUInt32 31)).toInt32) &&& (858993459 : Int32))) + ((((((x0 - ((((x0).toUInt32 >>> (((1 : Int32)).toUInt32 &&& Int32.toUInt32 31)).toInt32) &&& (1431655765 : Int32))) &&& (858993459 : Int32)) + (((((x0 - ((((x0).toUInt32 >>> (((1 : Int32)).toUInt32 &&& Int32.toUInt32 31)).toInt32) &&& (1431655765 : Int32)))).toUInt32 >>> (((2 : Int32)).toUInt32 &&& Int32.toUInt32 31)).toInt32) &&& (858993459 : Int32)))).toUInt32 >>> (((4 : Int32)).toUInt32 &&& Int32.toUInt32 31)).toInt32)) &&& (252645135 : Int32)) + ((((((((x0 - ((((x0).toUInt32 >>> (((1 : Int32)).toUInt32 &&& Int32.toUInt32 31)).toInt32) &&& (1431655765 : Int32))) &&& (858993459 : Int32)) + (((((x0 - ((((x0).toUInt32 >>> (((1 : Int32)).toUInt32 &&& Int32.toUInt32 31)).toInt32) &&& (1431655765 : Int32)))).toUInt32 >>> (((2 : Int32)).toUInt32 &&& Int32.toUInt32 31)).toInt32) &&& (858993459 : Int32))) + ((((((x0 - ((((x0).toUInt32 >>> (((1 : Int32)).toUInt32 &&& Int32.toUInt32 31)).toInt32) &&& (1431655765 : Int32))) &&& (858993459 : Int32)) + (((((x0 - ((((x0).toUInt32 >>> (((1 : Int32)).toUInt32 &&& Int32.toUInt32 31)).toInt32) &&& (1431655765 : Int32)))).toUInt32 >>> (((2 : Int32)).toUInt32 &&& Int32.toUInt32 31)).toInt32) &&& (858993459 : Int32)))).toUInt32 >>> (((4 : Int32)).toUInt32 &&& Int32.toUInt32 31)).toInt32)) &&& (252645135 : Int32))).toUInt32 >>> (((8 : Int32)).toUInt32 &&& Int32.toUInt32 31)).toInt32))).toUInt32 >>> (((16 : Int32)).toUInt32 &&& Int32.toUInt32 31)).toInt32)) &&& (63 : Int32)) M
set_option maxRecDepth 20000 in
theorem con_J6_bitCount_0f7a4 (l : Launch) (S : XS) (n : Nat) (R : Rfs) (x0 : Int32)  (M : Mem) (K : Int32 → Mem → Prop) (h : wp_J6_bitCount_0f7a4 x0 M K) : CI l yJ6_bitCount_0f7a4 cJ6_bitCount_0f7a4 1 (some .int) rmJ6_bitCount_0f7a4 S n R [.int x0] M K := by
  refine conI (lv := [(0, .int x0)]) (by decide) (Nat.le_of_ble_eq_true rfl) rfl ?_
  intro p e s m args below meth c C hr
  replace C : Cx p m meth c s args cJ6_bitCount_0f7a4 RJ6 1 S := C
  refine v_iloadn C 0 rfl rfl dJ6_bitCount_0f7a4_0 ?_
  refine v_iloadn C 0 rfl rfl dJ6_bitCount_0f7a4_1 ?_
  refine v_iconst C kc_1 dJ6_bitCount_0f7a4_2 ?_
  refine v_iushr C dJ6_bitCount_0f7a4_3 ?_
  refine v_ldcw C wx_J6_265 dJ6_bitCount_0f7a4_4 ?_
  refine v_iand C dJ6_bitCount_0f7a4_7 ?_
  refine v_isub C dJ6_bitCount_0f7a4_8 ?_
  refine v_istoren (lv' := [(0, .int (x0 - ((((x0).toUInt32 >>> (((1 : Int32)).toUInt32 &&& Int32.toUInt32 31)).toInt32) &&& (1431655765 : Int32))))]) C rfl rfl (Nat.le_of_ble_eq_true rfl) dJ6_bitCount_0f7a4_9 ?_
  refine v_iloadn C 0 rfl rfl dJ6_bitCount_0f7a4_10 ?_
  refine v_ldcw C wx_J6_266 dJ6_bitCount_0f7a4_11 ?_
  refine v_iand C dJ6_bitCount_0f7a4_14 ?_
  refine v_iloadn C 0 rfl rfl dJ6_bitCount_0f7a4_15 ?_
  refine v_iconst C kc_2 dJ6_bitCount_0f7a4_16 ?_
  refine v_iushr C dJ6_bitCount_0f7a4_17 ?_
  refine v_ldcw C wx_J6_266 dJ6_bitCount_0f7a4_18 ?_
  refine v_iand C dJ6_bitCount_0f7a4_21 ?_
  refine v_iadd C dJ6_bitCount_0f7a4_22 ?_
  refine v_istoren (lv' := [(0, .int (((x0 - ((((x0).toUInt32 >>> (((1 : Int32)).toUInt32 &&& Int32.toUInt32 31)).toInt32) &&& (1431655765 : Int32))) &&& (858993459 : Int32)) + (((((x0 - ((((x0).toUInt32 >>> (((1 : Int32)).toUInt32 &&& Int32.toUInt32 31)).toInt32) &&& (1431655765 : Int32)))).toUInt32 >>> (((2 : Int32)).toUInt32 &&& Int32.toUInt32 31)).toInt32) &&& (858993459 : Int32))))]) C rfl rfl (Nat.le_of_ble_eq_true rfl) dJ6_bitCount_0f7a4_23 ?_
  refine v_iloadn C 0 rfl rfl dJ6_bitCount_0f7a4_24 ?_
  refine v_iloadn C 0 rfl rfl dJ6_bitCount_0f7a4_25 ?_
  refine v_iconst C kc_4 dJ6_bitCount_0f7a4_26 ?_
  refine v_iushr C dJ6_bitCount_0f7a4_27 ?_
  refine v_iadd C dJ6_bitCount_0f7a4_28 ?_
  refine v_ldcw C wx_J6_267 dJ6_bitCount_0f7a4_29 ?_
  refine v_iand C dJ6_bitCount_0f7a4_32 ?_
  refine v_istoren (lv' := [(0, .int (((((x0 - ((((x0).toUInt32 >>> (((1 : Int32)).toUInt32 &&& Int32.toUInt32 31)).toInt32) &&& (1431655765 : Int32))) &&& (858993459 : Int32)) + (((((x0 - ((((x0).toUInt32 >>> (((1 : Int32)).toUInt32 &&& Int32.toUInt32 31)).toInt32) &&& (1431655765 : Int32)))).toUInt32 >>> (((2 : Int32)).toUInt32 &&& Int32.toUInt32 31)).toInt32) &&& (858993459 : Int32))) + ((((((x0 - ((((x0).toUInt32 >>> (((1 : Int32)).toUInt32 &&& Int32.toUInt32 31)).toInt32) &&& (1431655765 : Int32))) &&& (858993459 : Int32)) + (((((x0 - ((((x0).toUInt32 >>> (((1 : Int32)).toUInt32 &&& Int32.toUInt32 31)).toInt32) &&& (1431655765 : Int32)))).toUInt32 >>> (((2 : Int32)).toUInt32 &&& Int32.toUInt32 31)).toInt32) &&& (858993459 : Int32)))).toUInt32 >>> (((4 : Int32)).toUInt32 &&& Int32.toUInt32 31)).toInt32)) &&& (252645135 : Int32)))]) C rfl rfl (Nat.le_of_ble_eq_true rfl) dJ6_bitCount_0f7a4_33 ?_
  refine v_iloadn C 0 rfl rfl dJ6_bitCount_0f7a4_34 ?_
  refine v_iloadn C 0 rfl rfl dJ6_bitCount_0f7a4_35 ?_
  refine v_bipush C kb_8 dJ6_bitCount_0f7a4_36 ?_
  refine v_iushr C dJ6_bitCount_0f7a4_38 ?_
  refine v_iadd C dJ6_bitCount_0f7a4_39 ?_
  refine v_istoren (lv' := [(0, .int ((((((x0 - ((((x0).toUInt32 >>> (((1 : Int32)).toUInt32 &&& Int32.toUInt32 31)).toInt32) &&& (1431655765 : Int32))) &&& (858993459 : Int32)) + (((((x0 - ((((x0).toUInt32 >>> (((1 : Int32)).toUInt32 &&& Int32.toUInt32 31)).toInt32) &&& (1431655765 : Int32)))).toUInt32 >>> (((2 : Int32)).toUInt32 &&& Int32.toUInt32 31)).toInt32) &&& (858993459 : Int32))) + ((((((x0 - ((((x0).toUInt32 >>> (((1 : Int32)).toUInt32 &&& Int32.toUInt32 31)).toInt32) &&& (1431655765 : Int32))) &&& (858993459 : Int32)) + (((((x0 - ((((x0).toUInt32 >>> (((1 : Int32)).toUInt32 &&& Int32.toUInt32 31)).toInt32) &&& (1431655765 : Int32)))).toUInt32 >>> (((2 : Int32)).toUInt32 &&& Int32.toUInt32 31)).toInt32) &&& (858993459 : Int32)))).toUInt32 >>> (((4 : Int32)).toUInt32 &&& Int32.toUInt32 31)).toInt32)) &&& (252645135 : Int32)) + ((((((((x0 - ((((x0).toUInt32 >>> (((1 : Int32)).toUInt32 &&& Int32.toUInt32 31)).toInt32) &&& (1431655765 : Int32))) &&& (858993459 : Int32)) + (((((x0 - ((((x0).toUInt32 >>> (((1 : Int32)).toUInt32 &&& Int32.toUInt32 31)).toInt32) &&& (1431655765 : Int32)))).toUInt32 >>> (((2 : Int32)).toUInt32 &&& Int32.toUInt32 31)).toInt32) &&& (858993459 : Int32))) + ((((((x0 - ((((x0).toUInt32 >>> (((1 : Int32)).toUInt32 &&& Int32.toUInt32 31)).toInt32) &&& (1431655765 : Int32))) &&& (858993459 : Int32)) + (((((x0 - ((((x0).toUInt32 >>> (((1 : Int32)).toUInt32 &&& Int32.toUInt32 31)).toInt32) &&& (1431655765 : Int32)))).toUInt32 >>> (((2 : Int32)).toUInt32 &&& Int32.toUInt32 31)).toInt32) &&& (858993459 : Int32)))).toUInt32 >>> (((4 : Int32)).toUInt32 &&& Int32.toUInt32 31)).toInt32)) &&& (252645135 : Int32))).toUInt32 >>> (((8 : Int32)).toUInt32 &&& Int32.toUInt32 31)).toInt32)))]) C rfl rfl (Nat.le_of_ble_eq_true rfl) dJ6_bitCount_0f7a4_40 ?_
  refine v_iloadn C 0 rfl rfl dJ6_bitCount_0f7a4_41 ?_
  refine v_iloadn C 0 rfl rfl dJ6_bitCount_0f7a4_42 ?_
  refine v_bipush C kb_16 dJ6_bitCount_0f7a4_43 ?_
  refine v_iushr C dJ6_bitCount_0f7a4_45 ?_
  refine v_iadd C dJ6_bitCount_0f7a4_46 ?_
  refine v_istoren (lv' := [(0, .int (((((((x0 - ((((x0).toUInt32 >>> (((1 : Int32)).toUInt32 &&& Int32.toUInt32 31)).toInt32) &&& (1431655765 : Int32))) &&& (858993459 : Int32)) + (((((x0 - ((((x0).toUInt32 >>> (((1 : Int32)).toUInt32 &&& Int32.toUInt32 31)).toInt32) &&& (1431655765 : Int32)))).toUInt32 >>> (((2 : Int32)).toUInt32 &&& Int32.toUInt32 31)).toInt32) &&& (858993459 : Int32))) + ((((((x0 - ((((x0).toUInt32 >>> (((1 : Int32)).toUInt32 &&& Int32.toUInt32 31)).toInt32) &&& (1431655765 : Int32))) &&& (858993459 : Int32)) + (((((x0 - ((((x0).toUInt32 >>> (((1 : Int32)).toUInt32 &&& Int32.toUInt32 31)).toInt32) &&& (1431655765 : Int32)))).toUInt32 >>> (((2 : Int32)).toUInt32 &&& Int32.toUInt32 31)).toInt32) &&& (858993459 : Int32)))).toUInt32 >>> (((4 : Int32)).toUInt32 &&& Int32.toUInt32 31)).toInt32)) &&& (252645135 : Int32)) + ((((((((x0 - ((((x0).toUInt32 >>> (((1 : Int32)).toUInt32 &&& Int32.toUInt32 31)).toInt32) &&& (1431655765 : Int32))) &&& (858993459 : Int32)) + (((((x0 - ((((x0).toUInt32 >>> (((1 : Int32)).toUInt32 &&& Int32.toUInt32 31)).toInt32) &&& (1431655765 : Int32)))).toUInt32 >>> (((2 : Int32)).toUInt32 &&& Int32.toUInt32 31)).toInt32) &&& (858993459 : Int32))) + ((((((x0 - ((((x0).toUInt32 >>> (((1 : Int32)).toUInt32 &&& Int32.toUInt32 31)).toInt32) &&& (1431655765 : Int32))) &&& (858993459 : Int32)) + (((((x0 - ((((x0).toUInt32 >>> (((1 : Int32)).toUInt32 &&& Int32.toUInt32 31)).toInt32) &&& (1431655765 : Int32)))).toUInt32 >>> (((2 : Int32)).toUInt32 &&& Int32.toUInt32 31)).toInt32) &&& (858993459 : Int32)))).toUInt32 >>> (((4 : Int32)).toUInt32 &&& Int32.toUInt32 31)).toInt32)) &&& (252645135 : Int32))).toUInt32 >>> (((8 : Int32)).toUInt32 &&& Int32.toUInt32 31)).toInt32)) + (((((((((x0 - ((((x0).toUInt32 >>> (((1 : Int32)).toUInt32 &&& Int32.toUInt32 31)).toInt32) &&& (1431655765 : Int32))) &&& (858993459 : Int32)) + (((((x0 - ((((x0).toUInt32 >>> (((1 : Int32)).toUInt32 &&& Int32.toUInt32 31)).toInt32) &&& (1431655765 : Int32)))).toUInt32 >>> (((2 : Int32)).toUInt32 &&& Int32.toUInt32 31)).toInt32) &&& (858993459 : Int32))) + ((((((x0 - ((((x0).toUInt32 >>> (((1 : Int32)).toUInt32 &&& Int32.toUInt32 31)).toInt32) &&& (1431655765 : Int32))) &&& (858993459 : Int32)) + (((((x0 - ((((x0).toUInt32 >>> (((1 : Int32)).toUInt32 &&& Int32.toUInt32 31)).toInt32) &&& (1431655765 : Int32)))).toUInt32 >>> (((2 : Int32)).toUInt32 &&& Int32.toUInt32 31)).toInt32) &&& (858993459 : Int32)))).toUInt32 >>> (((4 : Int32)).toUInt32 &&& Int32.toUInt32 31)).toInt32)) &&& (252645135 : Int32)) + ((((((((x0 - ((((x0).toUInt32 >>> (((1 : Int32)).toUInt32 &&& Int32.toUInt32 31)).toInt32) &&& (1431655765 : Int32))) &&& (858993459 : Int32)) + (((((x0 - ((((x0).toUInt32 >>> (((1 : Int32)).toUInt32 &&& Int32.toUInt32 31)).toInt32) &&& (1431655765 : Int32)))).toUInt32 >>> (((2 : Int32)).toUInt32 &&& Int32.toUInt32 31)).toInt32) &&& (858993459 : Int32))) + ((((((x0 - ((((x0).toUInt32 >>> (((1 : Int32)).toUInt32 &&& Int32.toUInt32 31)).toInt32) &&& (1431655765 : Int32))) &&& (858993459 : Int32)) + (((((x0 - ((((x0).toUInt32 >>> (((1 : Int32)).toUInt32 &&& Int32.toUInt32 31)).toInt32) &&& (1431655765 : Int32)))).toUInt32 >>> (((2 : Int32)).toUInt32 &&& Int32.toUInt32 31)).toInt32) &&& (858993459 : Int32)))).toUInt32 >>> (((4 : Int32)).toUInt32 &&& Int32.toUInt32 31)).toInt32)) &&& (252645135 : Int32))).toUInt32 >>> (((8 : Int32)).toUInt32 &&& Int32.toUInt32 31)).toInt32))).toUInt32 >>> (((16 : Int32)).toUInt32 &&& Int32.toUInt32 31)).toInt32)))]) C rfl rfl (Nat.le_of_ble_eq_true rfl) dJ6_bitCount_0f7a4_47 ?_
  refine v_iloadn C 0 rfl rfl dJ6_bitCount_0f7a4_48 ?_
  refine v_bipush C kb_63 dJ6_bitCount_0f7a4_49 ?_
  refine v_iand C dJ6_bitCount_0f7a4_51 ?_
  exact v_iret C hr dJ6_bitCount_0f7a4_52 h
