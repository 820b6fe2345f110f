abbrev rmX5_add : Room := { frames := 0, cells := 0, slots := 0, locals := 0 }
def wp_X5_add (o0 : Nat) (x1 : Int32) (M : Mem) (K : Int32 → Mem → Prop) : Prop := ((M o0 1) < (120 : Int32) → vp_in (M o0 1) 120 ∧ (∀ M2 : Mem, M2 = mw M (o0 + 1) (ix (M o0 1)) x1 → (∀ M3 : Mem, M3 = mw M2 o0 1 ((M2 o0 1) + (1 : Int32)) → K (1 : Int32) M3))) ∧ (¬ (M o0 1) < (120 : Int32) → K (0 : Int32) M)
set_option maxRecDepth 20000 in
theorem con_X5_add (l : Launch) (S : XS) (n : Nat) (R : Rfs) (o0 : Nat) (x1 : Int32) (h0 : isText n R o0) (M : Mem) (K : Int32 → Mem → Prop) (h : wp_X5_add o0 x1 M K) : CI l yX5_add cX5_add 2 (some .boolean) rmX5_add S n R [.ref (XB S + o0), .int x1] M K := by
  refine conI (lv := [(0, .ref (XB S + o0)), (1, .int x1)]) (by decide) (Nat.le_of_ble_eq_true rfl) rfl ?_
  intro p e s m args below meth c C hr
  replace C : Cx p m meth c s args cX5_add RX5 2 S := C
  refine v_aloadn C 0 rfl rfl dX5_add_0 ?_
  refine v_geti C fr_X5_15 (iText_s0 h0) (iText_l0 h0) rfl dX5_add_1 ?_
  refine v_bipush C kb_120 dX5_add_4 ?_
  refine v_icmp_lt C 11 (by decide) dX5_add_6 (fun c1 => ?_) (fun c1 => ?_)
  · replace h := h.1 c1
    refine v_aloadn C 0 rfl rfl dX5_add_11 ?_
    refine v_getr (o' := (o0 + 1)) C fr_X5_9 (iText_s0 h0) (iText_l0 h0) rfl (iText_r0 h0) dX5_add_12 ?_
    refine v_aloadn C 0 rfl rfl dX5_add_15 ?_
    refine v_geti C fr_X5_15 (iText_s0 h0) (iText_l0 h0) rfl dX5_add_16 ?_
    refine v_iloadn C 1 rfl rfl dX5_add_19 ?_
    have hi2 := h.1
    replace h := h.2
    refine v_ast C (iText_s1 h0) (iText_l1 h0) hi2 dX5_add_20 (fun M2 e2 => ?_)
    replace h := h M2 e2
    refine v_aloadn C 0 rfl rfl dX5_add_21 ?_
    refine v_dup C rfl dX5_add_22 ?_
    refine v_geti C fr_X5_15 (iText_s0 h0) (iText_l0 h0) rfl dX5_add_23 ?_
    refine v_iconst C kc_1 dX5_add_26 ?_
    refine v_iadd C dX5_add_27 ?_
    refine v_puti C fr_X5_15 (iText_s0 h0) (iText_l0 h0) rfl dX5_add_28 (fun M3 e3 => ?_)
    replace h := h M3 e3
    refine v_iconst C kc_1 dX5_add_31 ?_
    exact v_zret C isB1 hr dX5_add_32 h
  · replace h := h.2 c1
    refine v_iconst C kc_0 dX5_add_9 ?_
    exact v_zret C isB0 hr dX5_add_10 h
abbrev rmX5_onceBit : Room := { frames := 0, cells := 0, slots := 0, locals := 0 }
def wp_X5_onceBit (x0 : Int32) (M : Mem) (K : Int32 → Mem → Prop) : Prop := (x0 = (101 : Int32) → K (1 : Int32) M) ∧ (x0 = (105 : Int32) → K (4 : Int32) M) ∧ (x0 = (108 : Int32) → K (2 : Int32) M) ∧ (x0 = (112 : Int32) → K (8 : Int32) M) ∧ (¬ x0 = (101 : Int32) → ¬ x0 = (105 : Int32) → ¬ x0 = (108 : Int32) → ¬ x0 = (112 : Int32) → K (0 : Int32) M)
set_option maxRecDepth 20000 in
theorem con_X5_onceBit (l : Launch) (S : XS) (n : Nat) (R : Rfs) (x0 : Int32)  (M : Mem) (K : Int32 → Mem → Prop) (h : wp_X5_onceBit x0 M K) : CI l yX5_onceBit cX5_onceBit 1 (some .int) rmX5_onceBit S n R [.int x0] M K := by
  refine conI (lv := [(0, .int x0)]) (by decide) (Nat.le_of_ble_eq_true rfl) rfl ?_
  intro p e s m args below meth c C hr
  replace C : Cx p m meth c s args cX5_onceBit RX5 1 S := C
  refine v_iloadn C 0 rfl rfl dX5_onceBit_0 ?_
  by_cases s1_0 : x0 = (101 : Int32)
  · replace h := h.1 s1_0
    refine v_lkup (off := 43) C 44 (by decide) (by rw [s1_0]; decide) (by decide) dX5_onceBit_1 ?_
    refine v_iconst C kc_1 dX5_onceBit_44 ?_
    exact v_iret C hr dX5_onceBit_45 h
  by_cases s1_1 : x0 = (105 : Int32)
  · replace h := h.2.1 s1_1
    refine v_lkup (off := 47) C 48 (by decide) (by rw [s1_1]; decide) (by decide) dX5_onceBit_1 ?_
    refine v_iconst C kc_4 dX5_onceBit_48 ?_
    exact v_iret C hr dX5_onceBit_49 h
  by_cases s1_2 : x0 = (108 : Int32)
  · replace h := h.2.2.1 s1_2
    refine v_lkup (off := 45) C 46 (by decide) (by rw [s1_2]; decide) (by decide) dX5_onceBit_1 ?_
    refine v_iconst C kc_2 dX5_onceBit_46 ?_
    exact v_iret C hr dX5_onceBit_47 h
  by_cases s1_3 : x0 = (112 : Int32)
  · replace h := h.2.2.2.1 s1_3
    refine v_lkup (off := 49) C 50 (by decide) (by rw [s1_3]; decide) (by decide) dX5_onceBit_1 ?_
    refine v_bipush C kb_8 dX5_onceBit_50 ?_
    exact v_iret C hr dX5_onceBit_52 h
  replace h := h.2.2.2.2 s1_0 s1_1 s1_2 s1_3
  have t1_0 := ne_ti 101 101 (by decide) s1_0
  have t1_1 := ne_ti 105 105 (by decide) s1_1
  have t1_2 := ne_ti 108 108 (by decide) s1_2
  have t1_3 := ne_ti 112 112 (by decide) s1_3
  refine v_lkup (off := 52) C 53 (by decide) (by simp only [Op.lookupswitch.offset]; rw [if_neg (by omega)]; rw [if_neg (by omega)]; rw [if_neg (by omega)]; rw [if_neg (by omega)]) (by decide) dX5_onceBit_1 ?_
  refine v_iconst C kc_0 dX5_onceBit_53 ?_
  exact v_iret C hr dX5_onceBit_54 h
abbrev rmX5_mayBegin : Room := { frames := 1, cells := 0, slots := 0, locals := 20 }
def wp_X5_mayBegin (o0 : Nat) (o1 : Nat) (x2 : Int32) (M : Mem) (K : Int32 → Mem → Prop) : Prop := (¬ x2 = (117 : Int32) → (¬ x2 = (114 : Int32) → wp_X5_onceBit (x2) M (fun r3 M3 => (r3 = 0 → K (0 : Int32) M3) ∧ (¬ r3 = 0 → (((M3 o0 6) &&& r3) = 0 → (∀ M6 : Mem, M6 = mw M3 o0 6 ((M3 o0 6) ||| r3) → K (1 : Int32) M6)) ∧ (¬ ((M3 o0 6) &&& r3) = 0 → K (0 : Int32) M3)))) ∧ (x2 = (114 : Int32) → ((8 : Int32) ≤ (M o1 5) → K (0 : Int32) M) ∧ (¬ (8 : Int32) ≤ (M o1 5) → K (1 : Int32) M))) ∧ (x2 = (117 : Int32) → ((4 : Int32) ≤ (M o1 4) → K (0 : Int32) M) ∧ (¬ (4 : Int32) ≤ (M o1 4) → K (1 : Int32) M))
set_option maxRecDepth 20000 in
theorem con_X5_mayBegin (l : Launch) (S : XS) (n : Nat) (R : Rfs) (o0 : Nat) (o1 : Nat) (x2 : Int32) (h0 : isText n R o0) (h1 : isPlan n R o1) (M : Mem) (K : Int32 → Mem → Prop) (h : wp_X5_mayBegin o0 o1 x2 M K) : CI l yX5_mayBegin cX5_mayBegin 4 (some .boolean) rmX5_mayBegin S n R [.ref (XB S + o0), .ref (XB S + o1), .int x2] M K := by
  refine conI (lv := [(0, .ref (XB S + o0)), (1, .ref (XB S + o1)), (2, .int x2)]) (by decide) (Nat.le_of_ble_eq_true rfl) rfl ?_
  intro p e s m args below meth c C hr
  replace C : Cx p m meth c s args cX5_mayBegin RX5 4 S := C
  refine v_iloadn C 2 rfl rfl dX5_mayBegin_0 ?_
  refine v_bipush C kb_117 dX5_mayBegin_1 ?_
  refine v_icmp_ne C 20 (by decide) dX5_mayBegin_3 (fun c1 => ?_) (fun c1 => ?_)
  · replace h := h.1 c1
    refine v_iloadn C 2 rfl rfl dX5_mayBegin_20 ?_
    refine v_bipush C kb_114 dX5_mayBegin_21 ?_
    refine v_icmp_ne C 41 (by decide) dX5_mayBegin_23 (fun c2 => ?_) (fun c2 => ?_)
    · replace h := h.1 c2
      refine v_iloadn C 2 rfl rfl dX5_mayBegin_41 ?_
      refine v_csI (As := [.int x2]) C ms_X5_59 (con_X5_onceBit l S n R (x2)  _ _ h) rfl ⟨(Nat.le_of_ble_eq_true rfl), (Nat.le_of_ble_eq_true rfl)⟩ ⟨rfl, rfl, Nat.zero_le _, Nat.zero_le _⟩ (Nat.le_of_ble_eq_true rfl) dX5_mayBegin_42 (fun r3 M3 h => ?_)
      refine v_istoren (lv' := [(3, .int r3), (0, .ref (XB S + o0)), (1, .ref (XB S + o1)), (2, .int x2)]) C rfl rfl (Nat.le_of_ble_eq_true rfl) dX5_mayBegin_45 ?_
      refine v_iloadn C 0 rfl rfl dX5_mayBegin_46 ?_
      refine v_if_eq C 59 (by decide) dX5_mayBegin_47 (fun c4 => ?_) (fun c4 => ?_)
      · replace h := h.1 c4
        refine v_iconst C kc_0 dX5_mayBegin_59 ?_
        exact v_zret C isB0 hr dX5_mayBegin_60 h
      · replace h := h.2 c4
        refine v_aloadn C 1 rfl rfl dX5_mayBegin_50 ?_
        refine v_geti C fr_X5_27 (iText_s0 h0) (iText_l0 h0) rfl dX5_mayBegin_51 ?_
        refine v_iloadn C 0 rfl rfl dX5_mayBegin_54 ?_
        refine v_iand C dX5_mayBegin_55 ?_
        refine v_if_eq C 61 (by decide) dX5_mayBegin_56 (fun c5 => ?_) (fun c5 => ?_)
        · replace h := h.1 c5
          refine v_aloadn C 1 rfl rfl dX5_mayBegin_61 ?_
          refine v_dup C rfl dX5_mayBegin_62 ?_
          refine v_geti C fr_X5_27 (iText_s0 h0) (iText_l0 h0) rfl dX5_mayBegin_63 ?_
          refine v_iloadn C 0 rfl rfl dX5_mayBegin_66 ?_
          refine v_ior C dX5_mayBegin_67 ?_
          refine v_puti C fr_X5_27 (iText_s0 h0) (iText_l0 h0) rfl dX5_mayBegin_68 (fun M6 e6 => ?_)
          replace h := h M6 e6
          refine v_iconst C kc_1 dX5_mayBegin_71 ?_
          exact v_zret C isB1 hr dX5_mayBegin_72 h
        · replace h := h.2 c5
          refine v_iconst C kc_0 dX5_mayBegin_59 ?_
          exact v_zret C isB0 hr dX5_mayBegin_60 h
    · replace h := h.2 c2
      refine v_aloadn C 1 rfl rfl dX5_mayBegin_26 ?_
      refine v_geti C fr_X5_56 (iPlan_s0 h1) (iPlan_l0 h1) rfl dX5_mayBegin_27 ?_
      refine v_bipush C kb_8 dX5_mayBegin_30 ?_
      refine v_icmp_ge C 39 (by decide) dX5_mayBegin_32 (fun c7 => ?_) (fun c7 => ?_)
      · replace h := h.1 c7
        refine v_iconst C kc_0 dX5_mayBegin_39 ?_
        exact v_zret C isB0 hr dX5_mayBegin_40 h
      · replace h := h.2 c7
        refine v_iconst C kc_1 dX5_mayBegin_35 ?_
        refine v_goto C 40 (by decide) dX5_mayBegin_36 ?_
        exact v_zret C isB1 hr dX5_mayBegin_40 h
  · replace h := h.2 c1
    refine v_aloadn C 1 rfl rfl dX5_mayBegin_6 ?_
    refine v_geti C fr_X5_53 (iPlan_s0 h1) (iPlan_l0 h1) rfl dX5_mayBegin_7 ?_
    refine v_iconst C kc_4 dX5_mayBegin_10 ?_
    refine v_icmp_ge C 18 (by decide) dX5_mayBegin_11 (fun c8 => ?_) (fun c8 => ?_)
    · replace h := h.1 c8
      refine v_iconst C kc_0 dX5_mayBegin_18 ?_
      exact v_zret C isB0 hr dX5_mayBegin_19 h
    · replace h := h.2 c8
      refine v_iconst C kc_1 dX5_mayBegin_14 ?_
      refine v_goto C 19 (by decide) dX5_mayBegin_15 ?_
      exact v_zret C isB1 hr dX5_mayBegin_19 h
abbrev rmX5_isFigure : Room := { frames := 0, cells := 0, slots := 0, locals := 0 }
def wp_X5_isFigure (x0 : Int32) (M : Mem) (K : Int32 → Mem → Prop) : Prop := (x0 < (48 : Int32) → K (0 : Int32) M) ∧ (¬ x0 < (48 : Int32) → ((57 : Int32) < x0 → K (0 : Int32) M) ∧ (¬ (57 : Int32) < x0 → K (1 : Int32) M))
set_option maxRecDepth 20000 in
theorem con_X5_isFigure (l : Launch) (S : XS) (n : Nat) (R : Rfs) (x0 : Int32)  (M : Mem) (K : Int32 → Mem → Prop) (h : wp_X5_isFigure x0 M K) : CI l yX5_isFigure cX5_isFigure 1 (some .boolean) rmX5_isFigure S n R [.int x0] M K := by
  refine conI (lv := [(0, .int x0)]) (by decide) (Nat.le_of_ble_eq_true rfl) rfl ?_
  intro p e s m args below meth c C hr
  replace C : Cx p m meth c s args cX5_isFigure RX5 1 S := C
  refine v_iloadn C 0 rfl rfl dX5_isFigure_0 ?_
  refine v_bipush C kb_48 dX5_isFigure_1 ?_
  refine v_icmp_lt C 16 (by decide) dX5_isFigure_3 (fun c1 => ?_) (fun c1 => ?_)
  · replace h := h.1 c1
    refine v_iconst C kc_0 dX5_isFigure_16 ?_
    exact v_zret C isB0 hr dX5_isFigure_17 h
  · replace h := h.2 c1
    refine v_iloadn C 0 rfl rfl dX5_isFigure_6 ?_
    refine v_bipush C kb_57 dX5_isFigure_7 ?_
    refine v_icmp_gt C 16 (by decide) dX5_isFigure_9 (fun c2 => ?_) (fun c2 => ?_)
    · replace h := h.1 c2
      refine v_iconst C kc_0 dX5_isFigure_16 ?_
      exact v_zret C isB0 hr dX5_isFigure_17 h
    · replace h := h.2 c2
      refine v_iconst C kc_1 dX5_isFigure_12 ?_
      refine v_goto C 17 (by decide) dX5_isFigure_13 ?_
      exact v_zret C isB1 hr dX5_isFigure_17 h
abbrev rmX5_stepOverNumber : Room := { frames := 1, cells := 0, slots := 0, locals := 20 }
def wp_X5_stepOverNumber_130 (o0 : Nat)  (K : Mem → Prop) (M : Mem) : Prop := (∀ M14 : Mem, M14 = mw M o0 4 (258 : Int32) → K M14)
def wp_X5_stepOverNumber_115 (o0 : Nat)  (K : Mem → Prop) (y0 : Int32) (M : Mem) : Prop := ((99 : Int32) < (M o0 5) → wp_X5_stepOverNumber_130 o0  K  M) ∧ (¬ (99 : Int32) < (M o0 5) → (y0 = 0 → (∀ M13 : Mem, M13 = mw M o0 4 (256 : Int32) → K M13)) ∧ (¬ y0 = 0 → wp_X5_stepOverNumber_130 o0  K  M))
def wp_X5_stepOverNumber_114 (o0 : Nat)  (K : Mem → Prop) (M : Mem) : Prop := wp_X5_stepOverNumber_115 o0  K ((0 : Int32)) M
def wp_X5_stepOverNumber_93 (o0 : Nat)  (K : Mem → Prop) (x1 : Int32) (M : Mem) : Prop := (x1 = 0 → wp_X5_stepOverNumber_114 o0  K  M) ∧ (¬ x1 = 0 → (((M o0 2) - (M o0 3)) ≤ (1 : Int32) → wp_X5_stepOverNumber_114 o0  K  M) ∧ (¬ ((M o0 2) - (M o0 3)) ≤ (1 : Int32) → wp_X5_stepOverNumber_115 o0  K ((1 : Int32)) M))
def L_X5_stepOverNumber_25 (o0 : Nat)  (K : Mem → Prop) : Nat → Int32 → Mem → Prop
  | 0, _, _ => False
  | k + 1, x1, M => ((M o0 1) ≤ (M o0 2) → wp_X5_stepOverNumber_93 o0  K (x1) M) ∧ (¬ (M o0 1) ≤ (M o0 2) → vp_in (M o0 2) 120 ∧ (wp_X5_isFigure ((M (o0 + 1) (ix (M o0 2)))) M (fun r5 M5 => (r5 = 0 → wp_X5_stepOverNumber_93 o0  K (x1) M5) ∧ (¬ r5 = 0 → vp_in (M5 o0 2) 120 ∧ ((∀ M7 : Mem, M7 = mw M5 o0 5 (if (100 : Int32) < ((((M5 o0 5) * (10 : Int32)) + (M5 (o0 + 1) (ix (M5 o0 2)))) - (48 : Int32)) then (100 : Int32) else ((((M5 o0 5) * (10 : Int32)) + (M5 (o0 + 1) (ix (M5 o0 2)))) - (48 : Int32))) → (∀ M8 : Mem, M8 = mw M7 o0 2 ((M7 o0 2) + (1 : Int32)) → L_X5_stepOverNumber_25 o0  K k x1 M8)))))))
def wp_X5_stepOverNumber_19 (o0 : Nat)  (K : Mem → Prop) (y0 : Int32) (M : Mem) : Prop := (∀ M2 : Mem, M2 = mw M o0 5 (0 : Int32) → ∃ j3 : Nat, L_X5_stepOverNumber_25 o0  K j3 (y0) M2)
def wp_X5_stepOverNumber (o0 : Nat) (M : Mem) (K : Mem → Prop) : Prop := vp_in (M o0 2) 120 ∧ ((¬ (M (o0 + 1) (ix (M o0 2))) = (48 : Int32) → wp_X5_stepOverNumber_19 o0 K ((0 : Int32)) M) ∧ ((M (o0 + 1) (ix (M o0 2))) = (48 : Int32) → wp_X5_stepOverNumber_19 o0 K ((1 : Int32)) M))
set_option maxRecDepth 20000 in
theorem tb_X5_stepOverNumber_130 {p : Program} {e : Env} {s : State} {m : MethodId} {args : Array Value} {below : List Frame} {meth : Method} {c : Code} (l : Launch) (S : XS) (n : Nat) (R : Rfs) (o0 : Nat) (h0 : isText n R o0) (C : Cx p m meth c s args cX5_stepOverNumber RX5 3 S) (hr : meth.sig.returnType = none) (K : Mem → Prop)   (M : Mem) (h : wp_X5_stepOverNumber_130 o0  K  M) : V p l e rmX5_stepOverNumber s m args below meth c (MQ below (va_Qv K (XPost S n R) (XA S)) args s 0 0 (XA S)) S 3 0 0 n M R 130 [] [.ref (XB S + o0)] := by
  refine v_sipush C ks_258 dX5_stepOverNumber_130 ?_
  refine v_goto C 139 (by decide) dX5_stepOverNumber_133 ?_
  refine v_puti C fr_X5_33 (iText_s0 h0) (iText_l0 h0) rfl dX5_stepOverNumber_139 (fun M14 e14 => ?_)
  replace h := h M14 e14
  exact v_vret C hr dX5_stepOverNumber_142 h
set_option maxRecDepth 20000 in
theorem tb_X5_stepOverNumber_115 {p : Program} {e : Env} {s : State} {m : MethodId} {args : Array Value} {below : List Frame} {meth : Method} {c : Code} (l : Launch) (S : XS) (n : Nat) (R : Rfs) (o0 : Nat) (h0 : isText n R o0) (C : Cx p m meth c s args cX5_stepOverNumber RX5 3 S) (hr : meth.sig.returnType = none) (K : Mem → Prop)   (y0 : Int32) (M : Mem) (h : wp_X5_stepOverNumber_115 o0  K y0 M) : V p l e rmX5_stepOverNumber s m args below meth c (MQ below (va_Qv K (XPost S n R) (XA S)) args s 0 0 (XA S)) S 3 0 0 n M R 115 [(0, .ref (XB S + o0))] [.int y0] := by
  refine v_istoren (lv' := [(2, .int y0), (0, .ref (XB S + o0))]) C rfl rfl (Nat.le_of_ble_eq_true rfl) dX5_stepOverNumber_115 ?_
  refine v_aloadn C 1 rfl rfl dX5_stepOverNumber_116 ?_
  refine v_aloadn C 1 rfl rfl dX5_stepOverNumber_117 ?_
  refine v_geti C fr_X5_90 (iText_s0 h0) (iText_l0 h0) rfl dX5_stepOverNumber_118 ?_
  refine v_bipush C kb_99 dX5_stepOverNumber_121 ?_
  refine v_icmp_gt C 130 (by decide) dX5_stepOverNumber_123 (fun c11 => ?_) (fun c11 => ?_)
  · replace h := h.1 c11
    refine v_loc [] rfl ?_
    exact tb_X5_stepOverNumber_130 l S n R o0 h0 C hr K    M h
  · replace h := h.2 c11
    refine v_iloadn C 0 rfl rfl dX5_stepOverNumber_126 ?_
    refine v_if_eq C 136 (by decide) dX5_stepOverNumber_127 (fun c12 => ?_) (fun c12 => ?_)
    · replace h := h.1 c12
      refine v_sipush C ks_256 dX5_stepOverNumber_136 ?_
      refine v_puti C fr_X5_33 (iText_s0 h0) (iText_l0 h0) rfl dX5_stepOverNumber_139 (fun M13 e13 => ?_)
      replace h := h M13 e13
      exact v_vret C hr dX5_stepOverNumber_142 h
    · replace h := h.2 c12
      refine v_loc [] rfl ?_
      exact tb_X5_stepOverNumber_130 l S n R o0 h0 C hr K    M h
set_option maxRecDepth 20000 in
theorem tb_X5_stepOverNumber_114 {p : Program} {e : Env} {s : State} {m : MethodId} {args : Array Value} {below : List Frame} {meth : Method} {c : Code} (l : Launch) (S : XS) (n : Nat) (R : Rfs) (o0 : Nat) (h0 : isText n R o0) (C : Cx p m meth c s args cX5_stepOverNumber RX5 3 S) (hr : meth.sig.returnType = none) (K : Mem → Prop)   (M : Mem) (h : wp_X5_stepOverNumber_114 o0  K  M) : V p l e rmX5_stepOverNumber s m args below meth c (MQ below (va_Qv K (XPost S n R) (XA S)) args s 0 0 (XA S)) S 3 0 0 n M R 114 [(0, .ref (XB S + o0))] [] := by
  refine v_iconst C kc_0 dX5_stepOverNumber_114 ?_
  exact tb_X5_stepOverNumber_115 l S n R o0 h0 C hr K   ((0 : Int32)) M h
set_option maxRecDepth 20000 in
theorem tb_X5_stepOverNumber_93 {p : Program} {e : Env} {s : State} {m : MethodId} {args : Array Value} {below : List Frame} {meth : Method} {c : Code} (l : Launch) (S : XS) (n : Nat) (R : Rfs) (o0 : Nat) (h0 : isText n R o0) (C : Cx p m meth c s args cX5_stepOverNumber RX5 3 S) (hr : meth.sig.returnType = none) (K : Mem → Prop)   (x1 : Int32) (M : Mem) (h : wp_X5_stepOverNumber_93 o0  K x1 M) : V p l e rmX5_stepOverNumber s m args below meth c (MQ below (va_Qv K (XPost S n R) (XA S)) args s 0 0 (XA S)) S 3 0 0 n M R 93 [(0, .ref (XB S + o0)), (1, .int x1)] [] := by
  refine v_iloadn C 1 rfl rfl dX5_stepOverNumber_93 ?_
  refine v_if_eq C 114 (by decide) dX5_stepOverNumber_94 (fun c9 => ?_) (fun c9 => ?_)
  · replace h := h.1 c9
    refine v_loc [0] rfl ?_
    exact tb_X5_stepOverNumber_114 l S n R o0 h0 C hr K    M h
  · replace h := h.2 c9
    refine v_aloadn C 0 rfl rfl dX5_stepOverNumber_97 ?_
    refine v_geti C fr_X5_24 (iText_s0 h0) (iText_l0 h0) rfl dX5_stepOverNumber_98 ?_
    refine v_aloadn C 0 rfl rfl dX5_stepOverNumber_101 ?_
    refine v_geti C fr_X5_40 (iText_s0 h0) (iText_l0 h0) rfl dX5_stepOverNumber_102 ?_
    refine v_isub C dX5_stepOverNumber_105 ?_
    refine v_iconst C kc_1 dX5_stepOverNumber_106 ?_
    refine v_icmp_le C 114 (by decide) dX5_stepOverNumber_107 (fun c10 => ?_) (fun c10 => ?_)
    · replace h := h.1 c10
      refine v_loc [0] rfl ?_
      exact tb_X5_stepOverNumber_114 l S n R o0 h0 C hr K    M h
    · replace h := h.2 c10
      refine v_iconst C kc_1 dX5_stepOverNumber_110 ?_
      refine v_goto C 115 (by decide) dX5_stepOverNumber_111 ?_
      refine v_loc [0] rfl ?_
      exact tb_X5_stepOverNumber_115 l S n R o0 h0 C hr K   ((1 : Int32)) M h
set_option maxRecDepth 20000 in
theorem tl_X5_stepOverNumber_25 {p : Program} {e : Env} {s : State} {m : MethodId} {args : Array Value} {below : List Frame} {meth : Method} {c : Code} (l : Launch) (S : XS) (n : Nat) (R : Rfs) (o0 : Nat) (h0 : isText n R o0) (C : Cx p m meth c s args cX5_stepOverNumber RX5 3 S) (hr : meth.sig.returnType = none) (K : Mem → Prop)   (k : Nat) : ∀ (x1 : Int32) (M : Mem), L_X5_stepOverNumber_25 o0  K k x1 M → V p l e rmX5_stepOverNumber s m args below meth c (MQ below (va_Qv K (XPost S n R) (XA S)) args s 0 0 (XA S)) S 3 0 0 n M R 25 [(0, .ref (XB S + o0)), (1, .int x1)] [] := by
  induction k with
  | zero => intro x1 M h; exact h.elim
  | succ k ih =>
    intro x1 M h
    refine v_aloadn C 0 rfl rfl dX5_stepOverNumber_25 ?_
    refine v_geti C fr_X5_24 (iText_s0 h0) (iText_l0 h0) rfl dX5_stepOverNumber_26 ?_
    refine v_aloadn C 0 rfl rfl dX5_stepOverNumber_29 ?_
    refine v_geti C fr_X5_15 (iText_s0 h0) (iText_l0 h0) rfl dX5_stepOverNumber_30 ?_
    refine v_icmp_ge C 93 (by decide) dX5_stepOverNumber_33 (fun c4 => ?_) (fun c4 => ?_)
    · replace h := h.1 c4
      exact tb_X5_stepOverNumber_93 l S n R o0 h0 C hr K   (x1) M h
    · replace h := h.2 c4
      refine v_aloadn C 0 rfl rfl dX5_stepOverNumber_36 ?_
      refine v_getr (o' := (o0 + 1)) C fr_X5_9 (iText_s0 h0) (iText_l0 h0) rfl (iText_r0 h0) dX5_stepOverNumber_37 ?_
      refine v_aloadn C 0 rfl rfl dX5_stepOverNumber_40 ?_
      refine v_geti C fr_X5_24 (iText_s0 h0) (iText_l0 h0) rfl dX5_stepOverNumber_41 ?_
      refine v_ald C (iText_s1 h0) (iText_l1 h0) h.1 dX5_stepOverNumber_44 ?_
      replace h := h.2
      refine v_csI (As := [.int (M (o0 + 1) (ix (M o0 2)))]) C ms_X5_97 (con_X5_isFigure l S n R ((M (o0 + 1) (ix (M o0 2))))  _ _ h) rfl ⟨(Nat.le_of_ble_eq_true rfl), (Nat.le_of_ble_eq_true rfl)⟩ ⟨rfl, rfl, Nat.zero_le _, Nat.zero_le _⟩ (Nat.le_of_ble_eq_true rfl) dX5_stepOverNumber_45 (fun r5 M5 h => ?_)
      refine v_if_eq C 93 (by decide) dX5_stepOverNumber_48 (fun c6 => ?_) (fun c6 => ?_)
      · replace h := h.1 c6
        exact tb_X5_stepOverNumber_93 l S n R o0 h0 C hr K   (x1) M5 h
      · replace h := h.2 c6
        refine v_aloadn C 0 rfl rfl dX5_stepOverNumber_51 ?_
        refine v_aloadn C 0 rfl rfl dX5_stepOverNumber_52 ?_
        refine v_geti C fr_X5_90 (iText_s0 h0) (iText_l0 h0) rfl dX5_stepOverNumber_53 ?_
        refine v_bipush C kb_10 dX5_stepOverNumber_56 ?_
        refine v_imul C dX5_stepOverNumber_58 ?_
        refine v_aloadn C 0 rfl rfl dX5_stepOverNumber_59 ?_
        refine v_getr (o' := (o0 + 1)) C fr_X5_9 (iText_s0 h0) (iText_l0 h0) rfl (iText_r0 h0) dX5_stepOverNumber_60 ?_
        refine v_aloadn C 0 rfl rfl dX5_stepOverNumber_63 ?_
        refine v_geti C fr_X5_24 (iText_s0 h0) (iText_l0 h0) rfl dX5_stepOverNumber_64 ?_
        refine v_ald C (iText_s1 h0) (iText_l1 h0) h.1 dX5_stepOverNumber_67 ?_
        replace h := h.2
        refine v_iadd C dX5_stepOverNumber_68 ?_
        refine v_bipush C kb_48 dX5_stepOverNumber_69 ?_
        refine v_isub C dX5_stepOverNumber_71 ?_
        refine v_bipush C kb_100 dX5_stepOverNumber_72 ?_
        refine v_mmin C mm_X5_104 (Nat.le_of_ble_eq_true rfl) (Nat.le_of_ble_eq_true rfl) (Nat.zero_le _) (Nat.zero_le _) dX5_stepOverNumber_74 ?_
        refine v_puti C fr_X5_90 (iText_s0 h0) (iText_l0 h0) rfl dX5_stepOverNumber_77 (fun M7 e7 => ?_)
        replace h := h M7 e7
        refine v_aloadn C 0 rfl rfl dX5_stepOverNumber_80 ?_
        refine v_dup C rfl dX5_stepOverNumber_81 ?_
        refine v_geti C fr_X5_24 (iText_s0 h0) (iText_l0 h0) rfl dX5_stepOverNumber_82 ?_
        refine v_iconst C kc_1 dX5_stepOverNumber_85 ?_
        refine v_iadd C dX5_stepOverNumber_86 ?_
        refine v_puti C fr_X5_24 (iText_s0 h0) (iText_l0 h0) rfl dX5_stepOverNumber_87 (fun M8 e8 => ?_)
        replace h := h M8 e8
        refine v_goto C 25 (by decide) dX5_stepOverNumber_90 ?_
        exact ih (x1) M8 h
set_option maxRecDepth 20000 in
theorem tb_X5_stepOverNumber_19 {p : Program} {e : Env} {s : State} {m : MethodId} {args : Array Value} {below : List Frame} {meth : Method} {c : Code} (l : Launch) (S : XS) (n : Nat) (R : Rfs) (o0 : Nat) (h0 : isText n R o0) (C : Cx p m meth c s args cX5_stepOverNumber RX5 3 S) (hr : meth.sig.returnType = none) (K : Mem → Prop)   (y0 : Int32) (M : Mem) (h : wp_X5_stepOverNumber_19 o0  K y0 M) : V p l e rmX5_stepOverNumber s m args below meth c (MQ below (va_Qv K (XPost S n R) (XA S)) args s 0 0 (XA S)) S 3 0 0 n M R 19 [(0, .ref (XB S + o0))] [.int y0] := by
  refine v_istoren (lv' := [(1, .int y0), (0, .ref (XB S + o0))]) C rfl rfl (Nat.le_of_ble_eq_true rfl) dX5_stepOverNumber_19 ?_
  refine v_aloadn C 1 rfl rfl dX5_stepOverNumber_20 ?_
  refine v_iconst C kc_0 dX5_stepOverNumber_21 ?_
  refine v_puti C fr_X5_90 (iText_s0 h0) (iText_l0 h0) rfl dX5_stepOverNumber_22 (fun M2 e2 => ?_)
  replace h := h M2 e2
  refine v_loc [1, 0] rfl ?_
  obtain ⟨k3, h⟩ := h
  exact tl_X5_stepOverNumber_25 l S n R o0 h0 C hr K   k3 (y0) M2 h
set_option maxRecDepth 20000 in
theorem con_X5_stepOverNumber (l : Launch) (S : XS) (n : Nat) (R : Rfs) (o0 : Nat) (h0 : isText n R o0) (M : Mem) (K : Mem → Prop) (h : wp_X5_stepOverNumber o0 M K) : CV l yX5_stepOverNumber cX5_stepOverNumber 3 rmX5_stepOverNumber S n R [.ref (XB S + o0)] M K := by
  refine conV (lv := [(0, .ref (XB S + o0))]) (by decide) (Nat.le_of_ble_eq_true rfl) rfl ?_
  intro p e s m args below meth c C hr
  replace C : Cx p m meth c s args cX5_stepOverNumber RX5 3 S := C
  refine v_aloadn C 0 rfl rfl dX5_stepOverNumber_0 ?_
  refine v_getr (o' := (o0 + 1)) C fr_X5_9 (iText_s0 h0) (iText_l0 h0) rfl (iText_r0 h0) dX5_stepOverNumber_1 ?_
  refine v_aloadn C 0 rfl rfl dX5_stepOverNumber_4 ?_
  refine v_geti C fr_X5_24 (iText_s0 h0) (iText_l0 h0) rfl dX5_stepOverNumber_5 ?_
  refine v_ald C (iText_s1 h0) (iText_l1 h0) h.1 dX5_stepOverNumber_8 ?_
  replace h := h.2
  refine v_bipush C kb_48 dX5_stepOverNumber_9 ?_
  refine v_icmp_ne C 18 (by decide) dX5_stepOverNumber_11 (fun c1 => ?_) (fun c1 => ?_)
  · replace h := h.1 c1
    refine v_iconst C kc_0 dX5_stepOverNumber_18 ?_
    exact tb_X5_stepOverNumber_19 l S n R o0 h0 C hr K   ((0 : Int32)) M h
  · replace h := h.2 c1
    refine v_iconst C kc_1 dX5_stepOverNumber_14 ?_
    refine v_goto C 19 (by decide) dX5_stepOverNumber_15 ?_
    exact tb_X5_stepOverNumber_19 l S n R o0 h0 C hr K   ((1 : Int32)) M h
abbrev rmX5_stepOn : Room := { frames := 2, cells := 0, slots := 0, locals := 42 }
def wp_X5_stepOn_38 (o0 : Nat)  (K : Mem → Prop) (M : Mem) : Prop := (∀ M5 : Mem, M5 = mw M o0 3 (M o0 2) → ((M5 o0 2) < (M5 o0 1) → vp_in (M5 o0 2) 120 ∧ (wp_X5_isFigure ((M5 (o0 + 1) (ix (M5 o0 2)))) M5 (fun r7 M7 => (r7 = 0 → vp_in (M7 o0 2) 120 ∧ ((∀ M9 : Mem, M9 = mw M7 o0 4 (M7 (o0 + 1) (ix (M7 o0 2))) → (∀ M10 : Mem, M10 = mw M9 o0 2 ((M9 o0 2) + (1 : Int32)) → K M10)))) ∧ (¬ r7 = 0 → wp_X5_stepOverNumber o0 M7 (fun M11 => K M11))))) ∧ (¬ (M5 o0 2) < (M5 o0 1) → (∀ M12 : Mem, M12 = mw M5 o0 4 (257 : Int32) → K M12)))
def L_X5_stepOn_0 (o0 : Nat)  (K : Mem → Prop) : Nat → Mem → Prop
  | 0, _ => False
  | k + 1, M => ((M o0 1) ≤ (M o0 2) → wp_X5_stepOn_38 o0  K  M) ∧ (¬ (M o0 1) ≤ (M o0 2) → vp_in (M o0 2) 120 ∧ ((¬ (M (o0 + 1) (ix (M o0 2))) = (32 : Int32) → wp_X5_stepOn_38 o0  K  M) ∧ ((M (o0 + 1) (ix (M o0 2))) = (32 : Int32) → (∀ M15 : Mem, M15 = mw M o0 2 ((M o0 2) + (1 : Int32)) → L_X5_stepOn_0 o0  K k  M15))))
def wp_X5_stepOn (o0 : Nat) (M : Mem) (K : Mem → Prop) : Prop := ((M o0 1) ≤ (M o0 2) → wp_X5_stepOn_38 o0 K M) ∧ (¬ (M o0 1) ≤ (M o0 2) → vp_in (M o0 2) 120 ∧ ((¬ (M (o0 + 1) (ix (M o0 2))) = (32 : Int32) → wp_X5_stepOn_38 o0 K M) ∧ ((M (o0 + 1) (ix (M o0 2))) = (32 : Int32) → (∀ M3 : Mem, M3 = mw M o0 2 ((M o0 2) + (1 : Int32)) → ∃ j4 : Nat, L_X5_stepOn_0 o0 K j4 M3))))
set_option maxRecDepth 20000 in
theorem tb_X5_stepOn_38 {p : Program} {e : Env} {s : State} {m : MethodId} {args : Array Value} {below : List Frame} {meth : Method} {c : Code} (l : Launch) (S : XS) (n : Nat) (R : Rfs) (o0 : Nat) (h0 : isText n R o0) (C : Cx p m meth c s args cX5_stepOn RX5 1 S) (hr : meth.sig.returnType = none) (K : Mem → Prop)   (M : Mem) (h : wp_X5_stepOn_38 o0  K  M) : V p l e rmX5_stepOn s m args below meth c (MQ below (va_Qv K (XPost S n R) (XA S)) args s 0 0 (XA S)) S 1 0 0 n M R 38 [(0, .ref (XB S + o0))] [] := by
  refine v_aloadn C 0 rfl rfl dX5_stepOn_38 ?_
  refine v_aloadn C 0 rfl rfl dX5_stepOn_39 ?_
  refine v_geti C fr_X5_24 (iText_s0 h0) (iText_l0 h0) rfl dX5_stepOn_40 ?_
  refine v_puti C fr_X5_40 (iText_s0 h0) (iText_l0 h0) rfl dX5_stepOn_43 (fun M5 e5 => ?_)
  replace h := h M5 e5
  refine v_aloadn C 0 rfl rfl dX5_stepOn_46 ?_
  refine v_geti C fr_X5_24 (iText_s0 h0) (iText_l0 h0) rfl dX5_stepOn_47 ?_
  refine v_aloadn C 0 rfl rfl dX5_stepOn_50 ?_
  refine v_geti C fr_X5_15 (iText_s0 h0) (iText_l0 h0) rfl dX5_stepOn_51 ?_
  refine v_icmp_lt C 67 (by decide) dX5_stepOn_54 (fun c6 => ?_) (fun c6 => ?_)
  · replace h := h.1 c6
    refine v_aloadn C 0 rfl rfl dX5_stepOn_67 ?_
    refine v_getr (o' := (o0 + 1)) C fr_X5_9 (iText_s0 h0) (iText_l0 h0) rfl (iText_r0 h0) dX5_stepOn_68 ?_
    refine v_aloadn C 0 rfl rfl dX5_stepOn_71 ?_
    refine v_geti C fr_X5_24 (iText_s0 h0) (iText_l0 h0) rfl dX5_stepOn_72 ?_
    refine v_ald C (iText_s1 h0) (iText_l1 h0) h.1 dX5_stepOn_75 ?_
    replace h := h.2
    refine v_csI (As := [.int (M5 (o0 + 1) (ix (M5 o0 2)))]) C ms_X5_97 (con_X5_isFigure l S n R ((M5 (o0 + 1) (ix (M5 o0 2))))  _ _ h) rfl ⟨(Nat.le_of_ble_eq_true rfl), (Nat.le_of_ble_eq_true rfl)⟩ ⟨rfl, rfl, Nat.zero_le _, Nat.zero_le _⟩ (Nat.le_of_ble_eq_true rfl) dX5_stepOn_76 (fun r7 M7 h => ?_)
    refine v_if_eq C 89 (by decide) dX5_stepOn_79 (fun c8 => ?_) (fun c8 => ?_)
    · replace h := h.1 c8
      refine v_aloadn C 0 rfl rfl dX5_stepOn_89 ?_
      refine v_aloadn C 0 rfl rfl dX5_stepOn_90 ?_
      refine v_getr (o' := (o0 + 1)) C fr_X5_9 (iText_s0 h0) (iText_l0 h0) rfl (iText_r0 h0) dX5_stepOn_91 ?_
      refine v_aloadn C 0 rfl rfl dX5_stepOn_94 ?_
      refine v_geti C fr_X5_24 (iText_s0 h0) (iText_l0 h0) rfl dX5_stepOn_95 ?_
      refine v_ald C (iText_s1 h0) (iText_l1 h0) h.1 dX5_stepOn_98 ?_
      replace h := h.2
      refine v_puti C fr_X5_33 (iText_s0 h0) (iText_l0 h0) rfl dX5_stepOn_99 (fun M9 e9 => ?_)
      replace h := h M9 e9
      refine v_aloadn C 0 rfl rfl dX5_stepOn_102 ?_
      refine v_dup C rfl dX5_stepOn_103 ?_
      refine v_geti C fr_X5_24 (iText_s0 h0) (iText_l0 h0) rfl dX5_stepOn_104 ?_
      refine v_iconst C kc_1 dX5_stepOn_107 ?_
      refine v_iadd C dX5_stepOn_108 ?_
      refine v_puti C fr_X5_24 (iText_s0 h0) (iText_l0 h0) rfl dX5_stepOn_109 (fun M10 e10 => ?_)
      replace h := h M10 e10
      exact v_vret C hr dX5_stepOn_112 h
    · replace h := h.2 c8
      refine v_aloadn C 0 rfl rfl dX5_stepOn_82 ?_
      refine v_cvV (As := []) C mv_X5_101 (con_X5_stepOverNumber l S n R o0 h0 _ _ h) (iText_s0 h0) (iText_l0 h0) rfl ⟨(Nat.le_of_ble_eq_true rfl), (Nat.le_of_ble_eq_true rfl)⟩ ⟨rfl, rfl, Nat.zero_le _, Nat.zero_le _⟩ (Nat.le_of_ble_eq_true rfl) dX5_stepOn_83 (fun M11 h => ?_)
      refine v_goto C 112 (by decide) dX5_stepOn_86 ?_
      exact v_vret C hr dX5_stepOn_112 h
  · replace h := h.2 c6
    refine v_aloadn C 0 rfl rfl dX5_stepOn_57 ?_
    refine v_sipush C ks_257 dX5_stepOn_58 ?_
    refine v_puti C fr_X5_33 (iText_s0 h0) (iText_l0 h0) rfl dX5_stepOn_61 (fun M12 e12 => ?_)
    replace h := h M12 e12
    refine v_goto C 112 (by decide) dX5_stepOn_64 ?_
    exact v_vret C hr dX5_stepOn_112 h
set_option maxRecDepth 20000 in
theorem tl_X5_stepOn_0 {p : Program} {e : Env} {s : State} {m : MethodId} {args : Array Value} {below : List Frame} {meth : Method} {c : Code} (l : Launch) (S : XS) (n : Nat) (R : Rfs) (o0 : Nat) (h0 : isText n R o0) (C : Cx p m meth c s args cX5_stepOn RX5 1 S) (hr : meth.sig.returnType = none) (K : Mem → Prop)   (k : Nat) : ∀ (M : Mem), L_X5_stepOn_0 o0  K k  M → V p l e rmX5_stepOn s m args below meth c (MQ below (va_Qv K (XPost S n R) (XA S)) args s 0 0 (XA S)) S 1 0 0 n M R 0 [(0, .ref (XB S + o0))] [] := by
  induction k with
  | zero => intro  M h; exact h.elim
  | succ k ih =>
    intro  M h
    refine v_aloadn C 0 rfl rfl dX5_stepOn_0 ?_
    refine v_geti C fr_X5_24 (iText_s0 h0) (iText_l0 h0) rfl dX5_stepOn_1 ?_
    refine v_aloadn C 0 rfl rfl dX5_stepOn_4 ?_
    refine v_geti C fr_X5_15 (iText_s0 h0) (iText_l0 h0) rfl dX5_stepOn_5 ?_
    refine v_icmp_ge C 38 (by decide) dX5_stepOn_8 (fun c13 => ?_) (fun c13 => ?_)
    · replace h := h.1 c13
      exact tb_X5_stepOn_38 l S n R o0 h0 C hr K    M h
    · replace h := h.2 c13
      refine v_aloadn C 0 rfl rfl dX5_stepOn_11 ?_
      refine v_getr (o' := (o0 + 1)) C fr_X5_9 (iText_s0 h0) (iText_l0 h0) rfl (iText_r0 h0) dX5_stepOn_12 ?_
      refine v_aloadn C 0 rfl rfl dX5_stepOn_15 ?_
      refine v_geti C fr_X5_24 (iText_s0 h0) (iText_l0 h0) rfl dX5_stepOn_16 ?_
      refine v_ald C (iText_s1 h0) (iText_l1 h0) h.1 dX5_stepOn_19 ?_
      replace h := h.2
      refine v_bipush C kb_32 dX5_stepOn_20 ?_
      refine v_icmp_ne C 38 (by decide) dX5_stepOn_22 (fun c14 => ?_) (fun c14 => ?_)
      · replace h := h.1 c14
        exact tb_X5_stepOn_38 l S n R o0 h0 C hr K    M h
      · replace h := h.2 c14
        refine v_aloadn C 0 rfl rfl dX5_stepOn_25 ?_
        refine v_dup C rfl dX5_stepOn_26 ?_
        refine v_geti C fr_X5_24 (iText_s0 h0) (iText_l0 h0) rfl dX5_stepOn_27 ?_
        refine v_iconst C kc_1 dX5_stepOn_30 ?_
        refine v_iadd C dX5_stepOn_31 ?_
        refine v_puti C fr_X5_24 (iText_s0 h0) (iText_l0 h0) rfl dX5_stepOn_32 (fun M15 e15 => ?_)
        replace h := h M15 e15
        refine v_goto C 0 (by decide) dX5_stepOn_35 ?_
        exact ih  M15 h
set_option maxRecDepth 20000 in
theorem con_X5_stepOn (l : Launch) (S : XS) (n : Nat) (R : Rfs) (o0 : Nat) (h0 : isText n R o0) (M : Mem) (K : Mem → Prop) (h : wp_X5_stepOn o0 M K) : CV l yX5_stepOn cX5_stepOn 1 rmX5_stepOn S n R [.ref (XB S + o0)] M K := by
  refine conV (lv := [(0, .ref (XB S + o0))]) (by decide) (Nat.le_of_ble_eq_true rfl) rfl ?_
  intro p e s m args below meth c C hr
  replace C : Cx p m meth c s args cX5_stepOn RX5 1 S := C
  refine v_aloadn C 0 rfl rfl dX5_stepOn_0 ?_
  refine v_geti C fr_X5_24 (iText_s0 h0) (iText_l0 h0) rfl dX5_stepOn_1 ?_
  refine v_aloadn C 0 rfl rfl dX5_stepOn_4 ?_
  refine v_geti C fr_X5_15 (iText_s0 h0) (iText_l0 h0) rfl dX5_stepOn_5 ?_
  refine v_icmp_ge C 38 (by decide) dX5_stepOn_8 (fun c1 => ?_) (fun c1 => ?_)
  · replace h := h.1 c1
    exact tb_X5_stepOn_38 l S n R o0 h0 C hr K    M h
  · replace h := h.2 c1
    refine v_aloadn C 0 rfl rfl dX5_stepOn_11 ?_
    refine v_getr (o' := (o0 + 1)) C fr_X5_9 (iText_s0 h0) (iText_l0 h0) rfl (iText_r0 h0) dX5_stepOn_12 ?_
    refine v_aloadn C 0 rfl rfl dX5_stepOn_15 ?_
    refine v_geti C fr_X5_24 (iText_s0 h0) (iText_l0 h0) rfl dX5_stepOn_16 ?_
    refine v_ald C (iText_s1 h0) (iText_l1 h0) h.1 dX5_stepOn_19 ?_
    replace h := h.2
    refine v_bipush C kb_32 dX5_stepOn_20 ?_
    refine v_icmp_ne C 38 (by decide) dX5_stepOn_22 (fun c2 => ?_) (fun c2 => ?_)
    · replace h := h.1 c2
      exact tb_X5_stepOn_38 l S n R o0 h0 C hr K    M h
    · replace h := h.2 c2
      refine v_aloadn C 0 rfl rfl dX5_stepOn_25 ?_
      refine v_dup C rfl dX5_stepOn_26 ?_
      refine v_geti C fr_X5_24 (iText_s0 h0) (iText_l0 h0) rfl dX5_stepOn_27 ?_
      refine v_iconst C kc_1 dX5_stepOn_30 ?_
      refine v_iadd C dX5_stepOn_31 ?_
      refine v_puti C fr_X5_24 (iText_s0 h0) (iText_l0 h0) rfl dX5_stepOn_32 (fun M3 e3 => ?_)
      replace h := h M3 e3
      refine v_goto C 0 (by decide) dX5_stepOn_35 ?_
      obtain ⟨k4, h⟩ := h
      exact tl_X5_stepOn_0 l S n R o0 h0 C hr K   k4  M3 h
abbrev rmX5_takeNumber : Room := { frames := 3, cells := 0, slots := 0, locals := 62 }
def wp_X5_takeNumber (o0 : Nat) (x1 : Int32) (x2 : Int32) (M : Mem) (K : Int32 → Mem → Prop) : Prop := (¬ (M o0 4) = (256 : Int32) → K (-1 : Int32) M) ∧ ((M o0 4) = (256 : Int32) → wp_X6_isWithin ((M o0 5)) (x1) (x2) M (fun r2 M2 => (¬ r2 = 0 → wp_X5_stepOn o0 M2 (fun M4 => K (M2 o0 5) M4)) ∧ (r2 = 0 → K (-1 : Int32) M2)))
set_option maxRecDepth 20000 in
theorem con_X5_takeNumber (l : Launch) (S : XS) (n : Nat) (R : Rfs) (o0 : Nat) (x1 : Int32) (x2 : Int32) (h0 : isText n R o0) (M : Mem) (K : Int32 → Mem → Prop) (h : wp_X5_takeNumber o0 x1 x2 M K) : CI l yX5_takeNumber cX5_takeNumber 4 (some .int) rmX5_takeNumber S n R [.ref (XB S + o0), .int x1, .int x2] M K := by
  refine conI (lv := [(0, .ref (XB S + o0)), (1, .int x1), (2, .int x2)]) (by decide) (Nat.le_of_ble_eq_true rfl) rfl ?_
  intro p e s m args below meth c C hr
  replace C : Cx p m meth c s args cX5_takeNumber RX5 4 S := C
  refine v_aloadn C 0 rfl rfl dX5_takeNumber_0 ?_
  refine v_geti C fr_X5_33 (iText_s0 h0) (iText_l0 h0) rfl dX5_takeNumber_1 ?_
  refine v_sipush C ks_256 dX5_takeNumber_4 ?_
  refine v_icmp_ne C 22 (by decide) dX5_takeNumber_7 (fun c1 => ?_) (fun c1 => ?_)
  · replace h := h.1 c1
    refine v_iconst C kc_m1 dX5_takeNumber_22 ?_
    exact v_iret C hr dX5_takeNumber_23 h
  · replace h := h.2 c1
    refine v_aloadn C 0 rfl rfl dX5_takeNumber_10 ?_
    refine v_geti C fr_X5_90 (iText_s0 h0) (iText_l0 h0) rfl dX5_takeNumber_11 ?_
    refine v_iloadn C 1 rfl rfl dX5_takeNumber_14 ?_
    refine v_iloadn C 2 rfl rfl dX5_takeNumber_15 ?_
    refine v_cnI (As := [.int (M o0 5), .int x1, .int x2]) C C.2.1.2.2.2.2.2.2.1 mn_X6_isWithin (con_X6_isWithin l S n R ((M o0 5)) (x1) (x2)  _ _ h) rfl ⟨(Nat.le_of_ble_eq_true rfl), (Nat.le_of_ble_eq_true rfl)⟩ ⟨rfl, rfl, Nat.zero_le _, Nat.zero_le _⟩ (Nat.le_of_ble_eq_true rfl) dX5_takeNumber_16 (fun r2 M2 h => ?_)
    refine v_if_ne C 24 (by decide) dX5_takeNumber_19 (fun c3 => ?_) (fun c3 => ?_)
    · replace h := h.1 c3
      refine v_aloadn C 0 rfl rfl dX5_takeNumber_24 ?_
      refine v_geti C fr_X5_90 (iText_s0 h0) (iText_l0 h0) rfl dX5_takeNumber_25 ?_
      refine v_istoren (lv' := [(3, .int (M2 o0 5)), (0, .ref (XB S + o0)), (1, .int x1), (2, .int x2)]) C rfl rfl (Nat.le_of_ble_eq_true rfl) dX5_takeNumber_28 ?_
      refine v_aloadn C 1 rfl rfl dX5_takeNumber_29 ?_
      refine v_cvV (As := []) C mv_X5_30 (con_X5_stepOn l S n R o0 h0 _ _ h) (iText_s0 h0) (iText_l0 h0) rfl ⟨(Nat.le_of_ble_eq_true rfl), (Nat.le_of_ble_eq_true rfl)⟩ ⟨rfl, rfl, Nat.zero_le _, Nat.zero_le _⟩ (Nat.le_of_ble_eq_true rfl) dX5_takeNumber_30 (fun M4 h => ?_)
      refine v_iloadn C 0 rfl rfl dX5_takeNumber_33 ?_
      exact v_iret C hr dX5_takeNumber_34 h
    · replace h := h.2 c3
      refine v_iconst C kc_m1 dX5_takeNumber_22 ?_
      exact v_iret C hr dX5_takeNumber_23 h
abbrev rmX5_readReel : Room := { frames := 4, cells := 0, slots := 0, locals := 85 }
def wp_X5_readReel_67 (o0 : Nat) (o1 : Nat)  (K : Int32 → Mem → Prop) (y0 y1 : Int32) (M : Mem) : Prop := wp_X3_addReel o1 (y1) (y0) M (fun M9 => K (1 : Int32) M9)
def wp_X5_readReel_37 (o0 : Nat) (o1 : Nat)  (K : Int32 → Mem → Prop) (x2 x3 : Int32) (M : Mem) : Prop := wp_X5_takeNumber o0 ((0 : Int32)) ((9 : Int32)) M (fun r6 M6 => (0 ≤ r6 → (x3 = 0 → wp_X5_readReel_67 o0 o1  K (r6) (x2) M6) ∧ (¬ x3 = 0 → wp_X5_readReel_67 o0 o1  K ((-r6)) (x2) M6)) ∧ (¬ 0 ≤ r6 → K (0 : Int32) M6))
def wp_X5_readReel_28 (o0 : Nat) (o1 : Nat)  (K : Int32 → Mem → Prop) (x2 y0 : Int32) (M : Mem) : Prop := (y0 = 0 → wp_X5_readReel_37 o0 o1  K (x2) (y0) M) ∧ (¬ y0 = 0 → wp_X5_stepOn o0 M (fun M5 => wp_X5_readReel_37 o0 o1  K (x2) (y0) M5))
def wp_X5_readReel (o0 : Nat) (o1 : Nat) (M : Mem) (K : Int32 → Mem → Prop) : Prop := wp_X5_takeNumber o0 ((1 : Int32)) ((99 : Int32)) M (fun r1 M1 => (0 ≤ r1 → (¬ (M1 o0 4) = (45 : Int32) → wp_X5_readReel_28 o0 o1 K (r1) ((0 : Int32)) M1) ∧ ((M1 o0 4) = (45 : Int32) → wp_X5_readReel_28 o0 o1 K (r1) ((1 : Int32)) M1)) ∧ (¬ 0 ≤ r1 → K (0 : Int32) M1))
set_option maxRecDepth 20000 in
theorem tb_X5_readReel_67 {p : Program} {e : Env} {s : State} {m : MethodId} {args : Array Value} {below : List Frame} {meth : Method} {c : Code} (l : Launch) (S : XS) (n : Nat) (R : Rfs) (o0 : Nat) (o1 : Nat) (h0 : isText n R o0) (h1 : isPlan n R o1) (C : Cx p m meth c s args cX5_readReel RX5 5 S) (hr : meth.sig.returnType = (some .boolean)) (K : Int32 → Mem → Prop)   (y0 y1 : Int32) (M : Mem) (h : wp_X5_readReel_67 o0 o1  K y0 y1 M) : V p l e rmX5_readReel s m args below meth c (MQ below (va_Qi K (XPost S n R) (XA S)) args s 0 0 (XA S)) S 5 0 0 n M R 67 [] [.int y0, .int y1, .ref (XB S + o1)] := by
  refine v_cvV (As := [.int y1, .int y0]) C mv_X5_67 (con_X3_addReel l S n R o1 (y1) (y0) h1 _ _ h) (iPlan_s0 h1) (iPlan_l0 h1) rfl ⟨(Nat.le_of_ble_eq_true rfl), (Nat.le_of_ble_eq_true rfl)⟩ ⟨rfl, rfl, Nat.zero_le _, Nat.zero_le _⟩ (Nat.le_of_ble_eq_true rfl) dX5_readReel_67 (fun M9 h => ?_)
  refine v_iconst C kc_1 dX5_readReel_70 ?_
  exact v_zret C isB1 hr dX5_readReel_71 h
set_option maxRecDepth 20000 in
theorem tb_X5_readReel_37 {p : Program} {e : Env} {s : State} {m : MethodId} {args : Array Value} {below : List Frame} {meth : Method} {c : Code} (l : Launch) (S : XS) (n : Nat) (R : Rfs) (o0 : Nat) (o1 : Nat) (h0 : isText n R o0) (h1 : isPlan n R o1) (C : Cx p m meth c s args cX5_readReel RX5 5 S) (hr : meth.sig.returnType = (some .boolean)) (K : Int32 → Mem → Prop)   (x2 x3 : Int32) (M : Mem) (h : wp_X5_readReel_37 o0 o1  K x2 x3 M) : V p l e rmX5_readReel s m args below meth c (MQ below (va_Qi K (XPost S n R) (XA S)) args s 0 0 (XA S)) S 5 0 0 n M R 37 [(0, .ref (XB S + o0)), (1, .ref (XB S + o1)), (2, .int x2), (3, .int x3)] [] := by
  refine v_aloadn C 0 rfl rfl dX5_readReel_37 ?_
  refine v_iconst C kc_0 dX5_readReel_38 ?_
  refine v_bipush C kb_9 dX5_readReel_39 ?_
  refine v_cvI (As := [.int (0 : Int32), .int (9 : Int32)]) C mv_X5_63 (con_X5_takeNumber l S n R o0 ((0 : Int32)) ((9 : Int32)) h0 _ _ h) (iText_s0 h0) (iText_l0 h0) rfl ⟨(Nat.le_of_ble_eq_true rfl), (Nat.le_of_ble_eq_true rfl)⟩ ⟨rfl, rfl, Nat.zero_le _, Nat.zero_le _⟩ (Nat.le_of_ble_eq_true rfl) dX5_readReel_41 (fun r6 M6 h => ?_)
  refine v_istore (lv' := [(4, .int r6), (0, .ref (XB S + o0)), (1, .ref (XB S + o1)), (2, .int x2), (3, .int x3)]) C rfl (Nat.le_of_ble_eq_true rfl) dX5_readReel_44 ?_
  refine v_iload C 0 rfl dX5_readReel_46 ?_
  refine v_if_ge C 53 (by decide) dX5_readReel_48 (fun c7 => ?_) (fun c7 => ?_)
  · replace h := h.1 c7
    refine v_aloadn C 2 rfl rfl dX5_readReel_53 ?_
    refine v_iloadn C 3 rfl rfl dX5_readReel_54 ?_
    refine v_iloadn C 4 rfl rfl dX5_readReel_55 ?_
    refine v_if_eq C 65 (by decide) dX5_readReel_56 (fun c8 => ?_) (fun c8 => ?_)
    · replace h := h.1 c8
      refine v_iload C 0 rfl dX5_readReel_65 ?_
      refine v_loc [] rfl ?_
      exact tb_X5_readReel_67 l S n R o0 o1 h0 h1 C hr K   (r6) (x2) M6 h
    · replace h := h.2 c8
      refine v_iload C 0 rfl dX5_readReel_59 ?_
      refine v_ineg C dX5_readReel_61 ?_
      refine v_goto C 67 (by decide) dX5_readReel_62 ?_
      refine v_loc [] rfl ?_
      exact tb_X5_readReel_67 l S n R o0 o1 h0 h1 C hr K   ((-r6)) (x2) M6 h
  · replace h := h.2 c7
    refine v_iconst C kc_0 dX5_readReel_51 ?_
    exact v_zret C isB0 hr dX5_readReel_52 h
set_option maxRecDepth 20000 in
theorem tb_X5_readReel_28 {p : Program} {e : Env} {s : State} {m : MethodId} {args : Array Value} {below : List Frame} {meth : Method} {c : Code} (l : Launch) (S : XS) (n : Nat) (R : Rfs) (o0 : Nat) (o1 : Nat) (h0 : isText n R o0) (h1 : isPlan n R o1) (C : Cx p m meth c s args cX5_readReel RX5 5 S) (hr : meth.sig.returnType = (some .boolean)) (K : Int32 → Mem → Prop)   (x2 y0 : Int32) (M : Mem) (h : wp_X5_readReel_28 o0 o1  K x2 y0 M) : V p l e rmX5_readReel s m args below meth c (MQ below (va_Qi K (XPost S n R) (XA S)) args s 0 0 (XA S)) S 5 0 0 n M R 28 [(0, .ref (XB S + o0)), (1, .ref (XB S + o1)), (2, .int x2)] [.int y0] := by
  refine v_istoren (lv' := [(3, .int y0), (0, .ref (XB S + o0)), (1, .ref (XB S + o1)), (2, .int x2)]) C rfl rfl (Nat.le_of_ble_eq_true rfl) dX5_readReel_28 ?_
  refine v_iloadn C 0 rfl rfl dX5_readReel_29 ?_
  refine v_if_eq C 37 (by decide) dX5_readReel_30 (fun c4 => ?_) (fun c4 => ?_)
  · replace h := h.1 c4
    refine v_loc [1, 2, 3, 0] rfl ?_
    exact tb_X5_readReel_37 l S n R o0 o1 h0 h1 C hr K   (x2) (y0) M h
  · replace h := h.2 c4
    refine v_aloadn C 1 rfl rfl dX5_readReel_33 ?_
    refine v_cvV (As := []) C mv_X5_30 (con_X5_stepOn l S n R o0 h0 _ _ h) (iText_s0 h0) (iText_l0 h0) rfl ⟨(Nat.le_of_ble_eq_true rfl), (Nat.le_of_ble_eq_true rfl)⟩ ⟨rfl, rfl, Nat.zero_le _, Nat.zero_le _⟩ (Nat.le_of_ble_eq_true rfl) dX5_readReel_34 (fun M5 h => ?_)
    refine v_loc [1, 2, 3, 0] rfl ?_
    exact tb_X5_readReel_37 l S n R o0 o1 h0 h1 C hr K   (x2) (y0) M5 h
set_option maxRecDepth 20000 in
theorem con_X5_readReel (l : Launch) (S : XS) (n : Nat) (R : Rfs) (o0 : Nat) (o1 : Nat) (h0 : isText n R o0) (h1 : isPlan n R o1) (M : Mem) (K : Int32 → Mem → Prop) (h : wp_X5_readReel o0 o1 M K) : CI l yX5_readReel cX5_readReel 5 (some .boolean) rmX5_readReel S n R [.ref (XB S + o0), .ref (XB S + o1)] M K := by
  refine conI (lv := [(0, .ref (XB S + o0)), (1, .ref (XB S + o1))]) (by decide) (Nat.le_of_ble_eq_true rfl) rfl ?_
  intro p e s m args below meth c C hr
  replace C : Cx p m meth c s args cX5_readReel RX5 5 S := C
  refine v_aloadn C 0 rfl rfl dX5_readReel_0 ?_
  refine v_iconst C kc_1 dX5_readReel_1 ?_
  refine v_bipush C kb_99 dX5_readReel_2 ?_
  refine v_cvI (As := [.int (1 : Int32), .int (99 : Int32)]) C mv_X5_63 (con_X5_takeNumber l S n R o0 ((1 : Int32)) ((99 : Int32)) h0 _ _ h) (iText_s0 h0) (iText_l0 h0) rfl ⟨(Nat.le_of_ble_eq_true rfl), (Nat.le_of_ble_eq_true rfl)⟩ ⟨rfl, rfl, Nat.zero_le _, Nat.zero_le _⟩ (Nat.le_of_ble_eq_true rfl) dX5_readReel_4 (fun r1 M1 h => ?_)
  refine v_istoren (lv' := [(2, .int r1), (0, .ref (XB S + o0)), (1, .ref (XB S + o1))]) C rfl rfl (Nat.le_of_ble_eq_true rfl) dX5_readReel_7 ?_
  refine v_iloadn C 0 rfl rfl dX5_readReel_8 ?_
  refine v_if_ge C 14 (by decide) dX5_readReel_9 (fun c2 => ?_) (fun c2 => ?_)
  · replace h := h.1 c2
    refine v_aloadn C 1 rfl rfl dX5_readReel_14 ?_
    refine v_geti C fr_X5_33 (iText_s0 h0) (iText_l0 h0) rfl dX5_readReel_15 ?_
    refine v_bipush C kb_45 dX5_readReel_18 ?_
    refine v_icmp_ne C 27 (by decide) dX5_readReel_20 (fun c3 => ?_) (fun c3 => ?_)
    · replace h := h.1 c3
      refine v_iconst C kc_0 dX5_readReel_27 ?_
      refine v_loc [1, 2, 0] rfl ?_
      exact tb_X5_readReel_28 l S n R o0 o1 h0 h1 C hr K   (r1) ((0 : Int32)) M1 h
    · replace h := h.2 c3
      refine v_iconst C kc_1 dX5_readReel_23 ?_
      refine v_goto C 28 (by decide) dX5_readReel_24 ?_
      refine v_loc [1, 2, 0] rfl ?_
      exact tb_X5_readReel_28 l S n R o0 o1 h0 h1 C hr K   (r1) ((1 : Int32)) M1 h
  · replace h := h.2 c2
    refine v_iconst C kc_0 dX5_readReel_12 ?_
    exact v_zret C isB0 hr dX5_readReel_13 h
abbrev rmX5_highest : Room := { frames := 0, cells := 0, slots := 0, locals := 0 }
def wp_X5_highest (x0 : Int32) (M : Mem) (K : Int32 → Mem → Prop) : Prop := (x0 = (101 : Int32) → K (9 : Int32) M) ∧ (x0 = (105 : Int32) → K (9 : Int32) M) ∧ (x0 = (117 : Int32) → K (6 : Int32) M) ∧ (¬ x0 = (101 : Int32) → ¬ x0 = (105 : Int32) → ¬ x0 = (117 : Int32) → K (20 : Int32) M)
set_option maxRecDepth 20000 in
theorem con_X5_highest (l : Launch) (S : XS) (n : Nat) (R : Rfs) (x0 : Int32)  (M : Mem) (K : Int32 → Mem → Prop) (h : wp_X5_highest x0 M K) : CI l yX5_highest cX5_highest 1 (some .int) rmX5_highest S n R [.int x0] M K := by
  refine conI (lv := [(0, .int x0)]) (by decide) (Nat.le_of_ble_eq_true rfl) rfl ?_
  intro p e s m args below meth c C hr
  replace C : Cx p m meth c s args cX5_highest RX5 1 S := C
  refine v_iloadn C 0 rfl rfl dX5_highest_0 ?_
  by_cases s1_0 : x0 = (101 : Int32)
  · replace h := h.1 s1_0
    refine v_lkup (off := 38) C 39 (by decide) (by rw [s1_0]; decide) (by decide) dX5_highest_1 ?_
    refine v_bipush C kb_9 dX5_highest_39 ?_
    exact v_iret C hr dX5_highest_41 h
  by_cases s1_1 : x0 = (105 : Int32)
  · replace h := h.2.1 s1_1
    refine v_lkup (off := 41) C 42 (by decide) (by rw [s1_1]; decide) (by decide) dX5_highest_1 ?_
    refine v_bipush C kb_9 dX5_highest_42 ?_
    exact v_iret C hr dX5_highest_44 h
  by_cases s1_2 : x0 = (117 : Int32)
  · replace h := h.2.2.1 s1_2
    refine v_lkup (off := 35) C 36 (by decide) (by rw [s1_2]; decide) (by decide) dX5_highest_1 ?_
    refine v_bipush C kb_6 dX5_highest_36 ?_
    exact v_iret C hr dX5_highest_38 h
  replace h := h.2.2.2 s1_0 s1_1 s1_2
  have t1_0 := ne_ti 101 101 (by decide) s1_0
  have t1_1 := ne_ti 105 105 (by decide) s1_1
  have t1_2 := ne_ti 117 117 (by decide) s1_2
  refine v_lkup (off := 44) C 45 (by decide) (by simp only [Op.lookupswitch.offset]; rw [if_neg (by omega)]; rw [if_neg (by omega)]; rw [if_neg (by omega)]) (by decide) dX5_highest_1 ?_
  refine v_bipush C kb_20 dX5_highest_45 ?_
  exact v_iret C hr dX5_highest_47 h
abbrev rmX5_readSetting : Room := { frames := 4, cells := 0, slots := 0, locals := 85 }
def wp_X5_readSetting_11 (o0 : Nat) (o1 : Nat)  (K : Int32 → Mem → Prop) (x2 y0 : Int32) (M : Mem) : Prop := wp_X5_highest (x2) M (fun r2 M2 => wp_X5_takeNumber o0 (y0) (r2) M2 (fun r3 M3 => (0 ≤ r3 → (x2 = (101 : Int32) → (∀ M6 : Mem, M6 = mw M3 o1 6 r3 → K (1 : Int32) M6)) ∧ (x2 = (105 : Int32) → (∀ M7 : Mem, M7 = mw M3 o1 8 r3 → K (1 : Int32) M7)) ∧ (x2 = (108 : Int32) → (∀ M8 : Mem, M8 = mw M3 o1 7 r3 → K (1 : Int32) M8)) ∧ (x2 = (117 : Int32) → wp_X3_addUnit o1 (r3) M3 (fun M9 => K (1 : Int32) M9)) ∧ (¬ x2 = (101 : Int32) → ¬ x2 = (105 : Int32) → ¬ x2 = (108 : Int32) → ¬ x2 = (117 : Int32) → (∀ M10 : Mem, M10 = mw M3 o1 9 r3 → K (1 : Int32) M10))) ∧ (¬ 0 ≤ r3 → K (0 : Int32) M3)))
def wp_X5_readSetting (o0 : Nat) (o1 : Nat) (x2 : Int32) (M : Mem) (K : Int32 → Mem → Prop) : Prop := (¬ x2 = (105 : Int32) → wp_X5_readSetting_11 o0 o1 K (x2) ((1 : Int32)) M) ∧ (x2 = (105 : Int32) → wp_X5_readSetting_11 o0 o1 K (x2) ((0 : Int32)) M)
set_option maxRecDepth 20000 in
theorem tb_X5_readSetting_11 {p : Program} {e : Env} {s : State} {m : MethodId} {args : Array Value} {below : List Frame} {meth : Method} {c : Code} (l : Launch) (S : XS) (n : Nat) (R : Rfs) (o0 : Nat) (o1 : Nat) (h0 : isText n R o0) (h1 : isPlan n R o1) (C : Cx p m meth c s args cX5_readSetting RX5 5 S) (hr : meth.sig.returnType = (some .boolean)) (K : Int32 → Mem → Prop)   (x2 y0 : Int32) (M : Mem) (h : wp_X5_readSetting_11 o0 o1  K x2 y0 M) : V p l e rmX5_readSetting s m args below meth c (MQ below (va_Qi K (XPost S n R) (XA S)) args s 0 0 (XA S)) S 5 0 0 n M R 11 [(0, .ref (XB S + o0)), (1, .ref (XB S + o1)), (2, .int x2)] [.int y0] := by
  refine v_istoren (lv' := [(3, .int y0), (0, .ref (XB S + o0)), (1, .ref (XB S + o1)), (2, .int x2)]) C rfl rfl (Nat.le_of_ble_eq_true rfl) dX5_readSetting_11 ?_
  refine v_aloadn C 1 rfl rfl dX5_readSetting_12 ?_
  refine v_iloadn C 0 rfl rfl dX5_readSetting_13 ?_
  refine v_iloadn C 3 rfl rfl dX5_readSetting_14 ?_
  refine v_csI (As := [.int x2]) C ms_X5_71 (con_X5_highest l S n R (x2)  _ _ h) rfl ⟨(Nat.le_of_ble_eq_true rfl), (Nat.le_of_ble_eq_true rfl)⟩ ⟨rfl, rfl, Nat.zero_le _, Nat.zero_le _⟩ (Nat.le_of_ble_eq_true rfl) dX5_readSetting_15 (fun r2 M2 h => ?_)
  refine v_cvI (As := [.int y0, .int r2]) C mv_X5_63 (con_X5_takeNumber l S n R o0 (y0) (r2) h0 _ _ h) (iText_s0 h0) (iText_l0 h0) rfl ⟨(Nat.le_of_ble_eq_true rfl), (Nat.le_of_ble_eq_true rfl)⟩ ⟨rfl, rfl, Nat.zero_le _, Nat.zero_le _⟩ (Nat.le_of_ble_eq_true rfl) dX5_readSetting_18 (fun r3 M3 h => ?_)
  refine v_istore (lv' := [(4, .int r3), (3, .int y0), (0, .ref (XB S + o0)), (1, .ref (XB S + o1)), (2, .int x2)]) C rfl (Nat.le_of_ble_eq_true rfl) dX5_readSetting_21 ?_
  refine v_iload C 0 rfl dX5_readSetting_23 ?_
  refine v_if_ge C 30 (by decide) dX5_readSetting_25 (fun c4 => ?_) (fun c4 => ?_)
  · replace h := h.1 c4
    refine v_iloadn C 4 rfl rfl dX5_readSetting_30 ?_
    by_cases s5_0 : x2 = (101 : Int32)
    · replace h := h.1 s5_0
      refine v_lkup (off := 50) C 81 (by decide) (by rw [s5_0]; decide) (by decide) dX5_readSetting_31 ?_
      refine v_aloadn C 3 rfl rfl dX5_readSetting_81 ?_
      refine v_iload C 0 rfl dX5_readSetting_82 ?_
      refine v_puti C fr_X5_78 (iPlan_s0 h1) (iPlan_l0 h1) rfl dX5_readSetting_84 (fun M6 e6 => ?_)
      replace h := h M6 e6
      refine v_goto C 114 (by decide) dX5_readSetting_87 ?_
      refine v_iconst C kc_1 dX5_readSetting_114 ?_
      exact v_zret C isB1 hr dX5_readSetting_115 h
    by_cases s5_1 : x2 = (105 : Int32)
    · replace h := h.2.1 s5_1
      refine v_lkup (off := 68) C 99 (by decide) (by rw [s5_1]; decide) (by decide) dX5_readSetting_31 ?_
      refine v_aloadn C 3 rfl rfl dX5_readSetting_99 ?_
      refine v_iload C 0 rfl dX5_readSetting_100 ?_
      refine v_puti C fr_X5_84 (iPlan_s0 h1) (iPlan_l0 h1) rfl dX5_readSetting_102 (fun M7 e7 => ?_)
      replace h := h M7 e7
      refine v_goto C 114 (by decide) dX5_readSetting_105 ?_
      refine v_iconst C kc_1 dX5_readSetting_114 ?_
      exact v_zret C isB1 hr dX5_readSetting_115 h
    by_cases s5_2 : x2 = (108 : Int32)
    · replace h := h.2.2.1 s5_2
      refine v_lkup (off := 59) C 90 (by decide) (by rw [s5_2]; decide) (by decide) dX5_readSetting_31 ?_
      refine v_aloadn C 3 rfl rfl dX5_readSetting_90 ?_
      refine v_iload C 0 rfl dX5_readSetting_91 ?_
      refine v_puti C fr_X5_81 (iPlan_s0 h1) (iPlan_l0 h1) rfl dX5_readSetting_93 (fun M8 e8 => ?_)
      replace h := h M8 e8
      refine v_goto C 114 (by decide) dX5_readSetting_96 ?_
      refine v_iconst C kc_1 dX5_readSetting_114 ?_
      exact v_zret C isB1 hr dX5_readSetting_115 h
    by_cases s5_3 : x2 = (117 : Int32)
    · replace h := h.2.2.2.1 s5_3
      refine v_lkup (off := 41) C 72 (by decide) (by rw [s5_3]; decide) (by decide) dX5_readSetting_31 ?_
      refine v_aloadn C 3 rfl rfl dX5_readSetting_72 ?_
      refine v_iload C 0 rfl dX5_readSetting_73 ?_
      refine v_cvV (As := [.int r3]) C mv_X5_74 (con_X3_addUnit l S n R o1 (r3) h1 _ _ h) (iPlan_s0 h1) (iPlan_l0 h1) rfl ⟨(Nat.le_of_ble_eq_true rfl), (Nat.le_of_ble_eq_true rfl)⟩ ⟨rfl, rfl, Nat.zero_le _, Nat.zero_le _⟩ (Nat.le_of_ble_eq_true rfl) dX5_readSetting_75 (fun M9 h => ?_)
      refine v_goto C 114 (by decide) dX5_readSetting_78 ?_
      refine v_iconst C kc_1 dX5_readSetting_114 ?_
      exact v_zret C isB1 hr dX5_readSetting_115 h
    replace h := h.2.2.2.2 s5_0 s5_1 s5_2 s5_3
    have t5_0 := ne_ti 101 101 (by decide) s5_0
    have t5_1 := ne_ti 105 105 (by decide) s5_1
    have t5_2 := ne_ti 108 108 (by decide) s5_2
    have t5_3 := ne_ti 117 117 (by decide) s5_3
    refine v_lkup (off := 77) C 108 (by decide) (by simp only [Op.lookupswitch.offset]; rw [if_neg (by omega)]; rw [if_neg (by omega)]; rw [if_neg (by omega)]; rw [if_neg (by omega)]) (by decide) dX5_readSetting_31 ?_
    refine v_aloadn C 3 rfl rfl dX5_readSetting_108 ?_
    refine v_iload C 0 rfl dX5_readSetting_109 ?_
    refine v_puti C fr_X5_87 (iPlan_s0 h1) (iPlan_l0 h1) rfl dX5_readSetting_111 (fun M10 e10 => ?_)
    replace h := h M10 e10
    refine v_iconst C kc_1 dX5_readSetting_114 ?_
    exact v_zret C isB1 hr dX5_readSetting_115 h
  · replace h := h.2 c4
    refine v_iconst C kc_0 dX5_readSetting_28 ?_
    exact v_zret C isB0 hr dX5_readSetting_29 h
set_option maxRecDepth 20000 in
theorem con_X5_readSetting (l : Launch) (S : XS) (n : Nat) (R : Rfs) (o0 : Nat) (o1 : Nat) (x2 : Int32) (h0 : isText n R o0) (h1 : isPlan n R o1) (M : Mem) (K : Int32 → Mem → Prop) (h : wp_X5_readSetting o0 o1 x2 M K) : CI l yX5_readSetting cX5_readSetting 5 (some .boolean) rmX5_readSetting S n R [.ref (XB S + o0), .ref (XB S + o1), .int x2] M K := by
  refine conI (lv := [(0, .ref (XB S + o0)), (1, .ref (XB S + o1)), (2, .int x2)]) (by decide) (Nat.le_of_ble_eq_true rfl) rfl ?_
  intro p e s m args below meth c C hr
  replace C : Cx p m meth c s args cX5_readSetting RX5 5 S := C
  refine v_iloadn C 2 rfl rfl dX5_readSetting_0 ?_
  refine v_bipush C kb_105 dX5_readSetting_1 ?_
  refine v_icmp_ne C 10 (by decide) dX5_readSetting_3 (fun c1 => ?_) (fun c1 => ?_)
  · replace h := h.1 c1
    refine v_iconst C kc_1 dX5_readSetting_10 ?_
    exact tb_X5_readSetting_11 l S n R o0 o1 h0 h1 C hr K   (x2) ((1 : Int32)) M h
  · replace h := h.2 c1
    refine v_iconst C kc_0 dX5_readSetting_6 ?_
    refine v_goto C 11 (by decide) dX5_readSetting_7 ?_
    exact tb_X5_readSetting_11 l S n R o0 o1 h0 h1 C hr K   (x2) ((0 : Int32)) M h
abbrev rmX5_readItem : Room := { frames := 5, cells := 0, slots := 0, locals := 109 }
def wp_X5_readItem_40 (o0 : Nat) (o1 : Nat)  (K : Int32 → Mem → Prop) (y0 : Int32) (M : Mem) : Prop := (y0 = 0 → K (0 : Int32) M) ∧ (¬ y0 = 0 → ((M o0 4) = (59 : Int32) → wp_X5_stepOn o0 M (fun M9 => K (1 : Int32) M9)) ∧ (¬ (M o0 4) = (59 : Int32) → K (0 : Int32) M))
def wp_X5_readItem (o0 : Nat) (o1 : Nat) (M : Mem) (K : Int32 → Mem → Prop) : Prop := wp_X5_mayBegin o0 o1 ((M o0 4)) M (fun r1 M1 => (¬ r1 = 0 → wp_X5_stepOn o0 M1 (fun M3 => (¬ (M o0 4) = (114 : Int32) → wp_X5_readSetting o0 o1 ((M o0 4)) M3 (fun r5 M5 => wp_X5_readItem_40 o0 o1 K (r5) M5)) ∧ ((M o0 4) = (114 : Int32) → wp_X5_readReel o0 o1 M3 (fun r6 M6 => wp_X5_readItem_40 o0 o1 K (r6) M6)))) ∧ (r1 = 0 → K (0 : Int32) M1))
set_option maxRecDepth 20000 in
theorem tb_X5_readItem_40 {p : Program} {e : Env} {s : State} {m : MethodId} {args : Array Value} {below : List Frame} {meth : Method} {c : Code} (l : Launch) (S : XS) (n : Nat) (R : Rfs) (o0 : Nat) (o1 : Nat) (h0 : isText n R o0) (h1 : isPlan n R o1) (C : Cx p m meth c s args cX5_readItem RX5 4 S) (hr : meth.sig.returnType = (some .boolean)) (K : Int32 → Mem → Prop)   (y0 : Int32) (M : Mem) (h : wp_X5_readItem_40 o0 o1  K y0 M) : V p l e rmX5_readItem s m args below meth c (MQ below (va_Qi K (XPost S n R) (XA S)) args s 0 0 (XA S)) S 4 0 0 n M R 40 [(0, .ref (XB S + o0))] [.int y0] := by
  refine v_istoren (lv' := [(3, .int y0), (0, .ref (XB S + o0))]) C rfl rfl (Nat.le_of_ble_eq_true rfl) dX5_readItem_40 ?_
  refine v_iloadn C 0 rfl rfl dX5_readItem_41 ?_
  refine v_if_eq C 54 (by decide) dX5_readItem_42 (fun c7 => ?_) (fun c7 => ?_)
  · replace h := h.1 c7
    refine v_iconst C kc_0 dX5_readItem_54 ?_
    exact v_zret C isB0 hr dX5_readItem_55 h
  · replace h := h.2 c7
    refine v_aloadn C 1 rfl rfl dX5_readItem_45 ?_
    refine v_geti C fr_X5_33 (iText_s0 h0) (iText_l0 h0) rfl dX5_readItem_46 ?_
    refine v_bipush C kb_59 dX5_readItem_49 ?_
    refine v_icmp_eq C 56 (by decide) dX5_readItem_51 (fun c8 => ?_) (fun c8 => ?_)
    · replace h := h.1 c8
      refine v_aloadn C 1 rfl rfl dX5_readItem_56 ?_
      refine v_cvV (As := []) C mv_X5_30 (con_X5_stepOn l S n R o0 h0 _ _ h) (iText_s0 h0) (iText_l0 h0) rfl ⟨(Nat.le_of_ble_eq_true rfl), (Nat.le_of_ble_eq_true rfl)⟩ ⟨rfl, rfl, Nat.zero_le _, Nat.zero_le _⟩ (Nat.le_of_ble_eq_true rfl) dX5_readItem_57 (fun M9 h => ?_)
      refine v_iconst C kc_1 dX5_readItem_60 ?_
      exact v_zret C isB1 hr dX5_readItem_61 h
    · replace h := h.2 c8
      refine v_iconst C kc_0 dX5_readItem_54 ?_
      exact v_zret C isB0 hr dX5_readItem_55 h
set_option maxRecDepth 20000 in
theorem con_X5_readItem (l : Launch) (S : XS) (n : Nat) (R : Rfs) (o0 : Nat) (o1 : Nat) (h0 : isText n R o0) (h1 : isPlan n R o1) (M : Mem) (K : Int32 → Mem → Prop) (h : wp_X5_readItem o0 o1 M K) : CI l yX5_readItem cX5_readItem 4 (some .boolean) rmX5_readItem S n R [.ref (XB S + o0), .ref (XB S + o1)] M K := by
  refine conI (lv := [(0, .ref (XB S + o0)), (1, .ref (XB S + o1))]) (by decide) (Nat.le_of_ble_eq_true rfl) rfl ?_
  intro p e s m args below meth c C hr
  replace C : Cx p m meth c s args cX5_readItem RX5 4 S := C
  refine v_aloadn C 0 rfl rfl dX5_readItem_0 ?_
  refine v_geti C fr_X5_33 (iText_s0 h0) (iText_l0 h0) rfl dX5_readItem_1 ?_
  refine v_istoren (lv' := [(2, .int (M o0 4)), (0, .ref (XB S + o0)), (1, .ref (XB S + o1))]) C rfl rfl (Nat.le_of_ble_eq_true rfl) dX5_readItem_4 ?_
  refine v_aloadn C 1 rfl rfl dX5_readItem_5 ?_
  refine v_aloadn C 2 rfl rfl dX5_readItem_6 ?_
  refine v_iloadn C 0 rfl rfl dX5_readItem_7 ?_
  refine v_cvI (As := [.ref (XB S + o1), .int (M o0 4)]) C mv_X5_43 (con_X5_mayBegin l S n R o0 o1 ((M o0 4)) h0 h1 _ _ h) (iText_s0 h0) (iText_l0 h0) rfl ⟨(Nat.le_of_ble_eq_true rfl), (Nat.le_of_ble_eq_true rfl)⟩ ⟨rfl, rfl, Nat.zero_le _, Nat.zero_le _⟩ (Nat.le_of_ble_eq_true rfl) dX5_readItem_8 (fun r1 M1 h => ?_)
  refine v_if_ne C 16 (by decide) dX5_readItem_11 (fun c2 => ?_) (fun c2 => ?_)
  · replace h := h.1 c2
    refine v_aloadn C 1 rfl rfl dX5_readItem_16 ?_
    refine v_cvV (As := []) C mv_X5_30 (con_X5_stepOn l S n R o0 h0 _ _ h) (iText_s0 h0) (iText_l0 h0) rfl ⟨(Nat.le_of_ble_eq_true rfl), (Nat.le_of_ble_eq_true rfl)⟩ ⟨rfl, rfl, Nat.zero_le _, Nat.zero_le _⟩ (Nat.le_of_ble_eq_true rfl) dX5_readItem_17 (fun M3 h => ?_)
    refine v_iloadn C 0 rfl rfl dX5_readItem_20 ?_
    refine v_bipush C kb_114 dX5_readItem_21 ?_
    refine v_icmp_ne C 34 (by decide) dX5_readItem_23 (fun c4 => ?_) (fun c4 => ?_)
    · replace h := h.1 c4
      refine v_aloadn C 1 rfl rfl dX5_readItem_34 ?_
      refine v_aloadn C 2 rfl rfl dX5_readItem_35 ?_
      refine v_iloadn C 0 rfl rfl dX5_readItem_36 ?_
      refine v_cvI (As := [.ref (XB S + o1), .int (M o0 4)]) C mv_X5_50 (con_X5_readSetting l S n R o0 o1 ((M o0 4)) h0 h1 _ _ h) (iText_s0 h0) (iText_l0 h0) rfl ⟨(Nat.le_of_ble_eq_true rfl), (Nat.le_of_ble_eq_true rfl)⟩ ⟨rfl, rfl, Nat.zero_le _, Nat.zero_le _⟩ (Nat.le_of_ble_eq_true rfl) dX5_readItem_37 (fun r5 M5 h => ?_)
      refine v_loc [1] rfl ?_
      exact tb_X5_readItem_40 l S n R o0 o1 h0 h1 C hr K   (r5) M5 h
    · replace h := h.2 c4
      refine v_aloadn C 1 rfl rfl dX5_readItem_26 ?_
      refine v_aloadn C 2 rfl rfl dX5_readItem_27 ?_
      refine v_cvI (As := [.ref (XB S + o1)]) C mv_X5_47 (con_X5_readReel l S n R o0 o1 h0 h1 _ _ h) (iText_s0 h0) (iText_l0 h0) rfl ⟨(Nat.le_of_ble_eq_true rfl), (Nat.le_of_ble_eq_true rfl)⟩ ⟨rfl, rfl, Nat.zero_le _, Nat.zero_le _⟩ (Nat.le_of_ble_eq_true rfl) dX5_readItem_28 (fun r6 M6 h => ?_)
      refine v_goto C 40 (by decide) dX5_readItem_31 ?_
      refine v_loc [1] rfl ?_
      exact tb_X5_readItem_40 l S n R o0 o1 h0 h1 C hr K   (r6) M6 h
  · replace h := h.2 c2
    refine v_iconst C kc_0 dX5_readItem_14 ?_
    exact v_zret C isB0 hr dX5_readItem_15 h
abbrev rmX5_readInto : Room := { frames := 6, cells := 0, slots := 0, locals := 132 }
def L_X5_readInto_20 (o0 : Nat) (o1 : Nat)  (K : Int32 → Mem → Prop) : Nat → Int32 → Mem → Prop
  | 0, _, _ => False
  | k + 1, x2, M => ((M o0 4) = (257 : Int32) → K x2 M) ∧ (¬ (M o0 4) = (257 : Int32) → ((120 : Int32) ≤ x2 → K x2 M) ∧ (¬ (120 : Int32) ≤ x2 → wp_X5_readItem o0 o1 M (fun r8 M8 => (¬ r8 = 0 → L_X5_readInto_20 o0 o1  K k (x2 + (1 : Int32)) M8) ∧ (r8 = 0 → K ((-10 : Int32) - (M8 o0 3)) M8))))
def wp_X5_readInto (o0 : Nat) (o1 : Nat) (M : Mem) (K : Int32 → Mem → Prop) : Prop := wp_X3_setAsAtFirst o1 M (fun M1 => (∀ M2 : Mem, M2 = mw M1 o0 2 (0 : Int32) → (∀ M3 : Mem, M3 = mw M2 o0 6 (0 : Int32) → wp_X5_stepOn o0 M3 (fun M4 => ∃ j5 : Nat, L_X5_readInto_20 o0 o1 K j5 ((0 : Int32)) M4))))
set_option maxRecDepth 20000 in
theorem tl_X5_readInto_20 {p : Program} {e : Env} {s : State} {m : MethodId} {args : Array Value} {below : List Frame} {meth : Method} {c : Code} (l : Launch) (S : XS) (n : Nat) (R : Rfs) (o0 : Nat) (o1 : Nat) (h0 : isText n R o0) (h1 : isPlan n R o1) (C : Cx p m meth c s args cX5_readInto RX5 3 S) (hr : meth.sig.returnType = (some .int)) (K : Int32 → Mem → Prop)   (k : Nat) : ∀ (x2 : Int32) (M : Mem), L_X5_readInto_20 o0 o1  K k x2 M → V p l e rmX5_readInto s m args below meth c (MQ below (va_Qi K (XPost S n R) (XA S)) args s 0 0 (XA S)) S 3 0 0 n M R 20 [(0, .ref (XB S + o0)), (1, .ref (XB S + o1)), (2, .int x2)] [] := by
  induction k with
  | zero => intro x2 M h; exact h.elim
  | succ k ih =>
    intro x2 M h
    refine v_aloadn C 0 rfl rfl dX5_readInto_20 ?_
    refine v_geti C fr_X5_33 (iText_s0 h0) (iText_l0 h0) rfl dX5_readInto_21 ?_
    refine v_sipush C ks_257 dX5_readInto_24 ?_
    refine v_icmp_eq C 58 (by decide) dX5_readInto_27 (fun c6 => ?_) (fun c6 => ?_)
    · replace h := h.1 c6
      refine v_iloadn C 2 rfl rfl dX5_readInto_58 ?_
      exact v_iret C hr dX5_readInto_59 h
    · replace h := h.2 c6
      refine v_iloadn C 2 rfl rfl dX5_readInto_30 ?_
      refine v_bipush C kb_120 dX5_readInto_31 ?_
      refine v_icmp_ge C 58 (by decide) dX5_readInto_33 (fun c7 => ?_) (fun c7 => ?_)
      · replace h := h.1 c7
        refine v_iloadn C 2 rfl rfl dX5_readInto_58 ?_
        exact v_iret C hr dX5_readInto_59 h
      · replace h := h.2 c7
        refine v_aloadn C 0 rfl rfl dX5_readInto_36 ?_
        refine v_aloadn C 1 rfl rfl dX5_readInto_37 ?_
        refine v_cvI (As := [.ref (XB S + o1)]) C mv_X5_36 (con_X5_readItem l S n R o0 o1 h0 h1 _ _ h) (iText_s0 h0) (iText_l0 h0) rfl ⟨(Nat.le_of_ble_eq_true rfl), (Nat.le_of_ble_eq_true rfl)⟩ ⟨rfl, rfl, Nat.zero_le _, Nat.zero_le _⟩ (Nat.le_of_ble_eq_true rfl) dX5_readInto_38 (fun r8 M8 h => ?_)
        refine v_if_ne C 52 (by decide) dX5_readInto_41 (fun c9 => ?_) (fun c9 => ?_)
        · replace h := h.1 c9
          refine v_iinc (lv' := [(2, .int (x2 + (1 : Int32))), (0, .ref (XB S + o0)), (1, .ref (XB S + o1))]) C 2 rfl kc_1 rfl rfl (Nat.le_of_ble_eq_true rfl) dX5_readInto_52 ?_
          refine v_goto C 20 (by decide) dX5_readInto_55 ?_
          refine v_loc [1, 2, 0] rfl ?_
          exact ih ((x2 + (1 : Int32))) M8 h
        · replace h := h.2 c9
          refine v_bipush C kb_m10 dX5_readInto_44 ?_
          refine v_aloadn C 0 rfl rfl dX5_readInto_46 ?_
          refine v_geti C fr_X5_40 (iText_s0 h0) (iText_l0 h0) rfl dX5_readInto_47 ?_
          refine v_isub C dX5_readInto_50 ?_
          exact v_iret C hr dX5_readInto_51 h
set_option maxRecDepth 20000 in
theorem con_X5_readInto (l : Launch) (S : XS) (n : Nat) (R : Rfs) (o0 : Nat) (o1 : Nat) (h0 : isText n R o0) (h1 : isPlan n R o1) (M : Mem) (K : Int32 → Mem → Prop) (h : wp_X5_readInto o0 o1 M K) : CI l yX5_readInto cX5_readInto 3 (some .int) rmX5_readInto S n R [.ref (XB S + o0), .ref (XB S + o1)] M K := by
  refine conI (lv := [(0, .ref (XB S + o0)), (1, .ref (XB S + o1))]) (by decide) (Nat.le_of_ble_eq_true rfl) rfl ?_
  intro p e s m args below meth c C hr
  replace C : Cx p m meth c s args cX5_readInto RX5 3 S := C
  refine v_aloadn C 1 rfl rfl dX5_readInto_0 ?_
  refine v_cvV (As := []) C mv_X5_19 (con_X3_setAsAtFirst l S n R o1 h1 _ _ h) (iPlan_s0 h1) (iPlan_l0 h1) rfl ⟨(Nat.le_of_ble_eq_true rfl), (Nat.le_of_ble_eq_true rfl)⟩ ⟨rfl, rfl, Nat.zero_le _, Nat.zero_le _⟩ (Nat.le_of_ble_eq_true rfl) dX5_readInto_1 (fun M1 h => ?_)
  refine v_aloadn C 0 rfl rfl dX5_readInto_4 ?_
  refine v_iconst C kc_0 dX5_readInto_5 ?_
  refine v_puti C fr_X5_24 (iText_s0 h0) (iText_l0 h0) rfl dX5_readInto_6 (fun M2 e2 => ?_)
  replace h := h M2 e2
  refine v_aloadn C 0 rfl rfl dX5_readInto_9 ?_
  refine v_iconst C kc_0 dX5_readInto_10 ?_
  refine v_puti C fr_X5_27 (iText_s0 h0) (iText_l0 h0) rfl dX5_readInto_11 (fun M3 e3 => ?_)
  replace h := h M3 e3
  refine v_iconst C kc_0 dX5_readInto_14 ?_
  refine v_istoren (lv' := [(2, .int (0 : Int32)), (0, .ref (XB S + o0)), (1, .ref (XB S + o1))]) C rfl rfl (Nat.le_of_ble_eq_true rfl) dX5_readInto_15 ?_
  refine v_aloadn C 1 rfl rfl dX5_readInto_16 ?_
  refine v_cvV (As := []) C mv_X5_30 (con_X5_stepOn l S n R o0 h0 _ _ h) (iText_s0 h0) (iText_l0 h0) rfl ⟨(Nat.le_of_ble_eq_true rfl), (Nat.le_of_ble_eq_true rfl)⟩ ⟨rfl, rfl, Nat.zero_le _, Nat.zero_le _⟩ (Nat.le_of_ble_eq_true rfl) dX5_readInto_17 (fun M4 h => ?_)
  refine v_loc [1, 2, 0] rfl ?_
  obtain ⟨k5, h⟩ := h
  exact tl_X5_readInto_20 l S n R o0 o1 h0 h1 C hr K   k5 ((0 : Int32)) M4 h
