abbrev rmX4_setAsAtFirst : Room := { frames := 2, cells := 0, slots := 0, locals := 43 }
def wp_X4_setAsAtFirst_74 (o0 : Nat) (o1 : Nat)  (K : Mem → Prop) (y0 : Int32) (M : Mem) : Prop := (∀ M9 : Mem, M9 = mw M o0 6 y0 → (∀ M10 : Mem, M10 = mw M9 o0 7 (0 : Int32) → (∀ M11 : Mem, M11 = mw M10 o0 8 (1 : Int32) → (∀ M12 : Mem, M12 = mw M11 o0 9 (1 : Int32) → (∀ M13 : Mem, M13 = mw M12 o0 10 (0 : Int32) → (∀ M14 : Mem, M14 = mw M13 o0 11 (0 : Int32) → (∀ M15 : Mem, M15 = mw M14 o0 12 (0 : Int32) → (∀ M16 : Mem, M16 = mw M15 o0 13 (0 : Int32) → K M16))))))))
def wp_X4_setAsAtFirst_53 (o0 : Nat) (o1 : Nat)  (K : Mem → Prop) (y0 : Int32) (M : Mem) : Prop := (∀ M7 : Mem, M7 = mw M o0 5 y0 → ((M7 o1 5) ≤ 0 → wp_X4_setAsAtFirst_74 o0 o1  K ((0 : Int32)) M7) ∧ (¬ (M7 o1 5) ≤ 0 → wp_X4_setAsAtFirst_74 o0 o1  K ((M7 (o1 + 3) 0)) M7))
def wp_X4_setAsAtFirst (o0 : Nat) (o1 : Nat) (M : Mem) (K : Mem → Prop) : Prop := wp_J7_fill_53178 (o0 + 1) 4 ((0 : Int32)) M (fun M1 => wp_J7_fill_53178 (o0 + 2) 4 ((0 : Int32)) M1 (fun M2 => wp_J7_fill_53178 (o0 + 3) 4 ((0 : Int32)) M2 (fun M3 => wp_J7_fill_53178 (o0 + 4) 32 ((0 : Int32)) M3 (fun M4 => wp_X0_setAsAtFirst (o0 + 5) M4 (fun M5 => ((M5 o1 5) ≤ 0 → wp_X4_setAsAtFirst_53 o0 o1 K ((-9 : Int32)) M5) ∧ (¬ (M5 o1 5) ≤ 0 → wp_X4_setAsAtFirst_53 o0 o1 K ((0 : Int32)) M5))))))
set_option maxRecDepth 20000 in
theorem tb_X4_setAsAtFirst_74 {p : Program} {e : Env} {s : State} {m : MethodId} {args : Array Value} {below : List Frame} {meth : Method} {c : Code} (l : Launch) (S : XS) (n : Nat) (R : Rfs) (o0 : Nat) (o1 : Nat) (h0 : isPress n R o0) (h1 : isPlan n R o1) (C : Cx p m meth c s args cX4_setAsAtFirst RX4 2 S) (hr : meth.sig.returnType = none) (K : Mem → Prop)   (y0 : Int32) (M : Mem) (h : wp_X4_setAsAtFirst_74 o0 o1  K y0 M) : V p l e rmX4_setAsAtFirst s m args below meth c (MQ below (va_Qv K (XPost S n R) (XA S)) args s 0 0 (XA S)) S 2 0 0 n M R 74 [(0, .ref (XB S + o0))] [.int y0, .ref (XB S + o0)] := by
  refine v_puti C fr_X4_52 (iPress_s0 h0) (iPress_l0 h0) rfl dX4_setAsAtFirst_74 (fun M9 e9 => ?_)
  replace h := h M9 e9
  refine v_aloadn C 0 rfl rfl dX4_setAsAtFirst_77 ?_
  refine v_iconst C kc_0 dX4_setAsAtFirst_78 ?_
  refine v_puti C fr_X4_55 (iPress_s0 h0) (iPress_l0 h0) rfl dX4_setAsAtFirst_79 (fun M10 e10 => ?_)
  replace h := h M10 e10
  refine v_aloadn C 0 rfl rfl dX4_setAsAtFirst_82 ?_
  refine v_iconst C kc_1 dX4_setAsAtFirst_83 ?_
  refine v_putb C fr_X4_58 (iPress_s0 h0) (iPress_l0 h0) rfl isB1 dX4_setAsAtFirst_84 (fun M11 e11 => ?_)
  replace h := h M11 e11
  refine v_aloadn C 0 rfl rfl dX4_setAsAtFirst_87 ?_
  refine v_iconst C kc_1 dX4_setAsAtFirst_88 ?_
  refine v_putb C fr_X4_62 (iPress_s0 h0) (iPress_l0 h0) rfl isB1 dX4_setAsAtFirst_89 (fun M12 e12 => ?_)
  replace h := h M12 e12
  refine v_aloadn C 0 rfl rfl dX4_setAsAtFirst_92 ?_
  refine v_iconst C kc_0 dX4_setAsAtFirst_93 ?_
  refine v_puti C fr_X4_65 (iPress_s0 h0) (iPress_l0 h0) rfl dX4_setAsAtFirst_94 (fun M13 e13 => ?_)
  replace h := h M13 e13
  refine v_aloadn C 0 rfl rfl dX4_setAsAtFirst_97 ?_
  refine v_iconst C kc_0 dX4_setAsAtFirst_98 ?_
  refine v_puti C fr_X4_68 (iPress_s0 h0) (iPress_l0 h0) rfl dX4_setAsAtFirst_99 (fun M14 e14 => ?_)
  replace h := h M14 e14
  refine v_aloadn C 0 rfl rfl dX4_setAsAtFirst_102 ?_
  refine v_iconst C kc_0 dX4_setAsAtFirst_103 ?_
  refine v_puti C fr_X4_71 (iPress_s0 h0) (iPress_l0 h0) rfl dX4_setAsAtFirst_104 (fun M15 e15 => ?_)
  replace h := h M15 e15
  refine v_aloadn C 0 rfl rfl dX4_setAsAtFirst_107 ?_
  refine v_iconst C kc_0 dX4_setAsAtFirst_108 ?_
  refine v_puti C fr_X4_74 (iPress_s0 h0) (iPress_l0 h0) rfl dX4_setAsAtFirst_109 (fun M16 e16 => ?_)
  replace h := h M16 e16
  exact v_vret C hr dX4_setAsAtFirst_112 h
set_option maxRecDepth 20000 in
theorem tb_X4_setAsAtFirst_53 {p : Program} {e : Env} {s : State} {m : MethodId} {args : Array Value} {below : List Frame} {meth : Method} {c : Code} (l : Launch) (S : XS) (n : Nat) (R : Rfs) (o0 : Nat) (o1 : Nat) (h0 : isPress n R o0) (h1 : isPlan n R o1) (C : Cx p m meth c s args cX4_setAsAtFirst RX4 2 S) (hr : meth.sig.returnType = none) (K : Mem → Prop)   (y0 : Int32) (M : Mem) (h : wp_X4_setAsAtFirst_53 o0 o1  K y0 M) : V p l e rmX4_setAsAtFirst s m args below meth c (MQ below (va_Qv K (XPost S n R) (XA S)) args s 0 0 (XA S)) S 2 0 0 n M R 53 [(0, .ref (XB S + o0)), (1, .ref (XB S + o1))] [.int y0, .ref (XB S + o0)] := by
  refine v_puti C fr_X4_46 (iPress_s0 h0) (iPress_l0 h0) rfl dX4_setAsAtFirst_53 (fun M7 e7 => ?_)
  replace h := h M7 e7
  refine v_aloadn C 0 rfl rfl dX4_setAsAtFirst_56 ?_
  refine v_aloadn C 1 rfl rfl dX4_setAsAtFirst_57 ?_
  refine v_geti C fr_X4_40 (iPlan_s0 h1) (iPlan_l0 h1) rfl dX4_setAsAtFirst_58 ?_
  refine v_if_le C 73 (by decide) dX4_setAsAtFirst_61 (fun c8 => ?_) (fun c8 => ?_)
  · replace h := h.1 c8
    refine v_iconst C kc_0 dX4_setAsAtFirst_73 ?_
    refine v_loc [0] rfl ?_
    exact tb_X4_setAsAtFirst_74 l S n R o0 o1 h0 h1 C hr K   ((0 : Int32)) M7 h
  · replace h := h.2 c8
    refine v_aloadn C 1 rfl rfl dX4_setAsAtFirst_64 ?_
    refine v_getr (o' := (o1 + 3)) C fr_X4_49 (iPlan_s0 h1) (iPlan_l0 h1) rfl (iPlan_r2 h1) dX4_setAsAtFirst_65 ?_
    refine v_iconst C kc_0 dX4_setAsAtFirst_68 ?_
    refine v_aldk C (iPlan_s3 h1) (iPlan_l3 h1) lit_0 (Nat.le_of_ble_eq_true rfl) dX4_setAsAtFirst_69 ?_
    refine v_goto C 74 (by decide) dX4_setAsAtFirst_70 ?_
    refine v_loc [0] rfl ?_
    exact tb_X4_setAsAtFirst_74 l S n R o0 o1 h0 h1 C hr K   ((M7 (o1 + 3) 0)) M7 h
set_option maxRecDepth 20000 in
theorem con_X4_setAsAtFirst (l : Launch) (S : XS) (n : Nat) (R : Rfs) (o0 : Nat) (o1 : Nat) (h0 : isPress n R o0) (h1 : isPlan n R o1) (M : Mem) (K : Mem → Prop) (h : wp_X4_setAsAtFirst o0 o1 M K) : CV l yX4_setAsAtFirst cX4_setAsAtFirst 2 rmX4_setAsAtFirst S n R [.ref (XB S + o0), .ref (XB S + o1)] M K := by
  refine conV (lv := [(0, .ref (XB S + o0)), (1, .ref (XB S + o1))]) (by decide) (Nat.le_of_ble_eq_true rfl) rfl ?_
  intro p e s m args below meth c C hr
  replace C : Cx p m meth c s args cX4_setAsAtFirst RX4 2 S := C
  refine v_aloadn C 0 rfl rfl dX4_setAsAtFirst_0 ?_
  refine v_getr (o' := (o0 + 1)) C fr_X4_9 (iPress_s0 h0) (iPress_l0 h0) rfl (iPress_r0 h0) dX4_setAsAtFirst_1 ?_
  refine v_iconst C kc_0 dX4_setAsAtFirst_4 ?_
  refine v_csV (As := [.ref (XB S + (o0 + 1)), .int (0 : Int32)]) C ms_X4_31 (con_J7_fill_53178 l S n R (o0 + 1) 4 ((0 : Int32)) (iPress_s1 h0) (iPress_l1 h0) _ _ h) rfl ⟨(Nat.le_of_ble_eq_true rfl), (Nat.le_of_ble_eq_true rfl)⟩ ⟨rfl, rfl, Nat.zero_le _, Nat.zero_le _⟩ (Nat.le_of_ble_eq_true rfl) dX4_setAsAtFirst_5 (fun M1 h => ?_)
  refine v_aloadn C 0 rfl rfl dX4_setAsAtFirst_8 ?_
  refine v_getr (o' := (o0 + 2)) C fr_X4_15 (iPress_s0 h0) (iPress_l0 h0) rfl (iPress_r1 h0) dX4_setAsAtFirst_9 ?_
  refine v_iconst C kc_0 dX4_setAsAtFirst_12 ?_
  refine v_csV (As := [.ref (XB S + (o0 + 2)), .int (0 : Int32)]) C ms_X4_31 (con_J7_fill_53178 l S n R (o0 + 2) 4 ((0 : Int32)) (iPress_s2 h0) (iPress_l2 h0) _ _ h) rfl ⟨(Nat.le_of_ble_eq_true rfl), (Nat.le_of_ble_eq_true rfl)⟩ ⟨rfl, rfl, Nat.zero_le _, Nat.zero_le _⟩ (Nat.le_of_ble_eq_true rfl) dX4_setAsAtFirst_13 (fun M2 h => ?_)
  refine v_aloadn C 0 rfl rfl dX4_setAsAtFirst_16 ?_
  refine v_getr (o' := (o0 + 3)) C fr_X4_18 (iPress_s0 h0) (iPress_l0 h0) rfl (iPress_r2 h0) dX4_setAsAtFirst_17 ?_
  refine v_iconst C kc_0 dX4_setAsAtFirst_20 ?_
  refine v_csV (As := [.ref (XB S + (o0 + 3)), .int (0 : Int32)]) C ms_X4_31 (con_J7_fill_53178 l S n R (o0 + 3) 4 ((0 : Int32)) (iPress_s3 h0) (iPress_l3 h0) _ _ h) rfl ⟨(Nat.le_of_ble_eq_true rfl), (Nat.le_of_ble_eq_true rfl)⟩ ⟨rfl, rfl, Nat.zero_le _, Nat.zero_le _⟩ (Nat.le_of_ble_eq_true rfl) dX4_setAsAtFirst_21 (fun M3 h => ?_)
  refine v_aloadn C 0 rfl rfl dX4_setAsAtFirst_24 ?_
  refine v_getr (o' := (o0 + 4)) C fr_X4_21 (iPress_s0 h0) (iPress_l0 h0) rfl (iPress_r3 h0) dX4_setAsAtFirst_25 ?_
  refine v_iconst C kc_0 dX4_setAsAtFirst_28 ?_
  refine v_csV (As := [.ref (XB S + (o0 + 4)), .int (0 : Int32)]) C ms_X4_31 (con_J7_fill_53178 l S n R (o0 + 4) 32 ((0 : Int32)) (iPress_s4 h0) (iPress_l4 h0) _ _ h) rfl ⟨(Nat.le_of_ble_eq_true rfl), (Nat.le_of_ble_eq_true rfl)⟩ ⟨rfl, rfl, Nat.zero_le _, Nat.zero_le _⟩ (Nat.le_of_ble_eq_true rfl) dX4_setAsAtFirst_29 (fun M4 h => ?_)
  refine v_aloadn C 0 rfl rfl dX4_setAsAtFirst_32 ?_
  refine v_getr (o' := (o0 + 5)) C fr_X4_27 (iPress_s0 h0) (iPress_l0 h0) rfl (iPress_r4 h0) dX4_setAsAtFirst_33 ?_
  refine v_cvV (As := []) C mv_X4_37 (con_X0_setAsAtFirst l S n R (o0 + 5) (iPress_x h0) _ _ h) (iBand_s0 (iPress_x h0)) (iBand_l0 (iPress_x h0)) rfl ⟨(Nat.le_of_ble_eq_true rfl), (Nat.le_of_ble_eq_true rfl)⟩ ⟨rfl, rfl, Nat.zero_le _, Nat.zero_le _⟩ (Nat.le_of_ble_eq_true rfl) dX4_setAsAtFirst_36 (fun M5 h => ?_)
  refine v_aloadn C 0 rfl rfl dX4_setAsAtFirst_39 ?_
  refine v_aloadn C 1 rfl rfl dX4_setAsAtFirst_40 ?_
  refine v_geti C fr_X4_40 (iPlan_s0 h1) (iPlan_l0 h1) rfl dX4_setAsAtFirst_41 ?_
  refine v_if_le C 51 (by decide) dX4_setAsAtFirst_44 (fun c6 => ?_) (fun c6 => ?_)
  · replace h := h.1 c6
    refine v_bipush C kb_m9 dX4_setAsAtFirst_51 ?_
    exact tb_X4_setAsAtFirst_53 l S n R o0 o1 h0 h1 C hr K   ((-9 : Int32)) M5 h
  · replace h := h.2 c6
    refine v_iconst C kc_0 dX4_setAsAtFirst_47 ?_
    refine v_goto C 53 (by decide) dX4_setAsAtFirst_48 ?_
    exact tb_X4_setAsAtFirst_53 l S n R o0 o1 h0 h1 C hr K   ((0 : Int32)) M5 h
abbrev rmX4_takeFrom : Room := { frames := 2, cells := 0, slots := 0, locals := 39 }
def wp_X4_takeFrom (o0 : Nat) (o1 : Nat) (M : Mem) (K : Mem → Prop) : Prop := (∀ M1 : Mem, M1 = mcp M (o1 + 1) 0 (o0 + 1) 0 4 → (∀ M2 : Mem, M2 = mcp M1 (o1 + 2) 0 (o0 + 2) 0 4 → (∀ M3 : Mem, M3 = mcp M2 (o1 + 3) 0 (o0 + 3) 0 4 → (∀ M4 : Mem, M4 = mcp M3 (o1 + 4) 0 (o0 + 4) 0 32 → wp_X0_takeFrom (o0 + 5) (o1 + 5) M4 (fun M5 => (∀ M6 : Mem, M6 = mw M5 o0 5 (M5 o1 5) → (∀ M7 : Mem, M7 = mw M6 o0 6 (M6 o1 6) → (∀ M8 : Mem, M8 = mw M7 o0 7 (M7 o1 7) → isB (M8 o1 8) ∧ (∀ M9 : Mem, M9 = mw M8 o0 8 (M8 o1 8) → isB (M9 o1 9) ∧ (∀ M10 : Mem, M10 = mw M9 o0 9 (M9 o1 9) → (∀ M11 : Mem, M11 = mw M10 o0 10 (M10 o1 10) → (∀ M12 : Mem, M12 = mw M11 o0 11 (M11 o1 11) → (∀ M13 : Mem, M13 = mw M12 o0 12 (M12 o1 12) → (∀ M14 : Mem, M14 = mw M13 o0 13 (M13 o1 13) → K M14))))))))))))))
set_option maxRecDepth 20000 in
theorem con_X4_takeFrom (l : Launch) (S : XS) (n : Nat) (R : Rfs) (o0 : Nat) (o1 : Nat) (h0 : isPress n R o0) (h1 : isPress n R o1) (M : Mem) (K : Mem → Prop) (h : wp_X4_takeFrom o0 o1 M K) : CV l yX4_takeFrom cX4_takeFrom 2 rmX4_takeFrom S n R [.ref (XB S + o0), .ref (XB S + o1)] M K := by
  refine conV (lv := [(0, .ref (XB S + o0)), (1, .ref (XB S + o1))]) (by decide) (Nat.le_of_ble_eq_true rfl) rfl ?_
  intro p e s m args below meth c C hr
  replace C : Cx p m meth c s args cX4_takeFrom RX4 2 S := C
  refine v_aloadn C 1 rfl rfl dX4_takeFrom_0 ?_
  refine v_getr (o' := (o1 + 1)) C fr_X4_9 (iPress_s0 h1) (iPress_l0 h1) rfl (iPress_r0 h1) dX4_takeFrom_1 ?_
  refine v_iconst C kc_0 dX4_takeFrom_4 ?_
  refine v_aloadn C 0 rfl rfl dX4_takeFrom_5 ?_
  refine v_getr (o' := (o0 + 1)) C fr_X4_9 (iPress_s0 h0) (iPress_l0 h0) rfl (iPress_r0 h0) dX4_takeFrom_6 ?_
  refine v_iconst C kc_0 dX4_takeFrom_9 ?_
  refine v_iconst C kc_4 dX4_takeFrom_10 ?_
  refine v_copy C (iPress_s1 h1) (iPress_l1 h1) (iPress_s1 h0) (iPress_l1 h0) wk_X4_77 w_cp1 w_cp2 w_cp3 lit_0.1 lit_0.1 lit_4.1 (by rw [show ix (0 : Int32) = 0 from lit_0.2, show ix (4 : Int32) = 4 from lit_4.2]; decide) (by rw [show ix (0 : Int32) = 0 from lit_0.2, show ix (4 : Int32) = 4 from lit_4.2]; decide) (Nat.le_of_ble_eq_true rfl) (Nat.le_of_ble_eq_true rfl) dX4_takeFrom_11 (fun M1 e1 => ?_)
  rw [show ix (0 : Int32) = 0 from lit_0.2, show ix (4 : Int32) = 4 from lit_4.2] at e1
  replace h := h M1 e1
  refine v_aloadn C 1 rfl rfl dX4_takeFrom_14 ?_
  refine v_getr (o' := (o1 + 2)) C fr_X4_15 (iPress_s0 h1) (iPress_l0 h1) rfl (iPress_r1 h1) dX4_takeFrom_15 ?_
  refine v_iconst C kc_0 dX4_takeFrom_18 ?_
  refine v_aloadn C 0 rfl rfl dX4_takeFrom_19 ?_
  refine v_getr (o' := (o0 + 2)) C fr_X4_15 (iPress_s0 h0) (iPress_l0 h0) rfl (iPress_r1 h0) dX4_takeFrom_20 ?_
  refine v_iconst C kc_0 dX4_takeFrom_23 ?_
  refine v_iconst C kc_4 dX4_takeFrom_24 ?_
  refine v_copy C (iPress_s2 h1) (iPress_l2 h1) (iPress_s2 h0) (iPress_l2 h0) wk_X4_77 w_cp1 w_cp2 w_cp3 lit_0.1 lit_0.1 lit_4.1 (by rw [show ix (0 : Int32) = 0 from lit_0.2, show ix (4 : Int32) = 4 from lit_4.2]; decide) (by rw [show ix (0 : Int32) = 0 from lit_0.2, show ix (4 : Int32) = 4 from lit_4.2]; decide) (Nat.le_of_ble_eq_true rfl) (Nat.le_of_ble_eq_true rfl) dX4_takeFrom_25 (fun M2 e2 => ?_)
  rw [show ix (0 : Int32) = 0 from lit_0.2, show ix (4 : Int32) = 4 from lit_4.2] at e2
  replace h := h M2 e2
  refine v_aloadn C 1 rfl rfl dX4_takeFrom_28 ?_
  refine v_getr (o' := (o1 + 3)) C fr_X4_18 (iPress_s0 h1) (iPress_l0 h1) rfl (iPress_r2 h1) dX4_takeFrom_29 ?_
  refine v_iconst C kc_0 dX4_takeFrom_32 ?_
  refine v_aloadn C 0 rfl rfl dX4_takeFrom_33 ?_
  refine v_getr (o' := (o0 + 3)) C fr_X4_18 (iPress_s0 h0) (iPress_l0 h0) rfl (iPress_r2 h0) dX4_takeFrom_34 ?_
  refine v_iconst C kc_0 dX4_takeFrom_37 ?_
  refine v_iconst C kc_4 dX4_takeFrom_38 ?_
  refine v_copy C (iPress_s3 h1) (iPress_l3 h1) (iPress_s3 h0) (iPress_l3 h0) wk_X4_77 w_cp1 w_cp2 w_cp3 lit_0.1 lit_0.1 lit_4.1 (by rw [show ix (0 : Int32) = 0 from lit_0.2, show ix (4 : Int32) = 4 from lit_4.2]; decide) (by rw [show ix (0 : Int32) = 0 from lit_0.2, show ix (4 : Int32) = 4 from lit_4.2]; decide) (Nat.le_of_ble_eq_true rfl) (Nat.le_of_ble_eq_true rfl) dX4_takeFrom_39 (fun M3 e3 => ?_)
  rw [show ix (0 : Int32) = 0 from lit_0.2, show ix (4 : Int32) = 4 from lit_4.2] at e3
  replace h := h M3 e3
  refine v_aloadn C 1 rfl rfl dX4_takeFrom_42 ?_
  refine v_getr (o' := (o1 + 4)) C fr_X4_21 (iPress_s0 h1) (iPress_l0 h1) rfl (iPress_r3 h1) dX4_takeFrom_43 ?_
  refine v_iconst C kc_0 dX4_takeFrom_46 ?_
  refine v_aloadn C 0 rfl rfl dX4_takeFrom_47 ?_
  refine v_getr (o' := (o0 + 4)) C fr_X4_21 (iPress_s0 h0) (iPress_l0 h0) rfl (iPress_r3 h0) dX4_takeFrom_48 ?_
  refine v_iconst C kc_0 dX4_takeFrom_51 ?_
  refine v_bipush C kb_32 dX4_takeFrom_52 ?_
  refine v_copy C (iPress_s4 h1) (iPress_l4 h1) (iPress_s4 h0) (iPress_l4 h0) wk_X4_77 w_cp1 w_cp2 w_cp3 lit_0.1 lit_0.1 lit_32.1 (by rw [show ix (0 : Int32) = 0 from lit_0.2, show ix (32 : Int32) = 32 from lit_32.2]; decide) (by rw [show ix (0 : Int32) = 0 from lit_0.2, show ix (32 : Int32) = 32 from lit_32.2]; decide) (Nat.le_of_ble_eq_true rfl) (Nat.le_of_ble_eq_true rfl) dX4_takeFrom_54 (fun M4 e4 => ?_)
  rw [show ix (0 : Int32) = 0 from lit_0.2, show ix (32 : Int32) = 32 from lit_32.2] at e4
  replace h := h M4 e4
  refine v_aloadn C 0 rfl rfl dX4_takeFrom_57 ?_
  refine v_getr (o' := (o0 + 5)) C fr_X4_27 (iPress_s0 h0) (iPress_l0 h0) rfl (iPress_r4 h0) dX4_takeFrom_58 ?_
  refine v_aloadn C 1 rfl rfl dX4_takeFrom_61 ?_
  refine v_getr (o' := (o1 + 5)) C fr_X4_27 (iPress_s0 h1) (iPress_l0 h1) rfl (iPress_r4 h1) dX4_takeFrom_62 ?_
  refine v_cvV (As := [.ref (XB S + (o1 + 5))]) C mv_X4_83 (con_X0_takeFrom l S n R (o0 + 5) (o1 + 5) (iPress_x h0) (iPress_x h1) _ _ h) (iBand_s0 (iPress_x h0)) (iBand_l0 (iPress_x h0)) rfl ⟨(Nat.le_of_ble_eq_true rfl), (Nat.le_of_ble_eq_true rfl)⟩ ⟨rfl, rfl, Nat.zero_le _, Nat.zero_le _⟩ (Nat.le_of_ble_eq_true rfl) dX4_takeFrom_65 (fun M5 h => ?_)
  refine v_aloadn C 0 rfl rfl dX4_takeFrom_68 ?_
  refine v_aloadn C 1 rfl rfl dX4_takeFrom_69 ?_
  refine v_geti C fr_X4_46 (iPress_s0 h1) (iPress_l0 h1) rfl dX4_takeFrom_70 ?_
  refine v_puti C fr_X4_46 (iPress_s0 h0) (iPress_l0 h0) rfl dX4_takeFrom_73 (fun M6 e6 => ?_)
  replace h := h M6 e6
  refine v_aloadn C 0 rfl rfl dX4_takeFrom_76 ?_
  refine v_aloadn C 1 rfl rfl dX4_takeFrom_77 ?_
  refine v_geti C fr_X4_52 (iPress_s0 h1) (iPress_l0 h1) rfl dX4_takeFrom_78 ?_
  refine v_puti C fr_X4_52 (iPress_s0 h0) (iPress_l0 h0) rfl dX4_takeFrom_81 (fun M7 e7 => ?_)
  replace h := h M7 e7
  refine v_aloadn C 0 rfl rfl dX4_takeFrom_84 ?_
  refine v_aloadn C 1 rfl rfl dX4_takeFrom_85 ?_
  refine v_geti C fr_X4_55 (iPress_s0 h1) (iPress_l0 h1) rfl dX4_takeFrom_86 ?_
  refine v_puti C fr_X4_55 (iPress_s0 h0) (iPress_l0 h0) rfl dX4_takeFrom_89 (fun M8 e8 => ?_)
  replace h := h M8 e8
  refine v_aloadn C 0 rfl rfl dX4_takeFrom_92 ?_
  refine v_aloadn C 1 rfl rfl dX4_takeFrom_93 ?_
  refine v_geti C fr_X4_58 (iPress_s0 h1) (iPress_l0 h1) rfl dX4_takeFrom_94 ?_
  have hb9 := h.1
  replace h := h.2
  refine v_putb C fr_X4_58 (iPress_s0 h0) (iPress_l0 h0) rfl hb9 dX4_takeFrom_97 (fun M9 e9 => ?_)
  replace h := h M9 e9
  refine v_aloadn C 0 rfl rfl dX4_takeFrom_100 ?_
  refine v_aloadn C 1 rfl rfl dX4_takeFrom_101 ?_
  refine v_geti C fr_X4_62 (iPress_s0 h1) (iPress_l0 h1) rfl dX4_takeFrom_102 ?_
  have hb10 := h.1
  replace h := h.2
  refine v_putb C fr_X4_62 (iPress_s0 h0) (iPress_l0 h0) rfl hb10 dX4_takeFrom_105 (fun M10 e10 => ?_)
  replace h := h M10 e10
  refine v_aloadn C 0 rfl rfl dX4_takeFrom_108 ?_
  refine v_aloadn C 1 rfl rfl dX4_takeFrom_109 ?_
  refine v_geti C fr_X4_65 (iPress_s0 h1) (iPress_l0 h1) rfl dX4_takeFrom_110 ?_
  refine v_puti C fr_X4_65 (iPress_s0 h0) (iPress_l0 h0) rfl dX4_takeFrom_113 (fun M11 e11 => ?_)
  replace h := h M11 e11
  refine v_aloadn C 0 rfl rfl dX4_takeFrom_116 ?_
  refine v_aloadn C 1 rfl rfl dX4_takeFrom_117 ?_
  refine v_geti C fr_X4_68 (iPress_s0 h1) (iPress_l0 h1) rfl dX4_takeFrom_118 ?_
  refine v_puti C fr_X4_68 (iPress_s0 h0) (iPress_l0 h0) rfl dX4_takeFrom_121 (fun M12 e12 => ?_)
  replace h := h M12 e12
  refine v_aloadn C 0 rfl rfl dX4_takeFrom_124 ?_
  refine v_aloadn C 1 rfl rfl dX4_takeFrom_125 ?_
  refine v_geti C fr_X4_71 (iPress_s0 h1) (iPress_l0 h1) rfl dX4_takeFrom_126 ?_
  refine v_puti C fr_X4_71 (iPress_s0 h0) (iPress_l0 h0) rfl dX4_takeFrom_129 (fun M13 e13 => ?_)
  replace h := h M13 e13
  refine v_aloadn C 0 rfl rfl dX4_takeFrom_132 ?_
  refine v_aloadn C 1 rfl rfl dX4_takeFrom_133 ?_
  refine v_geti C fr_X4_74 (iPress_s0 h1) (iPress_l0 h1) rfl dX4_takeFrom_134 ?_
  refine v_puti C fr_X4_74 (iPress_s0 h0) (iPress_l0 h0) rfl dX4_takeFrom_137 (fun M14 e14 => ?_)
  replace h := h M14 e14
  exact v_vret C hr dX4_takeFrom_140 h
abbrev rmX2_remember : Room := { frames := 3, cells := 0, slots := 0, locals := 60 }
def wp_X2_remember_22 (o0 : Nat) (o1 : Nat)  (K : Mem → Prop) (y0 : Int32) (M : Mem) : Prop := (∀ M2 : Mem, M2 = mw M o0 1 y0 → vp_in (M2 o0 1) 6 ∧ (wp_X4_takeFrom (o0 + 2 + 11 * ix (M2 o0 1)) o1 M2 (fun M4 => (∀ M5 : Mem, M5 = mw M4 o0 2 (if (6 : Int32) < ((M4 o0 2) + (1 : Int32)) then (6 : Int32) else ((M4 o0 2) + (1 : Int32))) → K M5))))
def wp_X2_remember (o0 : Nat) (o1 : Nat) (M : Mem) (K : Mem → Prop) : Prop := ((6 : Int32) ≤ ((M o0 1) + (1 : Int32)) → wp_X2_remember_22 o0 o1 K ((0 : Int32)) M) ∧ (¬ (6 : Int32) ≤ ((M o0 1) + (1 : Int32)) → wp_X2_remember_22 o0 o1 K (((M o0 1) + (1 : Int32))) M)
set_option maxRecDepth 20000 in
theorem tb_X2_remember_22 {p : Program} {e : Env} {s : State} {m : MethodId} {args : Array Value} {below : List Frame} {meth : Method} {c : Code} (l : Launch) (S : XS) (n : Nat) (R : Rfs) (o0 : Nat) (o1 : Nat) (h0 : isHist n R o0) (h1 : isPress n R o1) (C : Cx p m meth c s args cX2_remember RX2 2 S) (hr : meth.sig.returnType = none) (K : Mem → Prop)   (y0 : Int32) (M : Mem) (h : wp_X2_remember_22 o0 o1  K y0 M) : V p l e rmX2_remember s m args below meth c (MQ below (va_Qv K (XPost S n R) (XA S)) args s 0 0 (XA S)) S 2 0 0 n M R 22 [(0, .ref (XB S + o0)), (1, .ref (XB S + o1))] [.int y0, .ref (XB S + o0)] := by
  refine v_puti C fr_X2_18 (iHist_s0 h0) (iHist_l0 h0) rfl dX2_remember_22 (fun M2 e2 => ?_)
  replace h := h M2 e2
  refine v_aloadn C 0 rfl rfl dX2_remember_25 ?_
  refine v_getr (o' := (o0 + 1)) C fr_X2_11 (iHist_s0 h0) (iHist_l0 h0) rfl (iHist_r0 h0) dX2_remember_26 ?_
  refine v_aloadn C 0 rfl rfl dX2_remember_29 ?_
  refine v_geti C fr_X2_18 (iHist_s0 h0) (iHist_l0 h0) rfl dX2_remember_30 ?_
  have hq3 := h.1
  replace h := h.2
  refine v_qald (o' := (o0 + 2 + 11 * ix (M2 o0 1))) C (iHist_s1 h0) (iHist_l1 h0) hq3 (iHist_x h0 _ (vin_lt hq3)).1 dX2_remember_33 ?_
  refine v_aloadn C 1 rfl rfl dX2_remember_34 ?_
  refine v_cvV (As := [.ref (XB S + o1)]) C mv_X2_22 (con_X4_takeFrom l S n R (o0 + 2 + 11 * ix (M2 o0 1)) o1 (iHist_x h0 _ (vin_lt hq3)).2 h1 _ _ h) (iPress_s0 (iHist_x h0 _ (vin_lt hq3)).2) (iPress_l0 (iHist_x h0 _ (vin_lt hq3)).2) rfl ⟨(Nat.le_of_ble_eq_true rfl), (Nat.le_of_ble_eq_true rfl)⟩ ⟨rfl, rfl, Nat.zero_le _, Nat.zero_le _⟩ (Nat.le_of_ble_eq_true rfl) dX2_remember_35 (fun M4 h => ?_)
  refine v_aloadn C 0 rfl rfl dX2_remember_38 ?_
  refine v_aloadn C 0 rfl rfl dX2_remember_39 ?_
  refine v_geti C fr_X2_26 (iHist_s0 h0) (iHist_l0 h0) rfl dX2_remember_40 ?_
  refine v_iconst C kc_1 dX2_remember_43 ?_
  refine v_iadd C dX2_remember_44 ?_
  refine v_bipush C kb_6 dX2_remember_45 ?_
  refine v_mmin C mm_X2_29 (Nat.le_of_ble_eq_true rfl) (Nat.le_of_ble_eq_true rfl) (Nat.zero_le _) (Nat.zero_le _) dX2_remember_47 ?_
  refine v_puti C fr_X2_26 (iHist_s0 h0) (iHist_l0 h0) rfl dX2_remember_50 (fun M5 e5 => ?_)
  replace h := h M5 e5
  exact v_vret C hr dX2_remember_53 h
set_option maxRecDepth 20000 in
theorem con_X2_remember (l : Launch) (S : XS) (n : Nat) (R : Rfs) (o0 : Nat) (o1 : Nat) (h0 : isHist n R o0) (h1 : isPress n R o1) (M : Mem) (K : Mem → Prop) (h : wp_X2_remember o0 o1 M K) : CV l yX2_remember cX2_remember 2 rmX2_remember S n R [.ref (XB S + o0), .ref (XB S + o1)] M K := by
  refine conV (lv := [(0, .ref (XB S + o0)), (1, .ref (XB S + o1))]) (by decide) (Nat.le_of_ble_eq_true rfl) rfl ?_
  intro p e s m args below meth c C hr
  replace C : Cx p m meth c s args cX2_remember RX2 2 S := C
  refine v_aloadn C 0 rfl rfl dX2_remember_0 ?_
  refine v_aloadn C 0 rfl rfl dX2_remember_1 ?_
  refine v_geti C fr_X2_18 (iHist_s0 h0) (iHist_l0 h0) rfl dX2_remember_2 ?_
  refine v_iconst C kc_1 dX2_remember_5 ?_
  refine v_iadd C dX2_remember_6 ?_
  refine v_bipush C kb_6 dX2_remember_7 ?_
  refine v_icmp_ge C 21 (by decide) dX2_remember_9 (fun c1 => ?_) (fun c1 => ?_)
  · replace h := h.1 c1
    refine v_iconst C kc_0 dX2_remember_21 ?_
    exact tb_X2_remember_22 l S n R o0 o1 h0 h1 C hr K   ((0 : Int32)) M h
  · replace h := h.2 c1
    refine v_aloadn C 0 rfl rfl dX2_remember_12 ?_
    refine v_geti C fr_X2_18 (iHist_s0 h0) (iHist_l0 h0) rfl dX2_remember_13 ?_
    refine v_iconst C kc_1 dX2_remember_16 ?_
    refine v_iadd C dX2_remember_17 ?_
    refine v_goto C 22 (by decide) dX2_remember_18 ?_
    exact tb_X2_remember_22 l S n R o0 o1 h0 h1 C hr K   (((M o0 1) + (1 : Int32))) M h
abbrev rmX4_passPlace : Room := { frames := 0, cells := 0, slots := 0, locals := 0 }
def wp_X4_passPlace (x0 : Int32) (x1 : Int32) (M : Mem) (K : Int32 → Mem → Prop) : Prop := K (((x0 &&& (3 : Int32)) * (8 : Int32)) + (x1 &&& (7 : Int32))) M
set_option maxRecDepth 20000 in
theorem con_X4_passPlace (l : Launch) (S : XS) (n : Nat) (R : Rfs) (x0 : Int32) (x1 : Int32)  (M : Mem) (K : Int32 → Mem → Prop) (h : wp_X4_passPlace x0 x1 M K) : CI l yX4_passPlace cX4_passPlace 2 (some .int) rmX4_passPlace S n R [.int x0, .int x1] M K := by
  refine conI (lv := [(0, .int x0), (1, .int x1)]) (by decide) (Nat.le_of_ble_eq_true rfl) rfl ?_
  intro p e s m args below meth c C hr
  replace C : Cx p m meth c s args cX4_passPlace RX4 2 S := C
  refine v_iloadn C 0 rfl rfl dX4_passPlace_0 ?_
  refine v_iconst C kc_3 dX4_passPlace_1 ?_
  refine v_iand C dX4_passPlace_2 ?_
  refine v_bipush C kb_8 dX4_passPlace_3 ?_
  refine v_imul C dX4_passPlace_5 ?_
  refine v_iloadn C 1 rfl rfl dX4_passPlace_6 ?_
  refine v_bipush C kb_7 dX4_passPlace_7 ?_
  refine v_iand C dX4_passPlace_9 ?_
  refine v_iadd C dX4_passPlace_10 ?_
  exact v_iret C hr dX4_passPlace_11 h
abbrev rmX4_correct : Room := { frames := 1, cells := 0, slots := 0, locals := 21 }
def wp_X4_correct (o0 : Nat) (o1 : Nat) (x2 : Int32) (x3 : Int32) (M : Mem) (K : Mem → Prop) : Prop := wp_X3_isMovable o1 (x2) M (fun r1 M1 => (¬ r1 = 0 → vp_in x2 4 ∧ (vp_in x2 4 ∧ (∀ M3 : Mem, M3 = mw M1 (o0 + 2) (ix x2) ((M1 (o0 + 2) (ix x2)) + x3) → wp_X3_ticksToCameraFrom o1 (x2) M3 (fun r4 M4 => vp_in x2 4 ∧ (∀ M5 : Mem, M5 = mw M4 (o0 + 3) (ix x2) r4 → ((M5 o0 9) = 0 → K M5) ∧ (¬ (M5 o0 9) = 0 → wp_X3_hasUnit o1 ((x2 + (1 : Int32))) M5 (fun r7 M7 => (r7 = 0 → K M7) ∧ (¬ r7 = 0 → vp_in (x2 + (1 : Int32)) 4 ∧ (wp_X4_passPlace ((x2 + (1 : Int32))) ((((M7 o0 10) + (1 : Int32)) + (M7 (o1 + 1) (ix (x2 + (1 : Int32)))))) M7 (fun r9 M9 => vp_in r9 32 ∧ (vp_in r9 32 ∧ (∀ M10 : Mem, M10 = mw M9 (o0 + 4) (ix r9) ((M9 (o0 + 4) (ix r9)) - x3) → K M10)))))))))))) ∧ (r1 = 0 → K M1))
set_option maxRecDepth 20000 in
theorem con_X4_correct (l : Launch) (S : XS) (n : Nat) (R : Rfs) (o0 : Nat) (o1 : Nat) (x2 : Int32) (x3 : Int32) (h0 : isPress n R o0) (h1 : isPlan n R o1) (M : Mem) (K : Mem → Prop) (h : wp_X4_correct o0 o1 x2 x3 M K) : CV l yX4_correct cX4_correct 5 rmX4_correct S n R [.ref (XB S + o0), .ref (XB S + o1), .int x2, .int x3] M K := by
  refine conV (lv := [(0, .ref (XB S + o0)), (1, .ref (XB S + o1)), (2, .int x2), (3, .int x3)]) (by decide) (Nat.le_of_ble_eq_true rfl) rfl ?_
  intro p e s m args below meth c C hr
  replace C : Cx p m meth c s args cX4_correct RX4 5 S := C
  refine v_aloadn C 1 rfl rfl dX4_correct_0 ?_
  refine v_iloadn C 2 rfl rfl dX4_correct_1 ?_
  refine v_cvI (As := [.int x2]) C mv_X4_95 (con_X3_isMovable l S n R o1 (x2) h1 _ _ h) (iPlan_s0 h1) (iPlan_l0 h1) rfl ⟨(Nat.le_of_ble_eq_true rfl), (Nat.le_of_ble_eq_true rfl)⟩ ⟨rfl, rfl, Nat.zero_le _, Nat.zero_le _⟩ (Nat.le_of_ble_eq_true rfl) dX4_correct_2 (fun r1 M1 h => ?_)
  refine v_if_ne C 9 (by decide) dX4_correct_5 (fun c2 => ?_) (fun c2 => ?_)
  · replace h := h.1 c2
    refine v_aloadn C 0 rfl rfl dX4_correct_9 ?_
    refine v_getr (o' := (o0 + 2)) C fr_X4_15 (iPress_s0 h0) (iPress_l0 h0) rfl (iPress_r1 h0) dX4_correct_10 ?_
    refine v_iloadn C 2 rfl rfl dX4_correct_13 ?_
    refine v_dup2 C rfl rfl dX4_correct_14 ?_
    refine v_ald C (iPress_s2 h0) (iPress_l2 h0) h.1 dX4_correct_15 ?_
    replace h := h.2
    refine v_iloadn C 3 rfl rfl dX4_correct_16 ?_
    refine v_iadd C dX4_correct_17 ?_
    have hi3 := h.1
    replace h := h.2
    refine v_ast C (iPress_s2 h0) (iPress_l2 h0) hi3 dX4_correct_18 (fun M3 e3 => ?_)
    replace h := h M3 e3
    refine v_aloadn C 0 rfl rfl dX4_correct_19 ?_
    refine v_getr (o' := (o0 + 3)) C fr_X4_18 (iPress_s0 h0) (iPress_l0 h0) rfl (iPress_r2 h0) dX4_correct_20 ?_
    refine v_iloadn C 2 rfl rfl dX4_correct_23 ?_
    refine v_aloadn C 1 rfl rfl dX4_correct_24 ?_
    refine v_iloadn C 2 rfl rfl dX4_correct_25 ?_
    refine v_cvI (As := [.int x2]) C mv_X4_98 (con_X3_ticksToCameraFrom l S n R o1 (x2) h1 _ _ h) (iPlan_s0 h1) (iPlan_l0 h1) rfl ⟨(Nat.le_of_ble_eq_true rfl), (Nat.le_of_ble_eq_true rfl)⟩ ⟨rfl, rfl, Nat.zero_le _, Nat.zero_le _⟩ (Nat.le_of_ble_eq_true rfl) dX4_correct_26 (fun r4 M4 h => ?_)
    have hi5 := h.1
    replace h := h.2
    refine v_ast C (iPress_s3 h0) (iPress_l3 h0) hi5 dX4_correct_29 (fun M5 e5 => ?_)
    replace h := h M5 e5
    refine v_iloadn C 2 rfl rfl dX4_correct_30 ?_
    refine v_iconst C kc_1 dX4_correct_31 ?_
    refine v_iadd C dX4_correct_32 ?_
    refine v_istore (lv' := [(4, .int (x2 + (1 : Int32))), (0, .ref (XB S + o0)), (1, .ref (XB S + o1)), (2, .int x2), (3, .int x3)]) C rfl (Nat.le_of_ble_eq_true rfl) dX4_correct_33 ?_
    refine v_aloadn C 1 rfl rfl dX4_correct_35 ?_
    refine v_geti C fr_X4_62 (iPress_s0 h0) (iPress_l0 h0) rfl dX4_correct_36 ?_
    refine v_if_eq C 79 (by decide) dX4_correct_39 (fun c6 => ?_) (fun c6 => ?_)
    · replace h := h.1 c6
      exact v_vret C hr dX4_correct_79 h
    · replace h := h.2 c6
      refine v_aloadn C 2 rfl rfl dX4_correct_42 ?_
      refine v_iload C 0 rfl dX4_correct_43 ?_
      refine v_cvI (As := [.int (x2 + (1 : Int32))]) C mv_X4_102 (con_X3_hasUnit l S n R o1 ((x2 + (1 : Int32))) h1 _ _ h) (iPlan_s0 h1) (iPlan_l0 h1) rfl ⟨(Nat.le_of_ble_eq_true rfl), (Nat.le_of_ble_eq_true rfl)⟩ ⟨rfl, rfl, Nat.zero_le _, Nat.zero_le _⟩ (Nat.le_of_ble_eq_true rfl) dX4_correct_45 (fun r7 M7 h => ?_)
      refine v_if_eq C 79 (by decide) dX4_correct_48 (fun c8 => ?_) (fun c8 => ?_)
      · replace h := h.1 c8
        exact v_vret C hr dX4_correct_79 h
      · replace h := h.2 c8
        refine v_aloadn C 1 rfl rfl dX4_correct_51 ?_
        refine v_getr (o' := (o0 + 4)) C fr_X4_21 (iPress_s0 h0) (iPress_l0 h0) rfl (iPress_r3 h0) dX4_correct_52 ?_
        refine v_iload C 0 rfl dX4_correct_55 ?_
        refine v_aloadn C 1 rfl rfl dX4_correct_57 ?_
        refine v_geti C fr_X4_65 (iPress_s0 h0) (iPress_l0 h0) rfl dX4_correct_58 ?_
        refine v_iconst C kc_1 dX4_correct_61 ?_
        refine v_iadd C dX4_correct_62 ?_
        refine v_aloadn C 2 rfl rfl dX4_correct_63 ?_
        refine v_getr (o' := (o1 + 1)) C fr_X4_105 (iPlan_s0 h1) (iPlan_l0 h1) rfl (iPlan_r0 h1) dX4_correct_64 ?_
        refine v_iload C 0 rfl dX4_correct_67 ?_
        refine v_ald C (iPlan_s1 h1) (iPlan_l1 h1) h.1 dX4_correct_69 ?_
        replace h := h.2
        refine v_iadd C dX4_correct_70 ?_
        refine v_csI (As := [.int (x2 + (1 : Int32)), .int (((M7 o0 10) + (1 : Int32)) + (M7 (o1 + 1) (ix (x2 + (1 : Int32)))))]) C ms_X4_91 (con_X4_passPlace l S n R ((x2 + (1 : Int32))) ((((M7 o0 10) + (1 : Int32)) + (M7 (o1 + 1) (ix (x2 + (1 : Int32))))))  _ _ h) rfl ⟨(Nat.le_of_ble_eq_true rfl), (Nat.le_of_ble_eq_true rfl)⟩ ⟨rfl, rfl, Nat.zero_le _, Nat.zero_le _⟩ (Nat.le_of_ble_eq_true rfl) dX4_correct_71 (fun r9 M9 h => ?_)
        refine v_dup2 C rfl rfl dX4_correct_74 ?_
        refine v_ald C (iPress_s4 h0) (iPress_l4 h0) h.1 dX4_correct_75 ?_
        replace h := h.2
        refine v_iloadn C 4 rfl rfl dX4_correct_76 ?_
        refine v_isub C dX4_correct_77 ?_
        have hi10 := h.1
        replace h := h.2
        refine v_ast C (iPress_s4 h0) (iPress_l4 h0) hi10 dX4_correct_78 (fun M10 e10 => ?_)
        replace h := h M10 e10
        exact v_vret C hr dX4_correct_79 h
  · replace h := h.2 c2
    exact v_vret C hr dX4_correct_8 h
abbrev rmX4_adjust : Room := { frames := 2, cells := 0, slots := 0, locals := 45 }
def wp_X4_adjust_70 (o0 : Nat) (o1 : Nat) (X2 : Int32 → Mem → Prop) (K : Mem → Prop) (x2 : Int32) (M : Mem) : Prop := X2 (x2 + (1 : Int32)) M
def L_X4_adjust_2 (o0 : Nat) (o1 : Nat)  (K : Mem → Prop) : Nat → Int32 → Mem → Prop
  | 0, _, _ => False
  | k + 1, x2, M => ((M o1 4) ≤ x2 → K M) ∧ (¬ (M o1 4) ≤ x2 → vp_in x2 4 ∧ (vp_in x2 4 ∧ (((M (o0 + 3) (ix x2)) ≤ 0 → ((if 0 ≤ (M ((o0 + 5) + 5) (ix x2)) then (M ((o0 + 5) + 5) (ix x2)) else 0 - (M ((o0 + 5) + 5) (ix x2))) ≤ (M o1 8) → wp_X4_adjust_70 o0 o1 (fun x2 M => L_X4_adjust_2 o0 o1  K k x2 M) K (x2) M) ∧ (¬ (if 0 ≤ (M ((o0 + 5) + 5) (ix x2)) then (M ((o0 + 5) + 5) (ix x2)) else 0 - (M ((o0 + 5) + 5) (ix x2))) ≤ (M o1 8) → (¬ (M (o0 + 5) 8) = 0 → wp_X4_adjust_70 o0 o1 (fun x2 M => L_X4_adjust_2 o0 o1  K k x2 M) K (x2) M) ∧ ((M (o0 + 5) 8) = 0 → wp_X4_correct o0 o1 (x2) ((M ((o0 + 5) + 5) (ix x2))) M (fun M6 => wp_X4_adjust_70 o0 o1 (fun x2 M => L_X4_adjust_2 o0 o1  K k x2 M) K (x2) M6)))) ∧ (¬ (M (o0 + 3) (ix x2)) ≤ 0 → vp_in x2 4 ∧ (vp_in x2 4 ∧ (∀ M7 : Mem, M7 = mw M (o0 + 3) (ix x2) ((M (o0 + 3) (ix x2)) - (1 : Int32)) → wp_X4_adjust_70 o0 o1 (fun x2 M => L_X4_adjust_2 o0 o1  K k x2 M) K (x2) M7))))))
def wp_X4_adjust (o0 : Nat) (o1 : Nat) (M : Mem) (K : Mem → Prop) : Prop := ∃ j1 : Nat, L_X4_adjust_2 o0 o1 K j1 ((1 : Int32)) M
set_option maxRecDepth 20000 in
theorem tb_X4_adjust_70 {p : Program} {e : Env} {s : State} {m : MethodId} {args : Array Value} {below : List Frame} {meth : Method} {c : Code} (l : Launch) (S : XS) (n : Nat) (R : Rfs) (o0 : Nat) (o1 : Nat) (h0 : isPress n R o0) (h1 : isPlan n R o1) (C : Cx p m meth c s args cX4_adjust RX4 4 S) (hr : meth.sig.returnType = none) (K : Mem → Prop) (X2 : Int32 → Mem → Prop) (hX2 : ∀ (x2 : Int32) (M : Mem), X2 x2 M → V p l e rmX4_adjust s m args below meth c (MQ below (va_Qv K (XPost S n R) (XA S)) args s 0 0 (XA S)) S 4 0 0 n M R 2 [(0, .ref (XB S + o0)), (1, .ref (XB S + o1)), (2, .int x2)] []) (x2 : Int32) (M : Mem) (h : wp_X4_adjust_70 o0 o1 X2 K x2 M) : V p l e rmX4_adjust s m args below meth c (MQ below (va_Qv K (XPost S n R) (XA S)) args s 0 0 (XA S)) S 4 0 0 n M R 70 [(0, .ref (XB S + o0)), (1, .ref (XB S + o1)), (2, .int x2)] [] := by
  refine v_iinc (lv' := [(2, .int (x2 + (1 : Int32))), (0, .ref (XB S + o0)), (1, .ref (XB S + o1))]) C 2 rfl kc_1 rfl rfl (Nat.le_of_ble_eq_true rfl) dX4_adjust_70 ?_
  refine v_goto C 2 (by decide) dX4_adjust_73 ?_
  refine v_loc [1, 2, 0] rfl ?_
  exact hX2 ((x2 + (1 : Int32))) M h
set_option maxRecDepth 20000 in
theorem tl_X4_adjust_2 {p : Program} {e : Env} {s : State} {m : MethodId} {args : Array Value} {below : List Frame} {meth : Method} {c : Code} (l : Launch) (S : XS) (n : Nat) (R : Rfs) (o0 : Nat) (o1 : Nat) (h0 : isPress n R o0) (h1 : isPlan n R o1) (C : Cx p m meth c s args cX4_adjust RX4 4 S) (hr : meth.sig.returnType = none) (K : Mem → Prop)   (k : Nat) : ∀ (x2 : Int32) (M : Mem), L_X4_adjust_2 o0 o1  K k x2 M → V p l e rmX4_adjust s m args below meth c (MQ below (va_Qv K (XPost S n R) (XA S)) args s 0 0 (XA S)) S 4 0 0 n M R 2 [(0, .ref (XB S + o0)), (1, .ref (XB S + o1)), (2, .int x2)] [] := by
  induction k with
  | zero => intro x2 M h; exact h.elim
  | succ k ih =>
    intro x2 M h
    refine v_iloadn C 2 rfl rfl dX4_adjust_2 ?_
    refine v_aloadn C 1 rfl rfl dX4_adjust_3 ?_
    refine v_geti C fr_X4_148 (iPlan_s0 h1) (iPlan_l0 h1) rfl dX4_adjust_4 ?_
    refine v_icmp_ge C 76 (by decide) dX4_adjust_7 (fun c2 => ?_) (fun c2 => ?_)
    · replace h := h.1 c2
      exact v_vret C hr dX4_adjust_76 h
    · replace h := h.2 c2
      refine v_aloadn C 0 rfl rfl dX4_adjust_10 ?_
      refine v_getr (o' := (o0 + 5)) C fr_X4_27 (iPress_s0 h0) (iPress_l0 h0) rfl (iPress_r4 h0) dX4_adjust_11 ?_
      refine v_getr (o' := ((o0 + 5) + 5)) C fr_X4_167 (iBand_s0 (iPress_x h0)) (iBand_l0 (iPress_x h0)) rfl (iBand_r10 (iPress_x h0)) dX4_adjust_14 ?_
      refine v_iloadn C 2 rfl rfl dX4_adjust_17 ?_
      refine v_ald C (iBand_s5 (iPress_x h0)) (iBand_l5 (iPress_x h0)) h.1 dX4_adjust_18 ?_
      replace h := h.2
      refine v_istoren (lv' := [(3, .int (M ((o0 + 5) + 5) (ix x2))), (0, .ref (XB S + o0)), (1, .ref (XB S + o1)), (2, .int x2)]) C rfl rfl (Nat.le_of_ble_eq_true rfl) dX4_adjust_19 ?_
      refine v_aloadn C 1 rfl rfl dX4_adjust_20 ?_
      refine v_getr (o' := (o0 + 3)) C fr_X4_18 (iPress_s0 h0) (iPress_l0 h0) rfl (iPress_r2 h0) dX4_adjust_21 ?_
      refine v_iloadn C 3 rfl rfl dX4_adjust_24 ?_
      refine v_ald C (iPress_s3 h0) (iPress_l3 h0) h.1 dX4_adjust_25 ?_
      replace h := h.2
      refine v_if_le C 42 (by decide) dX4_adjust_26 (fun c3 => ?_) (fun c3 => ?_)
      · replace h := h.1 c3
        refine v_iloadn C 0 rfl rfl dX4_adjust_42 ?_
        refine v_mabs C mm_X4_170 (Nat.le_of_ble_eq_true rfl) (Nat.le_of_ble_eq_true rfl) (Nat.zero_le _) (Nat.zero_le _) dX4_adjust_43 ?_
        refine v_aloadn C 2 rfl rfl dX4_adjust_46 ?_
        refine v_geti C fr_X4_175 (iPlan_s0 h1) (iPlan_l0 h1) rfl dX4_adjust_47 ?_
        refine v_icmp_le C 70 (by decide) dX4_adjust_50 (fun c4 => ?_) (fun c4 => ?_)
        · replace h := h.1 c4
          refine v_loc [1, 2, 3] rfl ?_
          exact tb_X4_adjust_70 l S n R o0 o1 h0 h1 C hr K (fun x2 M => L_X4_adjust_2 o0 o1  K k x2 M) (ih) (x2) M h
        · replace h := h.2 c4
          refine v_aloadn C 1 rfl rfl dX4_adjust_53 ?_
          refine v_getr (o' := (o0 + 5)) C fr_X4_27 (iPress_s0 h0) (iPress_l0 h0) rfl (iPress_r4 h0) dX4_adjust_54 ?_
          refine v_geti C fr_X4_178 (iBand_s0 (iPress_x h0)) (iBand_l0 (iPress_x h0)) rfl dX4_adjust_57 ?_
          refine v_if_ne C 70 (by decide) dX4_adjust_60 (fun c5 => ?_) (fun c5 => ?_)
          · replace h := h.1 c5
            refine v_loc [1, 2, 3] rfl ?_
            exact tb_X4_adjust_70 l S n R o0 o1 h0 h1 C hr K (fun x2 M => L_X4_adjust_2 o0 o1  K k x2 M) (ih) (x2) M h
          · replace h := h.2 c5
            refine v_aloadn C 1 rfl rfl dX4_adjust_63 ?_
            refine v_aloadn C 2 rfl rfl dX4_adjust_64 ?_
            refine v_iloadn C 3 rfl rfl dX4_adjust_65 ?_
            refine v_iloadn C 0 rfl rfl dX4_adjust_66 ?_
            refine v_cvV (As := [.ref (XB S + o1), .int x2, .int (M ((o0 + 5) + 5) (ix x2))]) C mv_X4_181 (con_X4_correct l S n R o0 o1 (x2) ((M ((o0 + 5) + 5) (ix x2))) h0 h1 _ _ h) (iPress_s0 h0) (iPress_l0 h0) rfl ⟨(Nat.le_of_ble_eq_true rfl), (Nat.le_of_ble_eq_true rfl)⟩ ⟨rfl, rfl, Nat.zero_le _, Nat.zero_le _⟩ (Nat.le_of_ble_eq_true rfl) dX4_adjust_67 (fun M6 h => ?_)
            refine v_loc [1, 2, 3] rfl ?_
            exact tb_X4_adjust_70 l S n R o0 o1 h0 h1 C hr K (fun x2 M => L_X4_adjust_2 o0 o1  K k x2 M) (ih) (x2) M6 h
      · replace h := h.2 c3
        refine v_aloadn C 1 rfl rfl dX4_adjust_29 ?_
        refine v_getr (o' := (o0 + 3)) C fr_X4_18 (iPress_s0 h0) (iPress_l0 h0) rfl (iPress_r2 h0) dX4_adjust_30 ?_
        refine v_iloadn C 3 rfl rfl dX4_adjust_33 ?_
        refine v_dup2 C rfl rfl dX4_adjust_34 ?_
        refine v_ald C (iPress_s3 h0) (iPress_l3 h0) h.1 dX4_adjust_35 ?_
        replace h := h.2
        refine v_iconst C kc_1 dX4_adjust_36 ?_
        refine v_isub C dX4_adjust_37 ?_
        have hi7 := h.1
        replace h := h.2
        refine v_ast C (iPress_s3 h0) (iPress_l3 h0) hi7 dX4_adjust_38 (fun M7 e7 => ?_)
        replace h := h M7 e7
        refine v_goto C 70 (by decide) dX4_adjust_39 ?_
        refine v_loc [1, 2, 3] rfl ?_
        exact tb_X4_adjust_70 l S n R o0 o1 h0 h1 C hr K (fun x2 M => L_X4_adjust_2 o0 o1  K k x2 M) (ih) (x2) M7 h
set_option maxRecDepth 20000 in
theorem con_X4_adjust (l : Launch) (S : XS) (n : Nat) (R : Rfs) (o0 : Nat) (o1 : Nat) (h0 : isPress n R o0) (h1 : isPlan n R o1) (M : Mem) (K : Mem → Prop) (h : wp_X4_adjust o0 o1 M K) : CV l yX4_adjust cX4_adjust 4 rmX4_adjust S n R [.ref (XB S + o0), .ref (XB S + o1)] M K := by
  refine conV (lv := [(0, .ref (XB S + o0)), (1, .ref (XB S + o1))]) (by decide) (Nat.le_of_ble_eq_true rfl) rfl ?_
  intro p e s m args below meth c C hr
  replace C : Cx p m meth c s args cX4_adjust RX4 4 S := C
  refine v_iconst C kc_1 dX4_adjust_0 ?_
  refine v_istoren (lv' := [(2, .int (1 : Int32)), (0, .ref (XB S + o0)), (1, .ref (XB S + o1))]) C rfl rfl (Nat.le_of_ble_eq_true rfl) dX4_adjust_1 ?_
  refine v_loc [1, 2, 0] rfl ?_
  obtain ⟨k1, h⟩ := h
  exact tl_X4_adjust_2 l S n R o0 o1 h0 h1 C hr K   k1 ((1 : Int32)) M h
abbrev rmX4_breakOff : Room := { frames := 1, cells := 0, slots := 0, locals := 23 }
def wp_X4_breakOff (o0 : Nat) (M : Mem) (K : Mem → Prop) : Prop := (∀ M1 : Mem, M1 = mw M o0 8 (0 : Int32) → (∀ M2 : Mem, M2 = mw M1 o0 12 ((M1 o0 12) + (M1 (o0 + 5) 5)) → (∀ M3 : Mem, M3 = mw M2 (o0 + 5) 5 (0 : Int32) → wp_J7_fill_53178 (o0 + 4) 32 ((0 : Int32)) M3 (fun M4 => K M4))))
set_option maxRecDepth 20000 in
theorem con_X4_breakOff (l : Launch) (S : XS) (n : Nat) (R : Rfs) (o0 : Nat) (h0 : isPress n R o0) (M : Mem) (K : Mem → Prop) (h : wp_X4_breakOff o0 M K) : CV l yX4_breakOff cX4_breakOff 1 rmX4_breakOff S n R [.ref (XB S + o0)] M K := by
  refine conV (lv := [(0, .ref (XB S + o0))]) (by decide) (Nat.le_of_ble_eq_true rfl) rfl ?_
  intro p e s m args below meth c C hr
  replace C : Cx p m meth c s args cX4_breakOff RX4 1 S := C
  refine v_aloadn C 0 rfl rfl dX4_breakOff_0 ?_
  refine v_iconst C kc_0 dX4_breakOff_1 ?_
  refine v_putb C fr_X4_58 (iPress_s0 h0) (iPress_l0 h0) rfl isB0 dX4_breakOff_2 (fun M1 e1 => ?_)
  replace h := h M1 e1
  refine v_aloadn C 0 rfl rfl dX4_breakOff_5 ?_
  refine v_dup C rfl dX4_breakOff_6 ?_
  refine v_geti C fr_X4_71 (iPress_s0 h0) (iPress_l0 h0) rfl dX4_breakOff_7 ?_
  refine v_aloadn C 0 rfl rfl dX4_breakOff_10 ?_
  refine v_getr (o' := (o0 + 5)) C fr_X4_27 (iPress_s0 h0) (iPress_l0 h0) rfl (iPress_r4 h0) dX4_breakOff_11 ?_
  refine v_geti C fr_X4_132 (iBand_s0 (iPress_x h0)) (iBand_l0 (iPress_x h0)) rfl dX4_breakOff_14 ?_
  refine v_iadd C dX4_breakOff_17 ?_
  refine v_puti C fr_X4_71 (iPress_s0 h0) (iPress_l0 h0) rfl dX4_breakOff_18 (fun M2 e2 => ?_)
  replace h := h M2 e2
  refine v_aloadn C 0 rfl rfl dX4_breakOff_21 ?_
  refine v_getr (o' := (o0 + 5)) C fr_X4_27 (iPress_s0 h0) (iPress_l0 h0) rfl (iPress_r4 h0) dX4_breakOff_22 ?_
  refine v_iconst C kc_0 dX4_breakOff_25 ?_
  refine v_puti C fr_X4_132 (iBand_s0 (iPress_x h0)) (iBand_l0 (iPress_x h0)) rfl dX4_breakOff_26 (fun M3 e3 => ?_)
  replace h := h M3 e3
  refine v_aloadn C 0 rfl rfl dX4_breakOff_29 ?_
  refine v_getr (o' := (o0 + 4)) C fr_X4_21 (iPress_s0 h0) (iPress_l0 h0) rfl (iPress_r3 h0) dX4_breakOff_30 ?_
  refine v_iconst C kc_0 dX4_breakOff_33 ?_
  refine v_csV (As := [.ref (XB S + (o0 + 4)), .int (0 : Int32)]) C ms_X4_31 (con_J7_fill_53178 l S n R (o0 + 4) 32 ((0 : Int32)) (iPress_s4 h0) (iPress_l4 h0) _ _ h) rfl ⟨(Nat.le_of_ble_eq_true rfl), (Nat.le_of_ble_eq_true rfl)⟩ ⟨rfl, rfl, Nat.zero_le _, Nat.zero_le _⟩ (Nat.le_of_ble_eq_true rfl) dX4_breakOff_34 (fun M4 h => ?_)
  exact v_vret C hr dX4_breakOff_37 h
abbrev rmX4_nextReel : Room := { frames := 1, cells := 0, slots := 0, locals := 21 }
def wp_X4_nextReel (o0 : Nat) (o1 : Nat) (M : Mem) (K : Int32 → Mem → Prop) : Prop := ((M o0 5) = (-9 : Int32) → K (-9 : Int32) M) ∧ (¬ (M o0 5) = (-9 : Int32) → wp_X3_hasReel o1 (((M o0 5) + (1 : Int32))) M (fun r2 M2 => (r2 = 0 → K (-9 : Int32) M2) ∧ (¬ r2 = 0 → K ((M2 o0 5) + (1 : Int32)) M2)))
set_option maxRecDepth 20000 in
theorem con_X4_nextReel (l : Launch) (S : XS) (n : Nat) (R : Rfs) (o0 : Nat) (o1 : Nat) (h0 : isPress n R o0) (h1 : isPlan n R o1) (M : Mem) (K : Int32 → Mem → Prop) (h : wp_X4_nextReel o0 o1 M K) : CI l yX4_nextReel cX4_nextReel 2 (some .int) rmX4_nextReel S n R [.ref (XB S + o0), .ref (XB S + o1)] M K := by
  refine conI (lv := [(0, .ref (XB S + o0)), (1, .ref (XB S + o1))]) (by decide) (Nat.le_of_ble_eq_true rfl) rfl ?_
  intro p e s m args below meth c C hr
  replace C : Cx p m meth c s args cX4_nextReel RX4 2 S := C
  refine v_aloadn C 0 rfl rfl dX4_nextReel_0 ?_
  refine v_geti C fr_X4_46 (iPress_s0 h0) (iPress_l0 h0) rfl dX4_nextReel_1 ?_
  refine v_bipush C kb_m9 dX4_nextReel_4 ?_
  refine v_icmp_eq C 31 (by decide) dX4_nextReel_6 (fun c1 => ?_) (fun c1 => ?_)
  · replace h := h.1 c1
    refine v_bipush C kb_m9 dX4_nextReel_31 ?_
    exact v_iret C hr dX4_nextReel_33 h
  · replace h := h.2 c1
    refine v_aloadn C 1 rfl rfl dX4_nextReel_9 ?_
    refine v_aloadn C 0 rfl rfl dX4_nextReel_10 ?_
    refine v_geti C fr_X4_46 (iPress_s0 h0) (iPress_l0 h0) rfl dX4_nextReel_11 ?_
    refine v_iconst C kc_1 dX4_nextReel_14 ?_
    refine v_iadd C dX4_nextReel_15 ?_
    refine v_cvI (As := [.int ((M o0 5) + (1 : Int32))]) C mv_X4_87 (con_X3_hasReel l S n R o1 (((M o0 5) + (1 : Int32))) h1 _ _ h) (iPlan_s0 h1) (iPlan_l0 h1) rfl ⟨(Nat.le_of_ble_eq_true rfl), (Nat.le_of_ble_eq_true rfl)⟩ ⟨rfl, rfl, Nat.zero_le _, Nat.zero_le _⟩ (Nat.le_of_ble_eq_true rfl) dX4_nextReel_16 (fun r2 M2 h => ?_)
    refine v_if_eq C 31 (by decide) dX4_nextReel_19 (fun c3 => ?_) (fun c3 => ?_)
    · replace h := h.1 c3
      refine v_bipush C kb_m9 dX4_nextReel_31 ?_
      exact v_iret C hr dX4_nextReel_33 h
    · replace h := h.2 c3
      refine v_aloadn C 0 rfl rfl dX4_nextReel_22 ?_
      refine v_geti C fr_X4_46 (iPress_s0 h0) (iPress_l0 h0) rfl dX4_nextReel_23 ?_
      refine v_iconst C kc_1 dX4_nextReel_26 ?_
      refine v_iadd C dX4_nextReel_27 ?_
      refine v_goto C 33 (by decide) dX4_nextReel_28 ?_
      exact v_iret C hr dX4_nextReel_33 h
abbrev rmX4_canPaste : Room := { frames := 2, cells := 0, slots := 0, locals := 42 }
def wp_X4_canPaste (o0 : Nat) (o1 : Nat) (M : Mem) (K : Int32 → Mem → Prop) : Prop := wp_X4_nextReel o0 o1 M (fun r1 M1 => (r1 = (-9 : Int32) → K (0 : Int32) M1) ∧ (¬ r1 = (-9 : Int32) → ((M1 o0 7) < (M1 o1 9) → K (0 : Int32) M1) ∧ (¬ (M1 o0 7) < (M1 o1 9) → K (1 : Int32) M1)))
set_option maxRecDepth 20000 in
theorem con_X4_canPaste (l : Launch) (S : XS) (n : Nat) (R : Rfs) (o0 : Nat) (o1 : Nat) (h0 : isPress n R o0) (h1 : isPlan n R o1) (M : Mem) (K : Int32 → Mem → Prop) (h : wp_X4_canPaste o0 o1 M K) : CI l yX4_canPaste cX4_canPaste 2 (some .boolean) rmX4_canPaste S n R [.ref (XB S + o0), .ref (XB S + o1)] M K := by
  refine conI (lv := [(0, .ref (XB S + o0)), (1, .ref (XB S + o1))]) (by decide) (Nat.le_of_ble_eq_true rfl) rfl ?_
  intro p e s m args below meth c C hr
  replace C : Cx p m meth c s args cX4_canPaste RX4 2 S := C
  refine v_aloadn C 0 rfl rfl dX4_canPaste_0 ?_
  refine v_aloadn C 1 rfl rfl dX4_canPaste_1 ?_
  refine v_cvI (As := [.ref (XB S + o1)]) C mv_X4_141 (con_X4_nextReel l S n R o0 o1 h0 h1 _ _ h) (iPress_s0 h0) (iPress_l0 h0) rfl ⟨(Nat.le_of_ble_eq_true rfl), (Nat.le_of_ble_eq_true rfl)⟩ ⟨rfl, rfl, Nat.zero_le _, Nat.zero_le _⟩ (Nat.le_of_ble_eq_true rfl) dX4_canPaste_2 (fun r1 M1 h => ?_)
  refine v_bipush C kb_m9 dX4_canPaste_5 ?_
  refine v_icmp_eq C 25 (by decide) dX4_canPaste_7 (fun c2 => ?_) (fun c2 => ?_)
  · replace h := h.1 c2
    refine v_iconst C kc_0 dX4_canPaste_25 ?_
    exact v_zret C isB0 hr dX4_canPaste_26 h
  · replace h := h.2 c2
    refine v_aloadn C 0 rfl rfl dX4_canPaste_10 ?_
    refine v_geti C fr_X4_55 (iPress_s0 h0) (iPress_l0 h0) rfl dX4_canPaste_11 ?_
    refine v_aloadn C 1 rfl rfl dX4_canPaste_14 ?_
    refine v_geti C fr_X4_145 (iPlan_s0 h1) (iPlan_l0 h1) rfl dX4_canPaste_15 ?_
    refine v_icmp_lt C 25 (by decide) dX4_canPaste_18 (fun c3 => ?_) (fun c3 => ?_)
    · replace h := h.1 c3
      refine v_iconst C kc_0 dX4_canPaste_25 ?_
      exact v_zret C isB0 hr dX4_canPaste_26 h
    · replace h := h.2 c3
      refine v_iconst C kc_1 dX4_canPaste_21 ?_
      refine v_goto C 26 (by decide) dX4_canPaste_22 ?_
      exact v_zret C isB1 hr dX4_canPaste_26 h
abbrev rmX4_judge : Room := { frames := 3, cells := 0, slots := 0, locals := 57 }
def wp_X4_judge (o0 : Nat) (o1 : Nat) (M : Mem) (K : Mem → Prop) : Prop := wp_X0_come (o0 + 5) ((M o1 7)) M (fun M1 => ((M1 (o0 + 5) 9) = 0 → (∀ M3 : Mem, M3 = mw M1 o0 12 ((M1 o0 12) + (1 : Int32)) → K M3)) ∧ (¬ (M1 (o0 + 5) 9) = 0 → (∀ M4 : Mem, M4 = mw M1 o0 11 ((M1 o0 11) + (1 : Int32)) → K M4)))
set_option maxRecDepth 20000 in
theorem con_X4_judge (l : Launch) (S : XS) (n : Nat) (R : Rfs) (o0 : Nat) (o1 : Nat) (h0 : isPress n R o0) (h1 : isPlan n R o1) (M : Mem) (K : Mem → Prop) (h : wp_X4_judge o0 o1 M K) : CV l yX4_judge cX4_judge 2 rmX4_judge S n R [.ref (XB S + o0), .ref (XB S + o1)] M K := by
  refine conV (lv := [(0, .ref (XB S + o0)), (1, .ref (XB S + o1))]) (by decide) (Nat.le_of_ble_eq_true rfl) rfl ?_
  intro p e s m args below meth c C hr
  replace C : Cx p m meth c s args cX4_judge RX4 2 S := C
  refine v_aloadn C 0 rfl rfl dX4_judge_0 ?_
  refine v_getr (o' := (o0 + 5)) C fr_X4_27 (iPress_s0 h0) (iPress_l0 h0) rfl (iPress_r4 h0) dX4_judge_1 ?_
  refine v_aloadn C 1 rfl rfl dX4_judge_4 ?_
  refine v_geti C fr_X4_157 (iPlan_s0 h1) (iPlan_l0 h1) rfl dX4_judge_5 ?_
  refine v_cvV (As := [.int (M o1 7)]) C mv_X4_160 (con_X0_come l S n R (o0 + 5) ((M o1 7)) (iPress_x h0) _ _ h) (iBand_s0 (iPress_x h0)) (iBand_l0 (iPress_x h0)) rfl ⟨(Nat.le_of_ble_eq_true rfl), (Nat.le_of_ble_eq_true rfl)⟩ ⟨rfl, rfl, Nat.zero_le _, Nat.zero_le _⟩ (Nat.le_of_ble_eq_true rfl) dX4_judge_8 (fun M1 h => ?_)
  refine v_aloadn C 0 rfl rfl dX4_judge_11 ?_
  refine v_getr (o' := (o0 + 5)) C fr_X4_27 (iPress_s0 h0) (iPress_l0 h0) rfl (iPress_r4 h0) dX4_judge_12 ?_
  refine v_geti C fr_X4_164 (iBand_s0 (iPress_x h0)) (iBand_l0 (iPress_x h0)) rfl dX4_judge_15 ?_
  refine v_if_eq C 34 (by decide) dX4_judge_18 (fun c2 => ?_) (fun c2 => ?_)
  · replace h := h.1 c2
    refine v_aloadn C 0 rfl rfl dX4_judge_34 ?_
    refine v_dup C rfl dX4_judge_35 ?_
    refine v_geti C fr_X4_71 (iPress_s0 h0) (iPress_l0 h0) rfl dX4_judge_36 ?_
    refine v_iconst C kc_1 dX4_judge_39 ?_
    refine v_iadd C dX4_judge_40 ?_
    refine v_puti C fr_X4_71 (iPress_s0 h0) (iPress_l0 h0) rfl dX4_judge_41 (fun M3 e3 => ?_)
    replace h := h M3 e3
    exact v_vret C hr dX4_judge_44 h
  · replace h := h.2 c2
    refine v_aloadn C 0 rfl rfl dX4_judge_21 ?_
    refine v_dup C rfl dX4_judge_22 ?_
    refine v_geti C fr_X4_68 (iPress_s0 h0) (iPress_l0 h0) rfl dX4_judge_23 ?_
    refine v_iconst C kc_1 dX4_judge_26 ?_
    refine v_iadd C dX4_judge_27 ?_
    refine v_puti C fr_X4_68 (iPress_s0 h0) (iPress_l0 h0) rfl dX4_judge_28 (fun M4 e4 => ?_)
    replace h := h M4 e4
    refine v_goto C 44 (by decide) dX4_judge_31 ?_
    exact v_vret C hr dX4_judge_44 h
abbrev rmX4_mountNext : Room := { frames := 2, cells := 0, slots := 0, locals := 42 }
def wp_X4_mountNext (o0 : Nat) (o1 : Nat) (M : Mem) (K : Mem → Prop) : Prop := wp_X4_nextReel o0 o1 M (fun r1 M1 => (r1 = (-9 : Int32) → K M1) ∧ (¬ r1 = (-9 : Int32) → (∀ M3 : Mem, M3 = mw M1 o0 5 r1 → vp_in r1 8 ∧ ((∀ M4 : Mem, M4 = mw M3 o0 6 (M3 (o1 + 3) (ix r1)) → (∀ M5 : Mem, M5 = mw M4 o0 7 (0 : Int32) → K M5))))))
set_option maxRecDepth 20000 in
theorem con_X4_mountNext (l : Launch) (S : XS) (n : Nat) (R : Rfs) (o0 : Nat) (o1 : Nat) (h0 : isPress n R o0) (h1 : isPlan n R o1) (M : Mem) (K : Mem → Prop) (h : wp_X4_mountNext o0 o1 M K) : CV l yX4_mountNext cX4_mountNext 3 rmX4_mountNext S n R [.ref (XB S + o0), .ref (XB S + o1)] M K := by
  refine conV (lv := [(0, .ref (XB S + o0)), (1, .ref (XB S + o1))]) (by decide) (Nat.le_of_ble_eq_true rfl) rfl ?_
  intro p e s m args below meth c C hr
  replace C : Cx p m meth c s args cX4_mountNext RX4 3 S := C
  refine v_aloadn C 0 rfl rfl dX4_mountNext_0 ?_
  refine v_aloadn C 1 rfl rfl dX4_mountNext_1 ?_
  refine v_cvI (As := [.ref (XB S + o1)]) C mv_X4_141 (con_X4_nextReel l S n R o0 o1 h0 h1 _ _ h) (iPress_s0 h0) (iPress_l0 h0) rfl ⟨(Nat.le_of_ble_eq_true rfl), (Nat.le_of_ble_eq_true rfl)⟩ ⟨rfl, rfl, Nat.zero_le _, Nat.zero_le _⟩ (Nat.le_of_ble_eq_true rfl) dX4_mountNext_2 (fun r1 M1 h => ?_)
  refine v_istoren (lv' := [(2, .int r1), (0, .ref (XB S + o0)), (1, .ref (XB S + o1))]) C rfl rfl (Nat.le_of_ble_eq_true rfl) dX4_mountNext_5 ?_
  refine v_iloadn C 0 rfl rfl dX4_mountNext_6 ?_
  refine v_bipush C kb_m9 dX4_mountNext_7 ?_
  refine v_icmp_eq C 32 (by decide) dX4_mountNext_9 (fun c2 => ?_) (fun c2 => ?_)
  · replace h := h.1 c2
    exact v_vret C hr dX4_mountNext_32 h
  · replace h := h.2 c2
    refine v_aloadn C 1 rfl rfl dX4_mountNext_12 ?_
    refine v_iloadn C 0 rfl rfl dX4_mountNext_13 ?_
    refine v_puti C fr_X4_46 (iPress_s0 h0) (iPress_l0 h0) rfl dX4_mountNext_14 (fun M3 e3 => ?_)
    replace h := h M3 e3
    refine v_aloadn C 1 rfl rfl dX4_mountNext_17 ?_
    refine v_aloadn C 2 rfl rfl dX4_mountNext_18 ?_
    refine v_getr (o' := (o1 + 3)) C fr_X4_49 (iPlan_s0 h1) (iPlan_l0 h1) rfl (iPlan_r2 h1) dX4_mountNext_19 ?_
    refine v_iloadn C 0 rfl rfl dX4_mountNext_22 ?_
    refine v_ald C (iPlan_s3 h1) (iPlan_l3 h1) h.1 dX4_mountNext_23 ?_
    replace h := h.2
    refine v_puti C fr_X4_52 (iPress_s0 h0) (iPress_l0 h0) rfl dX4_mountNext_24 (fun M4 e4 => ?_)
    replace h := h M4 e4
    refine v_aloadn C 1 rfl rfl dX4_mountNext_27 ?_
    refine v_iconst C kc_0 dX4_mountNext_28 ?_
    refine v_puti C fr_X4_55 (iPress_s0 h0) (iPress_l0 h0) rfl dX4_mountNext_29 (fun M5 e5 => ?_)
    replace h := h M5 e5
    exact v_vret C hr dX4_mountNext_32 h
abbrev rmX4_print : Room := { frames := 2, cells := 0, slots := 0, locals := 47 }
def L_X4_print_2 (o0 : Nat) (o1 : Nat)  (K : Mem → Prop) : Nat → Int32 → Mem → Prop
  | 0, _, _ => False
  | k + 1, x2, M => ((M o1 4) ≤ x2 → K M) ∧ (¬ (M o1 4) ≤ x2 → wp_X4_passPlace (x2) ((M o0 10)) M (fun r3 M3 => vp_in x2 4 ∧ (vp_in r3 32 ∧ (vp_in x2 4 ∧ (∀ M4 : Mem, M4 = mw M3 (o0 + 2) (ix x2) ((M3 (o0 + 2) (ix x2)) + (M3 (o0 + 4) (ix r3))) → vp_in r3 32 ∧ (∀ M5 : Mem, M5 = mw M4 (o0 + 4) (ix r3) (0 : Int32) → vp_in x2 4 ∧ (vp_in x2 4 ∧ (vp_in x2 4 ∧ (wp_X0_print (o0 + 5) ((M5 (o1 + 2) (ix x2))) (x2) ((M5 (o0 + 1) (ix x2))) ((M5 (o0 + 2) (ix x2))) M5 (fun M6 => L_X4_print_2 o0 o1  K k (x2 + (1 : Int32)) M6))))))))))
def wp_X4_print (o0 : Nat) (o1 : Nat) (M : Mem) (K : Mem → Prop) : Prop := ∃ j1 : Nat, L_X4_print_2 o0 o1 K j1 ((1 : Int32)) M
set_option maxRecDepth 20000 in
theorem tl_X4_print_2 {p : Program} {e : Env} {s : State} {m : MethodId} {args : Array Value} {below : List Frame} {meth : Method} {c : Code} (l : Launch) (S : XS) (n : Nat) (R : Rfs) (o0 : Nat) (o1 : Nat) (h0 : isPress n R o0) (h1 : isPlan n R o1) (C : Cx p m meth c s args cX4_print RX4 4 S) (hr : meth.sig.returnType = none) (K : Mem → Prop)   (k : Nat) : ∀ (x2 : Int32) (M : Mem), L_X4_print_2 o0 o1  K k x2 M → V p l e rmX4_print s m args below meth c (MQ below (va_Qv K (XPost S n R) (XA S)) args s 0 0 (XA S)) S 4 0 0 n M R 2 [(0, .ref (XB S + o0)), (1, .ref (XB S + o1)), (2, .int x2)] [] := by
  induction k with
  | zero => intro x2 M h; exact h.elim
  | succ k ih =>
    intro x2 M h
    refine v_iloadn C 2 rfl rfl dX4_print_2 ?_
    refine v_aloadn C 1 rfl rfl dX4_print_3 ?_
    refine v_geti C fr_X4_148 (iPlan_s0 h1) (iPlan_l0 h1) rfl dX4_print_4 ?_
    refine v_icmp_ge C 73 (by decide) dX4_print_7 (fun c2 => ?_) (fun c2 => ?_)
    · replace h := h.1 c2
      exact v_vret C hr dX4_print_73 h
    · replace h := h.2 c2
      refine v_iloadn C 2 rfl rfl dX4_print_10 ?_
      refine v_aloadn C 0 rfl rfl dX4_print_11 ?_
      refine v_geti C fr_X4_65 (iPress_s0 h0) (iPress_l0 h0) rfl dX4_print_12 ?_
      refine v_csI (As := [.int x2, .int (M o0 10)]) C ms_X4_91 (con_X4_passPlace l S n R (x2) ((M o0 10))  _ _ h) rfl ⟨(Nat.le_of_ble_eq_true rfl), (Nat.le_of_ble_eq_true rfl)⟩ ⟨rfl, rfl, Nat.zero_le _, Nat.zero_le _⟩ (Nat.le_of_ble_eq_true rfl) dX4_print_15 (fun r3 M3 h => ?_)
      refine v_istoren (lv' := [(3, .int r3), (0, .ref (XB S + o0)), (1, .ref (XB S + o1)), (2, .int x2)]) C rfl rfl (Nat.le_of_ble_eq_true rfl) dX4_print_18 ?_
      refine v_aloadn C 1 rfl rfl dX4_print_19 ?_
      refine v_getr (o' := (o0 + 2)) C fr_X4_15 (iPress_s0 h0) (iPress_l0 h0) rfl (iPress_r1 h0) dX4_print_20 ?_
      refine v_iloadn C 3 rfl rfl dX4_print_23 ?_
      refine v_dup2 C rfl rfl dX4_print_24 ?_
      refine v_ald C (iPress_s2 h0) (iPress_l2 h0) h.1 dX4_print_25 ?_
      replace h := h.2
      refine v_aloadn C 1 rfl rfl dX4_print_26 ?_
      refine v_getr (o' := (o0 + 4)) C fr_X4_21 (iPress_s0 h0) (iPress_l0 h0) rfl (iPress_r3 h0) dX4_print_27 ?_
      refine v_iloadn C 0 rfl rfl dX4_print_30 ?_
      refine v_ald C (iPress_s4 h0) (iPress_l4 h0) h.1 dX4_print_31 ?_
      replace h := h.2
      refine v_iadd C dX4_print_32 ?_
      have hi4 := h.1
      replace h := h.2
      refine v_ast C (iPress_s2 h0) (iPress_l2 h0) hi4 dX4_print_33 (fun M4 e4 => ?_)
      replace h := h M4 e4
      refine v_aloadn C 1 rfl rfl dX4_print_34 ?_
      refine v_getr (o' := (o0 + 4)) C fr_X4_21 (iPress_s0 h0) (iPress_l0 h0) rfl (iPress_r3 h0) dX4_print_35 ?_
      refine v_iloadn C 0 rfl rfl dX4_print_38 ?_
      refine v_iconst C kc_0 dX4_print_39 ?_
      have hi5 := h.1
      replace h := h.2
      refine v_ast C (iPress_s4 h0) (iPress_l4 h0) hi5 dX4_print_40 (fun M5 e5 => ?_)
      replace h := h M5 e5
      refine v_aloadn C 1 rfl rfl dX4_print_41 ?_
      refine v_getr (o' := (o0 + 5)) C fr_X4_27 (iPress_s0 h0) (iPress_l0 h0) rfl (iPress_r4 h0) dX4_print_42 ?_
      refine v_aloadn C 2 rfl rfl dX4_print_45 ?_
      refine v_getr (o' := (o1 + 2)) C fr_X4_151 (iPlan_s0 h1) (iPlan_l0 h1) rfl (iPlan_r1 h1) dX4_print_46 ?_
      refine v_iloadn C 3 rfl rfl dX4_print_49 ?_
      refine v_ald C (iPlan_s2 h1) (iPlan_l2 h1) h.1 dX4_print_50 ?_
      replace h := h.2
      refine v_iloadn C 3 rfl rfl dX4_print_51 ?_
      refine v_aloadn C 1 rfl rfl dX4_print_52 ?_
      refine v_getr (o' := (o0 + 1)) C fr_X4_9 (iPress_s0 h0) (iPress_l0 h0) rfl (iPress_r0 h0) dX4_print_53 ?_
      refine v_iloadn C 3 rfl rfl dX4_print_56 ?_
      refine v_ald C (iPress_s1 h0) (iPress_l1 h0) h.1 dX4_print_57 ?_
      replace h := h.2
      refine v_aloadn C 1 rfl rfl dX4_print_58 ?_
      refine v_getr (o' := (o0 + 2)) C fr_X4_15 (iPress_s0 h0) (iPress_l0 h0) rfl (iPress_r1 h0) dX4_print_59 ?_
      refine v_iloadn C 3 rfl rfl dX4_print_62 ?_
      refine v_ald C (iPress_s2 h0) (iPress_l2 h0) h.1 dX4_print_63 ?_
      replace h := h.2
      refine v_cvV (As := [.int (M5 (o1 + 2) (ix x2)), .int x2, .int (M5 (o0 + 1) (ix x2)), .int (M5 (o0 + 2) (ix x2))]) C mv_X4_154 (con_X0_print l S n R (o0 + 5) ((M5 (o1 + 2) (ix x2))) (x2) ((M5 (o0 + 1) (ix x2))) ((M5 (o0 + 2) (ix x2))) (iPress_x h0) _ _ h) (iBand_s0 (iPress_x h0)) (iBand_l0 (iPress_x h0)) rfl ⟨(Nat.le_of_ble_eq_true rfl), (Nat.le_of_ble_eq_true rfl)⟩ ⟨rfl, rfl, Nat.zero_le _, Nat.zero_le _⟩ (Nat.le_of_ble_eq_true rfl) dX4_print_64 (fun M6 h => ?_)
      refine v_iinc (lv' := [(2, .int (x2 + (1 : Int32))), (3, .int r3), (0, .ref (XB S + o0)), (1, .ref (XB S + o1))]) C 3 rfl kc_1 rfl rfl (Nat.le_of_ble_eq_true rfl) dX4_print_67 ?_
      refine v_goto C 2 (by decide) dX4_print_70 ?_
      refine v_loc [2, 3, 0] rfl ?_
      exact ih ((x2 + (1 : Int32))) M6 h
set_option maxRecDepth 20000 in
theorem con_X4_print (l : Launch) (S : XS) (n : Nat) (R : Rfs) (o0 : Nat) (o1 : Nat) (h0 : isPress n R o0) (h1 : isPlan n R o1) (M : Mem) (K : Mem → Prop) (h : wp_X4_print o0 o1 M K) : CV l yX4_print cX4_print 4 rmX4_print S n R [.ref (XB S + o0), .ref (XB S + o1)] M K := by
  refine conV (lv := [(0, .ref (XB S + o0)), (1, .ref (XB S + o1))]) (by decide) (Nat.le_of_ble_eq_true rfl) rfl ?_
  intro p e s m args below meth c C hr
  replace C : Cx p m meth c s args cX4_print RX4 4 S := C
  refine v_iconst C kc_1 dX4_print_0 ?_
  refine v_istoren (lv' := [(2, .int (1 : Int32)), (0, .ref (XB S + o0)), (1, .ref (XB S + o1))]) C rfl rfl (Nat.le_of_ble_eq_true rfl) dX4_print_1 ?_
  refine v_loc [1, 2, 0] rfl ?_
  obtain ⟨k1, h⟩ := h
  exact tl_X4_print_2 l S n R o0 o1 h0 h1 C hr K   k1 ((1 : Int32)) M h
abbrev rmX4_tick : Room := { frames := 4, cells := 0, slots := 0, locals := 78 }
def wp_X4_tick_138 (o0 : Nat) (o1 : Nat)  (K : Int32 → Mem → Prop) (x3 : Int32) (M : Mem) : Prop := ((M o0 7) ≤ 0 → (isB x3 ∧ K x3 M)) ∧ (¬ (M o0 7) ≤ 0 → (∀ M20 : Mem, M20 = mw M o0 7 ((M o0 7) + (1 : Int32)) → (isB x3 ∧ K x3 M20)))
def wp_X4_tick_123 (o0 : Nat) (o1 : Nat)  (K : Int32 → Mem → Prop) (y0 : Int32) (M : Mem) : Prop := (y0 = 0 → wp_X4_tick_138 o0 o1  K (y0) M) ∧ (¬ y0 = 0 → wp_X4_judge o0 o1 M (fun M17 => wp_X4_adjust o0 o1 M17 (fun M18 => wp_X4_tick_138 o0 o1  K (y0) M18)))
def wp_X4_tick_94 (o0 : Nat) (o1 : Nat)  (K : Int32 → Mem → Prop) (x2 y0 : Int32) (M : Mem) : Prop := wp_X0_begin (o0 + 5) (y0) (x2) M (fun M12 => wp_X4_print o0 o1 M12 (fun M13 => wp_X3_ticksToCameraFrom o1 ((0 : Int32)) M13 (fun r14 M14 => ((M13 (o0 + 5) 5) ≤ r14 → wp_X4_tick_123 o0 o1  K ((0 : Int32)) M14) ∧ (¬ (M13 (o0 + 5) 5) ≤ r14 → wp_X4_tick_123 o0 o1  K ((1 : Int32)) M14))))
def wp_X4_tick_56 (o0 : Nat) (o1 : Nat)  (K : Int32 → Mem → Prop) (x2 : Int32) (M : Mem) : Prop := (∀ M9 : Mem, M9 = mw M o0 6 ((M o0 6) - (1 : Int32)) → wp_X3_hasReel o1 ((M9 o0 5)) M9 (fun r10 M10 => (r10 = 0 → wp_X4_tick_94 o0 o1  K (x2) ((0 : Int32)) M10) ∧ (¬ r10 = 0 → vp_in (M10 o0 5) 8 ∧ (wp_X4_tick_94 o0 o1  K (x2) ((M10 (o1 + 4) (ix (M10 o0 5)))) M10))))
def wp_X4_tick_22 (o0 : Nat) (o1 : Nat)  (K : Int32 → Mem → Prop) (y0 : Int32) (M : Mem) : Prop := (y0 = 0 → wp_X4_tick_56 o0 o1  K (y0) M) ∧ (¬ y0 = 0 → wp_X4_canPaste o0 o1 M (fun r4 M4 => (¬ r4 = 0 → wp_X4_mountNext o0 o1 M4 (fun M6 => (∀ M7 : Mem, M7 = mw M6 o0 13 ((M6 o0 13) + (1 : Int32)) → wp_X4_tick_56 o0 o1  K (y0) M7))) ∧ (r4 = 0 → wp_X4_breakOff o0 M4 (fun M8 => K (0 : Int32) M8))))
def wp_X4_tick (o0 : Nat) (o1 : Nat) (M : Mem) (K : Int32 → Mem → Prop) : Prop := (∀ M1 : Mem, M1 = mw M o0 10 ((M o0 10) + (1 : Int32)) → (¬ (M1 o0 6) = 0 → wp_X4_tick_22 o0 o1 K ((0 : Int32)) M1) ∧ ((M1 o0 6) = 0 → wp_X4_tick_22 o0 o1 K ((1 : Int32)) M1))
set_option maxRecDepth 20000 in
theorem tb_X4_tick_138 {p : Program} {e : Env} {s : State} {m : MethodId} {args : Array Value} {below : List Frame} {meth : Method} {c : Code} (l : Launch) (S : XS) (n : Nat) (R : Rfs) (o0 : Nat) (o1 : Nat) (h0 : isPress n R o0) (h1 : isPlan n R o1) (C : Cx p m meth c s args cX4_tick RX4 4 S) (hr : meth.sig.returnType = (some .boolean)) (K : Int32 → Mem → Prop)   (x3 : Int32) (M : Mem) (h : wp_X4_tick_138 o0 o1  K x3 M) : V p l e rmX4_tick s m args below meth c (MQ below (va_Qi K (XPost S n R) (XA S)) args s 0 0 (XA S)) S 4 0 0 n M R 138 [(0, .ref (XB S + o0)), (3, .int x3)] [] := by
  refine v_aloadn C 0 rfl rfl dX4_tick_138 ?_
  refine v_geti C fr_X4_55 (iPress_s0 h0) (iPress_l0 h0) rfl dX4_tick_139 ?_
  refine v_if_le C 155 (by decide) dX4_tick_142 (fun c19 => ?_) (fun c19 => ?_)
  · replace h := h.1 c19
    refine v_iloadn C 1 rfl rfl dX4_tick_155 ?_
    exact v_zret C h.1 hr dX4_tick_156 h.2
  · replace h := h.2 c19
    refine v_aloadn C 0 rfl rfl dX4_tick_145 ?_
    refine v_dup C rfl dX4_tick_146 ?_
    refine v_geti C fr_X4_55 (iPress_s0 h0) (iPress_l0 h0) rfl dX4_tick_147 ?_
    refine v_iconst C kc_1 dX4_tick_150 ?_
    refine v_iadd C dX4_tick_151 ?_
    refine v_puti C fr_X4_55 (iPress_s0 h0) (iPress_l0 h0) rfl dX4_tick_152 (fun M20 e20 => ?_)
    replace h := h M20 e20
    refine v_iloadn C 1 rfl rfl dX4_tick_155 ?_
    exact v_zret C h.1 hr dX4_tick_156 h.2
set_option maxRecDepth 20000 in
theorem tb_X4_tick_123 {p : Program} {e : Env} {s : State} {m : MethodId} {args : Array Value} {below : List Frame} {meth : Method} {c : Code} (l : Launch) (S : XS) (n : Nat) (R : Rfs) (o0 : Nat) (o1 : Nat) (h0 : isPress n R o0) (h1 : isPlan n R o1) (C : Cx p m meth c s args cX4_tick RX4 4 S) (hr : meth.sig.returnType = (some .boolean)) (K : Int32 → Mem → Prop)   (y0 : Int32) (M : Mem) (h : wp_X4_tick_123 o0 o1  K y0 M) : V p l e rmX4_tick s m args below meth c (MQ below (va_Qi K (XPost S n R) (XA S)) args s 0 0 (XA S)) S 4 0 0 n M R 123 [(0, .ref (XB S + o0)), (1, .ref (XB S + o1))] [.int y0] := by
  refine v_istoren (lv' := [(3, .int y0), (0, .ref (XB S + o0)), (1, .ref (XB S + o1))]) C rfl rfl (Nat.le_of_ble_eq_true rfl) dX4_tick_123 ?_
  refine v_iloadn C 0 rfl rfl dX4_tick_124 ?_
  refine v_if_eq C 138 (by decide) dX4_tick_125 (fun c16 => ?_) (fun c16 => ?_)
  · replace h := h.1 c16
    refine v_loc [1, 0] rfl ?_
    exact tb_X4_tick_138 l S n R o0 o1 h0 h1 C hr K   (y0) M h
  · replace h := h.2 c16
    refine v_aloadn C 1 rfl rfl dX4_tick_128 ?_
    refine v_aloadn C 2 rfl rfl dX4_tick_129 ?_
    refine v_cvV (As := [.ref (XB S + o1)]) C mv_X4_135 (con_X4_judge l S n R o0 o1 h0 h1 _ _ h) (iPress_s0 h0) (iPress_l0 h0) rfl ⟨(Nat.le_of_ble_eq_true rfl), (Nat.le_of_ble_eq_true rfl)⟩ ⟨rfl, rfl, Nat.zero_le _, Nat.zero_le _⟩ (Nat.le_of_ble_eq_true rfl) dX4_tick_130 (fun M17 h => ?_)
    refine v_aloadn C 1 rfl rfl dX4_tick_133 ?_
    refine v_aloadn C 2 rfl rfl dX4_tick_134 ?_
    refine v_cvV (As := [.ref (XB S + o1)]) C mv_X4_138 (con_X4_adjust l S n R o0 o1 h0 h1 _ _ h) (iPress_s0 h0) (iPress_l0 h0) rfl ⟨(Nat.le_of_ble_eq_true rfl), (Nat.le_of_ble_eq_true rfl)⟩ ⟨rfl, rfl, Nat.zero_le _, Nat.zero_le _⟩ (Nat.le_of_ble_eq_true rfl) dX4_tick_135 (fun M18 h => ?_)
    refine v_loc [1, 0] rfl ?_
    exact tb_X4_tick_138 l S n R o0 o1 h0 h1 C hr K   (y0) M18 h
set_option maxRecDepth 20000 in
theorem tb_X4_tick_94 {p : Program} {e : Env} {s : State} {m : MethodId} {args : Array Value} {below : List Frame} {meth : Method} {c : Code} (l : Launch) (S : XS) (n : Nat) (R : Rfs) (o0 : Nat) (o1 : Nat) (h0 : isPress n R o0) (h1 : isPlan n R o1) (C : Cx p m meth c s args cX4_tick RX4 4 S) (hr : meth.sig.returnType = (some .boolean)) (K : Int32 → Mem → Prop)   (x2 y0 : Int32) (M : Mem) (h : wp_X4_tick_94 o0 o1  K x2 y0 M) : V p l e rmX4_tick s m args below meth c (MQ below (va_Qi K (XPost S n R) (XA S)) args s 0 0 (XA S)) S 4 0 0 n M R 94 [(0, .ref (XB S + o0)), (1, .ref (XB S + o1)), (2, .int x2)] [.int y0, .ref (XB S + (o0 + 5))] := by
  refine v_iloadn C 2 rfl rfl dX4_tick_94 ?_
  refine v_cvV (As := [.int y0, .int x2]) C mv_X4_125 (con_X0_begin l S n R (o0 + 5) (y0) (x2) (iPress_x h0) _ _ h) (iBand_s0 (iPress_x h0)) (iBand_l0 (iPress_x h0)) rfl ⟨(Nat.le_of_ble_eq_true rfl), (Nat.le_of_ble_eq_true rfl)⟩ ⟨rfl, rfl, Nat.zero_le _, Nat.zero_le _⟩ (Nat.le_of_ble_eq_true rfl) dX4_tick_95 (fun M12 h => ?_)
  refine v_aloadn C 0 rfl rfl dX4_tick_98 ?_
  refine v_aloadn C 1 rfl rfl dX4_tick_99 ?_
  refine v_cvV (As := [.ref (XB S + o1)]) C mv_X4_129 (con_X4_print l S n R o0 o1 h0 h1 _ _ h) (iPress_s0 h0) (iPress_l0 h0) rfl ⟨(Nat.le_of_ble_eq_true rfl), (Nat.le_of_ble_eq_true rfl)⟩ ⟨rfl, rfl, Nat.zero_le _, Nat.zero_le _⟩ (Nat.le_of_ble_eq_true rfl) dX4_tick_100 (fun M13 h => ?_)
  refine v_aloadn C 0 rfl rfl dX4_tick_103 ?_
  refine v_getr (o' := (o0 + 5)) C fr_X4_27 (iPress_s0 h0) (iPress_l0 h0) rfl (iPress_r4 h0) dX4_tick_104 ?_
  refine v_geti C fr_X4_132 (iBand_s0 (iPress_x h0)) (iBand_l0 (iPress_x h0)) rfl dX4_tick_107 ?_
  refine v_aloadn C 1 rfl rfl dX4_tick_110 ?_
  refine v_iconst C kc_0 dX4_tick_111 ?_
  refine v_cvI (As := [.int (0 : Int32)]) C mv_X4_98 (con_X3_ticksToCameraFrom l S n R o1 ((0 : Int32)) h1 _ _ h) (iPlan_s0 h1) (iPlan_l0 h1) rfl ⟨(Nat.le_of_ble_eq_true rfl), (Nat.le_of_ble_eq_true rfl)⟩ ⟨rfl, rfl, Nat.zero_le _, Nat.zero_le _⟩ (Nat.le_of_ble_eq_true rfl) dX4_tick_112 (fun r14 M14 h => ?_)
  refine v_icmp_le C 122 (by decide) dX4_tick_115 (fun c15 => ?_) (fun c15 => ?_)
  · replace h := h.1 c15
    refine v_iconst C kc_0 dX4_tick_122 ?_
    refine v_loc [0, 1] rfl ?_
    exact tb_X4_tick_123 l S n R o0 o1 h0 h1 C hr K   ((0 : Int32)) M14 h
  · replace h := h.2 c15
    refine v_iconst C kc_1 dX4_tick_118 ?_
    refine v_goto C 123 (by decide) dX4_tick_119 ?_
    refine v_loc [0, 1] rfl ?_
    exact tb_X4_tick_123 l S n R o0 o1 h0 h1 C hr K   ((1 : Int32)) M14 h
set_option maxRecDepth 20000 in
theorem tb_X4_tick_56 {p : Program} {e : Env} {s : State} {m : MethodId} {args : Array Value} {below : List Frame} {meth : Method} {c : Code} (l : Launch) (S : XS) (n : Nat) (R : Rfs) (o0 : Nat) (o1 : Nat) (h0 : isPress n R o0) (h1 : isPlan n R o1) (C : Cx p m meth c s args cX4_tick RX4 4 S) (hr : meth.sig.returnType = (some .boolean)) (K : Int32 → Mem → Prop)   (x2 : Int32) (M : Mem) (h : wp_X4_tick_56 o0 o1  K x2 M) : V p l e rmX4_tick s m args below meth c (MQ below (va_Qi K (XPost S n R) (XA S)) args s 0 0 (XA S)) S 4 0 0 n M R 56 [(0, .ref (XB S + o0)), (1, .ref (XB S + o1)), (2, .int x2)] [] := by
  refine v_aloadn C 0 rfl rfl dX4_tick_56 ?_
  refine v_dup C rfl dX4_tick_57 ?_
  refine v_geti C fr_X4_52 (iPress_s0 h0) (iPress_l0 h0) rfl dX4_tick_58 ?_
  refine v_iconst C kc_1 dX4_tick_61 ?_
  refine v_isub C dX4_tick_62 ?_
  refine v_puti C fr_X4_52 (iPress_s0 h0) (iPress_l0 h0) rfl dX4_tick_63 (fun M9 e9 => ?_)
  replace h := h M9 e9
  refine v_aloadn C 0 rfl rfl dX4_tick_66 ?_
  refine v_getr (o' := (o0 + 5)) C fr_X4_27 (iPress_s0 h0) (iPress_l0 h0) rfl (iPress_r4 h0) dX4_tick_67 ?_
  refine v_aloadn C 1 rfl rfl dX4_tick_70 ?_
  refine v_aloadn C 0 rfl rfl dX4_tick_71 ?_
  refine v_geti C fr_X4_46 (iPress_s0 h0) (iPress_l0 h0) rfl dX4_tick_72 ?_
  refine v_cvI (As := [.int (M9 o0 5)]) C mv_X4_87 (con_X3_hasReel l S n R o1 ((M9 o0 5)) h1 _ _ h) (iPlan_s0 h1) (iPlan_l0 h1) rfl ⟨(Nat.le_of_ble_eq_true rfl), (Nat.le_of_ble_eq_true rfl)⟩ ⟨rfl, rfl, Nat.zero_le _, Nat.zero_le _⟩ (Nat.le_of_ble_eq_true rfl) dX4_tick_75 (fun r10 M10 h => ?_)
  refine v_if_eq C 93 (by decide) dX4_tick_78 (fun c11 => ?_) (fun c11 => ?_)
  · replace h := h.1 c11
    refine v_iconst C kc_0 dX4_tick_93 ?_
    exact tb_X4_tick_94 l S n R o0 o1 h0 h1 C hr K   (x2) ((0 : Int32)) M10 h
  · replace h := h.2 c11
    refine v_aloadn C 1 rfl rfl dX4_tick_81 ?_
    refine v_getr (o' := (o1 + 4)) C fr_X4_122 (iPlan_s0 h1) (iPlan_l0 h1) rfl (iPlan_r3 h1) dX4_tick_82 ?_
    refine v_aloadn C 0 rfl rfl dX4_tick_85 ?_
    refine v_geti C fr_X4_46 (iPress_s0 h0) (iPress_l0 h0) rfl dX4_tick_86 ?_
    refine v_ald C (iPlan_s4 h1) (iPlan_l4 h1) h.1 dX4_tick_89 ?_
    replace h := h.2
    refine v_goto C 94 (by decide) dX4_tick_90 ?_
    exact tb_X4_tick_94 l S n R o0 o1 h0 h1 C hr K   (x2) ((M10 (o1 + 4) (ix (M10 o0 5)))) M10 h
set_option maxRecDepth 20000 in
theorem tb_X4_tick_22 {p : Program} {e : Env} {s : State} {m : MethodId} {args : Array Value} {below : List Frame} {meth : Method} {c : Code} (l : Launch) (S : XS) (n : Nat) (R : Rfs) (o0 : Nat) (o1 : Nat) (h0 : isPress n R o0) (h1 : isPlan n R o1) (C : Cx p m meth c s args cX4_tick RX4 4 S) (hr : meth.sig.returnType = (some .boolean)) (K : Int32 → Mem → Prop)   (y0 : Int32) (M : Mem) (h : wp_X4_tick_22 o0 o1  K y0 M) : V p l e rmX4_tick s m args below meth c (MQ below (va_Qi K (XPost S n R) (XA S)) args s 0 0 (XA S)) S 4 0 0 n M R 22 [(0, .ref (XB S + o0)), (1, .ref (XB S + o1))] [.int y0] := by
  refine v_istoren (lv' := [(2, .int y0), (0, .ref (XB S + o0)), (1, .ref (XB S + o1))]) C rfl rfl (Nat.le_of_ble_eq_true rfl) dX4_tick_22 ?_
  refine v_iloadn C 0 rfl rfl dX4_tick_23 ?_
  refine v_if_eq C 56 (by decide) dX4_tick_24 (fun c3 => ?_) (fun c3 => ?_)
  · replace h := h.1 c3
    refine v_loc [1, 2, 0] rfl ?_
    exact tb_X4_tick_56 l S n R o0 o1 h0 h1 C hr K   (y0) M h
  · replace h := h.2 c3
    refine v_aloadn C 1 rfl rfl dX4_tick_27 ?_
    refine v_aloadn C 2 rfl rfl dX4_tick_28 ?_
    refine v_cvI (As := [.ref (XB S + o1)]) C mv_X4_112 (con_X4_canPaste l S n R o0 o1 h0 h1 _ _ h) (iPress_s0 h0) (iPress_l0 h0) rfl ⟨(Nat.le_of_ble_eq_true rfl), (Nat.le_of_ble_eq_true rfl)⟩ ⟨rfl, rfl, Nat.zero_le _, Nat.zero_le _⟩ (Nat.le_of_ble_eq_true rfl) dX4_tick_29 (fun r4 M4 h => ?_)
    refine v_if_ne C 41 (by decide) dX4_tick_32 (fun c5 => ?_) (fun c5 => ?_)
    · replace h := h.1 c5
      refine v_aloadn C 1 rfl rfl dX4_tick_41 ?_
      refine v_aloadn C 2 rfl rfl dX4_tick_42 ?_
      refine v_cvV (As := [.ref (XB S + o1)]) C mv_X4_118 (con_X4_mountNext l S n R o0 o1 h0 h1 _ _ h) (iPress_s0 h0) (iPress_l0 h0) rfl ⟨(Nat.le_of_ble_eq_true rfl), (Nat.le_of_ble_eq_true rfl)⟩ ⟨rfl, rfl, Nat.zero_le _, Nat.zero_le _⟩ (Nat.le_of_ble_eq_true rfl) dX4_tick_43 (fun M6 h => ?_)
      refine v_aloadn C 1 rfl rfl dX4_tick_46 ?_
      refine v_dup C rfl dX4_tick_47 ?_
      refine v_geti C fr_X4_74 (iPress_s0 h0) (iPress_l0 h0) rfl dX4_tick_48 ?_
      refine v_iconst C kc_1 dX4_tick_51 ?_
      refine v_iadd C dX4_tick_52 ?_
      refine v_puti C fr_X4_74 (iPress_s0 h0) (iPress_l0 h0) rfl dX4_tick_53 (fun M7 e7 => ?_)
      replace h := h M7 e7
      refine v_loc [1, 2, 0] rfl ?_
      exact tb_X4_tick_56 l S n R o0 o1 h0 h1 C hr K   (y0) M7 h
    · replace h := h.2 c5
      refine v_aloadn C 1 rfl rfl dX4_tick_35 ?_
      refine v_cvV (As := []) C mv_X4_115 (con_X4_breakOff l S n R o0 h0 _ _ h) (iPress_s0 h0) (iPress_l0 h0) rfl ⟨(Nat.le_of_ble_eq_true rfl), (Nat.le_of_ble_eq_true rfl)⟩ ⟨rfl, rfl, Nat.zero_le _, Nat.zero_le _⟩ (Nat.le_of_ble_eq_true rfl) dX4_tick_36 (fun M8 h => ?_)
      refine v_iconst C kc_0 dX4_tick_39 ?_
      exact v_zret C isB0 hr dX4_tick_40 h
set_option maxRecDepth 20000 in
theorem con_X4_tick (l : Launch) (S : XS) (n : Nat) (R : Rfs) (o0 : Nat) (o1 : Nat) (h0 : isPress n R o0) (h1 : isPlan n R o1) (M : Mem) (K : Int32 → Mem → Prop) (h : wp_X4_tick o0 o1 M K) : CI l yX4_tick cX4_tick 4 (some .boolean) rmX4_tick S n R [.ref (XB S + o0), .ref (XB S + o1)] M K := by
  refine conI (lv := [(0, .ref (XB S + o0)), (1, .ref (XB S + o1))]) (by decide) (Nat.le_of_ble_eq_true rfl) rfl ?_
  intro p e s m args below meth c C hr
  replace C : Cx p m meth c s args cX4_tick RX4 4 S := C
  refine v_aloadn C 0 rfl rfl dX4_tick_0 ?_
  refine v_dup C rfl dX4_tick_1 ?_
  refine v_geti C fr_X4_65 (iPress_s0 h0) (iPress_l0 h0) rfl dX4_tick_2 ?_
  refine v_iconst C kc_1 dX4_tick_5 ?_
  refine v_iadd C dX4_tick_6 ?_
  refine v_puti C fr_X4_65 (iPress_s0 h0) (iPress_l0 h0) rfl dX4_tick_7 (fun M1 e1 => ?_)
  replace h := h M1 e1
  refine v_aloadn C 0 rfl rfl dX4_tick_10 ?_
  refine v_geti C fr_X4_52 (iPress_s0 h0) (iPress_l0 h0) rfl dX4_tick_11 ?_
  refine v_if_ne C 21 (by decide) dX4_tick_14 (fun c2 => ?_) (fun c2 => ?_)
  · replace h := h.1 c2
    refine v_iconst C kc_0 dX4_tick_21 ?_
    exact tb_X4_tick_22 l S n R o0 o1 h0 h1 C hr K   ((0 : Int32)) M1 h
  · replace h := h.2 c2
    refine v_iconst C kc_1 dX4_tick_17 ?_
    refine v_goto C 22 (by decide) dX4_tick_18 ?_
    exact tb_X4_tick_22 l S n R o0 o1 h0 h1 C hr K   ((1 : Int32)) M1 h
abbrev rmX4_restart : Room := { frames := 3, cells := 0, slots := 0, locals := 64 }
def wp_X4_restart (o0 : Nat) (o1 : Nat) (M : Mem) (K : Mem → Prop) : Prop := wp_X4_mountNext o0 o1 M (fun M1 => (∀ M2 : Mem, M2 = mw M1 o0 8 (1 : Int32) → wp_J7_fill_53178 (o0 + 3) 4 ((0 : Int32)) M2 (fun M3 => K M3)))
set_option maxRecDepth 20000 in
theorem con_X4_restart (l : Launch) (S : XS) (n : Nat) (R : Rfs) (o0 : Nat) (o1 : Nat) (h0 : isPress n R o0) (h1 : isPlan n R o1) (M : Mem) (K : Mem → Prop) (h : wp_X4_restart o0 o1 M K) : CV l yX4_restart cX4_restart 2 rmX4_restart S n R [.ref (XB S + o0), .ref (XB S + o1)] M K := by
  refine conV (lv := [(0, .ref (XB S + o0)), (1, .ref (XB S + o1))]) (by decide) (Nat.le_of_ble_eq_true rfl) rfl ?_
  intro p e s m args below meth c C hr
  replace C : Cx p m meth c s args cX4_restart RX4 2 S := C
  refine v_aloadn C 0 rfl rfl dX4_restart_0 ?_
  refine v_aloadn C 1 rfl rfl dX4_restart_1 ?_
  refine v_cvV (As := [.ref (XB S + o1)]) C mv_X4_118 (con_X4_mountNext l S n R o0 o1 h0 h1 _ _ h) (iPress_s0 h0) (iPress_l0 h0) rfl ⟨(Nat.le_of_ble_eq_true rfl), (Nat.le_of_ble_eq_true rfl)⟩ ⟨rfl, rfl, Nat.zero_le _, Nat.zero_le _⟩ (Nat.le_of_ble_eq_true rfl) dX4_restart_2 (fun M1 h => ?_)
  refine v_aloadn C 0 rfl rfl dX4_restart_5 ?_
  refine v_iconst C kc_1 dX4_restart_6 ?_
  refine v_putb C fr_X4_58 (iPress_s0 h0) (iPress_l0 h0) rfl isB1 dX4_restart_7 (fun M2 e2 => ?_)
  replace h := h M2 e2
  refine v_aloadn C 0 rfl rfl dX4_restart_10 ?_
  refine v_getr (o' := (o0 + 3)) C fr_X4_18 (iPress_s0 h0) (iPress_l0 h0) rfl (iPress_r2 h0) dX4_restart_11 ?_
  refine v_iconst C kc_0 dX4_restart_14 ?_
  refine v_csV (As := [.ref (XB S + (o0 + 3)), .int (0 : Int32)]) C ms_X4_31 (con_J7_fill_53178 l S n R (o0 + 3) 4 ((0 : Int32)) (iPress_s3 h0) (iPress_l3 h0) _ _ h) rfl ⟨(Nat.le_of_ble_eq_true rfl), (Nat.le_of_ble_eq_true rfl)⟩ ⟨rfl, rfl, Nat.zero_le _, Nat.zero_le _⟩ (Nat.le_of_ble_eq_true rfl) dX4_restart_15 (fun M3 h => ?_)
  exact v_vret C hr dX4_restart_18 h
abbrev rmX2_restore : Room := { frames := 3, cells := 0, slots := 0, locals := 60 }
def wp_X2_restore (o0 : Nat) (o1 : Nat) (M : Mem) (K : Mem → Prop) : Prop := ((M o0 2) ≤ 0 → K M) ∧ (¬ (M o0 2) ≤ 0 → vp_in (M o0 1) 6 ∧ (wp_X4_takeFrom o1 (o0 + 2 + 11 * ix (M o0 1)) M (fun M3 => ((M3 o0 1) ≤ 0 → (∀ M5 : Mem, M5 = mw M3 o0 1 (5 : Int32) → (∀ M6 : Mem, M6 = mw M5 o0 2 ((M5 o0 2) - (1 : Int32)) → K M6))) ∧ (¬ (M3 o0 1) ≤ 0 → (∀ M7 : Mem, M7 = mw M3 o0 1 ((M3 o0 1) - (1 : Int32)) → (∀ M8 : Mem, M8 = mw M7 o0 2 ((M7 o0 2) - (1 : Int32)) → K M8))))))
set_option maxRecDepth 20000 in
theorem con_X2_restore (l : Launch) (S : XS) (n : Nat) (R : Rfs) (o0 : Nat) (o1 : Nat) (h0 : isHist n R o0) (h1 : isPress n R o1) (M : Mem) (K : Mem → Prop) (h : wp_X2_restore o0 o1 M K) : CV l yX2_restore cX2_restore 2 rmX2_restore S n R [.ref (XB S + o0), .ref (XB S + o1)] M K := by
  refine conV (lv := [(0, .ref (XB S + o0)), (1, .ref (XB S + o1))]) (by decide) (Nat.le_of_ble_eq_true rfl) rfl ?_
  intro p e s m args below meth c C hr
  replace C : Cx p m meth c s args cX2_restore RX2 2 S := C
  refine v_aloadn C 0 rfl rfl dX2_restore_0 ?_
  refine v_geti C fr_X2_26 (iHist_s0 h0) (iHist_l0 h0) rfl dX2_restore_1 ?_
  refine v_if_le C 51 (by decide) dX2_restore_4 (fun c1 => ?_) (fun c1 => ?_)
  · replace h := h.1 c1
    exact v_vret C hr dX2_restore_51 h
  · replace h := h.2 c1
    refine v_aloadn C 1 rfl rfl dX2_restore_7 ?_
    refine v_aloadn C 0 rfl rfl dX2_restore_8 ?_
    refine v_getr (o' := (o0 + 1)) C fr_X2_11 (iHist_s0 h0) (iHist_l0 h0) rfl (iHist_r0 h0) dX2_restore_9 ?_
    refine v_aloadn C 0 rfl rfl dX2_restore_12 ?_
    refine v_geti C fr_X2_18 (iHist_s0 h0) (iHist_l0 h0) rfl dX2_restore_13 ?_
    have hq2 := h.1
    replace h := h.2
    refine v_qald (o' := (o0 + 2 + 11 * ix (M o0 1))) C (iHist_s1 h0) (iHist_l1 h0) hq2 (iHist_x h0 _ (vin_lt hq2)).1 dX2_restore_16 ?_
    refine v_cvV (As := [.ref (XB S + (o0 + 2 + 11 * ix (M o0 1)))]) C mv_X2_22 (con_X4_takeFrom l S n R o1 (o0 + 2 + 11 * ix (M o0 1)) h1 (iHist_x h0 _ (vin_lt hq2)).2 _ _ h) (iPress_s0 h1) (iPress_l0 h1) rfl ⟨(Nat.le_of_ble_eq_true rfl), (Nat.le_of_ble_eq_true rfl)⟩ ⟨rfl, rfl, Nat.zero_le _, Nat.zero_le _⟩ (Nat.le_of_ble_eq_true rfl) dX2_restore_17 (fun M3 h => ?_)
    refine v_aloadn C 0 rfl rfl dX2_restore_20 ?_
    refine v_aloadn C 0 rfl rfl dX2_restore_21 ?_
    refine v_geti C fr_X2_18 (iHist_s0 h0) (iHist_l0 h0) rfl dX2_restore_22 ?_
    refine v_if_le C 37 (by decide) dX2_restore_25 (fun c4 => ?_) (fun c4 => ?_)
    · replace h := h.1 c4
      refine v_iconst C kc_5 dX2_restore_37 ?_
      refine v_puti C fr_X2_18 (iHist_s0 h0) (iHist_l0 h0) rfl dX2_restore_38 (fun M5 e5 => ?_)
      replace h := h M5 e5
      refine v_aloadn C 0 rfl rfl dX2_restore_41 ?_
      refine v_dup C rfl dX2_restore_42 ?_
      refine v_geti C fr_X2_26 (iHist_s0 h0) (iHist_l0 h0) rfl dX2_restore_43 ?_
      refine v_iconst C kc_1 dX2_restore_46 ?_
      refine v_isub C dX2_restore_47 ?_
      refine v_puti C fr_X2_26 (iHist_s0 h0) (iHist_l0 h0) rfl dX2_restore_48 (fun M6 e6 => ?_)
      replace h := h M6 e6
      exact v_vret C hr dX2_restore_51 h
    · replace h := h.2 c4
      refine v_aloadn C 0 rfl rfl dX2_restore_28 ?_
      refine v_geti C fr_X2_18 (iHist_s0 h0) (iHist_l0 h0) rfl dX2_restore_29 ?_
      refine v_iconst C kc_1 dX2_restore_32 ?_
      refine v_isub C dX2_restore_33 ?_
      refine v_goto C 38 (by decide) dX2_restore_34 ?_
      refine v_puti C fr_X2_18 (iHist_s0 h0) (iHist_l0 h0) rfl dX2_restore_38 (fun M7 e7 => ?_)
      replace h := h M7 e7
      refine v_aloadn C 0 rfl rfl dX2_restore_41 ?_
      refine v_dup C rfl dX2_restore_42 ?_
      refine v_geti C fr_X2_26 (iHist_s0 h0) (iHist_l0 h0) rfl dX2_restore_43 ?_
      refine v_iconst C kc_1 dX2_restore_46 ?_
      refine v_isub C dX2_restore_47 ?_
      refine v_puti C fr_X2_26 (iHist_s0 h0) (iHist_l0 h0) rfl dX2_restore_48 (fun M8 e8 => ?_)
      replace h := h M8 e8
      exact v_vret C hr dX2_restore_51 h
abbrev rmX4_toBePassed : Room := { frames := 1, cells := 0, slots := 0, locals := 21 }
def L_X4_toBePassed_4 (o0 : Nat)  (K : Int32 → Mem → Prop) : Nat → Int32 → Int32 → Int32 → Mem → Prop
  | 0, _, _, _, _ => False
  | k + 1, x1, x2, x3, M => ((8 : Int32) ≤ x3 → K x2 M) ∧ (¬ (8 : Int32) ≤ x3 → wp_X4_passPlace (x1) (x3) M (fun r3 M3 => vp_in r3 32 ∧ (L_X4_toBePassed_4 o0  K k x1 (x2 + (M3 (o0 + 4) (ix r3))) (x3 + (1 : Int32)) M3)))
def wp_X4_toBePassed (o0 : Nat) (x1 : Int32) (M : Mem) (K : Int32 → Mem → Prop) : Prop := ∃ j1 : Nat, L_X4_toBePassed_4 o0 K j1 (x1) ((0 : Int32)) ((0 : Int32)) M
set_option maxRecDepth 20000 in
theorem tl_X4_toBePassed_4 {p : Program} {e : Env} {s : State} {m : MethodId} {args : Array Value} {below : List Frame} {meth : Method} {c : Code} (l : Launch) (S : XS) (n : Nat) (R : Rfs) (o0 : Nat) (h0 : isPress n R o0) (C : Cx p m meth c s args cX4_toBePassed RX4 4 S) (hr : meth.sig.returnType = (some .int)) (K : Int32 → Mem → Prop)   (k : Nat) : ∀ (x1 x2 x3 : Int32) (M : Mem), L_X4_toBePassed_4 o0  K k x1 x2 x3 M → V p l e rmX4_toBePassed s m args below meth c (MQ below (va_Qi K (XPost S n R) (XA S)) args s 0 0 (XA S)) S 4 0 0 n M R 4 [(0, .ref (XB S + o0)), (1, .int x1), (2, .int x2), (3, .int x3)] [] := by
  induction k with
  | zero => intro x1 x2 x3 M h; exact h.elim
  | succ k ih =>
    intro x1 x2 x3 M h
    refine v_iloadn C 3 rfl rfl dX4_toBePassed_4 ?_
    refine v_bipush C kb_8 dX4_toBePassed_5 ?_
    refine v_icmp_ge C 29 (by decide) dX4_toBePassed_7 (fun c2 => ?_) (fun c2 => ?_)
    · replace h := h.1 c2
      refine v_iloadn C 2 rfl rfl dX4_toBePassed_29 ?_
      exact v_iret C hr dX4_toBePassed_30 h
    · replace h := h.2 c2
      refine v_iloadn C 2 rfl rfl dX4_toBePassed_10 ?_
      refine v_aloadn C 0 rfl rfl dX4_toBePassed_11 ?_
      refine v_getr (o' := (o0 + 4)) C fr_X4_21 (iPress_s0 h0) (iPress_l0 h0) rfl (iPress_r3 h0) dX4_toBePassed_12 ?_
      refine v_iloadn C 1 rfl rfl dX4_toBePassed_15 ?_
      refine v_iloadn C 3 rfl rfl dX4_toBePassed_16 ?_
      refine v_csI (As := [.int x1, .int x3]) C ms_X4_91 (con_X4_passPlace l S n R (x1) (x3)  _ _ h) rfl ⟨(Nat.le_of_ble_eq_true rfl), (Nat.le_of_ble_eq_true rfl)⟩ ⟨rfl, rfl, Nat.zero_le _, Nat.zero_le _⟩ (Nat.le_of_ble_eq_true rfl) dX4_toBePassed_17 (fun r3 M3 h => ?_)
      refine v_ald C (iPress_s4 h0) (iPress_l4 h0) h.1 dX4_toBePassed_20 ?_
      replace h := h.2
      refine v_iadd C dX4_toBePassed_21 ?_
      refine v_istoren (lv' := [(2, .int (x2 + (M3 (o0 + 4) (ix r3)))), (0, .ref (XB S + o0)), (1, .int x1), (3, .int x3)]) C rfl rfl (Nat.le_of_ble_eq_true rfl) dX4_toBePassed_22 ?_
      refine v_iinc (lv' := [(3, .int (x3 + (1 : Int32))), (2, .int (x2 + (M3 (o0 + 4) (ix r3)))), (0, .ref (XB S + o0)), (1, .int x1)]) C 3 rfl kc_1 rfl rfl (Nat.le_of_ble_eq_true rfl) dX4_toBePassed_23 ?_
      refine v_goto C 4 (by decide) dX4_toBePassed_26 ?_
      refine v_loc [2, 3, 1, 0] rfl ?_
      exact ih (x1) ((x2 + (M3 (o0 + 4) (ix r3)))) ((x3 + (1 : Int32))) M3 h
set_option maxRecDepth 20000 in
theorem con_X4_toBePassed (l : Launch) (S : XS) (n : Nat) (R : Rfs) (o0 : Nat) (x1 : Int32) (h0 : isPress n R o0) (M : Mem) (K : Int32 → Mem → Prop) (h : wp_X4_toBePassed o0 x1 M K) : CI l yX4_toBePassed cX4_toBePassed 4 (some .int) rmX4_toBePassed S n R [.ref (XB S + o0), .int x1] M K := by
  refine conI (lv := [(0, .ref (XB S + o0)), (1, .int x1)]) (by decide) (Nat.le_of_ble_eq_true rfl) rfl ?_
  intro p e s m args below meth c C hr
  replace C : Cx p m meth c s args cX4_toBePassed RX4 4 S := C
  refine v_iconst C kc_0 dX4_toBePassed_0 ?_
  refine v_istoren (lv' := [(2, .int (0 : Int32)), (0, .ref (XB S + o0)), (1, .int x1)]) C rfl rfl (Nat.le_of_ble_eq_true rfl) dX4_toBePassed_1 ?_
  refine v_iconst C kc_0 dX4_toBePassed_2 ?_
  refine v_istoren (lv' := [(3, .int (0 : Int32)), (2, .int (0 : Int32)), (0, .ref (XB S + o0)), (1, .int x1)]) C rfl rfl (Nat.le_of_ble_eq_true rfl) dX4_toBePassed_3 ?_
  refine v_loc [2, 3, 1, 0] rfl ?_
  obtain ⟨k1, h⟩ := h
  exact tl_X4_toBePassed_4 l S n R o0 h0 C hr K   k1 (x1) ((0 : Int32)) ((0 : Int32)) M h
abbrev rmX4_leftOn : Room := { frames := 1, cells := 0, slots := 0, locals := 21 }
def wp_X4_leftOn (o0 : Nat) (o1 : Nat) (x2 : Int32) (M : Mem) (K : Int32 → Mem → Prop) : Prop := (¬ x2 = (M o0 5) → (x2 ≤ (M o0 5) → K (0 : Int32) M) ∧ (¬ x2 ≤ (M o0 5) → wp_X3_hasReel o1 (x2) M (fun r3 M3 => (r3 = 0 → K (0 : Int32) M3) ∧ (¬ r3 = 0 → vp_in x2 8 ∧ (K (M3 (o1 + 3) (ix x2)) M3))))) ∧ (x2 = (M o0 5) → K (M o0 6) M)
set_option maxRecDepth 20000 in
theorem con_X4_leftOn (l : Launch) (S : XS) (n : Nat) (R : Rfs) (o0 : Nat) (o1 : Nat) (x2 : Int32) (h0 : isPress n R o0) (h1 : isPlan n R o1) (M : Mem) (K : Int32 → Mem → Prop) (h : wp_X4_leftOn o0 o1 x2 M K) : CI l yX4_leftOn cX4_leftOn 3 (some .int) rmX4_leftOn S n R [.ref (XB S + o0), .ref (XB S + o1), .int x2] M K := by
  refine conI (lv := [(0, .ref (XB S + o0)), (1, .ref (XB S + o1)), (2, .int x2)]) (by decide) (Nat.le_of_ble_eq_true rfl) rfl ?_
  intro p e s m args below meth c C hr
  replace C : Cx p m meth c s args cX4_leftOn RX4 3 S := C
  refine v_iloadn C 2 rfl rfl dX4_leftOn_0 ?_
  refine v_aloadn C 0 rfl rfl dX4_leftOn_1 ?_
  refine v_geti C fr_X4_46 (iPress_s0 h0) (iPress_l0 h0) rfl dX4_leftOn_2 ?_
  refine v_icmp_ne C 13 (by decide) dX4_leftOn_5 (fun c1 => ?_) (fun c1 => ?_)
  · replace h := h.1 c1
    refine v_iloadn C 2 rfl rfl dX4_leftOn_13 ?_
    refine v_aloadn C 0 rfl rfl dX4_leftOn_14 ?_
    refine v_geti C fr_X4_46 (iPress_s0 h0) (iPress_l0 h0) rfl dX4_leftOn_15 ?_
    refine v_icmp_le C 38 (by decide) dX4_leftOn_18 (fun c2 => ?_) (fun c2 => ?_)
    · replace h := h.1 c2
      refine v_iconst C kc_0 dX4_leftOn_38 ?_
      exact v_iret C hr dX4_leftOn_39 h
    · replace h := h.2 c2
      refine v_aloadn C 1 rfl rfl dX4_leftOn_21 ?_
      refine v_iloadn C 2 rfl rfl dX4_leftOn_22 ?_
      refine v_cvI (As := [.int x2]) C mv_X4_87 (con_X3_hasReel l S n R o1 (x2) h1 _ _ h) (iPlan_s0 h1) (iPlan_l0 h1) rfl ⟨(Nat.le_of_ble_eq_true rfl), (Nat.le_of_ble_eq_true rfl)⟩ ⟨rfl, rfl, Nat.zero_le _, Nat.zero_le _⟩ (Nat.le_of_ble_eq_true rfl) dX4_leftOn_23 (fun r3 M3 h => ?_)
      refine v_if_eq C 38 (by decide) dX4_leftOn_26 (fun c4 => ?_) (fun c4 => ?_)
      · replace h := h.1 c4
        refine v_iconst C kc_0 dX4_leftOn_38 ?_
        exact v_iret C hr dX4_leftOn_39 h
      · replace h := h.2 c4
        refine v_aloadn C 1 rfl rfl dX4_leftOn_29 ?_
        refine v_getr (o' := (o1 + 3)) C fr_X4_49 (iPlan_s0 h1) (iPlan_l0 h1) rfl (iPlan_r2 h1) dX4_leftOn_30 ?_
        refine v_iloadn C 2 rfl rfl dX4_leftOn_33 ?_
        refine v_ald C (iPlan_s3 h1) (iPlan_l3 h1) h.1 dX4_leftOn_34 ?_
        replace h := h.2
        refine v_goto C 39 (by decide) dX4_leftOn_35 ?_
        exact v_iret C hr dX4_leftOn_39 h
  · replace h := h.2 c1
    refine v_aloadn C 0 rfl rfl dX4_leftOn_8 ?_
    refine v_geti C fr_X4_52 (iPress_s0 h0) (iPress_l0 h0) rfl dX4_leftOn_9 ?_
    exact v_iret C hr dX4_leftOn_12 h
abbrev rmX4_makeReadyToPaste : Room := { frames := 0, cells := 0, slots := 0, locals := 0 }
def wp_X4_makeReadyToPaste (o0 : Nat) (o1 : Nat) (M : Mem) (K : Mem → Prop) : Prop := (∀ M1 : Mem, M1 = mw M o0 6 (0 : Int32) → (∀ M2 : Mem, M2 = mw M1 o0 7 (M1 o1 9) → K M2))
set_option maxRecDepth 20000 in
theorem con_X4_makeReadyToPaste (l : Launch) (S : XS) (n : Nat) (R : Rfs) (o0 : Nat) (o1 : Nat) (h0 : isPress n R o0) (h1 : isPlan n R o1) (M : Mem) (K : Mem → Prop) (h : wp_X4_makeReadyToPaste o0 o1 M K) : CV l yX4_makeReadyToPaste cX4_makeReadyToPaste 2 rmX4_makeReadyToPaste S n R [.ref (XB S + o0), .ref (XB S + o1)] M K := by
  refine conV (lv := [(0, .ref (XB S + o0)), (1, .ref (XB S + o1))]) (by decide) (Nat.le_of_ble_eq_true rfl) rfl ?_
  intro p e s m args below meth c C hr
  replace C : Cx p m meth c s args cX4_makeReadyToPaste RX4 2 S := C
  refine v_aloadn C 0 rfl rfl dX4_makeReadyToPaste_0 ?_
  refine v_iconst C kc_0 dX4_makeReadyToPaste_1 ?_
  refine v_puti C fr_X4_52 (iPress_s0 h0) (iPress_l0 h0) rfl dX4_makeReadyToPaste_2 (fun M1 e1 => ?_)
  replace h := h M1 e1
  refine v_aloadn C 0 rfl rfl dX4_makeReadyToPaste_5 ?_
  refine v_aloadn C 1 rfl rfl dX4_makeReadyToPaste_6 ?_
  refine v_geti C fr_X4_145 (iPlan_s0 h1) (iPlan_l0 h1) rfl dX4_makeReadyToPaste_7 ?_
  refine v_puti C fr_X4_55 (iPress_s0 h0) (iPress_l0 h0) rfl dX4_makeReadyToPaste_10 (fun M2 e2 => ?_)
  replace h := h M2 e2
  exact v_vret C hr dX4_makeReadyToPaste_13 h
abbrev rmX4_tickTimes : Room := { frames := 5, cells := 0, slots := 0, locals := 101 }
def L_X4_tickTimes_2 (o0 : Nat) (o1 : Nat)  (K : Mem → Prop) : Nat → Int32 → Int32 → Mem → Prop
  | 0, _, _, _ => False
  | k + 1, x2, x3, M => (x2 ≤ x3 → K M) ∧ (¬ x2 ≤ x3 → wp_X4_tick o0 o1 M (fun r3 M3 => L_X4_tickTimes_2 o0 o1  K k x2 (x3 + (1 : Int32)) M3))
def wp_X4_tickTimes (o0 : Nat) (o1 : Nat) (x2 : Int32) (M : Mem) (K : Mem → Prop) : Prop := ∃ j1 : Nat, L_X4_tickTimes_2 o0 o1 K j1 (x2) ((0 : Int32)) M
set_option maxRecDepth 20000 in
theorem tl_X4_tickTimes_2 {p : Program} {e : Env} {s : State} {m : MethodId} {args : Array Value} {below : List Frame} {meth : Method} {c : Code} (l : Launch) (S : XS) (n : Nat) (R : Rfs) (o0 : Nat) (o1 : Nat) (h0 : isPress n R o0) (h1 : isPlan n R o1) (C : Cx p m meth c s args cX4_tickTimes RX4 4 S) (hr : meth.sig.returnType = none) (K : Mem → Prop)   (k : Nat) : ∀ (x2 x3 : Int32) (M : Mem), L_X4_tickTimes_2 o0 o1  K k x2 x3 M → V p l e rmX4_tickTimes s m args below meth c (MQ below (va_Qv K (XPost S n R) (XA S)) args s 0 0 (XA S)) S 4 0 0 n M R 2 [(0, .ref (XB S + o0)), (1, .ref (XB S + o1)), (2, .int x2), (3, .int x3)] [] := by
  induction k with
  | zero => intro x2 x3 M h; exact h.elim
  | succ k ih =>
    intro x2 x3 M h
    refine v_iloadn C 3 rfl rfl dX4_tickTimes_2 ?_
    refine v_iloadn C 2 rfl rfl dX4_tickTimes_3 ?_
    refine v_icmp_ge C 19 (by decide) dX4_tickTimes_4 (fun c2 => ?_) (fun c2 => ?_)
    · replace h := h.1 c2
      exact v_vret C hr dX4_tickTimes_19 h
    · replace h := h.2 c2
      refine v_aloadn C 0 rfl rfl dX4_tickTimes_7 ?_
      refine v_aloadn C 1 rfl rfl dX4_tickTimes_8 ?_
      refine v_cvI (As := [.ref (XB S + o1)]) C mv_X4_108 (con_X4_tick l S n R o0 o1 h0 h1 _ _ h) (iPress_s0 h0) (iPress_l0 h0) rfl ⟨(Nat.le_of_ble_eq_true rfl), (Nat.le_of_ble_eq_true rfl)⟩ ⟨rfl, rfl, Nat.zero_le _, Nat.zero_le _⟩ (Nat.le_of_ble_eq_true rfl) dX4_tickTimes_9 (fun r3 M3 h => ?_)
      refine v_pop C rfl dX4_tickTimes_12 ?_
      refine v_iinc (lv' := [(3, .int (x3 + (1 : Int32))), (0, .ref (XB S + o0)), (1, .ref (XB S + o1)), (2, .int x2)]) C 3 rfl kc_1 rfl rfl (Nat.le_of_ble_eq_true rfl) dX4_tickTimes_13 ?_
      refine v_goto C 2 (by decide) dX4_tickTimes_16 ?_
      refine v_loc [1, 2, 3, 0] rfl ?_
      exact ih (x2) ((x3 + (1 : Int32))) M3 h
set_option maxRecDepth 20000 in
theorem con_X4_tickTimes (l : Launch) (S : XS) (n : Nat) (R : Rfs) (o0 : Nat) (o1 : Nat) (x2 : Int32) (h0 : isPress n R o0) (h1 : isPlan n R o1) (M : Mem) (K : Mem → Prop) (h : wp_X4_tickTimes o0 o1 x2 M K) : CV l yX4_tickTimes cX4_tickTimes 4 rmX4_tickTimes S n R [.ref (XB S + o0), .ref (XB S + o1), .int x2] M K := by
  refine conV (lv := [(0, .ref (XB S + o0)), (1, .ref (XB S + o1)), (2, .int x2)]) (by decide) (Nat.le_of_ble_eq_true rfl) rfl ?_
  intro p e s m args below meth c C hr
  replace C : Cx p m meth c s args cX4_tickTimes RX4 4 S := C
  refine v_iconst C kc_0 dX4_tickTimes_0 ?_
  refine v_istoren (lv' := [(3, .int (0 : Int32)), (0, .ref (XB S + o0)), (1, .ref (XB S + o1)), (2, .int x2)]) C rfl rfl (Nat.le_of_ble_eq_true rfl) dX4_tickTimes_1 ?_
  refine v_loc [1, 2, 3, 0] rfl ?_
  obtain ⟨k1, h⟩ := h
  exact tl_X4_tickTimes_2 l S n R o0 o1 h0 h1 C hr K   k1 (x2) ((0 : Int32)) M h
