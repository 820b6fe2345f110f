abbrev rmX6_isWithin : Room := { frames := 0, cells := 0, slots := 0, locals := 0 }
def wp_X6_isWithin (x0 : Int32) (x1 : Int32) (x2 : Int32) (M : Mem) (K : Int32 → Mem → Prop) : Prop := (x0 < x1 → K (0 : Int32) M) ∧ (¬ x0 < x1 → (x2 < x0 → K (0 : Int32) M) ∧ (¬ x2 < x0 → K (1 : Int32) M))
set_option maxRecDepth 20000 in
theorem con_X6_isWithin (l : Launch) (S : XS) (n : Nat) (R : Rfs) (x0 : Int32) (x1 : Int32) (x2 : Int32)  (M : Mem) (K : Int32 → Mem → Prop) (h : wp_X6_isWithin x0 x1 x2 M K) : CI l yX6_isWithin cX6_isWithin 3 (some .boolean) rmX6_isWithin S n R [.int x0, .int x1, .int x2] M K := by
  refine conI (lv := [(0, .int x0), (1, .int x1), (2, .int x2)]) (by decide) (Nat.le_of_ble_eq_true rfl) rfl ?_
  intro p e s m args below meth c C hr
  replace C : Cx p m meth c s args cX6_isWithin RX6 3 S := C
  refine v_iloadn C 0 rfl rfl dX6_isWithin_0 ?_
  refine v_iloadn C 1 rfl rfl dX6_isWithin_1 ?_
  refine v_icmp_lt C 14 (by decide) dX6_isWithin_2 (fun c1 => ?_) (fun c1 => ?_)
  · replace h := h.1 c1
    refine v_iconst C kc_0 dX6_isWithin_14 ?_
    exact v_zret C isB0 hr dX6_isWithin_15 h
  · replace h := h.2 c1
    refine v_iloadn C 0 rfl rfl dX6_isWithin_5 ?_
    refine v_iloadn C 2 rfl rfl dX6_isWithin_6 ?_
    refine v_icmp_gt C 14 (by decide) dX6_isWithin_7 (fun c2 => ?_) (fun c2 => ?_)
    · replace h := h.1 c2
      refine v_iconst C kc_0 dX6_isWithin_14 ?_
      exact v_zret C isB0 hr dX6_isWithin_15 h
    · replace h := h.2 c2
      refine v_iconst C kc_1 dX6_isWithin_10 ?_
      refine v_goto C 15 (by decide) dX6_isWithin_11 ?_
      exact v_zret C isB1 hr dX6_isWithin_15 h
abbrev rmX0_setAsAtFirst : Room := { frames := 1, cells := 0, slots := 0, locals := 23 }
def wp_X0_setAsAtFirst (o0 : Nat) (M : Mem) (K : Mem → Prop) : Prop := (∀ M1 : Mem, M1 = mw M o0 4 (0 : Int32) → (∀ M2 : Mem, M2 = mw M1 o0 5 (0 : Int32) → (∀ M3 : Mem, M3 = mw M2 o0 6 (0 : Int32) → wp_J7_fill_53178 (o0 + 4) 128 ((0 : Int32)) M3 (fun M4 => K M4))))
set_option maxRecDepth 20000 in
theorem con_X0_setAsAtFirst (l : Launch) (S : XS) (n : Nat) (R : Rfs) (o0 : Nat) (h0 : isBand n R o0) (M : Mem) (K : Mem → Prop) (h : wp_X0_setAsAtFirst o0 M K) : CV l yX0_setAsAtFirst cX0_setAsAtFirst 1 rmX0_setAsAtFirst S n R [.ref (XB S + o0)] M K := by
  refine conV (lv := [(0, .ref (XB S + o0))]) (by decide) (Nat.le_of_ble_eq_true rfl) rfl ?_
  intro p e s m args below meth c C hr
  replace C : Cx p m meth c s args cX0_setAsAtFirst RX0 1 S := C
  refine v_aloadn C 0 rfl rfl dX0_setAsAtFirst_0 ?_
  refine v_iconst C kc_0 dX0_setAsAtFirst_1 ?_
  refine v_puti C fr_X0_27 (iBand_s0 h0) (iBand_l0 h0) rfl dX0_setAsAtFirst_2 (fun M1 e1 => ?_)
  replace h := h M1 e1
  refine v_aloadn C 0 rfl rfl dX0_setAsAtFirst_5 ?_
  refine v_iconst C kc_0 dX0_setAsAtFirst_6 ?_
  refine v_puti C fr_X0_31 (iBand_s0 h0) (iBand_l0 h0) rfl dX0_setAsAtFirst_7 (fun M2 e2 => ?_)
  replace h := h M2 e2
  refine v_aloadn C 0 rfl rfl dX0_setAsAtFirst_10 ?_
  refine v_iconst C kc_0 dX0_setAsAtFirst_11 ?_
  refine v_putb C fr_X0_34 (iBand_s0 h0) (iBand_l0 h0) rfl isB0 dX0_setAsAtFirst_12 (fun M3 e3 => ?_)
  replace h := h M3 e3
  refine v_aloadn C 0 rfl rfl dX0_setAsAtFirst_15 ?_
  refine v_getr (o' := (o0 + 4)) C fr_X0_21 (iBand_s0 h0) (iBand_l0 h0) rfl (iBand_r3 h0) dX0_setAsAtFirst_16 ?_
  refine v_iconst C kc_0 dX0_setAsAtFirst_19 ?_
  refine v_csV (As := [.ref (XB S + (o0 + 4)), .int (0 : Int32)]) C ms_X0_38 (con_J7_fill_53178 l S n R (o0 + 4) 128 ((0 : Int32)) (iBand_s4 h0) (iBand_l4 h0) _ _ h) rfl ⟨(Nat.le_of_ble_eq_true rfl), (Nat.le_of_ble_eq_true rfl)⟩ ⟨rfl, rfl, Nat.zero_le _, Nat.zero_le _⟩ (Nat.le_of_ble_eq_true rfl) dX0_setAsAtFirst_20 (fun M4 h => ?_)
  exact v_vret C hr dX0_setAsAtFirst_23 h
abbrev rmX3_setAsAtFirst : Room := { frames := 0, cells := 0, slots := 0, locals := 0 }
def wp_X3_setAsAtFirst (o0 : Nat) (M : Mem) (K : Mem → Prop) : Prop := (∀ M1 : Mem, M1 = mw M o0 4 (1 : Int32) → (∀ M2 : Mem, M2 = mw M1 o0 5 (0 : Int32) → (∀ M3 : Mem, M3 = mw M2 o0 6 (3 : Int32) → (∀ M4 : Mem, M4 = mw M3 o0 7 (3 : Int32) → (∀ M5 : Mem, M5 = mw M4 o0 8 (1 : Int32) → (∀ M6 : Mem, M6 = mw M5 o0 9 (5 : Int32) → K M6))))))
set_option maxRecDepth 20000 in
theorem con_X3_setAsAtFirst (l : Launch) (S : XS) (n : Nat) (R : Rfs) (o0 : Nat) (h0 : isPlan n R o0) (M : Mem) (K : Mem → Prop) (h : wp_X3_setAsAtFirst o0 M K) : CV l yX3_setAsAtFirst cX3_setAsAtFirst 1 rmX3_setAsAtFirst S n R [.ref (XB S + o0)] M K := by
  refine conV (lv := [(0, .ref (XB S + o0))]) (by decide) (Nat.le_of_ble_eq_true rfl) rfl ?_
  intro p e s m args below meth c C hr
  replace C : Cx p m meth c s args cX3_setAsAtFirst RX3 1 S := C
  refine v_aloadn C 0 rfl rfl dX3_setAsAtFirst_0 ?_
  refine v_iconst C kc_1 dX3_setAsAtFirst_1 ?_
  refine v_puti C fr_X3_27 (iPlan_s0 h0) (iPlan_l0 h0) rfl dX3_setAsAtFirst_2 (fun M1 e1 => ?_)
  replace h := h M1 e1
  refine v_aloadn C 0 rfl rfl dX3_setAsAtFirst_5 ?_
  refine v_iconst C kc_0 dX3_setAsAtFirst_6 ?_
  refine v_puti C fr_X3_31 (iPlan_s0 h0) (iPlan_l0 h0) rfl dX3_setAsAtFirst_7 (fun M2 e2 => ?_)
  replace h := h M2 e2
  refine v_aloadn C 0 rfl rfl dX3_setAsAtFirst_10 ?_
  refine v_iconst C kc_3 dX3_setAsAtFirst_11 ?_
  refine v_puti C fr_X3_34 (iPlan_s0 h0) (iPlan_l0 h0) rfl dX3_setAsAtFirst_12 (fun M3 e3 => ?_)
  replace h := h M3 e3
  refine v_aloadn C 0 rfl rfl dX3_setAsAtFirst_15 ?_
  refine v_iconst C kc_3 dX3_setAsAtFirst_16 ?_
  refine v_puti C fr_X3_37 (iPlan_s0 h0) (iPlan_l0 h0) rfl dX3_setAsAtFirst_17 (fun M4 e4 => ?_)
  replace h := h M4 e4
  refine v_aloadn C 0 rfl rfl dX3_setAsAtFirst_20 ?_
  refine v_iconst C kc_1 dX3_setAsAtFirst_21 ?_
  refine v_puti C fr_X3_40 (iPlan_s0 h0) (iPlan_l0 h0) rfl dX3_setAsAtFirst_22 (fun M5 e5 => ?_)
  replace h := h M5 e5
  refine v_aloadn C 0 rfl rfl dX3_setAsAtFirst_25 ?_
  refine v_iconst C kc_5 dX3_setAsAtFirst_26 ?_
  refine v_puti C fr_X3_43 (iPlan_s0 h0) (iPlan_l0 h0) rfl dX3_setAsAtFirst_27 (fun M6 e6 => ?_)
  replace h := h M6 e6
  exact v_vret C hr dX3_setAsAtFirst_30 h
abbrev rmX3_addReel : Room := { frames := 1, cells := 0, slots := 0, locals := 22 }
def wp_X3_addReel (o0 : Nat) (x1 : Int32) (x2 : Int32) (M : Mem) (K : Mem → Prop) : Prop := wp_X6_isWithin ((M o0 5)) ((0 : Int32)) ((7 : Int32)) M (fun r1 M1 => (r1 = 0 → K M1) ∧ (¬ r1 = 0 → vp_in (M1 o0 5) 8 ∧ (∀ M3 : Mem, M3 = mw M1 (o0 + 3) (ix (M1 o0 5)) x1 → vp_in (M3 o0 5) 8 ∧ (∀ M4 : Mem, M4 = mw M3 (o0 + 4) (ix (M3 o0 5)) x2 → (∀ M5 : Mem, M5 = mw M4 o0 5 ((M4 o0 5) + (1 : Int32)) → K M5)))))
set_option maxRecDepth 20000 in
theorem con_X3_addReel (l : Launch) (S : XS) (n : Nat) (R : Rfs) (o0 : Nat) (x1 : Int32) (x2 : Int32) (h0 : isPlan n R o0) (M : Mem) (K : Mem → Prop) (h : wp_X3_addReel o0 x1 x2 M K) : CV l yX3_addReel cX3_addReel 3 rmX3_addReel S n R [.ref (XB S + o0), .int x1, .int x2] M K := by
  refine conV (lv := [(0, .ref (XB S + o0)), (1, .int x1), (2, .int x2)]) (by decide) (Nat.le_of_ble_eq_true rfl) rfl ?_
  intro p e s m args below meth c C hr
  replace C : Cx p m meth c s args cX3_addReel RX3 3 S := C
  refine v_aloadn C 0 rfl rfl dX3_addReel_0 ?_
  refine v_geti C fr_X3_31 (iPlan_s0 h0) (iPlan_l0 h0) rfl dX3_addReel_1 ?_
  refine v_iconst C kc_0 dX3_addReel_4 ?_
  refine v_bipush C kb_7 dX3_addReel_5 ?_
  refine v_cnI (As := [.int (M o0 5), .int (0 : Int32), .int (7 : Int32)]) C C.2.1.2.2.2.2.2.2.2.1 mn_X6_isWithin (con_X6_isWithin l S n R ((M o0 5)) ((0 : Int32)) ((7 : Int32))  _ _ h) rfl ⟨(Nat.le_of_ble_eq_true rfl), (Nat.le_of_ble_eq_true rfl)⟩ ⟨rfl, rfl, Nat.zero_le _, Nat.zero_le _⟩ (Nat.le_of_ble_eq_true rfl) dX3_addReel_7 (fun r1 M1 h => ?_)
  refine v_if_eq C 43 (by decide) dX3_addReel_10 (fun c2 => ?_) (fun c2 => ?_)
  · replace h := h.1 c2
    exact v_vret C hr dX3_addReel_43 h
  · replace h := h.2 c2
    refine v_aloadn C 0 rfl rfl dX3_addReel_13 ?_
    refine v_getr (o' := (o0 + 3)) C fr_X3_18 (iPlan_s0 h0) (iPlan_l0 h0) rfl (iPlan_r2 h0) dX3_addReel_14 ?_
    refine v_aloadn C 0 rfl rfl dX3_addReel_17 ?_
    refine v_geti C fr_X3_31 (iPlan_s0 h0) (iPlan_l0 h0) rfl dX3_addReel_18 ?_
    refine v_iloadn C 1 rfl rfl dX3_addReel_21 ?_
    have hi3 := h.1
    replace h := h.2
    refine v_ast C (iPlan_s3 h0) (iPlan_l3 h0) hi3 dX3_addReel_22 (fun M3 e3 => ?_)
    replace h := h M3 e3
    refine v_aloadn C 0 rfl rfl dX3_addReel_23 ?_
    refine v_getr (o' := (o0 + 4)) C fr_X3_21 (iPlan_s0 h0) (iPlan_l0 h0) rfl (iPlan_r3 h0) dX3_addReel_24 ?_
    refine v_aloadn C 0 rfl rfl dX3_addReel_27 ?_
    refine v_geti C fr_X3_31 (iPlan_s0 h0) (iPlan_l0 h0) rfl dX3_addReel_28 ?_
    refine v_iloadn C 2 rfl rfl dX3_addReel_31 ?_
    have hi4 := h.1
    replace h := h.2
    refine v_ast C (iPlan_s4 h0) (iPlan_l4 h0) hi4 dX3_addReel_32 (fun M4 e4 => ?_)
    replace h := h M4 e4
    refine v_aloadn C 0 rfl rfl dX3_addReel_33 ?_
    refine v_dup C rfl dX3_addReel_34 ?_
    refine v_geti C fr_X3_31 (iPlan_s0 h0) (iPlan_l0 h0) rfl dX3_addReel_35 ?_
    refine v_iconst C kc_1 dX3_addReel_38 ?_
    refine v_iadd C dX3_addReel_39 ?_
    refine v_puti C fr_X3_31 (iPlan_s0 h0) (iPlan_l0 h0) rfl dX3_addReel_40 (fun M5 e5 => ?_)
    replace h := h M5 e5
    exact v_vret C hr dX3_addReel_43 h
abbrev rmX3_addUnit : Room := { frames := 1, cells := 0, slots := 0, locals := 22 }
def wp_X3_addUnit (o0 : Nat) (x1 : Int32) (M : Mem) (K : Mem → Prop) : Prop := wp_X6_isWithin ((M o0 4)) ((1 : Int32)) ((3 : Int32)) M (fun r1 M1 => (r1 = 0 → K M1) ∧ (¬ r1 = 0 → vp_in (M1 o0 4) 4 ∧ (∀ M3 : Mem, M3 = mw M1 (o0 + 1) (ix (M1 o0 4)) x1 → vp_in ((M3 o0 4) - (1 : Int32)) 4 ∧ (vp_in (M3 o0 4) 4 ∧ (∀ M4 : Mem, M4 = mw M3 (o0 + 2) (ix (M3 o0 4)) ((M3 (o0 + 2) (ix ((M3 o0 4) - (1 : Int32)))) + x1) → (∀ M5 : Mem, M5 = mw M4 o0 4 ((M4 o0 4) + (1 : Int32)) → K M5))))))
set_option maxRecDepth 20000 in
theorem con_X3_addUnit (l : Launch) (S : XS) (n : Nat) (R : Rfs) (o0 : Nat) (x1 : Int32) (h0 : isPlan n R o0) (M : Mem) (K : Mem → Prop) (h : wp_X3_addUnit o0 x1 M K) : CV l yX3_addUnit cX3_addUnit 2 rmX3_addUnit S n R [.ref (XB S + o0), .int x1] M K := by
  refine conV (lv := [(0, .ref (XB S + o0)), (1, .int x1)]) (by decide) (Nat.le_of_ble_eq_true rfl) rfl ?_
  intro p e s m args below meth c C hr
  replace C : Cx p m meth c s args cX3_addUnit RX3 2 S := C
  refine v_aloadn C 0 rfl rfl dX3_addUnit_0 ?_
  refine v_geti C fr_X3_27 (iPlan_s0 h0) (iPlan_l0 h0) rfl dX3_addUnit_1 ?_
  refine v_iconst C kc_1 dX3_addUnit_4 ?_
  refine v_iconst C kc_3 dX3_addUnit_5 ?_
  refine v_cnI (As := [.int (M o0 4), .int (1 : Int32), .int (3 : Int32)]) C C.2.1.2.2.2.2.2.2.2.1 mn_X6_isWithin (con_X6_isWithin l S n R ((M o0 4)) ((1 : Int32)) ((3 : Int32))  _ _ h) rfl ⟨(Nat.le_of_ble_eq_true rfl), (Nat.le_of_ble_eq_true rfl)⟩ ⟨rfl, rfl, Nat.zero_le _, Nat.zero_le _⟩ (Nat.le_of_ble_eq_true rfl) dX3_addUnit_6 (fun r1 M1 h => ?_)
  refine v_if_eq C 54 (by decide) dX3_addUnit_9 (fun c2 => ?_) (fun c2 => ?_)
  · replace h := h.1 c2
    exact v_vret C hr dX3_addUnit_54 h
  · replace h := h.2 c2
    refine v_aloadn C 0 rfl rfl dX3_addUnit_12 ?_
    refine v_getr (o' := (o0 + 1)) C fr_X3_9 (iPlan_s0 h0) (iPlan_l0 h0) rfl (iPlan_r0 h0) dX3_addUnit_13 ?_
    refine v_aloadn C 0 rfl rfl dX3_addUnit_16 ?_
    refine v_geti C fr_X3_27 (iPlan_s0 h0) (iPlan_l0 h0) rfl dX3_addUnit_17 ?_
    refine v_iloadn C 1 rfl rfl dX3_addUnit_20 ?_
    have hi3 := h.1
    replace h := h.2
    refine v_ast C (iPlan_s1 h0) (iPlan_l1 h0) hi3 dX3_addUnit_21 (fun M3 e3 => ?_)
    replace h := h M3 e3
    refine v_aloadn C 0 rfl rfl dX3_addUnit_22 ?_
    refine v_getr (o' := (o0 + 2)) C fr_X3_15 (iPlan_s0 h0) (iPlan_l0 h0) rfl (iPlan_r1 h0) dX3_addUnit_23 ?_
    refine v_aloadn C 0 rfl rfl dX3_addUnit_26 ?_
    refine v_geti C fr_X3_27 (iPlan_s0 h0) (iPlan_l0 h0) rfl dX3_addUnit_27 ?_
    refine v_aloadn C 0 rfl rfl dX3_addUnit_30 ?_
    refine v_getr (o' := (o0 + 2)) C fr_X3_15 (iPlan_s0 h0) (iPlan_l0 h0) rfl (iPlan_r1 h0) dX3_addUnit_31 ?_
    refine v_aloadn C 0 rfl rfl dX3_addUnit_34 ?_
    refine v_geti C fr_X3_27 (iPlan_s0 h0) (iPlan_l0 h0) rfl dX3_addUnit_35 ?_
    refine v_iconst C kc_1 dX3_addUnit_38 ?_
    refine v_isub C dX3_addUnit_39 ?_
    refine v_ald C (iPlan_s2 h0) (iPlan_l2 h0) h.1 dX3_addUnit_40 ?_
    replace h := h.2
    refine v_iloadn C 1 rfl rfl dX3_addUnit_41 ?_
    refine v_iadd C dX3_addUnit_42 ?_
    have hi4 := h.1
    replace h := h.2
    refine v_ast C (iPlan_s2 h0) (iPlan_l2 h0) hi4 dX3_addUnit_43 (fun M4 e4 => ?_)
    replace h := h M4 e4
    refine v_aloadn C 0 rfl rfl dX3_addUnit_44 ?_
    refine v_dup C rfl dX3_addUnit_45 ?_
    refine v_geti C fr_X3_27 (iPlan_s0 h0) (iPlan_l0 h0) rfl dX3_addUnit_46 ?_
    refine v_iconst C kc_1 dX3_addUnit_49 ?_
    refine v_iadd C dX3_addUnit_50 ?_
    refine v_puti C fr_X3_27 (iPlan_s0 h0) (iPlan_l0 h0) rfl dX3_addUnit_51 (fun M5 e5 => ?_)
    replace h := h M5 e5
    exact v_vret C hr dX3_addUnit_54 h
abbrev rmX0_takeFrom : Room := { frames := 1, cells := 0, slots := 0, locals := 18 }
def wp_X0_takeFrom (o0 : Nat) (o1 : Nat) (M : Mem) (K : Mem → Prop) : Prop := (∀ M1 : Mem, M1 = mcp M (o1 + 1) 0 (o0 + 1) 0 32 → (∀ M2 : Mem, M2 = mcp M1 (o1 + 2) 0 (o0 + 2) 0 32 → (∀ M3 : Mem, M3 = mcp M2 (o1 + 3) 0 (o0 + 3) 0 32 → (∀ M4 : Mem, M4 = mcp M3 (o1 + 4) 0 (o0 + 4) 0 128 → (∀ M5 : Mem, M5 = mw M4 o0 4 (M4 o1 4) → (∀ M6 : Mem, M6 = mw M5 o0 5 (M5 o1 5) → isB (M6 o1 6) ∧ (∀ M7 : Mem, M7 = mw M6 o0 6 (M6 o1 6) → (∀ M8 : Mem, M8 = mw M7 o0 7 (M7 o1 7) → isB (M8 o1 8) ∧ (∀ M9 : Mem, M9 = mw M8 o0 8 (M8 o1 8) → isB (M9 o1 9) ∧ (∀ M10 : Mem, M10 = mw M9 o0 9 (M9 o1 9) → (∀ M11 : Mem, M11 = mcp M10 (o1 + 5) 0 (o0 + 5) 0 4 → K M11)))))))))))
set_option maxRecDepth 20000 in
theorem con_X0_takeFrom (l : Launch) (S : XS) (n : Nat) (R : Rfs) (o0 : Nat) (o1 : Nat) (h0 : isBand n R o0) (h1 : isBand n R o1) (M : Mem) (K : Mem → Prop) (h : wp_X0_takeFrom o0 o1 M K) : CV l yX0_takeFrom cX0_takeFrom 2 rmX0_takeFrom S n R [.ref (XB S + o0), .ref (XB S + o1)] M K := by
  refine conV (lv := [(0, .ref (XB S + o0)), (1, .ref (XB S + o1))]) (by decide) (Nat.le_of_ble_eq_true rfl) rfl ?_
  intro p e s m args below meth c C hr
  replace C : Cx p m meth c s args cX0_takeFrom RX0 2 S := C
  refine v_aloadn C 1 rfl rfl dX0_takeFrom_0 ?_
  refine v_getr (o' := (o1 + 1)) C fr_X0_11 (iBand_s0 h1) (iBand_l0 h1) rfl (iBand_r0 h1) dX0_takeFrom_1 ?_
  refine v_iconst C kc_0 dX0_takeFrom_4 ?_
  refine v_aloadn C 0 rfl rfl dX0_takeFrom_5 ?_
  refine v_getr (o' := (o0 + 1)) C fr_X0_11 (iBand_s0 h0) (iBand_l0 h0) rfl (iBand_r0 h0) dX0_takeFrom_6 ?_
  refine v_iconst C kc_0 dX0_takeFrom_9 ?_
  refine v_bipush C kb_32 dX0_takeFrom_10 ?_
  refine v_copy C (iBand_s1 h1) (iBand_l1 h1) (iBand_s1 h0) (iBand_l1 h0) wk_X0_44 w_cp1 w_cp2 w_cp3 lit_0.1 lit_0.1 lit_32.1 (by rw [show ix (0 : Int32) = 0 from lit_0.2, show ix (32 : Int32) = 32 from lit_32.2]; decide) (by rw [show ix (0 : Int32) = 0 from lit_0.2, show ix (32 : Int32) = 32 from lit_32.2]; decide) (Nat.le_of_ble_eq_true rfl) (Nat.le_of_ble_eq_true rfl) dX0_takeFrom_12 (fun M1 e1 => ?_)
  rw [show ix (0 : Int32) = 0 from lit_0.2, show ix (32 : Int32) = 32 from lit_32.2] at e1
  replace h := h M1 e1
  refine v_aloadn C 1 rfl rfl dX0_takeFrom_15 ?_
  refine v_getr (o' := (o1 + 2)) C fr_X0_15 (iBand_s0 h1) (iBand_l0 h1) rfl (iBand_r1 h1) dX0_takeFrom_16 ?_
  refine v_iconst C kc_0 dX0_takeFrom_19 ?_
  refine v_aloadn C 0 rfl rfl dX0_takeFrom_20 ?_
  refine v_getr (o' := (o0 + 2)) C fr_X0_15 (iBand_s0 h0) (iBand_l0 h0) rfl (iBand_r1 h0) dX0_takeFrom_21 ?_
  refine v_iconst C kc_0 dX0_takeFrom_24 ?_
  refine v_bipush C kb_32 dX0_takeFrom_25 ?_
  refine v_copy C (iBand_s2 h1) (iBand_l2 h1) (iBand_s2 h0) (iBand_l2 h0) wk_X0_44 w_cp1 w_cp2 w_cp3 lit_0.1 lit_0.1 lit_32.1 (by rw [show ix (0 : Int32) = 0 from lit_0.2, show ix (32 : Int32) = 32 from lit_32.2]; decide) (by rw [show ix (0 : Int32) = 0 from lit_0.2, show ix (32 : Int32) = 32 from lit_32.2]; decide) (Nat.le_of_ble_eq_true rfl) (Nat.le_of_ble_eq_true rfl) dX0_takeFrom_27 (fun M2 e2 => ?_)
  rw [show ix (0 : Int32) = 0 from lit_0.2, show ix (32 : Int32) = 32 from lit_32.2] at e2
  replace h := h M2 e2
  refine v_aloadn C 1 rfl rfl dX0_takeFrom_30 ?_
  refine v_getr (o' := (o1 + 3)) C fr_X0_18 (iBand_s0 h1) (iBand_l0 h1) rfl (iBand_r2 h1) dX0_takeFrom_31 ?_
  refine v_iconst C kc_0 dX0_takeFrom_34 ?_
  refine v_aloadn C 0 rfl rfl dX0_takeFrom_35 ?_
  refine v_getr (o' := (o0 + 3)) C fr_X0_18 (iBand_s0 h0) (iBand_l0 h0) rfl (iBand_r2 h0) dX0_takeFrom_36 ?_
  refine v_iconst C kc_0 dX0_takeFrom_39 ?_
  refine v_bipush C kb_32 dX0_takeFrom_40 ?_
  refine v_copy C (iBand_s3 h1) (iBand_l3 h1) (iBand_s3 h0) (iBand_l3 h0) wk_X0_44 w_cp1 w_cp2 w_cp3 lit_0.1 lit_0.1 lit_32.1 (by rw [show ix (0 : Int32) = 0 from lit_0.2, show ix (32 : Int32) = 32 from lit_32.2]; decide) (by rw [show ix (0 : Int32) = 0 from lit_0.2, show ix (32 : Int32) = 32 from lit_32.2]; decide) (Nat.le_of_ble_eq_true rfl) (Nat.le_of_ble_eq_true rfl) dX0_takeFrom_42 (fun M3 e3 => ?_)
  rw [show ix (0 : Int32) = 0 from lit_0.2, show ix (32 : Int32) = 32 from lit_32.2] at e3
  replace h := h M3 e3
  refine v_aloadn C 1 rfl rfl dX0_takeFrom_45 ?_
  refine v_getr (o' := (o1 + 4)) C fr_X0_21 (iBand_s0 h1) (iBand_l0 h1) rfl (iBand_r3 h1) dX0_takeFrom_46 ?_
  refine v_iconst C kc_0 dX0_takeFrom_49 ?_
  refine v_aloadn C 0 rfl rfl dX0_takeFrom_50 ?_
  refine v_getr (o' := (o0 + 4)) C fr_X0_21 (iBand_s0 h0) (iBand_l0 h0) rfl (iBand_r3 h0) dX0_takeFrom_51 ?_
  refine v_iconst C kc_0 dX0_takeFrom_54 ?_
  refine v_sipush C ks_128 dX0_takeFrom_55 ?_
  refine v_copy C (iBand_s4 h1) (iBand_l4 h1) (iBand_s4 h0) (iBand_l4 h0) wk_X0_44 w_cp1 w_cp2 w_cp3 lit_0.1 lit_0.1 lit_128.1 (by rw [show ix (0 : Int32) = 0 from lit_0.2, show ix (128 : Int32) = 128 from lit_128.2]; decide) (by rw [show ix (0 : Int32) = 0 from lit_0.2, show ix (128 : Int32) = 128 from lit_128.2]; decide) (Nat.le_of_ble_eq_true rfl) (Nat.le_of_ble_eq_true rfl) dX0_takeFrom_58 (fun M4 e4 => ?_)
  rw [show ix (0 : Int32) = 0 from lit_0.2, show ix (128 : Int32) = 128 from lit_128.2] at e4
  replace h := h M4 e4
  refine v_aloadn C 0 rfl rfl dX0_takeFrom_61 ?_
  refine v_aloadn C 1 rfl rfl dX0_takeFrom_62 ?_
  refine v_geti C fr_X0_27 (iBand_s0 h1) (iBand_l0 h1) rfl dX0_takeFrom_63 ?_
  refine v_puti C fr_X0_27 (iBand_s0 h0) (iBand_l0 h0) rfl dX0_takeFrom_66 (fun M5 e5 => ?_)
  replace h := h M5 e5
  refine v_aloadn C 0 rfl rfl dX0_takeFrom_69 ?_
  refine v_aloadn C 1 rfl rfl dX0_takeFrom_70 ?_
  refine v_geti C fr_X0_31 (iBand_s0 h1) (iBand_l0 h1) rfl dX0_takeFrom_71 ?_
  refine v_puti C fr_X0_31 (iBand_s0 h0) (iBand_l0 h0) rfl dX0_takeFrom_74 (fun M6 e6 => ?_)
  replace h := h M6 e6
  refine v_aloadn C 0 rfl rfl dX0_takeFrom_77 ?_
  refine v_aloadn C 1 rfl rfl dX0_takeFrom_78 ?_
  refine v_geti C fr_X0_34 (iBand_s0 h1) (iBand_l0 h1) rfl dX0_takeFrom_79 ?_
  have hb7 := h.1
  replace h := h.2
  refine v_putb C fr_X0_34 (iBand_s0 h0) (iBand_l0 h0) rfl hb7 dX0_takeFrom_82 (fun M7 e7 => ?_)
  replace h := h M7 e7
  refine v_aloadn C 0 rfl rfl dX0_takeFrom_85 ?_
  refine v_aloadn C 1 rfl rfl dX0_takeFrom_86 ?_
  refine v_geti C fr_X0_50 (iBand_s0 h1) (iBand_l0 h1) rfl dX0_takeFrom_87 ?_
  refine v_puti C fr_X0_50 (iBand_s0 h0) (iBand_l0 h0) rfl dX0_takeFrom_90 (fun M8 e8 => ?_)
  replace h := h M8 e8
  refine v_aloadn C 0 rfl rfl dX0_takeFrom_93 ?_
  refine v_aloadn C 1 rfl rfl dX0_takeFrom_94 ?_
  refine v_geti C fr_X0_53 (iBand_s0 h1) (iBand_l0 h1) rfl dX0_takeFrom_95 ?_
  have hb9 := h.1
  replace h := h.2
  refine v_putb C fr_X0_53 (iBand_s0 h0) (iBand_l0 h0) rfl hb9 dX0_takeFrom_98 (fun M9 e9 => ?_)
  replace h := h M9 e9
  refine v_aloadn C 0 rfl rfl dX0_takeFrom_101 ?_
  refine v_aloadn C 1 rfl rfl dX0_takeFrom_102 ?_
  refine v_geti C fr_X0_56 (iBand_s0 h1) (iBand_l0 h1) rfl dX0_takeFrom_103 ?_
  have hb10 := h.1
  replace h := h.2
  refine v_putb C fr_X0_56 (iBand_s0 h0) (iBand_l0 h0) rfl hb10 dX0_takeFrom_106 (fun M10 e10 => ?_)
  replace h := h M10 e10
  refine v_aloadn C 1 rfl rfl dX0_takeFrom_109 ?_
  refine v_getr (o' := (o1 + 5)) C fr_X0_24 (iBand_s0 h1) (iBand_l0 h1) rfl (iBand_r10 h1) dX0_takeFrom_110 ?_
  refine v_iconst C kc_0 dX0_takeFrom_113 ?_
  refine v_aloadn C 0 rfl rfl dX0_takeFrom_114 ?_
  refine v_getr (o' := (o0 + 5)) C fr_X0_24 (iBand_s0 h0) (iBand_l0 h0) rfl (iBand_r10 h0) dX0_takeFrom_115 ?_
  refine v_iconst C kc_0 dX0_takeFrom_118 ?_
  refine v_iconst C kc_4 dX0_takeFrom_119 ?_
  refine v_copy C (iBand_s5 h1) (iBand_l5 h1) (iBand_s5 h0) (iBand_l5 h0) wk_X0_44 w_cp1 w_cp2 w_cp3 lit_0.1 lit_0.1 lit_4.1 (by rw [show ix (0 : Int32) = 0 from lit_0.2, show ix (4 : Int32) = 4 from lit_4.2]; decide) (by rw [show ix (0 : Int32) = 0 from lit_0.2, show ix (4 : Int32) = 4 from lit_4.2]; decide) (Nat.le_of_ble_eq_true rfl) (Nat.le_of_ble_eq_true rfl) dX0_takeFrom_120 (fun M11 e11 => ?_)
  rw [show ix (0 : Int32) = 0 from lit_0.2, show ix (4 : Int32) = 4 from lit_4.2] at e11
  replace h := h M11 e11
  exact v_vret C hr dX0_takeFrom_123 h
abbrev rmX0_placeOf : Room := { frames := 0, cells := 0, slots := 0, locals := 0 }
def wp_X0_placeOf (o0 : Nat) (x1 : Int32) (M : Mem) (K : Int32 → Mem → Prop) : Prop := K ((((M o0 4) - (1 : Int32)) - x1) &&& (31 : Int32)) M
set_option maxRecDepth 20000 in
theorem con_X0_placeOf (l : Launch) (S : XS) (n : Nat) (R : Rfs) (o0 : Nat) (x1 : Int32) (h0 : isBand n R o0) (M : Mem) (K : Int32 → Mem → Prop) (h : wp_X0_placeOf o0 x1 M K) : CI l yX0_placeOf cX0_placeOf 2 (some .int) rmX0_placeOf S n R [.ref (XB S + o0), .int x1] M K := by
  refine conI (lv := [(0, .ref (XB S + o0)), (1, .int x1)]) (by decide) (Nat.le_of_ble_eq_true rfl) rfl ?_
  intro p e s m args below meth c C hr
  replace C : Cx p m meth c s args cX0_placeOf RX0 2 S := C
  refine v_aloadn C 0 rfl rfl dX0_placeOf_0 ?_
  refine v_geti C fr_X0_27 (iBand_s0 h0) (iBand_l0 h0) rfl dX0_placeOf_1 ?_
  refine v_iconst C kc_1 dX0_placeOf_4 ?_
  refine v_isub C dX0_placeOf_5 ?_
  refine v_iloadn C 1 rfl rfl dX0_placeOf_6 ?_
  refine v_isub C dX0_placeOf_7 ?_
  refine v_bipush C kb_31 dX0_placeOf_8 ?_
  refine v_iand C dX0_placeOf_10 ?_
  exact v_iret C hr dX0_placeOf_11 h
abbrev rmX0_begin : Room := { frames := 1, cells := 0, slots := 0, locals := 21 }
def wp_X0_begin (o0 : Nat) (x1 : Int32) (x2 : Int32) (M : Mem) (K : Mem → Prop) : Prop := (∀ M1 : Mem, M1 = mw M o0 4 ((M o0 4) + (1 : Int32)) → (∀ M2 : Mem, M2 = mw M1 o0 5 ((M1 o0 5) + (1 : Int32)) → wp_X0_placeOf o0 ((0 : Int32)) M2 (fun r3 M3 => vp_in r3 32 ∧ (∀ M4 : Mem, M4 = mw M3 (o0 + 1) (ix r3) x1 → (x2 = 0 → vp_in r3 32 ∧ (∀ M6 : Mem, M6 = mw M4 (o0 + 2) (ix r3) (0 : Int32) → vp_in r3 32 ∧ (∀ M7 : Mem, M7 = mw M6 (o0 + 3) (ix r3) (0 : Int32) → K M7))) ∧ (¬ x2 = 0 → vp_in r3 32 ∧ (∀ M8 : Mem, M8 = mw M4 (o0 + 2) (ix r3) (1 : Int32) → vp_in r3 32 ∧ (∀ M9 : Mem, M9 = mw M8 (o0 + 3) (ix r3) (0 : Int32) → K M9)))))))
set_option maxRecDepth 20000 in
theorem con_X0_begin (l : Launch) (S : XS) (n : Nat) (R : Rfs) (o0 : Nat) (x1 : Int32) (x2 : Int32) (h0 : isBand n R o0) (M : Mem) (K : Mem → Prop) (h : wp_X0_begin o0 x1 x2 M K) : CV l yX0_begin cX0_begin 4 rmX0_begin S n R [.ref (XB S + o0), .int x1, .int x2] M K := by
  refine conV (lv := [(0, .ref (XB S + o0)), (1, .int x1), (2, .int x2)]) (by decide) (Nat.le_of_ble_eq_true rfl) rfl ?_
  intro p e s m args below meth c C hr
  replace C : Cx p m meth c s args cX0_begin RX0 4 S := C
  refine v_aloadn C 0 rfl rfl dX0_begin_0 ?_
  refine v_dup C rfl dX0_begin_1 ?_
  refine v_geti C fr_X0_27 (iBand_s0 h0) (iBand_l0 h0) rfl dX0_begin_2 ?_
  refine v_iconst C kc_1 dX0_begin_5 ?_
  refine v_iadd C dX0_begin_6 ?_
  refine v_puti C fr_X0_27 (iBand_s0 h0) (iBand_l0 h0) rfl dX0_begin_7 (fun M1 e1 => ?_)
  replace h := h M1 e1
  refine v_aloadn C 0 rfl rfl dX0_begin_10 ?_
  refine v_dup C rfl dX0_begin_11 ?_
  refine v_geti C fr_X0_31 (iBand_s0 h0) (iBand_l0 h0) rfl dX0_begin_12 ?_
  refine v_iconst C kc_1 dX0_begin_15 ?_
  refine v_iadd C dX0_begin_16 ?_
  refine v_puti C fr_X0_31 (iBand_s0 h0) (iBand_l0 h0) rfl dX0_begin_17 (fun M2 e2 => ?_)
  replace h := h M2 e2
  refine v_aloadn C 0 rfl rfl dX0_begin_20 ?_
  refine v_iconst C kc_0 dX0_begin_21 ?_
  refine v_cvI (As := [.int (0 : Int32)]) C mv_X0_59 (con_X0_placeOf l S n R o0 ((0 : Int32)) h0 _ _ h) (iBand_s0 h0) (iBand_l0 h0) rfl ⟨(Nat.le_of_ble_eq_true rfl), (Nat.le_of_ble_eq_true rfl)⟩ ⟨rfl, rfl, Nat.zero_le _, Nat.zero_le _⟩ (Nat.le_of_ble_eq_true rfl) dX0_begin_22 (fun r3 M3 h => ?_)
  refine v_istoren (lv' := [(3, .int r3), (0, .ref (XB S + o0)), (1, .int x1), (2, .int x2)]) C rfl rfl (Nat.le_of_ble_eq_true rfl) dX0_begin_25 ?_
  refine v_aloadn C 1 rfl rfl dX0_begin_26 ?_
  refine v_getr (o' := (o0 + 1)) C fr_X0_11 (iBand_s0 h0) (iBand_l0 h0) rfl (iBand_r0 h0) dX0_begin_27 ?_
  refine v_iloadn C 0 rfl rfl dX0_begin_30 ?_
  refine v_iloadn C 2 rfl rfl dX0_begin_31 ?_
  have hi4 := h.1
  replace h := h.2
  refine v_ast C (iBand_s1 h0) (iBand_l1 h0) hi4 dX0_begin_32 (fun M4 e4 => ?_)
  replace h := h M4 e4
  refine v_aloadn C 1 rfl rfl dX0_begin_33 ?_
  refine v_getr (o' := (o0 + 2)) C fr_X0_15 (iBand_s0 h0) (iBand_l0 h0) rfl (iBand_r1 h0) dX0_begin_34 ?_
  refine v_iloadn C 0 rfl rfl dX0_begin_37 ?_
  refine v_iloadn C 3 rfl rfl dX0_begin_38 ?_
  refine v_if_eq C 46 (by decide) dX0_begin_39 (fun c5 => ?_) (fun c5 => ?_)
  · replace h := h.1 c5
    refine v_iconst C kc_0 dX0_begin_46 ?_
    have hi6 := h.1
    replace h := h.2
    refine v_ast C (iBand_s2 h0) (iBand_l2 h0) hi6 dX0_begin_47 (fun M6 e6 => ?_)
    replace h := h M6 e6
    refine v_aloadn C 1 rfl rfl dX0_begin_48 ?_
    refine v_getr (o' := (o0 + 3)) C fr_X0_18 (iBand_s0 h0) (iBand_l0 h0) rfl (iBand_r2 h0) dX0_begin_49 ?_
    refine v_iloadn C 0 rfl rfl dX0_begin_52 ?_
    refine v_iconst C kc_0 dX0_begin_53 ?_
    have hi7 := h.1
    replace h := h.2
    refine v_ast C (iBand_s3 h0) (iBand_l3 h0) hi7 dX0_begin_54 (fun M7 e7 => ?_)
    replace h := h M7 e7
    exact v_vret C hr dX0_begin_55 h
  · replace h := h.2 c5
    refine v_iconst C kc_1 dX0_begin_42 ?_
    refine v_goto C 47 (by decide) dX0_begin_43 ?_
    have hi8 := h.1
    replace h := h.2
    refine v_ast C (iBand_s2 h0) (iBand_l2 h0) hi8 dX0_begin_47 (fun M8 e8 => ?_)
    replace h := h M8 e8
    refine v_aloadn C 1 rfl rfl dX0_begin_48 ?_
    refine v_getr (o' := (o0 + 3)) C fr_X0_18 (iBand_s0 h0) (iBand_l0 h0) rfl (iBand_r2 h0) dX0_begin_49 ?_
    refine v_iloadn C 0 rfl rfl dX0_begin_52 ?_
    refine v_iconst C kc_0 dX0_begin_53 ?_
    have hi9 := h.1
    replace h := h.2
    refine v_ast C (iBand_s3 h0) (iBand_l3 h0) hi9 dX0_begin_54 (fun M9 e9 => ?_)
    replace h := h M9 e9
    exact v_vret C hr dX0_begin_55 h
abbrev rmX3_hasReel : Room := { frames := 0, cells := 0, slots := 0, locals := 0 }
def wp_X3_hasReel (o0 : Nat) (x1 : Int32) (M : Mem) (K : Int32 → Mem → Prop) : Prop := (x1 < 0 → K (0 : Int32) M) ∧ (¬ x1 < 0 → ((M o0 5) ≤ x1 → K (0 : Int32) M) ∧ (¬ (M o0 5) ≤ x1 → K (1 : Int32) M))
set_option maxRecDepth 20000 in
theorem con_X3_hasReel (l : Launch) (S : XS) (n : Nat) (R : Rfs) (o0 : Nat) (x1 : Int32) (h0 : isPlan n R o0) (M : Mem) (K : Int32 → Mem → Prop) (h : wp_X3_hasReel o0 x1 M K) : CI l yX3_hasReel cX3_hasReel 2 (some .boolean) rmX3_hasReel S n R [.ref (XB S + o0), .int x1] M K := by
  refine conI (lv := [(0, .ref (XB S + o0)), (1, .int x1)]) (by decide) (Nat.le_of_ble_eq_true rfl) rfl ?_
  intro p e s m args below meth c C hr
  replace C : Cx p m meth c s args cX3_hasReel RX3 2 S := C
  refine v_iloadn C 1 rfl rfl dX3_hasReel_0 ?_
  refine v_if_lt C 16 (by decide) dX3_hasReel_1 (fun c1 => ?_) (fun c1 => ?_)
  · replace h := h.1 c1
    refine v_iconst C kc_0 dX3_hasReel_16 ?_
    exact v_zret C isB0 hr dX3_hasReel_17 h
  · replace h := h.2 c1
    refine v_iloadn C 1 rfl rfl dX3_hasReel_4 ?_
    refine v_aloadn C 0 rfl rfl dX3_hasReel_5 ?_
    refine v_geti C fr_X3_31 (iPlan_s0 h0) (iPlan_l0 h0) rfl dX3_hasReel_6 ?_
    refine v_icmp_ge C 16 (by decide) dX3_hasReel_9 (fun c2 => ?_) (fun c2 => ?_)
    · replace h := h.1 c2
      refine v_iconst C kc_0 dX3_hasReel_16 ?_
      exact v_zret C isB0 hr dX3_hasReel_17 h
    · replace h := h.2 c2
      refine v_iconst C kc_1 dX3_hasReel_12 ?_
      refine v_goto C 17 (by decide) dX3_hasReel_13 ?_
      exact v_zret C isB1 hr dX3_hasReel_17 h
abbrev rmX3_ticksToCameraFrom : Room := { frames := 0, cells := 0, slots := 0, locals := 0 }
def wp_X3_ticksToCameraFrom (o0 : Nat) (x1 : Int32) (M : Mem) (K : Int32 → Mem → Prop) : Prop := vp_in ((M o0 4) - (1 : Int32)) 4 ∧ (vp_in x1 4 ∧ (K (((M (o0 + 2) (ix ((M o0 4) - (1 : Int32)))) - (M (o0 + 2) (ix x1))) + (M o0 6)) M))
set_option maxRecDepth 20000 in
theorem con_X3_ticksToCameraFrom (l : Launch) (S : XS) (n : Nat) (R : Rfs) (o0 : Nat) (x1 : Int32) (h0 : isPlan n R o0) (M : Mem) (K : Int32 → Mem → Prop) (h : wp_X3_ticksToCameraFrom o0 x1 M K) : CI l yX3_ticksToCameraFrom cX3_ticksToCameraFrom 2 (some .int) rmX3_ticksToCameraFrom S n R [.ref (XB S + o0), .int x1] M K := by
  refine conI (lv := [(0, .ref (XB S + o0)), (1, .int x1)]) (by decide) (Nat.le_of_ble_eq_true rfl) rfl ?_
  intro p e s m args below meth c C hr
  replace C : Cx p m meth c s args cX3_ticksToCameraFrom RX3 2 S := C
  refine v_aloadn C 0 rfl rfl dX3_ticksToCameraFrom_0 ?_
  refine v_getr (o' := (o0 + 2)) C fr_X3_15 (iPlan_s0 h0) (iPlan_l0 h0) rfl (iPlan_r1 h0) dX3_ticksToCameraFrom_1 ?_
  refine v_aloadn C 0 rfl rfl dX3_ticksToCameraFrom_4 ?_
  refine v_geti C fr_X3_27 (iPlan_s0 h0) (iPlan_l0 h0) rfl dX3_ticksToCameraFrom_5 ?_
  refine v_iconst C kc_1 dX3_ticksToCameraFrom_8 ?_
  refine v_isub C dX3_ticksToCameraFrom_9 ?_
  refine v_ald C (iPlan_s2 h0) (iPlan_l2 h0) h.1 dX3_ticksToCameraFrom_10 ?_
  replace h := h.2
  refine v_aloadn C 0 rfl rfl dX3_ticksToCameraFrom_11 ?_
  refine v_getr (o' := (o0 + 2)) C fr_X3_15 (iPlan_s0 h0) (iPlan_l0 h0) rfl (iPlan_r1 h0) dX3_ticksToCameraFrom_12 ?_
  refine v_iloadn C 1 rfl rfl dX3_ticksToCameraFrom_15 ?_
  refine v_ald C (iPlan_s2 h0) (iPlan_l2 h0) h.1 dX3_ticksToCameraFrom_16 ?_
  replace h := h.2
  refine v_isub C dX3_ticksToCameraFrom_17 ?_
  refine v_aloadn C 0 rfl rfl dX3_ticksToCameraFrom_18 ?_
  refine v_geti C fr_X3_34 (iPlan_s0 h0) (iPlan_l0 h0) rfl dX3_ticksToCameraFrom_19 ?_
  refine v_iadd C dX3_ticksToCameraFrom_22 ?_
  exact v_iret C hr dX3_ticksToCameraFrom_23 h
abbrev rmX3_hasUnit : Room := { frames := 0, cells := 0, slots := 0, locals := 0 }
def wp_X3_hasUnit (o0 : Nat) (x1 : Int32) (M : Mem) (K : Int32 → Mem → Prop) : Prop := (x1 < 0 → K (0 : Int32) M) ∧ (¬ x1 < 0 → ((M o0 4) ≤ x1 → K (0 : Int32) M) ∧ (¬ (M o0 4) ≤ x1 → K (1 : Int32) M))
set_option maxRecDepth 20000 in
theorem con_X3_hasUnit (l : Launch) (S : XS) (n : Nat) (R : Rfs) (o0 : Nat) (x1 : Int32) (h0 : isPlan n R o0) (M : Mem) (K : Int32 → Mem → Prop) (h : wp_X3_hasUnit o0 x1 M K) : CI l yX3_hasUnit cX3_hasUnit 2 (some .boolean) rmX3_hasUnit S n R [.ref (XB S + o0), .int x1] M K := by
  refine conI (lv := [(0, .ref (XB S + o0)), (1, .int x1)]) (by decide) (Nat.le_of_ble_eq_true rfl) rfl ?_
  intro p e s m args below meth c C hr
  replace C : Cx p m meth c s args cX3_hasUnit RX3 2 S := C
  refine v_iloadn C 1 rfl rfl dX3_hasUnit_0 ?_
  refine v_if_lt C 16 (by decide) dX3_hasUnit_1 (fun c1 => ?_) (fun c1 => ?_)
  · replace h := h.1 c1
    refine v_iconst C kc_0 dX3_hasUnit_16 ?_
    exact v_zret C isB0 hr dX3_hasUnit_17 h
  · replace h := h.2 c1
    refine v_iloadn C 1 rfl rfl dX3_hasUnit_4 ?_
    refine v_aloadn C 0 rfl rfl dX3_hasUnit_5 ?_
    refine v_geti C fr_X3_27 (iPlan_s0 h0) (iPlan_l0 h0) rfl dX3_hasUnit_6 ?_
    refine v_icmp_ge C 16 (by decide) dX3_hasUnit_9 (fun c2 => ?_) (fun c2 => ?_)
    · replace h := h.1 c2
      refine v_iconst C kc_0 dX3_hasUnit_16 ?_
      exact v_zret C isB0 hr dX3_hasUnit_17 h
    · replace h := h.2 c2
      refine v_iconst C kc_1 dX3_hasUnit_12 ?_
      refine v_goto C 17 (by decide) dX3_hasUnit_13 ?_
      exact v_zret C isB1 hr dX3_hasUnit_17 h
abbrev rmX3_isMovable : Room := { frames := 0, cells := 0, slots := 0, locals := 0 }
def wp_X3_isMovable (o0 : Nat) (x1 : Int32) (M : Mem) (K : Int32 → Mem → Prop) : Prop := (x1 < (1 : Int32) → K (0 : Int32) M) ∧ (¬ x1 < (1 : Int32) → ((M o0 4) ≤ x1 → K (0 : Int32) M) ∧ (¬ (M o0 4) ≤ x1 → K (1 : Int32) M))
set_option maxRecDepth 20000 in
theorem con_X3_isMovable (l : Launch) (S : XS) (n : Nat) (R : Rfs) (o0 : Nat) (x1 : Int32) (h0 : isPlan n R o0) (M : Mem) (K : Int32 → Mem → Prop) (h : wp_X3_isMovable o0 x1 M K) : CI l yX3_isMovable cX3_isMovable 2 (some .boolean) rmX3_isMovable S n R [.ref (XB S + o0), .int x1] M K := by
  refine conI (lv := [(0, .ref (XB S + o0)), (1, .int x1)]) (by decide) (Nat.le_of_ble_eq_true rfl) rfl ?_
  intro p e s m args below meth c C hr
  replace C : Cx p m meth c s args cX3_isMovable RX3 2 S := C
  refine v_iloadn C 1 rfl rfl dX3_isMovable_0 ?_
  refine v_iconst C kc_1 dX3_isMovable_1 ?_
  refine v_icmp_lt C 17 (by decide) dX3_isMovable_2 (fun c1 => ?_) (fun c1 => ?_)
  · replace h := h.1 c1
    refine v_iconst C kc_0 dX3_isMovable_17 ?_
    exact v_zret C isB0 hr dX3_isMovable_18 h
  · replace h := h.2 c1
    refine v_iloadn C 1 rfl rfl dX3_isMovable_5 ?_
    refine v_aloadn C 0 rfl rfl dX3_isMovable_6 ?_
    refine v_geti C fr_X3_27 (iPlan_s0 h0) (iPlan_l0 h0) rfl dX3_isMovable_7 ?_
    refine v_icmp_ge C 17 (by decide) dX3_isMovable_10 (fun c2 => ?_) (fun c2 => ?_)
    · replace h := h.1 c2
      refine v_iconst C kc_0 dX3_isMovable_17 ?_
      exact v_zret C isB0 hr dX3_isMovable_18 h
    · replace h := h.2 c2
      refine v_iconst C kc_1 dX3_isMovable_13 ?_
      refine v_goto C 18 (by decide) dX3_isMovable_14 ?_
      exact v_zret C isB1 hr dX3_isMovable_18 h
abbrev rmX0_cameFurtherOutThan : Room := { frames := 1, cells := 0, slots := 0, locals := 13 }
def L_X0_cameFurtherOutThan_2 (o0 : Nat)  (K : Int32 → Mem → Prop) : Nat → Int32 → Int32 → Mem → Prop
  | 0, _, _, _ => False
  | k + 1, x1, x2, M => ((4 : Int32) ≤ x2 → K (0 : Int32) M) ∧ (¬ (4 : Int32) ≤ x2 → vp_in x2 4 ∧ (((if 0 ≤ (M (o0 + 5) (ix x2)) then (M (o0 + 5) (ix x2)) else 0 - (M (o0 + 5) (ix x2))) ≤ x1 → L_X0_cameFurtherOutThan_2 o0  K k x1 (x2 + (1 : Int32)) M) ∧ (¬ (if 0 ≤ (M (o0 + 5) (ix x2)) then (M (o0 + 5) (ix x2)) else 0 - (M (o0 + 5) (ix x2))) ≤ x1 → K (1 : Int32) M)))
def wp_X0_cameFurtherOutThan (o0 : Nat) (x1 : Int32) (M : Mem) (K : Int32 → Mem → Prop) : Prop := ∃ j1 : Nat, L_X0_cameFurtherOutThan_2 o0 K j1 (x1) ((1 : Int32)) M
set_option maxRecDepth 20000 in
theorem tl_X0_cameFurtherOutThan_2 {p : Program} {e : Env} {s : State} {m : MethodId} {args : Array Value} {below : List Frame} {meth : Method} {c : Code} (l : Launch) (S : XS) (n : Nat) (R : Rfs) (o0 : Nat) (h0 : isBand n R o0) (C : Cx p m meth c s args cX0_cameFurtherOutThan RX0 3 S) (hr : meth.sig.returnType = (some .boolean)) (K : Int32 → Mem → Prop)   (k : Nat) : ∀ (x1 x2 : Int32) (M : Mem), L_X0_cameFurtherOutThan_2 o0  K k x1 x2 M → V p l e rmX0_cameFurtherOutThan s m args below meth c (MQ below (va_Qi K (XPost S n R) (XA S)) args s 0 0 (XA S)) S 3 0 0 n M R 2 [(0, .ref (XB S + o0)), (1, .int x1), (2, .int x2)] [] := by
  induction k with
  | zero => intro x1 x2 M h; exact h.elim
  | succ k ih =>
    intro x1 x2 M h
    refine v_iloadn C 2 rfl rfl dX0_cameFurtherOutThan_2 ?_
    refine v_iconst C kc_4 dX0_cameFurtherOutThan_3 ?_
    refine v_icmp_ge C 28 (by decide) dX0_cameFurtherOutThan_4 (fun c2 => ?_) (fun c2 => ?_)
    · replace h := h.1 c2
      refine v_iconst C kc_0 dX0_cameFurtherOutThan_28 ?_
      exact v_zret C isB0 hr dX0_cameFurtherOutThan_29 h
    · replace h := h.2 c2
      refine v_aloadn C 0 rfl rfl dX0_cameFurtherOutThan_7 ?_
      refine v_getr (o' := (o0 + 5)) C fr_X0_24 (iBand_s0 h0) (iBand_l0 h0) rfl (iBand_r10 h0) dX0_cameFurtherOutThan_8 ?_
      refine v_iloadn C 2 rfl rfl dX0_cameFurtherOutThan_11 ?_
      refine v_ald C (iBand_s5 h0) (iBand_l5 h0) h.1 dX0_cameFurtherOutThan_12 ?_
      replace h := h.2
      refine v_mabs C mm_X0_71 (Nat.le_of_ble_eq_true rfl) (Nat.le_of_ble_eq_true rfl) (Nat.zero_le _) (Nat.zero_le _) dX0_cameFurtherOutThan_13 ?_
      refine v_iloadn C 1 rfl rfl dX0_cameFurtherOutThan_16 ?_
      refine v_icmp_le C 22 (by decide) dX0_cameFurtherOutThan_17 (fun c3 => ?_) (fun c3 => ?_)
      · replace h := h.1 c3
        refine v_iinc (lv' := [(2, .int (x2 + (1 : Int32))), (0, .ref (XB S + o0)), (1, .int x1)]) C 2 rfl kc_1 rfl rfl (Nat.le_of_ble_eq_true rfl) dX0_cameFurtherOutThan_22 ?_
        refine v_goto C 2 (by decide) dX0_cameFurtherOutThan_25 ?_
        refine v_loc [1, 2, 0] rfl ?_
        exact ih (x1) ((x2 + (1 : Int32))) M h
      · replace h := h.2 c3
        refine v_iconst C kc_1 dX0_cameFurtherOutThan_20 ?_
        exact v_zret C isB1 hr dX0_cameFurtherOutThan_21 h
set_option maxRecDepth 20000 in
theorem con_X0_cameFurtherOutThan (l : Launch) (S : XS) (n : Nat) (R : Rfs) (o0 : Nat) (x1 : Int32) (h0 : isBand n R o0) (M : Mem) (K : Int32 → Mem → Prop) (h : wp_X0_cameFurtherOutThan o0 x1 M K) : CI l yX0_cameFurtherOutThan cX0_cameFurtherOutThan 3 (some .boolean) rmX0_cameFurtherOutThan S n R [.ref (XB S + o0), .int x1] M K := by
  refine conI (lv := [(0, .ref (XB S + o0)), (1, .int x1)]) (by decide) (Nat.le_of_ble_eq_true rfl) rfl ?_
  intro p e s m args below meth c C hr
  replace C : Cx p m meth c s args cX0_cameFurtherOutThan RX0 3 S := C
  refine v_iconst C kc_1 dX0_cameFurtherOutThan_0 ?_
  refine v_istoren (lv' := [(2, .int (1 : Int32)), (0, .ref (XB S + o0)), (1, .int x1)]) C rfl rfl (Nat.le_of_ble_eq_true rfl) dX0_cameFurtherOutThan_1 ?_
  refine v_loc [1, 2, 0] rfl ?_
  obtain ⟨k1, h⟩ := h
  exact tl_X0_cameFurtherOutThan_2 l S n R o0 h0 C hr K   k1 (x1) ((1 : Int32)) M h
abbrev rmX0_come : Room := { frames := 2, cells := 0, slots := 0, locals := 35 }
def wp_X0_come_55 (o0 : Nat)  (K : Mem → Prop) (x1 x2 y0 : Int32) (M : Mem) : Prop := isB y0 ∧ (∀ M6 : Mem, M6 = mw M o0 8 y0 → (¬ (x2 * (4 : Int32)) < 0 ∧ ix (x2 * (4 : Int32)) + 4 ≤ 128) ∧ (∀ M7 : Mem, M7 = mcp M6 (o0 + 4) (ix (x2 * (4 : Int32))) (o0 + 5) 0 4 → (¬ (M7 o0 8) = 0 → (∀ M9 : Mem, M9 = mw M7 o0 9 (0 : Int32) → K M9)) ∧ ((M7 o0 8) = 0 → wp_X0_cameFurtherOutThan o0 (x1) M7 (fun r10 M10 => (¬ r10 = 0 → (∀ M12 : Mem, M12 = mw M10 o0 9 (0 : Int32) → K M12)) ∧ (r10 = 0 → (∀ M13 : Mem, M13 = mw M10 o0 9 (1 : Int32) → K M13))))))
def wp_X0_come (o0 : Nat) (x1 : Int32) (M : Mem) (K : Mem → Prop) : Prop := (∀ M1 : Mem, M1 = mw M o0 5 ((M o0 5) - (1 : Int32)) → wp_X0_placeOf o0 ((M1 o0 5)) M1 (fun r2 M2 => (∀ M3 : Mem, M3 = mw M2 o0 6 (1 : Int32) → (∀ M4 : Mem, M4 = mw M3 o0 7 (((M3 o0 4) - (1 : Int32)) - (M3 o0 5)) → vp_in r2 32 ∧ ((¬ (M4 (o0 + 2) (ix r2)) = (1 : Int32) → wp_X0_come_55 o0 K (x1) (r2) ((0 : Int32)) M4) ∧ ((M4 (o0 + 2) (ix r2)) = (1 : Int32) → wp_X0_come_55 o0 K (x1) (r2) ((1 : Int32)) M4))))))
set_option maxRecDepth 20000 in
theorem tb_X0_come_55 {p : Program} {e : Env} {s : State} {m : MethodId} {args : Array Value} {below : List Frame} {meth : Method} {c : Code} (l : Launch) (S : XS) (n : Nat) (R : Rfs) (o0 : Nat) (h0 : isBand n R o0) (C : Cx p m meth c s args cX0_come RX0 3 S) (hr : meth.sig.returnType = none) (K : Mem → Prop)   (x1 x2 y0 : Int32) (M : Mem) (h : wp_X0_come_55 o0  K x1 x2 y0 M) : V p l e rmX0_come s m args below meth c (MQ below (va_Qv K (XPost S n R) (XA S)) args s 0 0 (XA S)) S 3 0 0 n M R 55 [(0, .ref (XB S + o0)), (1, .int x1), (2, .int x2)] [.int y0, .ref (XB S + o0)] := by
  have hb6 := h.1
  replace h := h.2
  refine v_putb C fr_X0_53 (iBand_s0 h0) (iBand_l0 h0) rfl hb6 dX0_come_55 (fun M6 e6 => ?_)
  replace h := h M6 e6
  refine v_aloadn C 0 rfl rfl dX0_come_58 ?_
  refine v_getr (o' := (o0 + 4)) C fr_X0_21 (iBand_s0 h0) (iBand_l0 h0) rfl (iBand_r3 h0) dX0_come_59 ?_
  refine v_iloadn C 2 rfl rfl dX0_come_62 ?_
  refine v_iconst C kc_4 dX0_come_63 ?_
  refine v_imul C dX0_come_64 ?_
  refine v_aloadn C 0 rfl rfl dX0_come_65 ?_
  refine v_getr (o' := (o0 + 5)) C fr_X0_24 (iBand_s0 h0) (iBand_l0 h0) rfl (iBand_r10 h0) dX0_come_66 ?_
  refine v_iconst C kc_0 dX0_come_69 ?_
  refine v_iconst C kc_4 dX0_come_70 ?_
  have hc7 := h.1
  replace h := h.2
  refine v_copy C (iBand_s4 h0) (iBand_l4 h0) (iBand_s5 h0) (iBand_l5 h0) wk_X0_44 w_cp1 w_cp2 w_cp3 hc7.1 lit_0.1 lit_4.1 (by rw [show ix (4 : Int32) = 4 from lit_4.2]; exact hc7.2) (by rw [show ix (0 : Int32) = 0 from lit_0.2, show ix (4 : Int32) = 4 from lit_4.2]; decide) (Nat.le_of_ble_eq_true rfl) (Nat.le_of_ble_eq_true rfl) dX0_come_71 (fun M7 e7 => ?_)
  rw [show ix (0 : Int32) = 0 from lit_0.2, show ix (4 : Int32) = 4 from lit_4.2] at e7
  replace h := h M7 e7
  refine v_aloadn C 0 rfl rfl dX0_come_74 ?_
  refine v_aloadn C 0 rfl rfl dX0_come_75 ?_
  refine v_geti C fr_X0_53 (iBand_s0 h0) (iBand_l0 h0) rfl dX0_come_76 ?_
  refine v_if_ne C 94 (by decide) dX0_come_79 (fun c8 => ?_) (fun c8 => ?_)
  · replace h := h.1 c8
    refine v_iconst C kc_0 dX0_come_94 ?_
    refine v_putb C fr_X0_56 (iBand_s0 h0) (iBand_l0 h0) rfl isB0 dX0_come_95 (fun M9 e9 => ?_)
    replace h := h M9 e9
    exact v_vret C hr dX0_come_98 h
  · replace h := h.2 c8
    refine v_aloadn C 0 rfl rfl dX0_come_82 ?_
    refine v_iloadn C 1 rfl rfl dX0_come_83 ?_
    refine v_cvI (As := [.int x1]) C mv_X0_67 (con_X0_cameFurtherOutThan l S n R o0 (x1) h0 _ _ h) (iBand_s0 h0) (iBand_l0 h0) rfl ⟨(Nat.le_of_ble_eq_true rfl), (Nat.le_of_ble_eq_true rfl)⟩ ⟨rfl, rfl, Nat.zero_le _, Nat.zero_le _⟩ (Nat.le_of_ble_eq_true rfl) dX0_come_84 (fun r10 M10 h => ?_)
    refine v_if_ne C 94 (by decide) dX0_come_87 (fun c11 => ?_) (fun c11 => ?_)
    · replace h := h.1 c11
      refine v_iconst C kc_0 dX0_come_94 ?_
      refine v_putb C fr_X0_56 (iBand_s0 h0) (iBand_l0 h0) rfl isB0 dX0_come_95 (fun M12 e12 => ?_)
      replace h := h M12 e12
      exact v_vret C hr dX0_come_98 h
    · replace h := h.2 c11
      refine v_iconst C kc_1 dX0_come_90 ?_
      refine v_goto C 95 (by decide) dX0_come_91 ?_
      refine v_putb C fr_X0_56 (iBand_s0 h0) (iBand_l0 h0) rfl isB1 dX0_come_95 (fun M13 e13 => ?_)
      replace h := h M13 e13
      exact v_vret C hr dX0_come_98 h
set_option maxRecDepth 20000 in
theorem con_X0_come (l : Launch) (S : XS) (n : Nat) (R : Rfs) (o0 : Nat) (x1 : Int32) (h0 : isBand n R o0) (M : Mem) (K : Mem → Prop) (h : wp_X0_come o0 x1 M K) : CV l yX0_come cX0_come 3 rmX0_come S n R [.ref (XB S + o0), .int x1] M K := by
  refine conV (lv := [(0, .ref (XB S + o0)), (1, .int x1)]) (by decide) (Nat.le_of_ble_eq_true rfl) rfl ?_
  intro p e s m args below meth c C hr
  replace C : Cx p m meth c s args cX0_come RX0 3 S := C
  refine v_aloadn C 0 rfl rfl dX0_come_0 ?_
  refine v_dup C rfl dX0_come_1 ?_
  refine v_geti C fr_X0_31 (iBand_s0 h0) (iBand_l0 h0) rfl dX0_come_2 ?_
  refine v_iconst C kc_1 dX0_come_5 ?_
  refine v_isub C dX0_come_6 ?_
  refine v_puti C fr_X0_31 (iBand_s0 h0) (iBand_l0 h0) rfl dX0_come_7 (fun M1 e1 => ?_)
  replace h := h M1 e1
  refine v_aloadn C 0 rfl rfl dX0_come_10 ?_
  refine v_aloadn C 0 rfl rfl dX0_come_11 ?_
  refine v_geti C fr_X0_31 (iBand_s0 h0) (iBand_l0 h0) rfl dX0_come_12 ?_
  refine v_cvI (As := [.int (M1 o0 5)]) C mv_X0_59 (con_X0_placeOf l S n R o0 ((M1 o0 5)) h0 _ _ h) (iBand_s0 h0) (iBand_l0 h0) rfl ⟨(Nat.le_of_ble_eq_true rfl), (Nat.le_of_ble_eq_true rfl)⟩ ⟨rfl, rfl, Nat.zero_le _, Nat.zero_le _⟩ (Nat.le_of_ble_eq_true rfl) dX0_come_15 (fun r2 M2 h => ?_)
  refine v_istoren (lv' := [(2, .int r2), (0, .ref (XB S + o0)), (1, .int x1)]) C rfl rfl (Nat.le_of_ble_eq_true rfl) dX0_come_18 ?_
  refine v_aloadn C 1 rfl rfl dX0_come_19 ?_
  refine v_iconst C kc_1 dX0_come_20 ?_
  refine v_putb C fr_X0_34 (iBand_s0 h0) (iBand_l0 h0) rfl isB1 dX0_come_21 (fun M3 e3 => ?_)
  replace h := h M3 e3
  refine v_aloadn C 1 rfl rfl dX0_come_24 ?_
  refine v_aloadn C 1 rfl rfl dX0_come_25 ?_
  refine v_geti C fr_X0_27 (iBand_s0 h0) (iBand_l0 h0) rfl dX0_come_26 ?_
  refine v_iconst C kc_1 dX0_come_29 ?_
  refine v_isub C dX0_come_30 ?_
  refine v_aloadn C 1 rfl rfl dX0_come_31 ?_
  refine v_geti C fr_X0_31 (iBand_s0 h0) (iBand_l0 h0) rfl dX0_come_32 ?_
  refine v_isub C dX0_come_35 ?_
  refine v_puti C fr_X0_50 (iBand_s0 h0) (iBand_l0 h0) rfl dX0_come_36 (fun M4 e4 => ?_)
  replace h := h M4 e4
  refine v_aloadn C 1 rfl rfl dX0_come_39 ?_
  refine v_aloadn C 1 rfl rfl dX0_come_40 ?_
  refine v_getr (o' := (o0 + 2)) C fr_X0_15 (iBand_s0 h0) (iBand_l0 h0) rfl (iBand_r1 h0) dX0_come_41 ?_
  refine v_iloadn C 0 rfl rfl dX0_come_44 ?_
  refine v_ald C (iBand_s2 h0) (iBand_l2 h0) h.1 dX0_come_45 ?_
  replace h := h.2
  refine v_iconst C kc_1 dX0_come_46 ?_
  refine v_icmp_ne C 54 (by decide) dX0_come_47 (fun c5 => ?_) (fun c5 => ?_)
  · replace h := h.1 c5
    refine v_iconst C kc_0 dX0_come_54 ?_
    refine v_loc [1, 2, 0] rfl ?_
    exact tb_X0_come_55 l S n R o0 h0 C hr K   (x1) (r2) ((0 : Int32)) M4 h
  · replace h := h.2 c5
    refine v_iconst C kc_1 dX0_come_50 ?_
    refine v_goto C 55 (by decide) dX0_come_51 ?_
    refine v_loc [1, 2, 0] rfl ?_
    exact tb_X0_come_55 l S n R o0 h0 C hr K   (x1) (r2) ((1 : Int32)) M4 h
abbrev rmX0_print : Room := { frames := 1, cells := 0, slots := 0, locals := 22 }
def wp_X0_print (o0 : Nat) (x1 : Int32) (x2 : Int32) (x3 : Int32) (x4 : Int32) (M : Mem) (K : Mem → Prop) : Prop := ((M o0 5) ≤ x1 → K M) ∧ (¬ (M o0 5) ≤ x1 → wp_X6_isWithin (x2) ((0 : Int32)) ((3 : Int32)) M (fun r2 M2 => (r2 = 0 → K M2) ∧ (¬ r2 = 0 → wp_X0_placeOf o0 (x1) M2 (fun r4 M4 => vp_in r4 32 ∧ (vp_in r4 32 ∧ (∀ M5 : Mem, M5 = mw M4 (o0 + 3) (ix r4) ((M4 (o0 + 3) (ix r4)) + x4) → vp_in r4 32 ∧ (vp_in r4 32 ∧ (vp_in ((r4 * (4 : Int32)) + x2) 128 ∧ (∀ M6 : Mem, M6 = mw M5 (o0 + 4) (ix ((r4 * (4 : Int32)) + x2)) ((x3 + (x2 * (M5 (o0 + 1) (ix r4)))) - (M5 (o0 + 3) (ix r4))) → K M6)))))))))
set_option maxRecDepth 20000 in
theorem con_X0_print (l : Launch) (S : XS) (n : Nat) (R : Rfs) (o0 : Nat) (x1 : Int32) (x2 : Int32) (x3 : Int32) (x4 : Int32) (h0 : isBand n R o0) (M : Mem) (K : Mem → Prop) (h : wp_X0_print o0 x1 x2 x3 x4 M K) : CV l yX0_print cX0_print 6 rmX0_print S n R [.ref (XB S + o0), .int x1, .int x2, .int x3, .int x4] M K := by
  refine conV (lv := [(0, .ref (XB S + o0)), (1, .int x1), (2, .int x2), (3, .int x3), (4, .int x4)]) (by decide) (Nat.le_of_ble_eq_true rfl) rfl ?_
  intro p e s m args below meth c C hr
  replace C : Cx p m meth c s args cX0_print RX0 6 S := C
  refine v_iloadn C 1 rfl rfl dX0_print_0 ?_
  refine v_aloadn C 0 rfl rfl dX0_print_1 ?_
  refine v_geti C fr_X0_31 (iBand_s0 h0) (iBand_l0 h0) rfl dX0_print_2 ?_
  refine v_icmp_ge C 66 (by decide) dX0_print_5 (fun c1 => ?_) (fun c1 => ?_)
  · replace h := h.1 c1
    exact v_vret C hr dX0_print_66 h
  · replace h := h.2 c1
    refine v_iloadn C 2 rfl rfl dX0_print_8 ?_
    refine v_iconst C kc_0 dX0_print_9 ?_
    refine v_iconst C kc_3 dX0_print_10 ?_
    refine v_cnI (As := [.int x2, .int (0 : Int32), .int (3 : Int32)]) C C.2.1.2.2.2.2.2.2.2.2.1 mn_X6_isWithin (con_X6_isWithin l S n R (x2) ((0 : Int32)) ((3 : Int32))  _ _ h) rfl ⟨(Nat.le_of_ble_eq_true rfl), (Nat.le_of_ble_eq_true rfl)⟩ ⟨rfl, rfl, Nat.zero_le _, Nat.zero_le _⟩ (Nat.le_of_ble_eq_true rfl) dX0_print_11 (fun r2 M2 h => ?_)
    refine v_if_eq C 66 (by decide) dX0_print_14 (fun c3 => ?_) (fun c3 => ?_)
    · replace h := h.1 c3
      exact v_vret C hr dX0_print_66 h
    · replace h := h.2 c3
      refine v_aloadn C 0 rfl rfl dX0_print_17 ?_
      refine v_iloadn C 1 rfl rfl dX0_print_18 ?_
      refine v_cvI (As := [.int x1]) C mv_X0_59 (con_X0_placeOf l S n R o0 (x1) h0 _ _ h) (iBand_s0 h0) (iBand_l0 h0) rfl ⟨(Nat.le_of_ble_eq_true rfl), (Nat.le_of_ble_eq_true rfl)⟩ ⟨rfl, rfl, Nat.zero_le _, Nat.zero_le _⟩ (Nat.le_of_ble_eq_true rfl) dX0_print_19 (fun r4 M4 h => ?_)
      refine v_istore (lv' := [(5, .int r4), (0, .ref (XB S + o0)), (1, .int x1), (2, .int x2), (3, .int x3), (4, .int x4)]) C rfl (Nat.le_of_ble_eq_true rfl) dX0_print_22 ?_
      refine v_aloadn C 1 rfl rfl dX0_print_24 ?_
      refine v_getr (o' := (o0 + 3)) C fr_X0_18 (iBand_s0 h0) (iBand_l0 h0) rfl (iBand_r2 h0) dX0_print_25 ?_
      refine v_iload C 0 rfl dX0_print_28 ?_
      refine v_dup2 C rfl rfl dX0_print_30 ?_
      refine v_ald C (iBand_s3 h0) (iBand_l3 h0) h.1 dX0_print_31 ?_
      replace h := h.2
      refine v_iload C 5 rfl dX0_print_32 ?_
      refine v_iadd C dX0_print_34 ?_
      have hi5 := h.1
      replace h := h.2
      refine v_ast C (iBand_s3 h0) (iBand_l3 h0) hi5 dX0_print_35 (fun M5 e5 => ?_)
      replace h := h M5 e5
      refine v_aloadn C 1 rfl rfl dX0_print_36 ?_
      refine v_getr (o' := (o0 + 4)) C fr_X0_21 (iBand_s0 h0) (iBand_l0 h0) rfl (iBand_r3 h0) dX0_print_37 ?_
      refine v_iload C 0 rfl dX0_print_40 ?_
      refine v_iconst C kc_4 dX0_print_42 ?_
      refine v_imul C dX0_print_43 ?_
      refine v_iloadn C 3 rfl rfl dX0_print_44 ?_
      refine v_iadd C dX0_print_45 ?_
      refine v_iloadn C 4 rfl rfl dX0_print_46 ?_
      refine v_iloadn C 3 rfl rfl dX0_print_47 ?_
      refine v_aloadn C 1 rfl rfl dX0_print_48 ?_
      refine v_getr (o' := (o0 + 1)) C fr_X0_11 (iBand_s0 h0) (iBand_l0 h0) rfl (iBand_r0 h0) dX0_print_49 ?_
      refine v_iload C 0 rfl dX0_print_52 ?_
      refine v_ald C (iBand_s1 h0) (iBand_l1 h0) h.1 dX0_print_54 ?_
      replace h := h.2
      refine v_imul C dX0_print_55 ?_
      refine v_iadd C dX0_print_56 ?_
      refine v_aloadn C 1 rfl rfl dX0_print_57 ?_
      refine v_getr (o' := (o0 + 3)) C fr_X0_18 (iBand_s0 h0) (iBand_l0 h0) rfl (iBand_r2 h0) dX0_print_58 ?_
      refine v_iload C 0 rfl dX0_print_61 ?_
      refine v_ald C (iBand_s3 h0) (iBand_l3 h0) h.1 dX0_print_63 ?_
      replace h := h.2
      refine v_isub C dX0_print_64 ?_
      have hi6 := h.1
      replace h := h.2
      refine v_ast C (iBand_s4 h0) (iBand_l4 h0) hi6 dX0_print_65 (fun M6 e6 => ?_)
      replace h := h M6 e6
      exact v_vret C hr dX0_print_66 h
abbrev rmX0_errorAt : Room := { frames := 1, cells := 0, slots := 0, locals := 22 }
def wp_X0_errorAt (o0 : Nat) (x1 : Int32) (x2 : Int32) (M : Mem) (K : Int32 → Mem → Prop) : Prop := wp_X6_isWithin (x2) ((0 : Int32)) ((3 : Int32)) M (fun r1 M1 => (r1 = 0 → K (0 : Int32) M1) ∧ (¬ r1 = 0 → wp_X0_placeOf o0 (x1) M1 (fun r3 M3 => vp_in ((r3 * (4 : Int32)) + x2) 128 ∧ (K (M3 (o0 + 4) (ix ((r3 * (4 : Int32)) + x2))) M3))))
set_option maxRecDepth 20000 in
theorem con_X0_errorAt (l : Launch) (S : XS) (n : Nat) (R : Rfs) (o0 : Nat) (x1 : Int32) (x2 : Int32) (h0 : isBand n R o0) (M : Mem) (K : Int32 → Mem → Prop) (h : wp_X0_errorAt o0 x1 x2 M K) : CI l yX0_errorAt cX0_errorAt 3 (some .int) rmX0_errorAt S n R [.ref (XB S + o0), .int x1, .int x2] M K := by
  refine conI (lv := [(0, .ref (XB S + o0)), (1, .int x1), (2, .int x2)]) (by decide) (Nat.le_of_ble_eq_true rfl) rfl ?_
  intro p e s m args below meth c C hr
  replace C : Cx p m meth c s args cX0_errorAt RX0 3 S := C
  refine v_iloadn C 2 rfl rfl dX0_errorAt_0 ?_
  refine v_iconst C kc_0 dX0_errorAt_1 ?_
  refine v_iconst C kc_3 dX0_errorAt_2 ?_
  refine v_cnI (As := [.int x2, .int (0 : Int32), .int (3 : Int32)]) C C.2.1.2.2.2.2.2.2.2.2.1 mn_X6_isWithin (con_X6_isWithin l S n R (x2) ((0 : Int32)) ((3 : Int32))  _ _ h) rfl ⟨(Nat.le_of_ble_eq_true rfl), (Nat.le_of_ble_eq_true rfl)⟩ ⟨rfl, rfl, Nat.zero_le _, Nat.zero_le _⟩ (Nat.le_of_ble_eq_true rfl) dX0_errorAt_3 (fun r1 M1 h => ?_)
  refine v_if_eq C 26 (by decide) dX0_errorAt_6 (fun c2 => ?_) (fun c2 => ?_)
  · replace h := h.1 c2
    refine v_iconst C kc_0 dX0_errorAt_26 ?_
    exact v_iret C hr dX0_errorAt_27 h
  · replace h := h.2 c2
    refine v_aloadn C 0 rfl rfl dX0_errorAt_9 ?_
    refine v_getr (o' := (o0 + 4)) C fr_X0_21 (iBand_s0 h0) (iBand_l0 h0) rfl (iBand_r3 h0) dX0_errorAt_10 ?_
    refine v_aloadn C 0 rfl rfl dX0_errorAt_13 ?_
    refine v_iloadn C 1 rfl rfl dX0_errorAt_14 ?_
    refine v_cvI (As := [.int x1]) C mv_X0_59 (con_X0_placeOf l S n R o0 (x1) h0 _ _ h) (iBand_s0 h0) (iBand_l0 h0) rfl ⟨(Nat.le_of_ble_eq_true rfl), (Nat.le_of_ble_eq_true rfl)⟩ ⟨rfl, rfl, Nat.zero_le _, Nat.zero_le _⟩ (Nat.le_of_ble_eq_true rfl) dX0_errorAt_15 (fun r3 M3 h => ?_)
    refine v_iconst C kc_4 dX0_errorAt_18 ?_
    refine v_imul C dX0_errorAt_19 ?_
    refine v_iloadn C 2 rfl rfl dX0_errorAt_20 ?_
    refine v_iadd C dX0_errorAt_21 ?_
    refine v_ald C (iBand_s4 h0) (iBand_l4 h0) h.1 dX0_errorAt_22 ?_
    replace h := h.2
    refine v_goto C 27 (by decide) dX0_errorAt_23 ?_
    exact v_iret C hr dX0_errorAt_27 h
abbrev rmX1_add : Room := { frames := 0, cells := 0, slots := 0, locals := 0 }
def wp_X1_add (o0 : Nat) (x1 : Int32) (x2 : Int32) (M : Mem) (K : Int32 → Mem → Prop) : Prop := ((M o0 2) < (6 : Int32) → vp_in (M o0 2) 6 ∧ (∀ M2 : Mem, M2 = mw M (o0 + 1) (ix (M o0 2)) x1 → vp_in (M2 o0 2) 6 ∧ (∀ M3 : Mem, M3 = mw M2 (o0 + 2) (ix (M2 o0 2)) x2 → (∀ M4 : Mem, M4 = mw M3 o0 2 ((M3 o0 2) + (1 : Int32)) → K (1 : Int32) M4)))) ∧ (¬ (M o0 2) < (6 : Int32) → K (0 : Int32) M)
set_option maxRecDepth 20000 in
theorem con_X1_add (l : Launch) (S : XS) (n : Nat) (R : Rfs) (o0 : Nat) (x1 : Int32) (x2 : Int32) (h0 : isClues n R o0) (M : Mem) (K : Int32 → Mem → Prop) (h : wp_X1_add o0 x1 x2 M K) : CI l yX1_add cX1_add 3 (some .boolean) rmX1_add S n R [.ref (XB S + o0), .int x1, .int x2] M K := by
  refine conI (lv := [(0, .ref (XB S + o0)), (1, .int x1), (2, .int x2)]) (by decide) (Nat.le_of_ble_eq_true rfl) rfl ?_
  intro p e s m args below meth c C hr
  replace C : Cx p m meth c s args cX1_add RX1 3 S := C
  refine v_aloadn C 0 rfl rfl dX1_add_0 ?_
  refine v_geti C fr_X1_18 (iClues_s0 h0) (iClues_l0 h0) rfl dX1_add_1 ?_
  refine v_bipush C kb_6 dX1_add_4 ?_
  refine v_icmp_lt C 11 (by decide) dX1_add_6 (fun c1 => ?_) (fun c1 => ?_)
  · replace h := h.1 c1
    refine v_aloadn C 0 rfl rfl dX1_add_11 ?_
    refine v_getr (o' := (o0 + 1)) C fr_X1_9 (iClues_s0 h0) (iClues_l0 h0) rfl (iClues_r0 h0) dX1_add_12 ?_
    refine v_aloadn C 0 rfl rfl dX1_add_15 ?_
    refine v_geti C fr_X1_18 (iClues_s0 h0) (iClues_l0 h0) rfl dX1_add_16 ?_
    refine v_iloadn C 1 rfl rfl dX1_add_19 ?_
    have hi2 := h.1
    replace h := h.2
    refine v_ast C (iClues_s1 h0) (iClues_l1 h0) hi2 dX1_add_20 (fun M2 e2 => ?_)
    replace h := h M2 e2
    refine v_aloadn C 0 rfl rfl dX1_add_21 ?_
    refine v_getr (o' := (o0 + 2)) C fr_X1_15 (iClues_s0 h0) (iClues_l0 h0) rfl (iClues_r1 h0) dX1_add_22 ?_
    refine v_aloadn C 0 rfl rfl dX1_add_25 ?_
    refine v_geti C fr_X1_18 (iClues_s0 h0) (iClues_l0 h0) rfl dX1_add_26 ?_
    refine v_iloadn C 2 rfl rfl dX1_add_29 ?_
    have hi3 := h.1
    replace h := h.2
    refine v_ast C (iClues_s2 h0) (iClues_l2 h0) hi3 dX1_add_30 (fun M3 e3 => ?_)
    replace h := h M3 e3
    refine v_aloadn C 0 rfl rfl dX1_add_31 ?_
    refine v_dup C rfl dX1_add_32 ?_
    refine v_geti C fr_X1_18 (iClues_s0 h0) (iClues_l0 h0) rfl dX1_add_33 ?_
    refine v_iconst C kc_1 dX1_add_36 ?_
    refine v_iadd C dX1_add_37 ?_
    refine v_puti C fr_X1_18 (iClues_s0 h0) (iClues_l0 h0) rfl dX1_add_38 (fun M4 e4 => ?_)
    replace h := h M4 e4
    refine v_iconst C kc_1 dX1_add_41 ?_
    exact v_zret C isB1 hr dX1_add_42 h
  · replace h := h.2 c1
    refine v_iconst C kc_0 dX1_add_9 ?_
    exact v_zret C isB0 hr dX1_add_10 h
abbrev rmX1_unitOf : Room := { frames := 0, cells := 0, slots := 0, locals := 0 }
def wp_X1_unitOf (x0 : Int32) (M : Mem) (K : Int32 → Mem → Prop) : Prop := ((4 : Int32) ≤ x0 → K ((x0 - (4 : Int32)) + (1 : Int32)) M) ∧ (¬ (4 : Int32) ≤ x0 → K x0 M)
set_option maxRecDepth 20000 in
theorem con_X1_unitOf (l : Launch) (S : XS) (n : Nat) (R : Rfs) (x0 : Int32)  (M : Mem) (K : Int32 → Mem → Prop) (h : wp_X1_unitOf x0 M K) : CI l yX1_unitOf cX1_unitOf 1 (some .int) rmX1_unitOf S n R [.int x0] M K := by
  refine conI (lv := [(0, .int x0)]) (by decide) (Nat.le_of_ble_eq_true rfl) rfl ?_
  intro p e s m args below meth c C hr
  replace C : Cx p m meth c s args cX1_unitOf RX1 1 S := C
  refine v_iloadn C 0 rfl rfl dX1_unitOf_0 ?_
  refine v_iconst C kc_4 dX1_unitOf_1 ?_
  refine v_icmp_ge C 9 (by decide) dX1_unitOf_2 (fun c1 => ?_) (fun c1 => ?_)
  · replace h := h.1 c1
    refine v_iloadn C 0 rfl rfl dX1_unitOf_9 ?_
    refine v_iconst C kc_4 dX1_unitOf_10 ?_
    refine v_isub C dX1_unitOf_11 ?_
    refine v_iconst C kc_1 dX1_unitOf_12 ?_
    refine v_iadd C dX1_unitOf_13 ?_
    exact v_iret C hr dX1_unitOf_14 h
  · replace h := h.2 c1
    refine v_iloadn C 0 rfl rfl dX1_unitOf_5 ?_
    refine v_goto C 14 (by decide) dX1_unitOf_6 ?_
    exact v_iret C hr dX1_unitOf_14 h
abbrev rmX1_effect : Room := { frames := 1, cells := 0, slots := 0, locals := 20 }
def wp_X1_effect_39   (K : Int32 → Mem → Prop) (x2 y0 : Int32) (M : Mem) : Prop := (y0 = 0 → K (0 : Int32) M) ∧ (¬ y0 = 0 → K x2 M)
def wp_X1_effect (x0 : Int32) (x1 : Int32) (x2 : Int32) (M : Mem) (K : Int32 → Mem → Prop) : Prop := (¬ x0 = 0 → ((4 : Int32) ≤ x0 → wp_X1_unitOf (x0) M (fun r3 M3 => (x1 < r3 → wp_X1_effect_39  K (x2) ((0 : Int32)) M3) ∧ (¬ x1 < r3 → wp_X1_effect_39  K (x2) ((1 : Int32)) M3))) ∧ (¬ (4 : Int32) ≤ x0 → (¬ x1 = x0 → wp_X1_effect_39  K (x2) ((0 : Int32)) M) ∧ (x1 = x0 → wp_X1_effect_39  K (x2) ((1 : Int32)) M))) ∧ (x0 = 0 → K (x1 * x2) M)
set_option maxRecDepth 20000 in
theorem tb_X1_effect_39 {p : Program} {e : Env} {s : State} {m : MethodId} {args : Array Value} {below : List Frame} {meth : Method} {c : Code} (l : Launch) (S : XS) (n : Nat) (R : Rfs)   (C : Cx p m meth c s args cX1_effect RX1 4 S) (hr : meth.sig.returnType = (some .int)) (K : Int32 → Mem → Prop)   (x2 y0 : Int32) (M : Mem) (h : wp_X1_effect_39   K x2 y0 M) : V p l e rmX1_effect s m args below meth c (MQ below (va_Qi K (XPost S n R) (XA S)) args s 0 0 (XA S)) S 4 0 0 n M R 39 [(2, .int x2)] [.int y0] := by
  refine v_istoren (lv' := [(3, .int y0), (2, .int x2)]) C rfl rfl (Nat.le_of_ble_eq_true rfl) dX1_effect_39 ?_
  refine v_iloadn C 0 rfl rfl dX1_effect_40 ?_
  refine v_if_eq C 48 (by decide) dX1_effect_41 (fun c6 => ?_) (fun c6 => ?_)
  · replace h := h.1 c6
    refine v_iconst C kc_0 dX1_effect_48 ?_
    exact v_iret C hr dX1_effect_49 h
  · replace h := h.2 c6
    refine v_iloadn C 1 rfl rfl dX1_effect_44 ?_
    refine v_goto C 49 (by decide) dX1_effect_45 ?_
    exact v_iret C hr dX1_effect_49 h
set_option maxRecDepth 20000 in
theorem con_X1_effect (l : Launch) (S : XS) (n : Nat) (R : Rfs) (x0 : Int32) (x1 : Int32) (x2 : Int32)  (M : Mem) (K : Int32 → Mem → Prop) (h : wp_X1_effect x0 x1 x2 M K) : CI l yX1_effect cX1_effect 4 (some .int) rmX1_effect S n R [.int x0, .int x1, .int x2] M K := by
  refine conI (lv := [(0, .int x0), (1, .int x1), (2, .int x2)]) (by decide) (Nat.le_of_ble_eq_true rfl) rfl ?_
  intro p e s m args below meth c C hr
  replace C : Cx p m meth c s args cX1_effect RX1 4 S := C
  refine v_iloadn C 0 rfl rfl dX1_effect_0 ?_
  refine v_if_ne C 8 (by decide) dX1_effect_1 (fun c1 => ?_) (fun c1 => ?_)
  · replace h := h.1 c1
    refine v_iloadn C 0 rfl rfl dX1_effect_8 ?_
    refine v_iconst C kc_4 dX1_effect_9 ?_
    refine v_icmp_ge C 26 (by decide) dX1_effect_10 (fun c2 => ?_) (fun c2 => ?_)
    · replace h := h.1 c2
      refine v_iloadn C 1 rfl rfl dX1_effect_26 ?_
      refine v_iloadn C 0 rfl rfl dX1_effect_27 ?_
      refine v_csI (As := [.int x0]) C ms_X1_22 (con_X1_unitOf l S n R (x0)  _ _ h) rfl ⟨(Nat.le_of_ble_eq_true rfl), (Nat.le_of_ble_eq_true rfl)⟩ ⟨rfl, rfl, Nat.zero_le _, Nat.zero_le _⟩ (Nat.le_of_ble_eq_true rfl) dX1_effect_28 (fun r3 M3 h => ?_)
      refine v_icmp_lt C 38 (by decide) dX1_effect_31 (fun c4 => ?_) (fun c4 => ?_)
      · replace h := h.1 c4
        refine v_iconst C kc_0 dX1_effect_38 ?_
        refine v_loc [2] rfl ?_
        exact tb_X1_effect_39 l S n R   C hr K   (x2) ((0 : Int32)) M3 h
      · replace h := h.2 c4
        refine v_iconst C kc_1 dX1_effect_34 ?_
        refine v_goto C 39 (by decide) dX1_effect_35 ?_
        refine v_loc [2] rfl ?_
        exact tb_X1_effect_39 l S n R   C hr K   (x2) ((1 : Int32)) M3 h
    · replace h := h.2 c2
      refine v_iloadn C 1 rfl rfl dX1_effect_13 ?_
      refine v_iloadn C 0 rfl rfl dX1_effect_14 ?_
      refine v_icmp_ne C 22 (by decide) dX1_effect_15 (fun c5 => ?_) (fun c5 => ?_)
      · replace h := h.1 c5
        refine v_iconst C kc_0 dX1_effect_22 ?_
        refine v_goto C 39 (by decide) dX1_effect_23 ?_
        refine v_loc [2] rfl ?_
        exact tb_X1_effect_39 l S n R   C hr K   (x2) ((0 : Int32)) M h
      · replace h := h.2 c5
        refine v_iconst C kc_1 dX1_effect_18 ?_
        refine v_goto C 39 (by decide) dX1_effect_19 ?_
        refine v_loc [2] rfl ?_
        exact tb_X1_effect_39 l S n R   C hr K   (x2) ((1 : Int32)) M h
  · replace h := h.2 c1
    refine v_iloadn C 1 rfl rfl dX1_effect_4 ?_
    refine v_iloadn C 2 rfl rfl dX1_effect_5 ?_
    refine v_imul C dX1_effect_6 ?_
    exact v_iret C hr dX1_effect_7 h
abbrev rmX1_fits : Room := { frames := 2, cells := 0, slots := 0, locals := 43 }
def L_X1_fits_2 (o0 : Nat)  (K : Int32 → Mem → Prop) : Nat → Int32 → Int32 → Int32 → Mem → Prop
  | 0, _, _, _, _ => False
  | k + 1, x1, x2, x3, M => ((M o0 2) ≤ x3 → K (1 : Int32) M) ∧ (¬ (M o0 2) ≤ x3 → vp_in x3 6 ∧ (wp_X1_effect (x1) ((M (o0 + 1) (ix x3))) (x2) M (fun r3 M3 => vp_in x3 6 ∧ ((r3 = (M3 (o0 + 2) (ix x3)) → L_X1_fits_2 o0  K k x1 x2 (x3 + (1 : Int32)) M3) ∧ (¬ r3 = (M3 (o0 + 2) (ix x3)) → K (0 : Int32) M3)))))
def wp_X1_fits (o0 : Nat) (x1 : Int32) (x2 : Int32) (M : Mem) (K : Int32 → Mem → Prop) : Prop := ∃ j1 : Nat, L_X1_fits_2 o0 K j1 (x1) (x2) ((0 : Int32)) M
set_option maxRecDepth 20000 in
theorem tl_X1_fits_2 {p : Program} {e : Env} {s : State} {m : MethodId} {args : Array Value} {below : List Frame} {meth : Method} {c : Code} (l : Launch) (S : XS) (n : Nat) (R : Rfs) (o0 : Nat) (h0 : isClues n R o0) (C : Cx p m meth c s args cX1_fits RX1 4 S) (hr : meth.sig.returnType = (some .boolean)) (K : Int32 → Mem → Prop)   (k : Nat) : ∀ (x1 x2 x3 : Int32) (M : Mem), L_X1_fits_2 o0  K k x1 x2 x3 M → V p l e rmX1_fits s m args below meth c (MQ below (va_Qi K (XPost S n R) (XA S)) args s 0 0 (XA S)) S 4 0 0 n M R 2 [(0, .ref (XB S + o0)), (1, .int x1), (2, .int x2), (3, .int x3)] [] := by
  induction k with
  | zero => intro x1 x2 x3 M h; exact h.elim
  | succ k ih =>
    intro x1 x2 x3 M h
    refine v_iloadn C 3 rfl rfl dX1_fits_2 ?_
    refine v_aloadn C 0 rfl rfl dX1_fits_3 ?_
    refine v_geti C fr_X1_18 (iClues_s0 h0) (iClues_l0 h0) rfl dX1_fits_4 ?_
    refine v_icmp_ge C 38 (by decide) dX1_fits_7 (fun c2 => ?_) (fun c2 => ?_)
    · replace h := h.1 c2
      refine v_iconst C kc_1 dX1_fits_38 ?_
      exact v_zret C isB1 hr dX1_fits_39 h
    · replace h := h.2 c2
      refine v_iloadn C 1 rfl rfl dX1_fits_10 ?_
      refine v_aloadn C 0 rfl rfl dX1_fits_11 ?_
      refine v_getr (o' := (o0 + 1)) C fr_X1_9 (iClues_s0 h0) (iClues_l0 h0) rfl (iClues_r0 h0) dX1_fits_12 ?_
      refine v_iloadn C 3 rfl rfl dX1_fits_15 ?_
      refine v_ald C (iClues_s1 h0) (iClues_l1 h0) h.1 dX1_fits_16 ?_
      replace h := h.2
      refine v_iloadn C 2 rfl rfl dX1_fits_17 ?_
      refine v_csI (As := [.int x1, .int (M (o0 + 1) (ix x3)), .int x2]) C ms_X1_51 (con_X1_effect l S n R (x1) ((M (o0 + 1) (ix x3))) (x2)  _ _ h) rfl ⟨(Nat.le_of_ble_eq_true rfl), (Nat.le_of_ble_eq_true rfl)⟩ ⟨rfl, rfl, Nat.zero_le _, Nat.zero_le _⟩ (Nat.le_of_ble_eq_true rfl) dX1_fits_18 (fun r3 M3 h => ?_)
      refine v_aloadn C 0 rfl rfl dX1_fits_21 ?_
      refine v_getr (o' := (o0 + 2)) C fr_X1_15 (iClues_s0 h0) (iClues_l0 h0) rfl (iClues_r1 h0) dX1_fits_22 ?_
      refine v_iloadn C 3 rfl rfl dX1_fits_25 ?_
      refine v_ald C (iClues_s2 h0) (iClues_l2 h0) h.1 dX1_fits_26 ?_
      replace h := h.2
      refine v_icmp_eq C 32 (by decide) dX1_fits_27 (fun c4 => ?_) (fun c4 => ?_)
      · replace h := h.1 c4
        refine v_iinc (lv' := [(3, .int (x3 + (1 : Int32))), (0, .ref (XB S + o0)), (1, .int x1), (2, .int x2)]) C 3 rfl kc_1 rfl rfl (Nat.le_of_ble_eq_true rfl) dX1_fits_32 ?_
        refine v_goto C 2 (by decide) dX1_fits_35 ?_
        refine v_loc [1, 2, 3, 0] rfl ?_
        exact ih (x1) (x2) ((x3 + (1 : Int32))) M3 h
      · replace h := h.2 c4
        refine v_iconst C kc_0 dX1_fits_30 ?_
        exact v_zret C isB0 hr dX1_fits_31 h
set_option maxRecDepth 20000 in
theorem con_X1_fits (l : Launch) (S : XS) (n : Nat) (R : Rfs) (o0 : Nat) (x1 : Int32) (x2 : Int32) (h0 : isClues n R o0) (M : Mem) (K : Int32 → Mem → Prop) (h : wp_X1_fits o0 x1 x2 M K) : CI l yX1_fits cX1_fits 4 (some .boolean) rmX1_fits S n R [.ref (XB S + o0), .int x1, .int x2] M K := by
  refine conI (lv := [(0, .ref (XB S + o0)), (1, .int x1), (2, .int x2)]) (by decide) (Nat.le_of_ble_eq_true rfl) rfl ?_
  intro p e s m args below meth c C hr
  replace C : Cx p m meth c s args cX1_fits RX1 4 S := C
  refine v_iconst C kc_0 dX1_fits_0 ?_
  refine v_istoren (lv' := [(3, .int (0 : Int32)), (0, .ref (XB S + o0)), (1, .int x1), (2, .int x2)]) C rfl rfl (Nat.le_of_ble_eq_true rfl) dX1_fits_1 ?_
  refine v_loc [1, 2, 3, 0] rfl ?_
  obtain ⟨k1, h⟩ := h
  exact tl_X1_fits_2 l S n R o0 h0 C hr K   k1 (x1) (x2) ((0 : Int32)) M h
abbrev rmX1_fitsAny : Room := { frames := 3, cells := 0, slots := 0, locals := 66 }
def wp_X1_fitsAny_24 (o0 : Nat) (X3 : Int32 → Int32 → Mem → Prop) (K : Int32 → Mem → Prop) (x1 x2 : Int32) (M : Mem) : Prop := X3 x1 (x2 + (1 : Int32)) M
def L_X1_fitsAny_3 (o0 : Nat)  (K : Int32 → Mem → Prop) : Nat → Int32 → Int32 → Mem → Prop
  | 0, _, _, _ => False
  | k + 1, x1, x2, M => ((20 : Int32) < x2 → K (0 : Int32) M) ∧ (¬ (20 : Int32) < x2 → (x2 = 0 → wp_X1_fitsAny_24 o0 (fun x1 x2 M => L_X1_fitsAny_3 o0  K k x1 x2 M) K (x1) (x2) M) ∧ (¬ x2 = 0 → wp_X1_fits o0 (x1) (x2) M (fun r4 M4 => (r4 = 0 → wp_X1_fitsAny_24 o0 (fun x1 x2 M => L_X1_fitsAny_3 o0  K k x1 x2 M) K (x1) (x2) M4) ∧ (¬ r4 = 0 → K (1 : Int32) M4))))
def wp_X1_fitsAny (o0 : Nat) (x1 : Int32) (M : Mem) (K : Int32 → Mem → Prop) : Prop := ∃ j1 : Nat, L_X1_fitsAny_3 o0 K j1 (x1) ((-20 : Int32)) M
set_option maxRecDepth 20000 in
theorem tb_X1_fitsAny_24 {p : Program} {e : Env} {s : State} {m : MethodId} {args : Array Value} {below : List Frame} {meth : Method} {c : Code} (l : Launch) (S : XS) (n : Nat) (R : Rfs) (o0 : Nat) (h0 : isClues n R o0) (C : Cx p m meth c s args cX1_fitsAny RX1 3 S) (hr : meth.sig.returnType = (some .boolean)) (K : Int32 → Mem → Prop) (X3 : Int32 → Int32 → Mem → Prop) (hX3 : ∀ (x1 x2 : Int32) (M : Mem), X3 x1 x2 M → V p l e rmX1_fitsAny s m args below meth c (MQ below (va_Qi K (XPost S n R) (XA S)) args s 0 0 (XA S)) S 3 0 0 n M R 3 [(0, .ref (XB S + o0)), (1, .int x1), (2, .int x2)] []) (x1 x2 : Int32) (M : Mem) (h : wp_X1_fitsAny_24 o0 X3 K x1 x2 M) : V p l e rmX1_fitsAny s m args below meth c (MQ below (va_Qi K (XPost S n R) (XA S)) args s 0 0 (XA S)) S 3 0 0 n M R 24 [(0, .ref (XB S + o0)), (1, .int x1), (2, .int x2)] [] := by
  refine v_iinc (lv' := [(2, .int (x2 + (1 : Int32))), (0, .ref (XB S + o0)), (1, .int x1)]) C 2 rfl kc_1 rfl rfl (Nat.le_of_ble_eq_true rfl) dX1_fitsAny_24 ?_
  refine v_goto C 3 (by decide) dX1_fitsAny_27 ?_
  refine v_loc [1, 2, 0] rfl ?_
  exact hX3 (x1) ((x2 + (1 : Int32))) M h
set_option maxRecDepth 20000 in
theorem tl_X1_fitsAny_3 {p : Program} {e : Env} {s : State} {m : MethodId} {args : Array Value} {below : List Frame} {meth : Method} {c : Code} (l : Launch) (S : XS) (n : Nat) (R : Rfs) (o0 : Nat) (h0 : isClues n R o0) (C : Cx p m meth c s args cX1_fitsAny RX1 3 S) (hr : meth.sig.returnType = (some .boolean)) (K : Int32 → Mem → Prop)   (k : Nat) : ∀ (x1 x2 : Int32) (M : Mem), L_X1_fitsAny_3 o0  K k x1 x2 M → V p l e rmX1_fitsAny s m args below meth c (MQ below (va_Qi K (XPost S n R) (XA S)) args s 0 0 (XA S)) S 3 0 0 n M R 3 [(0, .ref (XB S + o0)), (1, .int x1), (2, .int x2)] [] := by
  induction k with
  | zero => intro x1 x2 M h; exact h.elim
  | succ k ih =>
    intro x1 x2 M h
    refine v_iloadn C 2 rfl rfl dX1_fitsAny_3 ?_
    refine v_bipush C kb_20 dX1_fitsAny_4 ?_
    refine v_icmp_gt C 30 (by decide) dX1_fitsAny_6 (fun c2 => ?_) (fun c2 => ?_)
    · replace h := h.1 c2
      refine v_iconst C kc_0 dX1_fitsAny_30 ?_
      exact v_zret C isB0 hr dX1_fitsAny_31 h
    · replace h := h.2 c2
      refine v_iloadn C 2 rfl rfl dX1_fitsAny_9 ?_
      refine v_if_eq C 24 (by decide) dX1_fitsAny_10 (fun c3 => ?_) (fun c3 => ?_)
      · replace h := h.1 c3
        exact tb_X1_fitsAny_24 l S n R o0 h0 C hr K (fun x1 x2 M => L_X1_fitsAny_3 o0  K k x1 x2 M) (ih) (x1) (x2) M h
      · replace h := h.2 c3
        refine v_aloadn C 0 rfl rfl dX1_fitsAny_13 ?_
        refine v_iloadn C 1 rfl rfl dX1_fitsAny_14 ?_
        refine v_iloadn C 2 rfl rfl dX1_fitsAny_15 ?_
        refine v_cvI (As := [.int x1, .int x2]) C mv_X1_47 (con_X1_fits l S n R o0 (x1) (x2) h0 _ _ h) (iClues_s0 h0) (iClues_l0 h0) rfl ⟨(Nat.le_of_ble_eq_true rfl), (Nat.le_of_ble_eq_true rfl)⟩ ⟨rfl, rfl, Nat.zero_le _, Nat.zero_le _⟩ (Nat.le_of_ble_eq_true rfl) dX1_fitsAny_16 (fun r4 M4 h => ?_)
        refine v_if_eq C 24 (by decide) dX1_fitsAny_19 (fun c5 => ?_) (fun c5 => ?_)
        · replace h := h.1 c5
          exact tb_X1_fitsAny_24 l S n R o0 h0 C hr K (fun x1 x2 M => L_X1_fitsAny_3 o0  K k x1 x2 M) (ih) (x1) (x2) M4 h
        · replace h := h.2 c5
          refine v_iconst C kc_1 dX1_fitsAny_22 ?_
          exact v_zret C isB1 hr dX1_fitsAny_23 h
set_option maxRecDepth 20000 in
theorem con_X1_fitsAny (l : Launch) (S : XS) (n : Nat) (R : Rfs) (o0 : Nat) (x1 : Int32) (h0 : isClues n R o0) (M : Mem) (K : Int32 → Mem → Prop) (h : wp_X1_fitsAny o0 x1 M K) : CI l yX1_fitsAny cX1_fitsAny 3 (some .boolean) rmX1_fitsAny S n R [.ref (XB S + o0), .int x1] M K := by
  refine conI (lv := [(0, .ref (XB S + o0)), (1, .int x1)]) (by decide) (Nat.le_of_ble_eq_true rfl) rfl ?_
  intro p e s m args below meth c C hr
  replace C : Cx p m meth c s args cX1_fitsAny RX1 3 S := C
  refine v_bipush C kb_m20 dX1_fitsAny_0 ?_
  refine v_istoren (lv' := [(2, .int (-20 : Int32)), (0, .ref (XB S + o0)), (1, .int x1)]) C rfl rfl (Nat.le_of_ble_eq_true rfl) dX1_fitsAny_2 ?_
  refine v_loc [1, 2, 0] rfl ?_
  obtain ⟨k1, h⟩ := h
  exact tl_X1_fitsAny_3 l S n R o0 h0 C hr K   k1 (x1) ((-20 : Int32)) M h
abbrev rmX1_causes : Room := { frames := 4, cells := 0, slots := 0, locals := 88 }
def wp_X1_causes_32 (o0 : Nat) (X4 : Int32 → Int32 → Int32 → Mem → Prop) (K : Int32 → Mem → Prop) (x1 x2 x3 : Int32) (M : Mem) : Prop := X4 x1 x2 (x3 + (1 : Int32)) M
def L_X1_causes_4 (o0 : Nat)  (K : Int32 → Mem → Prop) : Nat → Int32 → Int32 → Int32 → Mem → Prop
  | 0, _, _, _, _ => False
  | k + 1, x1, x2, x3, M => ((7 : Int32) ≤ x3 → K x2 M) ∧ (¬ (7 : Int32) ≤ x3 → wp_X1_unitOf (x3) M (fun r3 M3 => (x1 ≤ r3 → wp_X1_causes_32 o0 (fun x1 x2 x3 M => L_X1_causes_4 o0  K k x1 x2 x3 M) K (x1) (x2) (x3) M3) ∧ (¬ x1 ≤ r3 → wp_X1_fitsAny o0 (x3) M3 (fun r5 M5 => (r5 = 0 → wp_X1_causes_32 o0 (fun x1 x2 x3 M => L_X1_causes_4 o0  K k x1 x2 x3 M) K (x1) (x2) (x3) M5) ∧ (¬ r5 = 0 → wp_X1_causes_32 o0 (fun x1 x2 x3 M => L_X1_causes_4 o0  K k x1 x2 x3 M) K (x1) ((x2 ||| ((1 : Int32) <<< (x3 &&& 31)))) (x3) M5)))))
def wp_X1_causes (o0 : Nat) (x1 : Int32) (M : Mem) (K : Int32 → Mem → Prop) : Prop := ∃ j1 : Nat, L_X1_causes_4 o0 K j1 (x1) ((0 : Int32)) ((0 : Int32)) M
set_option maxRecDepth 20000 in
theorem tb_X1_causes_32 {p : Program} {e : Env} {s : State} {m : MethodId} {args : Array Value} {below : List Frame} {meth : Method} {c : Code} (l : Launch) (S : XS) (n : Nat) (R : Rfs) (o0 : Nat) (h0 : isClues n R o0) (C : Cx p m meth c s args cX1_causes RX1 4 S) (hr : meth.sig.returnType = (some .int)) (K : Int32 → Mem → Prop) (X4 : Int32 → Int32 → Int32 → Mem → Prop) (hX4 : ∀ (x1 x2 x3 : Int32) (M : Mem), X4 x1 x2 x3 M → V p l e rmX1_causes s m args below meth c (MQ below (va_Qi K (XPost S n R) (XA S)) args s 0 0 (XA S)) S 4 0 0 n M R 4 [(0, .ref (XB S + o0)), (1, .int x1), (2, .int x2), (3, .int x3)] []) (x1 x2 x3 : Int32) (M : Mem) (h : wp_X1_causes_32 o0 X4 K x1 x2 x3 M) : V p l e rmX1_causes s m args below meth c (MQ below (va_Qi K (XPost S n R) (XA S)) args s 0 0 (XA S)) S 4 0 0 n M R 32 [(0, .ref (XB S + o0)), (1, .int x1), (2, .int x2), (3, .int x3)] [] := by
  refine v_iinc (lv' := [(3, .int (x3 + (1 : Int32))), (0, .ref (XB S + o0)), (1, .int x1), (2, .int x2)]) C 3 rfl kc_1 rfl rfl (Nat.le_of_ble_eq_true rfl) dX1_causes_32 ?_
  refine v_goto C 4 (by decide) dX1_causes_35 ?_
  refine v_loc [1, 2, 3, 0] rfl ?_
  exact hX4 (x1) (x2) ((x3 + (1 : Int32))) M h
set_option maxRecDepth 20000 in
theorem tl_X1_causes_4 {p : Program} {e : Env} {s : State} {m : MethodId} {args : Array Value} {below : List Frame} {meth : Method} {c : Code} (l : Launch) (S : XS) (n : Nat) (R : Rfs) (o0 : Nat) (h0 : isClues n R o0) (C : Cx p m meth c s args cX1_causes RX1 4 S) (hr : meth.sig.returnType = (some .int)) (K : Int32 → Mem → Prop)   (k : Nat) : ∀ (x1 x2 x3 : Int32) (M : Mem), L_X1_causes_4 o0  K k x1 x2 x3 M → V p l e rmX1_causes s m args below meth c (MQ below (va_Qi K (XPost S n R) (XA S)) args s 0 0 (XA S)) S 4 0 0 n M R 4 [(0, .ref (XB S + o0)), (1, .int x1), (2, .int x2), (3, .int x3)] [] := by
  induction k with
  | zero => intro x1 x2 x3 M h; exact h.elim
  | succ k ih =>
    intro x1 x2 x3 M h
    refine v_iloadn C 3 rfl rfl dX1_causes_4 ?_
    refine v_bipush C kb_7 dX1_causes_5 ?_
    refine v_icmp_ge C 38 (by decide) dX1_causes_7 (fun c2 => ?_) (fun c2 => ?_)
    · replace h := h.1 c2
      refine v_iloadn C 2 rfl rfl dX1_causes_38 ?_
      exact v_iret C hr dX1_causes_39 h
    · replace h := h.2 c2
      refine v_iloadn C 3 rfl rfl dX1_causes_10 ?_
      refine v_csI (As := [.int x3]) C ms_X1_22 (con_X1_unitOf l S n R (x3)  _ _ h) rfl ⟨(Nat.le_of_ble_eq_true rfl), (Nat.le_of_ble_eq_true rfl)⟩ ⟨rfl, rfl, Nat.zero_le _, Nat.zero_le _⟩ (Nat.le_of_ble_eq_true rfl) dX1_causes_11 (fun r3 M3 h => ?_)
      refine v_iloadn C 1 rfl rfl dX1_causes_14 ?_
      refine v_icmp_ge C 32 (by decide) dX1_causes_15 (fun c4 => ?_) (fun c4 => ?_)
      · replace h := h.1 c4
        exact tb_X1_causes_32 l S n R o0 h0 C hr K (fun x1 x2 x3 M => L_X1_causes_4 o0  K k x1 x2 x3 M) (ih) (x1) (x2) (x3) M3 h
      · replace h := h.2 c4
        refine v_aloadn C 0 rfl rfl dX1_causes_18 ?_
        refine v_iloadn C 3 rfl rfl dX1_causes_19 ?_
        refine v_cvI (As := [.int x3]) C mv_X1_26 (con_X1_fitsAny l S n R o0 (x3) h0 _ _ h) (iClues_s0 h0) (iClues_l0 h0) rfl ⟨(Nat.le_of_ble_eq_true rfl), (Nat.le_of_ble_eq_true rfl)⟩ ⟨rfl, rfl, Nat.zero_le _, Nat.zero_le _⟩ (Nat.le_of_ble_eq_true rfl) dX1_causes_20 (fun r5 M5 h => ?_)
        refine v_if_eq C 32 (by decide) dX1_causes_23 (fun c6 => ?_) (fun c6 => ?_)
        · replace h := h.1 c6
          exact tb_X1_causes_32 l S n R o0 h0 C hr K (fun x1 x2 x3 M => L_X1_causes_4 o0  K k x1 x2 x3 M) (ih) (x1) (x2) (x3) M5 h
        · replace h := h.2 c6
          refine v_iloadn C 2 rfl rfl dX1_causes_26 ?_
          refine v_iconst C kc_1 dX1_causes_27 ?_
          refine v_iloadn C 3 rfl rfl dX1_causes_28 ?_
          refine v_ishl C dX1_causes_29 ?_
          refine v_ior C dX1_causes_30 ?_
          refine v_istoren (lv' := [(2, .int (x2 ||| ((1 : Int32) <<< (x3 &&& 31)))), (0, .ref (XB S + o0)), (1, .int x1), (3, .int x3)]) C rfl rfl (Nat.le_of_ble_eq_true rfl) dX1_causes_31 ?_
          refine v_loc [1, 2, 0, 3] rfl ?_
          exact tb_X1_causes_32 l S n R o0 h0 C hr K (fun x1 x2 x3 M => L_X1_causes_4 o0  K k x1 x2 x3 M) (ih) (x1) ((x2 ||| ((1 : Int32) <<< (x3 &&& 31)))) (x3) M5 h
set_option maxRecDepth 20000 in
theorem con_X1_causes (l : Launch) (S : XS) (n : Nat) (R : Rfs) (o0 : Nat) (x1 : Int32) (h0 : isClues n R o0) (M : Mem) (K : Int32 → Mem → Prop) (h : wp_X1_causes o0 x1 M K) : CI l yX1_causes cX1_causes 4 (some .int) rmX1_causes S n R [.ref (XB S + o0), .int x1] M K := by
  refine conI (lv := [(0, .ref (XB S + o0)), (1, .int x1)]) (by decide) (Nat.le_of_ble_eq_true rfl) rfl ?_
  intro p e s m args below meth c C hr
  replace C : Cx p m meth c s args cX1_causes RX1 4 S := C
  refine v_iconst C kc_0 dX1_causes_0 ?_
  refine v_istoren (lv' := [(2, .int (0 : Int32)), (0, .ref (XB S + o0)), (1, .int x1)]) C rfl rfl (Nat.le_of_ble_eq_true rfl) dX1_causes_1 ?_
  refine v_iconst C kc_0 dX1_causes_2 ?_
  refine v_istoren (lv' := [(3, .int (0 : Int32)), (2, .int (0 : Int32)), (0, .ref (XB S + o0)), (1, .int x1)]) C rfl rfl (Nat.le_of_ble_eq_true rfl) dX1_causes_3 ?_
  refine v_loc [2, 3, 1, 0] rfl ?_
  obtain ⟨k1, h⟩ := h
  exact tl_X1_causes_4 l S n R o0 h0 C hr K   k1 (x1) ((0 : Int32)) ((0 : Int32)) M h
abbrev rmX1_silentAt : Room := { frames := 2, cells := 0, slots := 0, locals := 43 }
def wp_X1_silentAt_30  (X4 : Int32 → Int32 → Int32 → Int32 → Mem → Prop) (K : Int32 → Mem → Prop) (x0 x1 x2 x3 : Int32) (M : Mem) : Prop := X4 x0 x1 x2 (x3 + (1 : Int32)) M
def L_X1_silentAt_4   (K : Int32 → Mem → Prop) : Nat → Int32 → Int32 → Int32 → Int32 → Mem → Prop
  | 0, _, _, _, _, _ => False
  | k + 1, x0, x1, x2, x3, M => ((7 : Int32) ≤ x3 → K x2 M) ∧ (¬ (7 : Int32) ≤ x3 → ((x0 &&& ((1 : Int32) <<< (x3 &&& 31))) = 0 → wp_X1_silentAt_30  (fun x0 x1 x2 x3 M => L_X1_silentAt_4   K k x0 x1 x2 x3 M) K (x0) (x1) (x2) (x3) M) ∧ (¬ (x0 &&& ((1 : Int32) <<< (x3 &&& 31))) = 0 → wp_X1_effect (x3) (x1) ((1 : Int32)) M (fun r4 M4 => (¬ r4 = 0 → wp_X1_silentAt_30  (fun x0 x1 x2 x3 M => L_X1_silentAt_4   K k x0 x1 x2 x3 M) K (x0) (x1) (x2) (x3) M4) ∧ (r4 = 0 → wp_X1_silentAt_30  (fun x0 x1 x2 x3 M => L_X1_silentAt_4   K k x0 x1 x2 x3 M) K (x0) (x1) ((x2 + (1 : Int32))) (x3) M4))))
def wp_X1_silentAt (x0 : Int32) (x1 : Int32) (M : Mem) (K : Int32 → Mem → Prop) : Prop := ∃ j1 : Nat, L_X1_silentAt_4  K j1 (x0) (x1) ((0 : Int32)) ((0 : Int32)) M
set_option maxRecDepth 20000 in
theorem tb_X1_silentAt_30 {p : Program} {e : Env} {s : State} {m : MethodId} {args : Array Value} {below : List Frame} {meth : Method} {c : Code} (l : Launch) (S : XS) (n : Nat) (R : Rfs)   (C : Cx p m meth c s args cX1_silentAt RX1 4 S) (hr : meth.sig.returnType = (some .int)) (K : Int32 → Mem → Prop) (X4 : Int32 → Int32 → Int32 → Int32 → Mem → Prop) (hX4 : ∀ (x0 x1 x2 x3 : Int32) (M : Mem), X4 x0 x1 x2 x3 M → V p l e rmX1_silentAt s m args below meth c (MQ below (va_Qi K (XPost S n R) (XA S)) args s 0 0 (XA S)) S 4 0 0 n M R 4 [(0, .int x0), (1, .int x1), (2, .int x2), (3, .int x3)] []) (x0 x1 x2 x3 : Int32) (M : Mem) (h : wp_X1_silentAt_30  X4 K x0 x1 x2 x3 M) : V p l e rmX1_silentAt s m args below meth c (MQ below (va_Qi K (XPost S n R) (XA S)) args s 0 0 (XA S)) S 4 0 0 n M R 30 [(0, .int x0), (1, .int x1), (2, .int x2), (3, .int x3)] [] := by
  refine v_iinc (lv' := [(3, .int (x3 + (1 : Int32))), (0, .int x0), (1, .int x1), (2, .int x2)]) C 3 rfl kc_1 rfl rfl (Nat.le_of_ble_eq_true rfl) dX1_silentAt_30 ?_
  refine v_goto C 4 (by decide) dX1_silentAt_33 ?_
  refine v_loc [1, 2, 3, 0] rfl ?_
  exact hX4 (x0) (x1) (x2) ((x3 + (1 : Int32))) M h
set_option maxRecDepth 20000 in
theorem tl_X1_silentAt_4 {p : Program} {e : Env} {s : State} {m : MethodId} {args : Array Value} {below : List Frame} {meth : Method} {c : Code} (l : Launch) (S : XS) (n : Nat) (R : Rfs)   (C : Cx p m meth c s args cX1_silentAt RX1 4 S) (hr : meth.sig.returnType = (some .int)) (K : Int32 → Mem → Prop)   (k : Nat) : ∀ (x0 x1 x2 x3 : Int32) (M : Mem), L_X1_silentAt_4   K k x0 x1 x2 x3 M → V p l e rmX1_silentAt s m args below meth c (MQ below (va_Qi K (XPost S n R) (XA S)) args s 0 0 (XA S)) S 4 0 0 n M R 4 [(0, .int x0), (1, .int x1), (2, .int x2), (3, .int x3)] [] := by
  induction k with
  | zero => intro x0 x1 x2 x3 M h; exact h.elim
  | succ k ih =>
    intro x0 x1 x2 x3 M h
    refine v_iloadn C 3 rfl rfl dX1_silentAt_4 ?_
    refine v_bipush C kb_7 dX1_silentAt_5 ?_
    refine v_icmp_ge C 36 (by decide) dX1_silentAt_7 (fun c2 => ?_) (fun c2 => ?_)
    · replace h := h.1 c2
      refine v_iloadn C 2 rfl rfl dX1_silentAt_36 ?_
      exact v_iret C hr dX1_silentAt_37 h
    · replace h := h.2 c2
      refine v_iloadn C 0 rfl rfl dX1_silentAt_10 ?_
      refine v_iconst C kc_1 dX1_silentAt_11 ?_
      refine v_iloadn C 3 rfl rfl dX1_silentAt_12 ?_
      refine v_ishl C dX1_silentAt_13 ?_
      refine v_iand C dX1_silentAt_14 ?_
      refine v_if_eq C 30 (by decide) dX1_silentAt_15 (fun c3 => ?_) (fun c3 => ?_)
      · replace h := h.1 c3
        exact tb_X1_silentAt_30 l S n R   C hr K (fun x0 x1 x2 x3 M => L_X1_silentAt_4   K k x0 x1 x2 x3 M) (ih) (x0) (x1) (x2) (x3) M h
      · replace h := h.2 c3
        refine v_iloadn C 3 rfl rfl dX1_silentAt_18 ?_
        refine v_iloadn C 1 rfl rfl dX1_silentAt_19 ?_
        refine v_iconst C kc_1 dX1_silentAt_20 ?_
        refine v_csI (As := [.int x3, .int x1, .int (1 : Int32)]) C ms_X1_51 (con_X1_effect l S n R (x3) (x1) ((1 : Int32))  _ _ h) rfl ⟨(Nat.le_of_ble_eq_true rfl), (Nat.le_of_ble_eq_true rfl)⟩ ⟨rfl, rfl, Nat.zero_le _, Nat.zero_le _⟩ (Nat.le_of_ble_eq_true rfl) dX1_silentAt_21 (fun r4 M4 h => ?_)
        refine v_if_ne C 30 (by decide) dX1_silentAt_24 (fun c5 => ?_) (fun c5 => ?_)
        · replace h := h.1 c5
          exact tb_X1_silentAt_30 l S n R   C hr K (fun x0 x1 x2 x3 M => L_X1_silentAt_4   K k x0 x1 x2 x3 M) (ih) (x0) (x1) (x2) (x3) M4 h
        · replace h := h.2 c5
          refine v_iinc (lv' := [(2, .int (x2 + (1 : Int32))), (0, .int x0), (1, .int x1), (3, .int x3)]) C 2 rfl kc_1 rfl rfl (Nat.le_of_ble_eq_true rfl) dX1_silentAt_27 ?_
          refine v_loc [1, 2, 0, 3] rfl ?_
          exact tb_X1_silentAt_30 l S n R   C hr K (fun x0 x1 x2 x3 M => L_X1_silentAt_4   K k x0 x1 x2 x3 M) (ih) (x0) (x1) ((x2 + (1 : Int32))) (x3) M4 h
set_option maxRecDepth 20000 in
theorem con_X1_silentAt (l : Launch) (S : XS) (n : Nat) (R : Rfs) (x0 : Int32) (x1 : Int32)  (M : Mem) (K : Int32 → Mem → Prop) (h : wp_X1_silentAt x0 x1 M K) : CI l yX1_silentAt cX1_silentAt 4 (some .int) rmX1_silentAt S n R [.int x0, .int x1] M K := by
  refine conI (lv := [(0, .int x0), (1, .int x1)]) (by decide) (Nat.le_of_ble_eq_true rfl) rfl ?_
  intro p e s m args below meth c C hr
  replace C : Cx p m meth c s args cX1_silentAt RX1 4 S := C
  refine v_iconst C kc_0 dX1_silentAt_0 ?_
  refine v_istoren (lv' := [(2, .int (0 : Int32)), (0, .int x0), (1, .int x1)]) C rfl rfl (Nat.le_of_ble_eq_true rfl) dX1_silentAt_1 ?_
  refine v_iconst C kc_0 dX1_silentAt_2 ?_
  refine v_istoren (lv' := [(3, .int (0 : Int32)), (2, .int (0 : Int32)), (0, .int x0), (1, .int x1)]) C rfl rfl (Nat.le_of_ble_eq_true rfl) dX1_silentAt_3 ?_
  refine v_loc [2, 3, 1, 0] rfl ?_
  obtain ⟨k1, h⟩ := h
  exact tl_X1_silentAt_4 l S n R   C hr K   k1 (x0) (x1) ((0 : Int32)) ((0 : Int32)) M h
abbrev rmX1_bestUnit : Room := { frames := 5, cells := 0, slots := 0, locals := 111 }
def wp_X1_bestUnit_67 (o0 : Nat) (X22 : Int32 → Int32 → Int32 → Int32 → Int32 → Int32 → Mem → Prop) (K : Int32 → Mem → Prop) (x1 x2 x3 x4 x5 x6 : Int32) (M : Mem) : Prop := X22 x1 x2 x3 x4 x5 (x6 + (1 : Int32)) M
def L_X1_bestUnit_22 (o0 : Nat)  (K : Int32 → Mem → Prop) : Nat → Int32 → Int32 → Int32 → Int32 → Int32 → Int32 → Mem → Prop
  | 0, _, _, _, _, _, _, _ => False
  | k + 1, x1, x2, x3, x4, x5, x6, M => (x1 ≤ x6 → K x4 M) ∧ (¬ x1 ≤ x6 → (x3 ≤ (1 : Int32) → K x4 M) ∧ (¬ x3 ≤ (1 : Int32) → wp_X1_silentAt (x2) (x6) M (fun r6 M6 => (x5 ≤ (if r6 < (x3 - r6) then (x3 - r6) else r6) → wp_X1_bestUnit_67 o0 (fun x1 x2 x3 x4 x5 x6 M => L_X1_bestUnit_22 o0  K k x1 x2 x3 x4 x5 x6 M) K (x1) (x2) (x3) (x4) (x5) (x6) M6) ∧ (¬ x5 ≤ (if r6 < (x3 - r6) then (x3 - r6) else r6) → wp_X1_bestUnit_67 o0 (fun x1 x2 x3 x4 x5 x6 M => L_X1_bestUnit_22 o0  K k x1 x2 x3 x4 x5 x6 M) K (x1) (x2) (x3) (x6) ((if r6 < (x3 - r6) then (x3 - r6) else r6)) (x6) M6))))
def wp_X1_bestUnit (o0 : Nat) (x1 : Int32) (M : Mem) (K : Int32 → Mem → Prop) : Prop := wp_X1_causes o0 (x1) M (fun r1 M1 => wp_J6_bitCount_0f7a4 (r1) M1 (fun r2 M2 => ∃ j3 : Nat, L_X1_bestUnit_22 o0 K j3 (x1) (r1) (r2) ((-9 : Int32)) ((8 : Int32)) ((1 : Int32)) M2))
set_option maxRecDepth 20000 in
theorem tb_X1_bestUnit_67 {p : Program} {e : Env} {s : State} {m : MethodId} {args : Array Value} {below : List Frame} {meth : Method} {c : Code} (l : Launch) (S : XS) (n : Nat) (R : Rfs) (o0 : Nat) (h0 : isClues n R o0) (C : Cx p m meth c s args cX1_bestUnit RX1 9 S) (hr : meth.sig.returnType = (some .int)) (K : Int32 → Mem → Prop) (X22 : Int32 → Int32 → Int32 → Int32 → Int32 → Int32 → Mem → Prop) (hX22 : ∀ (x1 x2 x3 x4 x5 x6 : Int32) (M : Mem), X22 x1 x2 x3 x4 x5 x6 M → V p l e rmX1_bestUnit s m args below meth c (MQ below (va_Qi K (XPost S n R) (XA S)) args s 0 0 (XA S)) S 9 0 0 n M R 22 [(1, .int x1), (2, .int x2), (3, .int x3), (4, .int x4), (5, .int x5), (6, .int x6)] []) (x1 x2 x3 x4 x5 x6 : Int32) (M : Mem) (h : wp_X1_bestUnit_67 o0 X22 K x1 x2 x3 x4 x5 x6 M) : V p l e rmX1_bestUnit s m args below meth c (MQ below (va_Qi K (XPost S n R) (XA S)) args s 0 0 (XA S)) S 9 0 0 n M R 67 [(1, .int x1), (2, .int x2), (3, .int x3), (4, .int x4), (5, .int x5), (6, .int x6)] [] := by
  refine v_iinc (lv' := [(6, .int (x6 + (1 : Int32))), (1, .int x1), (2, .int x2), (3, .int x3), (4, .int x4), (5, .int x5)]) C 5 rfl kc_1 rfl rfl (Nat.le_of_ble_eq_true rfl) dX1_bestUnit_67 ?_
  refine v_goto C 22 (by decide) dX1_bestUnit_70 ?_
  refine v_loc [1, 2, 3, 4, 5, 0] rfl ?_
  exact hX22 (x1) (x2) (x3) (x4) (x5) ((x6 + (1 : Int32))) M h
set_option maxRecDepth 20000 in
theorem tl_X1_bestUnit_22 {p : Program} {e : Env} {s : State} {m : MethodId} {args : Array Value} {below : List Frame} {meth : Method} {c : Code} (l : Launch) (S : XS) (n : Nat) (R : Rfs) (o0 : Nat) (h0 : isClues n R o0) (C : Cx p m meth c s args cX1_bestUnit RX1 9 S) (hr : meth.sig.returnType = (some .int)) (K : Int32 → Mem → Prop)   (k : Nat) : ∀ (x1 x2 x3 x4 x5 x6 : Int32) (M : Mem), L_X1_bestUnit_22 o0  K k x1 x2 x3 x4 x5 x6 M → V p l e rmX1_bestUnit s m args below meth c (MQ below (va_Qi K (XPost S n R) (XA S)) args s 0 0 (XA S)) S 9 0 0 n M R 22 [(1, .int x1), (2, .int x2), (3, .int x3), (4, .int x4), (5, .int x5), (6, .int x6)] [] := by
  induction k with
  | zero => intro x1 x2 x3 x4 x5 x6 M h; exact h.elim
  | succ k ih =>
    intro x1 x2 x3 x4 x5 x6 M h
    refine v_iload C 5 rfl dX1_bestUnit_22 ?_
    refine v_iloadn C 0 rfl rfl dX1_bestUnit_24 ?_
    refine v_icmp_ge C 73 (by decide) dX1_bestUnit_25 (fun c4 => ?_) (fun c4 => ?_)
    · replace h := h.1 c4
      refine v_iload C 3 rfl dX1_bestUnit_73 ?_
      exact v_iret C hr dX1_bestUnit_75 h
    · replace h := h.2 c4
      refine v_iloadn C 2 rfl rfl dX1_bestUnit_28 ?_
      refine v_iconst C kc_1 dX1_bestUnit_29 ?_
      refine v_icmp_le C 73 (by decide) dX1_bestUnit_30 (fun c5 => ?_) (fun c5 => ?_)
      · replace h := h.1 c5
        refine v_iload C 3 rfl dX1_bestUnit_73 ?_
        exact v_iret C hr dX1_bestUnit_75 h
      · replace h := h.2 c5
        refine v_iloadn C 1 rfl rfl dX1_bestUnit_33 ?_
        refine v_iload C 5 rfl dX1_bestUnit_34 ?_
        refine v_csI (As := [.int x2, .int x6]) C ms_X1_38 (con_X1_silentAt l S n R (x2) (x6)  _ _ h) rfl ⟨(Nat.le_of_ble_eq_true rfl), (Nat.le_of_ble_eq_true rfl)⟩ ⟨rfl, rfl, Nat.zero_le _, Nat.zero_le _⟩ (Nat.le_of_ble_eq_true rfl) dX1_bestUnit_36 (fun r6 M6 h => ?_)
        refine v_istore (lv' := [(7, .int r6), (1, .int x1), (2, .int x2), (3, .int x3), (4, .int x4), (5, .int x5), (6, .int x6)]) C rfl (Nat.le_of_ble_eq_true rfl) dX1_bestUnit_39 ?_
        refine v_iload C 0 rfl dX1_bestUnit_41 ?_
        refine v_iloadn C 3 rfl rfl dX1_bestUnit_43 ?_
        refine v_iload C 0 rfl dX1_bestUnit_44 ?_
        refine v_isub C dX1_bestUnit_46 ?_
        refine v_mmax C mm_X1_42 (Nat.le_of_ble_eq_true rfl) (Nat.le_of_ble_eq_true rfl) (Nat.zero_le _) (Nat.zero_le _) dX1_bestUnit_47 ?_
        refine v_istore (lv' := [(8, .int (if r6 < (x3 - r6) then (x3 - r6) else r6)), (7, .int r6), (1, .int x1), (2, .int x2), (3, .int x3), (4, .int x4), (5, .int x5), (6, .int x6)]) C rfl (Nat.le_of_ble_eq_true rfl) dX1_bestUnit_50 ?_
        refine v_iload C 0 rfl dX1_bestUnit_52 ?_
        refine v_iload C 6 rfl dX1_bestUnit_54 ?_
        refine v_icmp_ge C 67 (by decide) dX1_bestUnit_56 (fun c7 => ?_) (fun c7 => ?_)
        · replace h := h.1 c7
          refine v_loc [2, 3, 4, 5, 6, 7] rfl ?_
          exact tb_X1_bestUnit_67 l S n R o0 h0 C hr K (fun x1 x2 x3 x4 x5 x6 M => L_X1_bestUnit_22 o0  K k x1 x2 x3 x4 x5 x6 M) (ih) (x1) (x2) (x3) (x4) (x5) (x6) M6 h
        · replace h := h.2 c7
          refine v_iload C 0 rfl dX1_bestUnit_59 ?_
          refine v_istore (lv' := [(5, .int (if r6 < (x3 - r6) then (x3 - r6) else r6)), (8, .int (if r6 < (x3 - r6) then (x3 - r6) else r6)), (7, .int r6), (1, .int x1), (2, .int x2), (3, .int x3), (4, .int x4), (6, .int x6)]) C rfl (Nat.le_of_ble_eq_true rfl) dX1_bestUnit_61 ?_
          refine v_iload C 7 rfl dX1_bestUnit_63 ?_
          refine v_istore (lv' := [(4, .int x6), (5, .int (if r6 < (x3 - r6) then (x3 - r6) else r6)), (8, .int (if r6 < (x3 - r6) then (x3 - r6) else r6)), (7, .int r6), (1, .int x1), (2, .int x2), (3, .int x3), (6, .int x6)]) C rfl (Nat.le_of_ble_eq_true rfl) dX1_bestUnit_65 ?_
          refine v_loc [4, 5, 6, 0, 1, 7] rfl ?_
          exact tb_X1_bestUnit_67 l S n R o0 h0 C hr K (fun x1 x2 x3 x4 x5 x6 M => L_X1_bestUnit_22 o0  K k x1 x2 x3 x4 x5 x6 M) (ih) (x1) (x2) (x3) (x6) ((if r6 < (x3 - r6) then (x3 - r6) else r6)) (x6) M6 h
set_option maxRecDepth 20000 in
theorem con_X1_bestUnit (l : Launch) (S : XS) (n : Nat) (R : Rfs) (o0 : Nat) (x1 : Int32) (h0 : isClues n R o0) (M : Mem) (K : Int32 → Mem → Prop) (h : wp_X1_bestUnit o0 x1 M K) : CI l yX1_bestUnit cX1_bestUnit 9 (some .int) rmX1_bestUnit S n R [.ref (XB S + o0), .int x1] M K := by
  refine conI (lv := [(0, .ref (XB S + o0)), (1, .int x1)]) (by decide) (Nat.le_of_ble_eq_true rfl) rfl ?_
  intro p e s m args below meth c C hr
  replace C : Cx p m meth c s args cX1_bestUnit RX1 9 S := C
  refine v_aloadn C 0 rfl rfl dX1_bestUnit_0 ?_
  refine v_iloadn C 1 rfl rfl dX1_bestUnit_1 ?_
  refine v_cvI (As := [.int x1]) C mv_X1_30 (con_X1_causes l S n R o0 (x1) h0 _ _ h) (iClues_s0 h0) (iClues_l0 h0) rfl ⟨(Nat.le_of_ble_eq_true rfl), (Nat.le_of_ble_eq_true rfl)⟩ ⟨rfl, rfl, Nat.zero_le _, Nat.zero_le _⟩ (Nat.le_of_ble_eq_true rfl) dX1_bestUnit_2 (fun r1 M1 h => ?_)
  refine v_istoren (lv' := [(2, .int r1), (0, .ref (XB S + o0)), (1, .int x1)]) C rfl rfl (Nat.le_of_ble_eq_true rfl) dX1_bestUnit_5 ?_
  refine v_iloadn C 0 rfl rfl dX1_bestUnit_6 ?_
  refine v_csI (As := [.int r1]) C ms_X1_33 (con_J6_bitCount_0f7a4 l S n R (r1)  _ _ h) rfl ⟨(Nat.le_of_ble_eq_true rfl), (Nat.le_of_ble_eq_true rfl)⟩ ⟨rfl, rfl, Nat.zero_le _, Nat.zero_le _⟩ (Nat.le_of_ble_eq_true rfl) dX1_bestUnit_7 (fun r2 M2 h => ?_)
  refine v_istoren (lv' := [(3, .int r2), (2, .int r1), (0, .ref (XB S + o0)), (1, .int x1)]) C rfl rfl (Nat.le_of_ble_eq_true rfl) dX1_bestUnit_10 ?_
  refine v_bipush C kb_m9 dX1_bestUnit_11 ?_
  refine v_istore (lv' := [(4, .int (-9 : Int32)), (3, .int r2), (2, .int r1), (0, .ref (XB S + o0)), (1, .int x1)]) C rfl (Nat.le_of_ble_eq_true rfl) dX1_bestUnit_13 ?_
  refine v_bipush C kb_8 dX1_bestUnit_15 ?_
  refine v_istore (lv' := [(5, .int (8 : Int32)), (4, .int (-9 : Int32)), (3, .int r2), (2, .int r1), (0, .ref (XB S + o0)), (1, .int x1)]) C rfl (Nat.le_of_ble_eq_true rfl) dX1_bestUnit_17 ?_
  refine v_iconst C kc_1 dX1_bestUnit_19 ?_
  refine v_istore (lv' := [(6, .int (1 : Int32)), (5, .int (8 : Int32)), (4, .int (-9 : Int32)), (3, .int r2), (2, .int r1), (0, .ref (XB S + o0)), (1, .int x1)]) C rfl (Nat.le_of_ble_eq_true rfl) dX1_bestUnit_20 ?_
  refine v_loc [6, 4, 3, 2, 1, 0] rfl ?_
  obtain ⟨k3, h⟩ := h
  exact tl_X1_bestUnit_22 l S n R o0 h0 C hr K   k3 (x1) (r1) (r2) ((-9 : Int32)) ((8 : Int32)) ((1 : Int32)) M2 h
