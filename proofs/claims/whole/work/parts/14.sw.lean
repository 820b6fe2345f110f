abbrev rmX6_type : Room := { frames := 1, cells := 0, slots := 0, locals := 22 }
def wp_X6_type (pl dr : Nat) (x1 : Int32) (M : Mem) (K : Int32 → Mem → Prop) : Prop := wp_X6_isWithin (x1) ((0 : Int32)) ((255 : Int32)) M (fun r1 M1 => (¬ r1 = 0 → wp_X5_add 1 (x1) M1 (fun r3 M3 => (r3 = 0 → K (-3 : Int32) M3) ∧ (¬ r3 = 0 → K (M3 1 1) M3))) ∧ (r1 = 0 → K (-1 : Int32) M1))
set_option maxRecDepth 20000 in
theorem con_X6_type (l : Launch) (S : XS) (R : Rfs) (pl dr : Nat) (x1 : Int32) (hw : isSW R pl dr) (M : Mem) (K : Int32 → Mem → Prop) (h : wp_X6_type pl dr x1 M K) : CI l yX6_type cX6_type 2 (some .int) rmX6_type S 148 R [.ref (XB S + 0), .int x1] M K := by
  refine conI (lv := [(0, .ref (XB S + 0)), (1, .int x1)]) (by decide) (Nat.le_of_ble_eq_true rfl) rfl ?_
  intro p e s m args below meth c C hr
  replace C : Cx p m meth c s args cX6_type RX6 2 S := C
  refine v_iloadn C 1 rfl rfl dX6_type_0 ?_
  refine v_iconst C kc_0 dX6_type_1 ?_
  refine v_sipush C ks_255 dX6_type_2 ?_
  refine v_csI (As := [.int x1, .int (0 : Int32), .int (255 : Int32)]) C ms_X6_62 (con_X6_isWithin l S 148 R (x1) ((0 : Int32)) ((255 : Int32))  _ _ h) rfl ⟨(Nat.le_of_ble_eq_true rfl), (Nat.le_of_ble_eq_true rfl)⟩ ⟨rfl, rfl, Nat.zero_le _, Nat.zero_le _⟩ (Nat.le_of_ble_eq_true rfl) dX6_type_5 (fun r1 M1 h => ?_)
  refine v_if_ne C 13 (by decide) dX6_type_8 (fun c2 => ?_) (fun c2 => ?_)
  · replace h := h.1 c2
    refine v_aloadn C 0 rfl rfl dX6_type_13 ?_
    refine v_getr (o' := 1) C fr_X6_10 sh_0 (Nat.le_of_ble_eq_true rfl) rfl (iSW_r0 hw) dX6_type_14 ?_
    refine v_iloadn C 1 rfl rfl dX6_type_17 ?_
    refine v_cvI (As := [.int x1]) C mv_X6_66 (con_X5_add l S 148 R 1 (x1) (iSW_text hw) _ _ h) (iText_s0 (iSW_text hw)) (iText_l0 (iSW_text hw)) rfl ⟨(Nat.le_of_ble_eq_true rfl), (Nat.le_of_ble_eq_true rfl)⟩ ⟨rfl, rfl, Nat.zero_le _, Nat.zero_le _⟩ (Nat.le_of_ble_eq_true rfl) dX6_type_18 (fun r3 M3 h => ?_)
    refine v_if_eq C 34 (by decide) dX6_type_21 (fun c4 => ?_) (fun c4 => ?_)
    · replace h := h.1 c4
      refine v_bipush C kb_m3 dX6_type_34 ?_
      exact v_iret C hr dX6_type_36 h
    · replace h := h.2 c4
      refine v_aloadn C 0 rfl rfl dX6_type_24 ?_
      refine v_getr (o' := 1) C fr_X6_10 sh_0 (Nat.le_of_ble_eq_true rfl) rfl (iSW_r0 hw) dX6_type_25 ?_
      refine v_geti C fr_X6_70 (iText_s0 (iSW_text hw)) (iText_l0 (iSW_text hw)) rfl dX6_type_28 ?_
      refine v_goto C 36 (by decide) dX6_type_31 ?_
      exact v_iret C hr dX6_type_36 h
  · replace h := h.2 c2
    refine v_iconst C kc_m1 dX6_type_11 ?_
    exact v_iret C hr dX6_type_12 h
abbrev rmX6_clear : Room := { frames := 0, cells := 0, slots := 0, locals := 0 }
def wp_X6_clear (pl dr : Nat) (M : Mem) (K : Int32 → Mem → Prop) : Prop := (∀ M1 : Mem, M1 = mw M 1 1 (0 : Int32) → K (M 1 1) M1)
set_option maxRecDepth 20000 in
theorem con_X6_clear (l : Launch) (S : XS) (R : Rfs) (pl dr : Nat) (hw : isSW R pl dr) (M : Mem) (K : Int32 → Mem → Prop) (h : wp_X6_clear pl dr M K) : CI l yX6_clear cX6_clear 2 (some .int) rmX6_clear S 148 R [.ref (XB S + 0)] M K := by
  refine conI (lv := [(0, .ref (XB S + 0))]) (by decide) (Nat.le_of_ble_eq_true rfl) rfl ?_
  intro p e s m args below meth c C hr
  replace C : Cx p m meth c s args cX6_clear RX6 2 S := C
  refine v_aloadn C 0 rfl rfl dX6_clear_0 ?_
  refine v_getr (o' := 1) C fr_X6_10 sh_0 (Nat.le_of_ble_eq_true rfl) rfl (iSW_r0 hw) dX6_clear_1 ?_
  refine v_geti C fr_X6_70 (iText_s0 (iSW_text hw)) (iText_l0 (iSW_text hw)) rfl dX6_clear_4 ?_
  refine v_istoren (lv' := [(1, .int (M 1 1)), (0, .ref (XB S + 0))]) C rfl rfl (Nat.le_of_ble_eq_true rfl) dX6_clear_7 ?_
  refine v_aloadn C 1 rfl rfl dX6_clear_8 ?_
  refine v_getr (o' := 1) C fr_X6_10 sh_0 (Nat.le_of_ble_eq_true rfl) rfl (iSW_r0 hw) dX6_clear_9 ?_
  refine v_iconst C kc_0 dX6_clear_12 ?_
  refine v_puti C fr_X6_70 (iText_s0 (iSW_text hw)) (iText_l0 (iSW_text hw)) rfl dX6_clear_13 (fun M1 e1 => ?_)
  replace h := h M1 e1
  refine v_iloadn C 0 rfl rfl dX6_clear_16 ?_
  exact v_iret C hr dX6_clear_17 h
abbrev rmX6_tells : Room := { frames := 7, cells := 0, slots := 0, locals := 154 }
def L_X6_tells_73 (pl : Nat) (dr : Nat)  (K : Int32 → Mem → Bool → Prop) : Nat → Int32 → Int32 → Mem → Prop
  | 0, _, _, _ => False
  | k + 1, x1, x3, M => ((2 : Int32) ≤ x3 → K x1 M true) ∧ (¬ (2 : Int32) ≤ x3 → vp_in x3 2 ∧ (∀ M11 : Mem, M11 = mw M 104 (ix x3) (0 : Int32) → L_X6_tells_73 pl dr  K k x1 (x3 + (1 : Int32)) M11))
def wp_X6_tells (pl dr : Nat) (M : Mem) (K : Int32 → Mem → Bool → Prop) : Prop := wp_X5_readInto 1 dr M (fun r1 M1 => (0 ≤ r1 → (∀ M5 : Mem, M5 = mw M1 1 1 (0 : Int32) → wp_X4_setAsAtFirst 13 dr M5 (fun M6 => (∀ M7 : Mem, M7 = mw M6 35 2 (0 : Int32) → (∀ M8 : Mem, M8 = mw M7 105 2 (0 : Int32) → ∃ j9 : Nat, L_X6_tells_73 dr pl K j9 (r1) ((0 : Int32)) M8))))) ∧ (¬ 0 ≤ r1 → K r1 M1 false))
set_option maxRecDepth 20000 in
theorem tl_X6_tells_73 {p : Program} {e : Env} {s : State} {m : MethodId} {args : Array Value} {below : List Frame} {meth : Method} {c : Code} (l : Launch) (S : XS) (R : Rfs) (pl : Nat) (dr : Nat) (hw : isSW R pl dr) (C : Cx p m meth c s args cX6_tells RX6 4 S) (hr : meth.sig.returnType = (some .int)) (R0 : Rfs) (pl0 dr0 : Nat) (hsw : R = swp R0 pl0 dr0) (K : Int32 → Mem → Bool → Prop)   (k : Nat) : ∀ (x1 x3 : Int32) (M : Mem), L_X6_tells_73 pl dr  K k x1 x3 M → V p l e rmX6_tells s m args below meth c (MQ below (va_Qi (fun (r : Int32) (u : Mem × Rfs) => ∃ b : Bool, K r u.1 b ∧ u.2 = (if b = true then swp R0 pl0 dr0 else R0)) (fun (u : Mem × Rfs) t => XPost S 148 u.2 u.1 t) (XA S)) args s 0 0 (XA S)) S 4 0 0 148 M R 73 [(0, .ref (XB S + 0)), (1, .int x1), (3, .int x3)] [] := by
  induction k with
  | zero => intro x1 x3 M h; exact h.elim
  | succ k ih =>
    intro x1 x3 M h
    refine v_iloadn C 2 rfl rfl dX6_tells_73 ?_
    refine v_iconst C kc_2 dX6_tells_74 ?_
    refine v_icmp_ge C 91 (by decide) dX6_tells_75 (fun c10 => ?_) (fun c10 => ?_)
    · replace h := h.1 c10
      refine v_iloadn C 1 rfl rfl dX6_tells_91 ?_
      exact v_iretR C hr dX6_tells_92 ⟨true, h, hsw.trans (if_pos rfl).symm⟩
    · replace h := h.2 c10
      refine v_aloadn C 0 rfl rfl dX6_tells_78 ?_
      refine v_getr (o' := 104) C fr_X6_47 sh_0 (Nat.le_of_ble_eq_true rfl) rfl (iSW_r7 hw) dX6_tells_79 ?_
      refine v_iloadn C 2 rfl rfl dX6_tells_82 ?_
      refine v_iconst C kc_0 dX6_tells_83 ?_
      have hi11 := h.1
      replace h := h.2
      refine v_zast C sh_104 (Nat.le_of_ble_eq_true rfl) isB0 hi11 dX6_tells_84 (fun M11 e11 => ?_)
      replace h := h M11 e11
      refine v_iinc (lv' := [(3, .int (x3 + (1 : Int32))), (0, .ref (XB S + 0)), (1, .int x1)]) C 2 rfl kc_1 rfl rfl (Nat.le_of_ble_eq_true rfl) dX6_tells_85 ?_
      refine v_goto C 73 (by decide) dX6_tells_88 ?_
      refine v_loc [1, 2, 0] rfl ?_
      exact ih (x1) ((x3 + (1 : Int32))) M11 h
set_option maxRecDepth 20000 in
theorem con_X6_tells (l : Launch) (S : XS) (R : Rfs) (pl dr : Nat) (hw : isSW R pl dr) (M : Mem) (K : Int32 → Mem → Bool → Prop) (h : wp_X6_tells pl dr M K) : CR l yX6_tells cX6_tells 4 (some .int) rmX6_tells S 148 R [.ref (XB S + 0)] M (fun (r : Int32) (u : Mem × Rfs) => ∃ b : Bool, K r u.1 b ∧ u.2 = (if b = true then swp R pl dr else R)) := by
  refine conR (lv := [(0, .ref (XB S + 0))]) (by decide) (Nat.le_of_ble_eq_true rfl) rfl ?_
  intro p e s m args below meth c C hr
  replace C : Cx p m meth c s args cX6_tells RX6 4 S := C
  refine v_aloadn C 0 rfl rfl dX6_tells_0 ?_
  refine v_getr (o' := 1) C fr_X6_10 sh_0 (Nat.le_of_ble_eq_true rfl) rfl (iSW_r0 hw) dX6_tells_1 ?_
  refine v_aloadn C 0 rfl rfl dX6_tells_4 ?_
  refine v_getr (o' := dr) C fr_X6_23 sh_0 (Nat.le_of_ble_eq_true rfl) rfl (iSW_r2 hw) dX6_tells_5 ?_
  refine v_cvI (As := [.ref (XB S + dr)]) C mv_X6_74 (con_X5_readInto l S 148 R 1 dr (iSW_text hw) (iSW_draft hw) _ _ h) (iText_s0 (iSW_text hw)) (iText_l0 (iSW_text hw)) rfl ⟨(Nat.le_of_ble_eq_true rfl), (Nat.le_of_ble_eq_true rfl)⟩ ⟨rfl, rfl, Nat.zero_le _, Nat.zero_le _⟩ (Nat.le_of_ble_eq_true rfl) dX6_tells_8 (fun r1 M1 h => ?_)
  refine v_istoren (lv' := [(1, .int r1), (0, .ref (XB S + 0))]) C rfl rfl (Nat.le_of_ble_eq_true rfl) dX6_tells_11 ?_
  refine v_iloadn C 0 rfl rfl dX6_tells_12 ?_
  refine v_if_ge C 18 (by decide) dX6_tells_13 (fun c2 => ?_) (fun c2 => ?_)
  · replace h := h.1 c2
    refine v_aloadn C 1 rfl rfl dX6_tells_18 ?_
    refine v_getr (o' := pl) C fr_X6_19 sh_0 (Nat.le_of_ble_eq_true rfl) rfl (iSW_r1 hw) dX6_tells_19 ?_
    refine v_astoren (lv' := [(2, .ref (XB S + pl)), (1, .int r1), (0, .ref (XB S + 0))]) C rfl rfl (Nat.le_of_ble_eq_true rfl) dX6_tells_22 ?_
    refine v_aloadn C 2 rfl rfl dX6_tells_23 ?_
    refine v_aloadn C 2 rfl rfl dX6_tells_24 ?_
    refine v_getr (o' := dr) C fr_X6_23 sh_0 (Nat.le_of_ble_eq_true rfl) rfl (iSW_r2 hw) dX6_tells_25 ?_
    refine v_putr C fr_X6_19 sh_0 (Nat.le_of_ble_eq_true rfl) rfl rfl rfl dX6_tells_28 (fun R3 e3 => ?_)
    refine v_aloadn C 2 rfl rfl dX6_tells_31 ?_
    refine v_aloadn C 0 rfl rfl dX6_tells_32 ?_
    refine v_putr C fr_X6_23 sh_0 (Nat.le_of_ble_eq_true rfl) rfl rfl rfl dX6_tells_33 (fun R4 e4 => ?_)
    have hw2 : isSW R4 dr pl := isSW_swap hw e3 e4
    have hsw : R4 = swp R pl dr := by rw [e4, e3]; rfl
    refine v_aloadn C 2 rfl rfl dX6_tells_36 ?_
    refine v_getr (o' := 1) C fr_X6_10 sh_0 (Nat.le_of_ble_eq_true rfl) rfl (iSW_r0 hw2) dX6_tells_37 ?_
    refine v_iconst C kc_0 dX6_tells_40 ?_
    refine v_puti C fr_X6_70 (iText_s0 (iSW_text hw2)) (iText_l0 (iSW_text hw2)) rfl dX6_tells_41 (fun M5 e5 => ?_)
    replace h := h M5 e5
    refine v_aloadn C 2 rfl rfl dX6_tells_44 ?_
    refine v_getr (o' := 13) C fr_X6_29 sh_0 (Nat.le_of_ble_eq_true rfl) rfl (iSW_r3 hw2) dX6_tells_45 ?_
    refine v_aloadn C 2 rfl rfl dX6_tells_48 ?_
    refine v_getr (o' := dr) C fr_X6_19 sh_0 (Nat.le_of_ble_eq_true rfl) rfl (iSW_r1 hw2) dX6_tells_49 ?_
    refine v_cvV (As := [.ref (XB S + dr)]) C mv_X6_58 (con_X4_setAsAtFirst l S 148 R4 13 dr (iSW_press hw2) (iSW_plan hw2) _ _ h) (iPress_s0 (iSW_press hw2)) (iPress_l0 (iSW_press hw2)) rfl ⟨(Nat.le_of_ble_eq_true rfl), (Nat.le_of_ble_eq_true rfl)⟩ ⟨rfl, rfl, Nat.zero_le _, Nat.zero_le _⟩ (Nat.le_of_ble_eq_true rfl) dX6_tells_52 (fun M6 h => ?_)
    refine v_aloadn C 2 rfl rfl dX6_tells_55 ?_
    refine v_getr (o' := 35) C fr_X6_39 sh_0 (Nat.le_of_ble_eq_true rfl) rfl (iSW_r5 hw2) dX6_tells_56 ?_
    refine v_iconst C kc_0 dX6_tells_59 ?_
    refine v_puti C fr_X6_78 (iHist_s0 (iSW_hist hw2)) (iHist_l0 (iSW_hist hw2)) rfl dX6_tells_60 (fun M7 e7 => ?_)
    replace h := h M7 e7
    refine v_aloadn C 2 rfl rfl dX6_tells_63 ?_
    refine v_getr (o' := 105) C fr_X6_54 sh_0 (Nat.le_of_ble_eq_true rfl) rfl (iSW_r8 hw2) dX6_tells_64 ?_
    refine v_iconst C kc_0 dX6_tells_67 ?_
    refine v_puti C fr_X6_81 (iClues_s0 (iSW_clues hw2)) (iClues_l0 (iSW_clues hw2)) rfl dX6_tells_68 (fun M8 e8 => ?_)
    replace h := h M8 e8
    refine v_iconst C kc_0 dX6_tells_71 ?_
    refine v_istoren (lv' := [(3, .int (0 : Int32)), (2, .ref (XB S + pl)), (1, .int r1), (0, .ref (XB S + 0))]) C rfl rfl (Nat.le_of_ble_eq_true rfl) dX6_tells_72 ?_
    refine v_loc [3, 2, 0] rfl ?_
    obtain ⟨k9, h⟩ := h
    exact tl_X6_tells_73 l S R4 dr pl hw2 C hr R pl dr hsw K   k9 (r1) ((0 : Int32)) M8 h
  · replace h := h.2 c2
    refine v_iloadn C 0 rfl rfl dX6_tells_16 ?_
    exact v_iretR C hr dX6_tells_17 ⟨false, h, (if_neg (by decide)).symm⟩
abbrev rmX6_ticks : Room := { frames := 5, cells := 0, slots := 0, locals := 101 }
def L_X6_ticks_64 (pl : Nat) (dr : Nat)  (K : Int32 → Mem → Prop) : Nat → Int32 → Int32 → Int32 → Mem → Prop
  | 0, _, _, _, _ => False
  | k + 1, x1, x2, x3, M => (x1 ≤ x3 → K ((M 13 11) - x2) M) ∧ (¬ x1 ≤ x3 → ((M 13 8) = 0 → K ((M 13 11) - x2) M) ∧ (¬ (M 13 8) = 0 → wp_X4_tick 13 pl M (fun r9 M9 => L_X6_ticks_64 pl dr  K k x1 x2 (x3 + (1 : Int32)) M9)))
def wp_X6_ticks (pl dr : Nat) (x1 : Int32) (M : Mem) (K : Int32 → Mem → Prop) : Prop := wp_X6_isWithin (x1) ((1 : Int32)) ((60 : Int32)) M (fun r1 M1 => (¬ r1 = 0 → (¬ (M1 13 8) = 0 → (((M1 13 10) + x1) ≤ (9999 : Int32) → wp_X2_remember 35 13 M1 (fun M5 => ∃ j6 : Nat, L_X6_ticks_64 pl dr K j6 (x1) ((M5 13 11)) ((0 : Int32)) M5)) ∧ (¬ ((M1 13 10) + x1) ≤ (9999 : Int32) → K (-3 : Int32) M1)) ∧ ((M1 13 8) = 0 → K (-2 : Int32) M1)) ∧ (r1 = 0 → K (-1 : Int32) M1))
set_option maxRecDepth 20000 in
theorem tl_X6_ticks_64 {p : Program} {e : Env} {s : State} {m : MethodId} {args : Array Value} {below : List Frame} {meth : Method} {c : Code} (l : Launch) (S : XS) (R : Rfs) (pl : Nat) (dr : Nat) (hw : isSW R pl dr) (C : Cx p m meth c s args cX6_ticks RX6 4 S) (hr : meth.sig.returnType = (some .int)) (K : Int32 → Mem → Prop)   (k : Nat) : ∀ (x1 x2 x3 : Int32) (M : Mem), L_X6_ticks_64 pl dr  K k x1 x2 x3 M → V p l e rmX6_ticks s m args below meth c (MQ below (va_Qi K (XPost S 148 R) (XA S)) args s 0 0 (XA S)) S 4 0 0 148 M R 64 [(0, .ref (XB S + 0)), (1, .int x1), (2, .int x2), (3, .int x3)] [] := by
  induction k with
  | zero => intro x1 x2 x3 M h; exact h.elim
  | succ k ih =>
    intro x1 x2 x3 M h
    refine v_iloadn C 3 rfl rfl dX6_ticks_64 ?_
    refine v_iloadn C 1 rfl rfl dX6_ticks_65 ?_
    refine v_icmp_ge C 97 (by decide) dX6_ticks_66 (fun c7 => ?_) (fun c7 => ?_)
    · replace h := h.1 c7
      refine v_aloadn C 0 rfl rfl dX6_ticks_97 ?_
      refine v_getr (o' := 13) C fr_X6_29 sh_0 (Nat.le_of_ble_eq_true rfl) rfl (iSW_r3 hw) dX6_ticks_98 ?_
      refine v_geti C fr_X6_93 (iPress_s0 (iSW_press hw)) (iPress_l0 (iSW_press hw)) rfl dX6_ticks_101 ?_
      refine v_iloadn C 2 rfl rfl dX6_ticks_104 ?_
      refine v_isub C dX6_ticks_105 ?_
      exact v_iret C hr dX6_ticks_106 h
    · replace h := h.2 c7
      refine v_aloadn C 0 rfl rfl dX6_ticks_69 ?_
      refine v_getr (o' := 13) C fr_X6_29 sh_0 (Nat.le_of_ble_eq_true rfl) rfl (iSW_r3 hw) dX6_ticks_70 ?_
      refine v_geti C fr_X6_82 (iPress_s0 (iSW_press hw)) (iPress_l0 (iSW_press hw)) rfl dX6_ticks_73 ?_
      refine v_if_eq C 97 (by decide) dX6_ticks_76 (fun c8 => ?_) (fun c8 => ?_)
      · replace h := h.1 c8
        refine v_aloadn C 0 rfl rfl dX6_ticks_97 ?_
        refine v_getr (o' := 13) C fr_X6_29 sh_0 (Nat.le_of_ble_eq_true rfl) rfl (iSW_r3 hw) dX6_ticks_98 ?_
        refine v_geti C fr_X6_93 (iPress_s0 (iSW_press hw)) (iPress_l0 (iSW_press hw)) rfl dX6_ticks_101 ?_
        refine v_iloadn C 2 rfl rfl dX6_ticks_104 ?_
        refine v_isub C dX6_ticks_105 ?_
        exact v_iret C hr dX6_ticks_106 h
      · replace h := h.2 c8
        refine v_aloadn C 0 rfl rfl dX6_ticks_79 ?_
        refine v_getr (o' := 13) C fr_X6_29 sh_0 (Nat.le_of_ble_eq_true rfl) rfl (iSW_r3 hw) dX6_ticks_80 ?_
        refine v_aloadn C 0 rfl rfl dX6_ticks_83 ?_
        refine v_getr (o' := pl) C fr_X6_19 sh_0 (Nat.le_of_ble_eq_true rfl) rfl (iSW_r1 hw) dX6_ticks_84 ?_
        refine v_cvI (As := [.ref (XB S + pl)]) C mv_X6_96 (con_X4_tick l S 148 R 13 pl (iSW_press hw) (iSW_plan hw) _ _ h) (iPress_s0 (iSW_press hw)) (iPress_l0 (iSW_press hw)) rfl ⟨(Nat.le_of_ble_eq_true rfl), (Nat.le_of_ble_eq_true rfl)⟩ ⟨rfl, rfl, Nat.zero_le _, Nat.zero_le _⟩ (Nat.le_of_ble_eq_true rfl) dX6_ticks_87 (fun r9 M9 h => ?_)
        refine v_pop C rfl dX6_ticks_90 ?_
        refine v_iinc (lv' := [(3, .int (x3 + (1 : Int32))), (0, .ref (XB S + 0)), (1, .int x1), (2, .int x2)]) C 3 rfl kc_1 rfl rfl (Nat.le_of_ble_eq_true rfl) dX6_ticks_91 ?_
        refine v_goto C 64 (by decide) dX6_ticks_94 ?_
        refine v_loc [1, 2, 3, 0] rfl ?_
        exact ih (x1) (x2) ((x3 + (1 : Int32))) M9 h
set_option maxRecDepth 20000 in
theorem con_X6_ticks (l : Launch) (S : XS) (R : Rfs) (pl dr : Nat) (x1 : Int32) (hw : isSW R pl dr) (M : Mem) (K : Int32 → Mem → Prop) (h : wp_X6_ticks pl dr x1 M K) : CI l yX6_ticks cX6_ticks 4 (some .int) rmX6_ticks S 148 R [.ref (XB S + 0), .int x1] M K := by
  refine conI (lv := [(0, .ref (XB S + 0)), (1, .int x1)]) (by decide) (Nat.le_of_ble_eq_true rfl) rfl ?_
  intro p e s m args below meth c C hr
  replace C : Cx p m meth c s args cX6_ticks RX6 4 S := C
  refine v_iloadn C 1 rfl rfl dX6_ticks_0 ?_
  refine v_iconst C kc_1 dX6_ticks_1 ?_
  refine v_bipush C kb_60 dX6_ticks_2 ?_
  refine v_csI (As := [.int x1, .int (1 : Int32), .int (60 : Int32)]) C ms_X6_62 (con_X6_isWithin l S 148 R (x1) ((1 : Int32)) ((60 : Int32))  _ _ h) rfl ⟨(Nat.le_of_ble_eq_true rfl), (Nat.le_of_ble_eq_true rfl)⟩ ⟨rfl, rfl, Nat.zero_le _, Nat.zero_le _⟩ (Nat.le_of_ble_eq_true rfl) dX6_ticks_4 (fun r1 M1 h => ?_)
  refine v_if_ne C 12 (by decide) dX6_ticks_7 (fun c2 => ?_) (fun c2 => ?_)
  · replace h := h.1 c2
    refine v_aloadn C 0 rfl rfl dX6_ticks_12 ?_
    refine v_getr (o' := 13) C fr_X6_29 sh_0 (Nat.le_of_ble_eq_true rfl) rfl (iSW_r3 hw) dX6_ticks_13 ?_
    refine v_geti C fr_X6_82 (iPress_s0 (iSW_press hw)) (iPress_l0 (iSW_press hw)) rfl dX6_ticks_16 ?_
    refine v_if_ne C 25 (by decide) dX6_ticks_19 (fun c3 => ?_) (fun c3 => ?_)
    · replace h := h.1 c3
      refine v_aloadn C 0 rfl rfl dX6_ticks_25 ?_
      refine v_getr (o' := 13) C fr_X6_29 sh_0 (Nat.le_of_ble_eq_true rfl) rfl (iSW_r3 hw) dX6_ticks_26 ?_
      refine v_geti C fr_X6_86 (iPress_s0 (iSW_press hw)) (iPress_l0 (iSW_press hw)) rfl dX6_ticks_29 ?_
      refine v_iloadn C 1 rfl rfl dX6_ticks_32 ?_
      refine v_iadd C dX6_ticks_33 ?_
      refine v_sipush C ks_9999 dX6_ticks_34 ?_
      refine v_icmp_le C 43 (by decide) dX6_ticks_37 (fun c4 => ?_) (fun c4 => ?_)
      · replace h := h.1 c4
        refine v_aloadn C 0 rfl rfl dX6_ticks_43 ?_
        refine v_getr (o' := 35) C fr_X6_39 sh_0 (Nat.le_of_ble_eq_true rfl) rfl (iSW_r5 hw) dX6_ticks_44 ?_
        refine v_aloadn C 0 rfl rfl dX6_ticks_47 ?_
        refine v_getr (o' := 13) C fr_X6_29 sh_0 (Nat.le_of_ble_eq_true rfl) rfl (iSW_r3 hw) dX6_ticks_48 ?_
        refine v_cvV (As := [.ref (XB S + 13)]) C mv_X6_89 (con_X2_remember l S 148 R 35 13 (iSW_hist hw) (iSW_press hw) _ _ h) (iHist_s0 (iSW_hist hw)) (iHist_l0 (iSW_hist hw)) rfl ⟨(Nat.le_of_ble_eq_true rfl), (Nat.le_of_ble_eq_true rfl)⟩ ⟨rfl, rfl, Nat.zero_le _, Nat.zero_le _⟩ (Nat.le_of_ble_eq_true rfl) dX6_ticks_51 (fun M5 h => ?_)
        refine v_aloadn C 0 rfl rfl dX6_ticks_54 ?_
        refine v_getr (o' := 13) C fr_X6_29 sh_0 (Nat.le_of_ble_eq_true rfl) rfl (iSW_r3 hw) dX6_ticks_55 ?_
        refine v_geti C fr_X6_93 (iPress_s0 (iSW_press hw)) (iPress_l0 (iSW_press hw)) rfl dX6_ticks_58 ?_
        refine v_istoren (lv' := [(2, .int (M5 13 11)), (0, .ref (XB S + 0)), (1, .int x1)]) C rfl rfl (Nat.le_of_ble_eq_true rfl) dX6_ticks_61 ?_
        refine v_iconst C kc_0 dX6_ticks_62 ?_
        refine v_istoren (lv' := [(3, .int (0 : Int32)), (2, .int (M5 13 11)), (0, .ref (XB S + 0)), (1, .int x1)]) C rfl rfl (Nat.le_of_ble_eq_true rfl) dX6_ticks_63 ?_
        refine v_loc [2, 3, 1, 0] rfl ?_
        obtain ⟨k6, h⟩ := h
        exact tl_X6_ticks_64 l S R pl dr hw C hr K   k6 (x1) ((M5 13 11)) ((0 : Int32)) M5 h
      · replace h := h.2 c4
        refine v_bipush C kb_m3 dX6_ticks_40 ?_
        exact v_iret C hr dX6_ticks_42 h
    · replace h := h.2 c3
      refine v_bipush C kb_m2 dX6_ticks_22 ?_
      exact v_iret C hr dX6_ticks_24 h
  · replace h := h.2 c2
    refine v_iconst C kc_m1 dX6_ticks_10 ?_
    exact v_iret C hr dX6_ticks_11 h
abbrev rmX6_drifts : Room := { frames := 4, cells := 0, slots := 0, locals := 81 }
def wp_X6_drifts (pl dr : Nat) (x1 : Int32) (x2 : Int32) (M : Mem) (K : Int32 → Mem → Prop) : Prop := wp_X3_isMovable pl (x1) M (fun r1 M1 => (r1 = 0 → K (-1 : Int32) M1) ∧ (¬ r1 = 0 → wp_X6_isWithin (x2) ((-20 : Int32)) ((20 : Int32)) M1 (fun r3 M3 => (¬ r3 = 0 → vp_in x1 4 ∧ ((¬ (M3 14 (ix x1)) = x2 → wp_X2_remember 35 13 M3 (fun M6 => vp_in x1 4 ∧ (∀ M7 : Mem, M7 = mw M6 14 (ix x1) x2 → K (1 : Int32) M7))) ∧ ((M3 14 (ix x1)) = x2 → K (-2 : Int32) M3))) ∧ (r3 = 0 → K (-1 : Int32) M3))))
set_option maxRecDepth 20000 in
theorem con_X6_drifts (l : Launch) (S : XS) (R : Rfs) (pl dr : Nat) (x1 : Int32) (x2 : Int32) (hw : isSW R pl dr) (M : Mem) (K : Int32 → Mem → Prop) (h : wp_X6_drifts pl dr x1 x2 M K) : CI l yX6_drifts cX6_drifts 3 (some .int) rmX6_drifts S 148 R [.ref (XB S + 0), .int x1, .int x2] M K := by
  refine conI (lv := [(0, .ref (XB S + 0)), (1, .int x1), (2, .int x2)]) (by decide) (Nat.le_of_ble_eq_true rfl) rfl ?_
  intro p e s m args below meth c C hr
  replace C : Cx p m meth c s args cX6_drifts RX6 3 S := C
  refine v_aloadn C 0 rfl rfl dX6_drifts_0 ?_
  refine v_getr (o' := pl) C fr_X6_19 sh_0 (Nat.le_of_ble_eq_true rfl) rfl (iSW_r1 hw) dX6_drifts_1 ?_
  refine v_iloadn C 1 rfl rfl dX6_drifts_4 ?_
  refine v_cvI (As := [.int x1]) C mv_X6_100 (con_X3_isMovable l S 148 R pl (x1) (iSW_plan hw) _ _ h) (iPlan_s0 (iSW_plan hw)) (iPlan_l0 (iSW_plan hw)) rfl ⟨(Nat.le_of_ble_eq_true rfl), (Nat.le_of_ble_eq_true rfl)⟩ ⟨rfl, rfl, Nat.zero_le _, Nat.zero_le _⟩ (Nat.le_of_ble_eq_true rfl) dX6_drifts_5 (fun r1 M1 h => ?_)
  refine v_if_eq C 22 (by decide) dX6_drifts_8 (fun c2 => ?_) (fun c2 => ?_)
  · replace h := h.1 c2
    refine v_iconst C kc_m1 dX6_drifts_22 ?_
    exact v_iret C hr dX6_drifts_23 h
  · replace h := h.2 c2
    refine v_iloadn C 2 rfl rfl dX6_drifts_11 ?_
    refine v_bipush C kb_m20 dX6_drifts_12 ?_
    refine v_bipush C kb_20 dX6_drifts_14 ?_
    refine v_csI (As := [.int x2, .int (-20 : Int32), .int (20 : Int32)]) C ms_X6_62 (con_X6_isWithin l S 148 R (x2) ((-20 : Int32)) ((20 : Int32))  _ _ h) rfl ⟨(Nat.le_of_ble_eq_true rfl), (Nat.le_of_ble_eq_true rfl)⟩ ⟨rfl, rfl, Nat.zero_le _, Nat.zero_le _⟩ (Nat.le_of_ble_eq_true rfl) dX6_drifts_16 (fun r3 M3 h => ?_)
    refine v_if_ne C 24 (by decide) dX6_drifts_19 (fun c4 => ?_) (fun c4 => ?_)
    · replace h := h.1 c4
      refine v_aloadn C 0 rfl rfl dX6_drifts_24 ?_
      refine v_getr (o' := 13) C fr_X6_29 sh_0 (Nat.le_of_ble_eq_true rfl) rfl (iSW_r3 hw) dX6_drifts_25 ?_
      refine v_getr (o' := 14) C fr_X6_103 (iPress_s0 (iSW_press hw)) (iPress_l0 (iSW_press hw)) rfl (iPress_r0 (iSW_press hw)) dX6_drifts_28 ?_
      refine v_iloadn C 1 rfl rfl dX6_drifts_31 ?_
      refine v_ald C (iPress_s1 (iSW_press hw)) (iPress_l1 (iSW_press hw)) h.1 dX6_drifts_32 ?_
      replace h := h.2
      refine v_iloadn C 2 rfl rfl dX6_drifts_33 ?_
      refine v_icmp_ne C 40 (by decide) dX6_drifts_34 (fun c5 => ?_) (fun c5 => ?_)
      · replace h := h.1 c5
        refine v_aloadn C 0 rfl rfl dX6_drifts_40 ?_
        refine v_getr (o' := 35) C fr_X6_39 sh_0 (Nat.le_of_ble_eq_true rfl) rfl (iSW_r5 hw) dX6_drifts_41 ?_
        refine v_aloadn C 0 rfl rfl dX6_drifts_44 ?_
        refine v_getr (o' := 13) C fr_X6_29 sh_0 (Nat.le_of_ble_eq_true rfl) rfl (iSW_r3 hw) dX6_drifts_45 ?_
        refine v_cvV (As := [.ref (XB S + 13)]) C mv_X6_89 (con_X2_remember l S 148 R 35 13 (iSW_hist hw) (iSW_press hw) _ _ h) (iHist_s0 (iSW_hist hw)) (iHist_l0 (iSW_hist hw)) rfl ⟨(Nat.le_of_ble_eq_true rfl), (Nat.le_of_ble_eq_true rfl)⟩ ⟨rfl, rfl, Nat.zero_le _, Nat.zero_le _⟩ (Nat.le_of_ble_eq_true rfl) dX6_drifts_48 (fun M6 h => ?_)
        refine v_aloadn C 0 rfl rfl dX6_drifts_51 ?_
        refine v_getr (o' := 13) C fr_X6_29 sh_0 (Nat.le_of_ble_eq_true rfl) rfl (iSW_r3 hw) dX6_drifts_52 ?_
        refine v_getr (o' := 14) C fr_X6_103 (iPress_s0 (iSW_press hw)) (iPress_l0 (iSW_press hw)) rfl (iPress_r0 (iSW_press hw)) dX6_drifts_55 ?_
        refine v_iloadn C 1 rfl rfl dX6_drifts_58 ?_
        refine v_iloadn C 2 rfl rfl dX6_drifts_59 ?_
        have hi7 := h.1
        replace h := h.2
        refine v_ast C (iPress_s1 (iSW_press hw)) (iPress_l1 (iSW_press hw)) hi7 dX6_drifts_60 (fun M7 e7 => ?_)
        replace h := h M7 e7
        refine v_iconst C kc_1 dX6_drifts_61 ?_
        exact v_iret C hr dX6_drifts_62 h
      · replace h := h.2 c5
        refine v_bipush C kb_m2 dX6_drifts_37 ?_
        exact v_iret C hr dX6_drifts_39 h
    · replace h := h.2 c4
      refine v_iconst C kc_m1 dX6_drifts_22 ?_
      exact v_iret C hr dX6_drifts_23 h
abbrev rmX6_corrects : Room := { frames := 4, cells := 0, slots := 0, locals := 81 }
def wp_X6_corrects (pl dr : Nat) (x1 : Int32) (x2 : Int32) (M : Mem) (K : Int32 → Mem → Prop) : Prop := wp_X3_isMovable pl (x1) M (fun r1 M1 => (r1 = 0 → K (-1 : Int32) M1) ∧ (¬ r1 = 0 → wp_X6_isWithin (x2) ((-20 : Int32)) ((20 : Int32)) M1 (fun r3 M3 => (r3 = 0 → K (-1 : Int32) M3) ∧ (¬ r3 = 0 → (¬ x2 = 0 → wp_X2_remember 35 13 M3 (fun M6 => wp_X4_correct 13 pl (x1) (x2) M6 (fun M7 => vp_in x1 4 ∧ (K (M7 16 (ix x1)) M7)))) ∧ (x2 = 0 → K (-1 : Int32) M3)))))
set_option maxRecDepth 20000 in
theorem con_X6_corrects (l : Launch) (S : XS) (R : Rfs) (pl dr : Nat) (x1 : Int32) (x2 : Int32) (hw : isSW R pl dr) (M : Mem) (K : Int32 → Mem → Prop) (h : wp_X6_corrects pl dr x1 x2 M K) : CI l yX6_corrects cX6_corrects 3 (some .int) rmX6_corrects S 148 R [.ref (XB S + 0), .int x1, .int x2] M K := by
  refine conI (lv := [(0, .ref (XB S + 0)), (1, .int x1), (2, .int x2)]) (by decide) (Nat.le_of_ble_eq_true rfl) rfl ?_
  intro p e s m args below meth c C hr
  replace C : Cx p m meth c s args cX6_corrects RX6 3 S := C
  refine v_aloadn C 0 rfl rfl dX6_corrects_0 ?_
  refine v_getr (o' := pl) C fr_X6_19 sh_0 (Nat.le_of_ble_eq_true rfl) rfl (iSW_r1 hw) dX6_corrects_1 ?_
  refine v_iloadn C 1 rfl rfl dX6_corrects_4 ?_
  refine v_cvI (As := [.int x1]) C mv_X6_100 (con_X3_isMovable l S 148 R pl (x1) (iSW_plan hw) _ _ h) (iPlan_s0 (iSW_plan hw)) (iPlan_l0 (iSW_plan hw)) rfl ⟨(Nat.le_of_ble_eq_true rfl), (Nat.le_of_ble_eq_true rfl)⟩ ⟨rfl, rfl, Nat.zero_le _, Nat.zero_le _⟩ (Nat.le_of_ble_eq_true rfl) dX6_corrects_5 (fun r1 M1 h => ?_)
  refine v_if_eq C 26 (by decide) dX6_corrects_8 (fun c2 => ?_) (fun c2 => ?_)
  · replace h := h.1 c2
    refine v_iconst C kc_m1 dX6_corrects_26 ?_
    exact v_iret C hr dX6_corrects_27 h
  · replace h := h.2 c2
    refine v_iloadn C 2 rfl rfl dX6_corrects_11 ?_
    refine v_bipush C kb_m20 dX6_corrects_12 ?_
    refine v_bipush C kb_20 dX6_corrects_14 ?_
    refine v_csI (As := [.int x2, .int (-20 : Int32), .int (20 : Int32)]) C ms_X6_62 (con_X6_isWithin l S 148 R (x2) ((-20 : Int32)) ((20 : Int32))  _ _ h) rfl ⟨(Nat.le_of_ble_eq_true rfl), (Nat.le_of_ble_eq_true rfl)⟩ ⟨rfl, rfl, Nat.zero_le _, Nat.zero_le _⟩ (Nat.le_of_ble_eq_true rfl) dX6_corrects_16 (fun r3 M3 h => ?_)
    refine v_if_eq C 26 (by decide) dX6_corrects_19 (fun c4 => ?_) (fun c4 => ?_)
    · replace h := h.1 c4
      refine v_iconst C kc_m1 dX6_corrects_26 ?_
      exact v_iret C hr dX6_corrects_27 h
    · replace h := h.2 c4
      refine v_iloadn C 2 rfl rfl dX6_corrects_22 ?_
      refine v_if_ne C 28 (by decide) dX6_corrects_23 (fun c5 => ?_) (fun c5 => ?_)
      · replace h := h.1 c5
        refine v_aloadn C 0 rfl rfl dX6_corrects_28 ?_
        refine v_getr (o' := 35) C fr_X6_39 sh_0 (Nat.le_of_ble_eq_true rfl) rfl (iSW_r5 hw) dX6_corrects_29 ?_
        refine v_aloadn C 0 rfl rfl dX6_corrects_32 ?_
        refine v_getr (o' := 13) C fr_X6_29 sh_0 (Nat.le_of_ble_eq_true rfl) rfl (iSW_r3 hw) dX6_corrects_33 ?_
        refine v_cvV (As := [.ref (XB S + 13)]) C mv_X6_89 (con_X2_remember l S 148 R 35 13 (iSW_hist hw) (iSW_press hw) _ _ h) (iHist_s0 (iSW_hist hw)) (iHist_l0 (iSW_hist hw)) rfl ⟨(Nat.le_of_ble_eq_true rfl), (Nat.le_of_ble_eq_true rfl)⟩ ⟨rfl, rfl, Nat.zero_le _, Nat.zero_le _⟩ (Nat.le_of_ble_eq_true rfl) dX6_corrects_36 (fun M6 h => ?_)
        refine v_aloadn C 0 rfl rfl dX6_corrects_39 ?_
        refine v_getr (o' := 13) C fr_X6_29 sh_0 (Nat.le_of_ble_eq_true rfl) rfl (iSW_r3 hw) dX6_corrects_40 ?_
        refine v_aloadn C 0 rfl rfl dX6_corrects_43 ?_
        refine v_getr (o' := pl) C fr_X6_19 sh_0 (Nat.le_of_ble_eq_true rfl) rfl (iSW_r1 hw) dX6_corrects_44 ?_
        refine v_iloadn C 1 rfl rfl dX6_corrects_47 ?_
        refine v_iloadn C 2 rfl rfl dX6_corrects_48 ?_
        refine v_cvV (As := [.ref (XB S + pl), .int x1, .int x2]) C mv_X6_107 (con_X4_correct l S 148 R 13 pl (x1) (x2) (iSW_press hw) (iSW_plan hw) _ _ h) (iPress_s0 (iSW_press hw)) (iPress_l0 (iSW_press hw)) rfl ⟨(Nat.le_of_ble_eq_true rfl), (Nat.le_of_ble_eq_true rfl)⟩ ⟨rfl, rfl, Nat.zero_le _, Nat.zero_le _⟩ (Nat.le_of_ble_eq_true rfl) dX6_corrects_49 (fun M7 h => ?_)
        refine v_aloadn C 0 rfl rfl dX6_corrects_52 ?_
        refine v_getr (o' := 13) C fr_X6_29 sh_0 (Nat.le_of_ble_eq_true rfl) rfl (iSW_r3 hw) dX6_corrects_53 ?_
        refine v_getr (o' := 16) C fr_X6_111 (iPress_s0 (iSW_press hw)) (iPress_l0 (iSW_press hw)) rfl (iPress_r2 (iSW_press hw)) dX6_corrects_56 ?_
        refine v_iloadn C 1 rfl rfl dX6_corrects_59 ?_
        refine v_ald C (iPress_s3 (iSW_press hw)) (iPress_l3 (iSW_press hw)) h.1 dX6_corrects_60 ?_
        replace h := h.2
        exact v_iret C hr dX6_corrects_61 h
      · replace h := h.2 c5
        refine v_iconst C kc_m1 dX6_corrects_26 ?_
        exact v_iret C hr dX6_corrects_27 h
abbrev rmX6_spins : Room := { frames := 4, cells := 0, slots := 0, locals := 81 }
def wp_X6_spins (pl dr : Nat) (M : Mem) (K : Int32 → Mem → Prop) : Prop := wp_X4_nextReel 13 pl M (fun r1 M1 => ((M1 13 8) = 0 → K (-2 : Int32) M1) ∧ (¬ (M1 13 8) = 0 → (r1 = (-9 : Int32) → K (-2 : Int32) M1) ∧ (¬ r1 = (-9 : Int32) → ((M1 13 7) ≤ 0 → wp_X2_remember 35 13 M1 (fun M5 => (∀ M6 : Mem, M6 = mw M5 13 7 (1 : Int32) → K r1 M6))) ∧ (¬ (M1 13 7) ≤ 0 → K (-2 : Int32) M1))))
set_option maxRecDepth 20000 in
theorem con_X6_spins (l : Launch) (S : XS) (R : Rfs) (pl dr : Nat) (hw : isSW R pl dr) (M : Mem) (K : Int32 → Mem → Prop) (h : wp_X6_spins pl dr M K) : CI l yX6_spins cX6_spins 2 (some .int) rmX6_spins S 148 R [.ref (XB S + 0)] M K := by
  refine conI (lv := [(0, .ref (XB S + 0))]) (by decide) (Nat.le_of_ble_eq_true rfl) rfl ?_
  intro p e s m args below meth c C hr
  replace C : Cx p m meth c s args cX6_spins RX6 2 S := C
  refine v_aloadn C 0 rfl rfl dX6_spins_0 ?_
  refine v_getr (o' := 13) C fr_X6_29 sh_0 (Nat.le_of_ble_eq_true rfl) rfl (iSW_r3 hw) dX6_spins_1 ?_
  refine v_aloadn C 0 rfl rfl dX6_spins_4 ?_
  refine v_getr (o' := pl) C fr_X6_19 sh_0 (Nat.le_of_ble_eq_true rfl) rfl (iSW_r1 hw) dX6_spins_5 ?_
  refine v_cvI (As := [.ref (XB S + pl)]) C mv_X6_114 (con_X4_nextReel l S 148 R 13 pl (iSW_press hw) (iSW_plan hw) _ _ h) (iPress_s0 (iSW_press hw)) (iPress_l0 (iSW_press hw)) rfl ⟨(Nat.le_of_ble_eq_true rfl), (Nat.le_of_ble_eq_true rfl)⟩ ⟨rfl, rfl, Nat.zero_le _, Nat.zero_le _⟩ (Nat.le_of_ble_eq_true rfl) dX6_spins_8 (fun r1 M1 h => ?_)
  refine v_istoren (lv' := [(1, .int r1), (0, .ref (XB S + 0))]) C rfl rfl (Nat.le_of_ble_eq_true rfl) dX6_spins_11 ?_
  refine v_aloadn C 1 rfl rfl dX6_spins_12 ?_
  refine v_getr (o' := 13) C fr_X6_29 sh_0 (Nat.le_of_ble_eq_true rfl) rfl (iSW_r3 hw) dX6_spins_13 ?_
  refine v_geti C fr_X6_82 (iPress_s0 (iSW_press hw)) (iPress_l0 (iSW_press hw)) rfl dX6_spins_16 ?_
  refine v_if_eq C 38 (by decide) dX6_spins_19 (fun c2 => ?_) (fun c2 => ?_)
  · replace h := h.1 c2
    refine v_bipush C kb_m2 dX6_spins_38 ?_
    exact v_iret C hr dX6_spins_40 h
  · replace h := h.2 c2
    refine v_iloadn C 0 rfl rfl dX6_spins_22 ?_
    refine v_bipush C kb_m9 dX6_spins_23 ?_
    refine v_icmp_eq C 38 (by decide) dX6_spins_25 (fun c3 => ?_) (fun c3 => ?_)
    · replace h := h.1 c3
      refine v_bipush C kb_m2 dX6_spins_38 ?_
      exact v_iret C hr dX6_spins_40 h
    · replace h := h.2 c3
      refine v_aloadn C 1 rfl rfl dX6_spins_28 ?_
      refine v_getr (o' := 13) C fr_X6_29 sh_0 (Nat.le_of_ble_eq_true rfl) rfl (iSW_r3 hw) dX6_spins_29 ?_
      refine v_geti C fr_X6_117 (iPress_s0 (iSW_press hw)) (iPress_l0 (iSW_press hw)) rfl dX6_spins_32 ?_
      refine v_if_le C 41 (by decide) dX6_spins_35 (fun c4 => ?_) (fun c4 => ?_)
      · replace h := h.1 c4
        refine v_aloadn C 1 rfl rfl dX6_spins_41 ?_
        refine v_getr (o' := 35) C fr_X6_39 sh_0 (Nat.le_of_ble_eq_true rfl) rfl (iSW_r5 hw) dX6_spins_42 ?_
        refine v_aloadn C 1 rfl rfl dX6_spins_45 ?_
        refine v_getr (o' := 13) C fr_X6_29 sh_0 (Nat.le_of_ble_eq_true rfl) rfl (iSW_r3 hw) dX6_spins_46 ?_
        refine v_cvV (As := [.ref (XB S + 13)]) C mv_X6_89 (con_X2_remember l S 148 R 35 13 (iSW_hist hw) (iSW_press hw) _ _ h) (iHist_s0 (iSW_hist hw)) (iHist_l0 (iSW_hist hw)) rfl ⟨(Nat.le_of_ble_eq_true rfl), (Nat.le_of_ble_eq_true rfl)⟩ ⟨rfl, rfl, Nat.zero_le _, Nat.zero_le _⟩ (Nat.le_of_ble_eq_true rfl) dX6_spins_49 (fun M5 h => ?_)
        refine v_aloadn C 1 rfl rfl dX6_spins_52 ?_
        refine v_getr (o' := 13) C fr_X6_29 sh_0 (Nat.le_of_ble_eq_true rfl) rfl (iSW_r3 hw) dX6_spins_53 ?_
        refine v_iconst C kc_1 dX6_spins_56 ?_
        refine v_puti C fr_X6_117 (iPress_s0 (iSW_press hw)) (iPress_l0 (iSW_press hw)) rfl dX6_spins_57 (fun M6 e6 => ?_)
        replace h := h M6 e6
        refine v_iloadn C 0 rfl rfl dX6_spins_60 ?_
        exact v_iret C hr dX6_spins_61 h
      · replace h := h.2 c4
        refine v_bipush C kb_m2 dX6_spins_38 ?_
        exact v_iret C hr dX6_spins_40 h
abbrev rmX6_starts : Room := { frames := 4, cells := 0, slots := 0, locals := 85 }
def wp_X6_starts (pl dr : Nat) (M : Mem) (K : Int32 → Mem → Prop) : Prop := (¬ (M 13 8) = 0 → K (-2 : Int32) M) ∧ ((M 13 8) = 0 → wp_X4_nextReel 13 pl M (fun r2 M2 => (¬ r2 = (-9 : Int32) → wp_X2_remember 35 13 M2 (fun M4 => wp_X4_restart 13 pl M4 (fun M5 => K (M5 13 5) M5))) ∧ (r2 = (-9 : Int32) → K (-2 : Int32) M2)))
set_option maxRecDepth 20000 in
theorem con_X6_starts (l : Launch) (S : XS) (R : Rfs) (pl dr : Nat) (hw : isSW R pl dr) (M : Mem) (K : Int32 → Mem → Prop) (h : wp_X6_starts pl dr M K) : CI l yX6_starts cX6_starts 1 (some .int) rmX6_starts S 148 R [.ref (XB S + 0)] M K := by
  refine conI (lv := [(0, .ref (XB S + 0))]) (by decide) (Nat.le_of_ble_eq_true rfl) rfl ?_
  intro p e s m args below meth c C hr
  replace C : Cx p m meth c s args cX6_starts RX6 1 S := C
  refine v_aloadn C 0 rfl rfl dX6_starts_0 ?_
  refine v_getr (o' := 13) C fr_X6_29 sh_0 (Nat.le_of_ble_eq_true rfl) rfl (iSW_r3 hw) dX6_starts_1 ?_
  refine v_geti C fr_X6_82 (iPress_s0 (iSW_press hw)) (iPress_l0 (iSW_press hw)) rfl dX6_starts_4 ?_
  refine v_if_ne C 26 (by decide) dX6_starts_7 (fun c1 => ?_) (fun c1 => ?_)
  · replace h := h.1 c1
    refine v_bipush C kb_m2 dX6_starts_26 ?_
    exact v_iret C hr dX6_starts_28 h
  · replace h := h.2 c1
    refine v_aloadn C 0 rfl rfl dX6_starts_10 ?_
    refine v_getr (o' := 13) C fr_X6_29 sh_0 (Nat.le_of_ble_eq_true rfl) rfl (iSW_r3 hw) dX6_starts_11 ?_
    refine v_aloadn C 0 rfl rfl dX6_starts_14 ?_
    refine v_getr (o' := pl) C fr_X6_19 sh_0 (Nat.le_of_ble_eq_true rfl) rfl (iSW_r1 hw) dX6_starts_15 ?_
    refine v_cvI (As := [.ref (XB S + pl)]) C mv_X6_114 (con_X4_nextReel l S 148 R 13 pl (iSW_press hw) (iSW_plan hw) _ _ h) (iPress_s0 (iSW_press hw)) (iPress_l0 (iSW_press hw)) rfl ⟨(Nat.le_of_ble_eq_true rfl), (Nat.le_of_ble_eq_true rfl)⟩ ⟨rfl, rfl, Nat.zero_le _, Nat.zero_le _⟩ (Nat.le_of_ble_eq_true rfl) dX6_starts_18 (fun r2 M2 h => ?_)
    refine v_bipush C kb_m9 dX6_starts_21 ?_
    refine v_icmp_ne C 29 (by decide) dX6_starts_23 (fun c3 => ?_) (fun c3 => ?_)
    · replace h := h.1 c3
      refine v_aloadn C 0 rfl rfl dX6_starts_29 ?_
      refine v_getr (o' := 35) C fr_X6_39 sh_0 (Nat.le_of_ble_eq_true rfl) rfl (iSW_r5 hw) dX6_starts_30 ?_
      refine v_aloadn C 0 rfl rfl dX6_starts_33 ?_
      refine v_getr (o' := 13) C fr_X6_29 sh_0 (Nat.le_of_ble_eq_true rfl) rfl (iSW_r3 hw) dX6_starts_34 ?_
      refine v_cvV (As := [.ref (XB S + 13)]) C mv_X6_89 (con_X2_remember l S 148 R 35 13 (iSW_hist hw) (iSW_press hw) _ _ h) (iHist_s0 (iSW_hist hw)) (iHist_l0 (iSW_hist hw)) rfl ⟨(Nat.le_of_ble_eq_true rfl), (Nat.le_of_ble_eq_true rfl)⟩ ⟨rfl, rfl, Nat.zero_le _, Nat.zero_le _⟩ (Nat.le_of_ble_eq_true rfl) dX6_starts_37 (fun M4 h => ?_)
      refine v_aloadn C 0 rfl rfl dX6_starts_40 ?_
      refine v_getr (o' := 13) C fr_X6_29 sh_0 (Nat.le_of_ble_eq_true rfl) rfl (iSW_r3 hw) dX6_starts_41 ?_
      refine v_aloadn C 0 rfl rfl dX6_starts_44 ?_
      refine v_getr (o' := pl) C fr_X6_19 sh_0 (Nat.le_of_ble_eq_true rfl) rfl (iSW_r1 hw) dX6_starts_45 ?_
      refine v_cvV (As := [.ref (XB S + pl)]) C mv_X6_120 (con_X4_restart l S 148 R 13 pl (iSW_press hw) (iSW_plan hw) _ _ h) (iPress_s0 (iSW_press hw)) (iPress_l0 (iSW_press hw)) rfl ⟨(Nat.le_of_ble_eq_true rfl), (Nat.le_of_ble_eq_true rfl)⟩ ⟨rfl, rfl, Nat.zero_le _, Nat.zero_le _⟩ (Nat.le_of_ble_eq_true rfl) dX6_starts_48 (fun M5 h => ?_)
      refine v_aloadn C 0 rfl rfl dX6_starts_51 ?_
      refine v_getr (o' := 13) C fr_X6_29 sh_0 (Nat.le_of_ble_eq_true rfl) rfl (iSW_r3 hw) dX6_starts_52 ?_
      refine v_geti C fr_X6_123 (iPress_s0 (iSW_press hw)) (iPress_l0 (iSW_press hw)) rfl dX6_starts_55 ?_
      exact v_iret C hr dX6_starts_58 h
    · replace h := h.2 c3
      refine v_bipush C kb_m2 dX6_starts_26 ?_
      exact v_iret C hr dX6_starts_28 h
abbrev rmX6_aheads : Room := { frames := 4, cells := 0, slots := 0, locals := 81 }
def wp_X6_aheads_28 (pl : Nat) (dr : Nat)  (K : Int32 → Mem → Prop) (x1 y0 y1 : Int32) (M : Mem) : Prop := (¬ y1 = y0 → wp_X2_remember 35 13 M (fun M5 => (¬ x1 = (1 : Int32) → (∀ M7 : Mem, M7 = mw M5 13 9 (0 : Int32) → K (1 : Int32) M7)) ∧ (x1 = (1 : Int32) → (∀ M8 : Mem, M8 = mw M5 13 9 (1 : Int32) → K (1 : Int32) M8)))) ∧ (y1 = y0 → K (-2 : Int32) M)
def wp_X6_aheads (pl dr : Nat) (x1 : Int32) (M : Mem) (K : Int32 → Mem → Prop) : Prop := wp_X6_isWithin (x1) ((0 : Int32)) ((1 : Int32)) M (fun r1 M1 => (¬ r1 = 0 → (¬ x1 = (1 : Int32) → wp_X6_aheads_28 pl dr K (x1) ((0 : Int32)) ((M1 13 9)) M1) ∧ (x1 = (1 : Int32) → wp_X6_aheads_28 pl dr K (x1) ((1 : Int32)) ((M1 13 9)) M1)) ∧ (r1 = 0 → K (-1 : Int32) M1))
set_option maxRecDepth 20000 in
theorem tb_X6_aheads_28 {p : Program} {e : Env} {s : State} {m : MethodId} {args : Array Value} {below : List Frame} {meth : Method} {c : Code} (l : Launch) (S : XS) (R : Rfs) (pl : Nat) (dr : Nat) (hw : isSW R pl dr) (C : Cx p m meth c s args cX6_aheads RX6 2 S) (hr : meth.sig.returnType = (some .int)) (K : Int32 → Mem → Prop)   (x1 y0 y1 : Int32) (M : Mem) (h : wp_X6_aheads_28 pl dr  K x1 y0 y1 M) : V p l e rmX6_aheads s m args below meth c (MQ below (va_Qi K (XPost S 148 R) (XA S)) args s 0 0 (XA S)) S 2 0 0 148 M R 28 [(0, .ref (XB S + 0)), (1, .int x1)] [.int y0, .int y1] := by
  refine v_icmp_ne C 34 (by decide) dX6_aheads_28 (fun c4 => ?_) (fun c4 => ?_)
  · replace h := h.1 c4
    refine v_aloadn C 0 rfl rfl dX6_aheads_34 ?_
    refine v_getr (o' := 35) C fr_X6_39 sh_0 (Nat.le_of_ble_eq_true rfl) rfl (iSW_r5 hw) dX6_aheads_35 ?_
    refine v_aloadn C 0 rfl rfl dX6_aheads_38 ?_
    refine v_getr (o' := 13) C fr_X6_29 sh_0 (Nat.le_of_ble_eq_true rfl) rfl (iSW_r3 hw) dX6_aheads_39 ?_
    refine v_cvV (As := [.ref (XB S + 13)]) C mv_X6_89 (con_X2_remember l S 148 R 35 13 (iSW_hist hw) (iSW_press hw) _ _ h) (iHist_s0 (iSW_hist hw)) (iHist_l0 (iSW_hist hw)) rfl ⟨(Nat.le_of_ble_eq_true rfl), (Nat.le_of_ble_eq_true rfl)⟩ ⟨rfl, rfl, Nat.zero_le _, Nat.zero_le _⟩ (Nat.le_of_ble_eq_true rfl) dX6_aheads_42 (fun M5 h => ?_)
    refine v_aloadn C 0 rfl rfl dX6_aheads_45 ?_
    refine v_getr (o' := 13) C fr_X6_29 sh_0 (Nat.le_of_ble_eq_true rfl) rfl (iSW_r3 hw) dX6_aheads_46 ?_
    refine v_iloadn C 1 rfl rfl dX6_aheads_49 ?_
    refine v_iconst C kc_1 dX6_aheads_50 ?_
    refine v_icmp_ne C 58 (by decide) dX6_aheads_51 (fun c6 => ?_) (fun c6 => ?_)
    · replace h := h.1 c6
      refine v_iconst C kc_0 dX6_aheads_58 ?_
      refine v_putb C fr_X6_126 (iPress_s0 (iSW_press hw)) (iPress_l0 (iSW_press hw)) rfl isB0 dX6_aheads_59 (fun M7 e7 => ?_)
      replace h := h M7 e7
      refine v_iconst C kc_1 dX6_aheads_62 ?_
      exact v_iret C hr dX6_aheads_63 h
    · replace h := h.2 c6
      refine v_iconst C kc_1 dX6_aheads_54 ?_
      refine v_goto C 59 (by decide) dX6_aheads_55 ?_
      refine v_putb C fr_X6_126 (iPress_s0 (iSW_press hw)) (iPress_l0 (iSW_press hw)) rfl isB1 dX6_aheads_59 (fun M8 e8 => ?_)
      replace h := h M8 e8
      refine v_iconst C kc_1 dX6_aheads_62 ?_
      exact v_iret C hr dX6_aheads_63 h
  · replace h := h.2 c4
    refine v_bipush C kb_m2 dX6_aheads_31 ?_
    exact v_iret C hr dX6_aheads_33 h
set_option maxRecDepth 20000 in
theorem con_X6_aheads (l : Launch) (S : XS) (R : Rfs) (pl dr : Nat) (x1 : Int32) (hw : isSW R pl dr) (M : Mem) (K : Int32 → Mem → Prop) (h : wp_X6_aheads pl dr x1 M K) : CI l yX6_aheads cX6_aheads 2 (some .int) rmX6_aheads S 148 R [.ref (XB S + 0), .int x1] M K := by
  refine conI (lv := [(0, .ref (XB S + 0)), (1, .int x1)]) (by decide) (Nat.le_of_ble_eq_true rfl) rfl ?_
  intro p e s m args below meth c C hr
  replace C : Cx p m meth c s args cX6_aheads RX6 2 S := C
  refine v_iloadn C 1 rfl rfl dX6_aheads_0 ?_
  refine v_iconst C kc_0 dX6_aheads_1 ?_
  refine v_iconst C kc_1 dX6_aheads_2 ?_
  refine v_csI (As := [.int x1, .int (0 : Int32), .int (1 : Int32)]) C ms_X6_62 (con_X6_isWithin l S 148 R (x1) ((0 : Int32)) ((1 : Int32))  _ _ h) rfl ⟨(Nat.le_of_ble_eq_true rfl), (Nat.le_of_ble_eq_true rfl)⟩ ⟨rfl, rfl, Nat.zero_le _, Nat.zero_le _⟩ (Nat.le_of_ble_eq_true rfl) dX6_aheads_3 (fun r1 M1 h => ?_)
  refine v_if_ne C 11 (by decide) dX6_aheads_6 (fun c2 => ?_) (fun c2 => ?_)
  · replace h := h.1 c2
    refine v_aloadn C 0 rfl rfl dX6_aheads_11 ?_
    refine v_getr (o' := 13) C fr_X6_29 sh_0 (Nat.le_of_ble_eq_true rfl) rfl (iSW_r3 hw) dX6_aheads_12 ?_
    refine v_geti C fr_X6_126 (iPress_s0 (iSW_press hw)) (iPress_l0 (iSW_press hw)) rfl dX6_aheads_15 ?_
    refine v_iloadn C 1 rfl rfl dX6_aheads_18 ?_
    refine v_iconst C kc_1 dX6_aheads_19 ?_
    refine v_icmp_ne C 27 (by decide) dX6_aheads_20 (fun c3 => ?_) (fun c3 => ?_)
    · replace h := h.1 c3
      refine v_iconst C kc_0 dX6_aheads_27 ?_
      exact tb_X6_aheads_28 l S R pl dr hw C hr K   (x1) ((0 : Int32)) ((M1 13 9)) M1 h
    · replace h := h.2 c3
      refine v_iconst C kc_1 dX6_aheads_23 ?_
      refine v_goto C 28 (by decide) dX6_aheads_24 ?_
      exact tb_X6_aheads_28 l S R pl dr hw C hr K   (x1) ((1 : Int32)) ((M1 13 9)) M1 h
  · replace h := h.2 c2
    refine v_iconst C kc_m1 dX6_aheads_9 ?_
    exact v_iret C hr dX6_aheads_10 h
abbrev rmX6_undo : Room := { frames := 4, cells := 0, slots := 0, locals := 81 }
def wp_X6_undo (pl dr : Nat) (M : Mem) (K : Int32 → Mem → Prop) : Prop := (¬ (M 35 2) = 0 → wp_X2_restore 35 13 M (fun M2 => K (M2 35 2) M2)) ∧ ((M 35 2) = 0 → K (-2 : Int32) M)
set_option maxRecDepth 20000 in
theorem con_X6_undo (l : Launch) (S : XS) (R : Rfs) (pl dr : Nat) (hw : isSW R pl dr) (M : Mem) (K : Int32 → Mem → Prop) (h : wp_X6_undo pl dr M K) : CI l yX6_undo cX6_undo 1 (some .int) rmX6_undo S 148 R [.ref (XB S + 0)] M K := by
  refine conI (lv := [(0, .ref (XB S + 0))]) (by decide) (Nat.le_of_ble_eq_true rfl) rfl ?_
  intro p e s m args below meth c C hr
  replace C : Cx p m meth c s args cX6_undo RX6 1 S := C
  refine v_aloadn C 0 rfl rfl dX6_undo_0 ?_
  refine v_getr (o' := 35) C fr_X6_39 sh_0 (Nat.le_of_ble_eq_true rfl) rfl (iSW_r5 hw) dX6_undo_1 ?_
  refine v_geti C fr_X6_78 (iHist_s0 (iSW_hist hw)) (iHist_l0 (iSW_hist hw)) rfl dX6_undo_4 ?_
  refine v_if_ne C 13 (by decide) dX6_undo_7 (fun c1 => ?_) (fun c1 => ?_)
  · replace h := h.1 c1
    refine v_aloadn C 0 rfl rfl dX6_undo_13 ?_
    refine v_getr (o' := 35) C fr_X6_39 sh_0 (Nat.le_of_ble_eq_true rfl) rfl (iSW_r5 hw) dX6_undo_14 ?_
    refine v_aloadn C 0 rfl rfl dX6_undo_17 ?_
    refine v_getr (o' := 13) C fr_X6_29 sh_0 (Nat.le_of_ble_eq_true rfl) rfl (iSW_r3 hw) dX6_undo_18 ?_
    refine v_cvV (As := [.ref (XB S + 13)]) C mv_X6_129 (con_X2_restore l S 148 R 35 13 (iSW_hist hw) (iSW_press hw) _ _ h) (iHist_s0 (iSW_hist hw)) (iHist_l0 (iSW_hist hw)) rfl ⟨(Nat.le_of_ble_eq_true rfl), (Nat.le_of_ble_eq_true rfl)⟩ ⟨rfl, rfl, Nat.zero_le _, Nat.zero_le _⟩ (Nat.le_of_ble_eq_true rfl) dX6_undo_21 (fun M2 h => ?_)
    refine v_aloadn C 0 rfl rfl dX6_undo_24 ?_
    refine v_getr (o' := 35) C fr_X6_39 sh_0 (Nat.le_of_ble_eq_true rfl) rfl (iSW_r5 hw) dX6_undo_25 ?_
    refine v_geti C fr_X6_78 (iHist_s0 (iSW_hist hw)) (iHist_l0 (iSW_hist hw)) rfl dX6_undo_28 ?_
    exact v_iret C hr dX6_undo_31 h
  · replace h := h.2 c1
    refine v_bipush C kb_m2 dX6_undo_10 ?_
    exact v_iret C hr dX6_undo_12 h
abbrev rmX6_unit : Room := { frames := 2, cells := 0, slots := 0, locals := 44 }
def wp_X6_unit (pl dr : Nat) (x1 : Int32) (x2 : Int32) (M : Mem) (K : Int32 → Mem → Prop) : Prop := wp_X3_hasUnit pl (x1) M (fun r1 M1 => (¬ r1 = 0 → (x2 = (0 : Int32) → vp_in x1 4 ∧ (K (M1 (pl + 1) (ix x1)) M1)) ∧ (x2 = (1 : Int32) → vp_in x1 4 ∧ (K (M1 (pl + 2) (ix x1)) M1)) ∧ (x2 = (2 : Int32) → vp_in x1 4 ∧ (K (M1 14 (ix x1)) M1)) ∧ (x2 = (3 : Int32) → vp_in x1 4 ∧ (K (M1 15 (ix x1)) M1)) ∧ (x2 = (4 : Int32) → vp_in x1 4 ∧ (K (M1 16 (ix x1)) M1)) ∧ (x2 = (5 : Int32) → wp_X4_toBePassed 13 (x1) M1 (fun r4 M4 => K r4 M4)) ∧ (¬ x2 = (0 : Int32) → ¬ x2 = (1 : Int32) → ¬ x2 = (2 : Int32) → ¬ x2 = (3 : Int32) → ¬ x2 = (4 : Int32) → ¬ x2 = (5 : Int32) → K (-1000000 : Int32) M1)) ∧ (r1 = 0 → K (-1000000 : Int32) M1))
set_option maxRecDepth 20000 in
theorem con_X6_unit (l : Launch) (S : XS) (R : Rfs) (pl dr : Nat) (x1 : Int32) (x2 : Int32) (hw : isSW R pl dr) (M : Mem) (K : Int32 → Mem → Prop) (h : wp_X6_unit pl dr x1 x2 M K) : CI l yX6_unit cX6_unit 3 (some .int) rmX6_unit S 148 R [.ref (XB S + 0), .int x1, .int x2] M K := by
  refine conI (lv := [(0, .ref (XB S + 0)), (1, .int x1), (2, .int x2)]) (by decide) (Nat.le_of_ble_eq_true rfl) rfl ?_
  intro p e s m args below meth c C hr
  replace C : Cx p m meth c s args cX6_unit RX6 3 S := C
  refine v_aloadn C 0 rfl rfl dX6_unit_0 ?_
  refine v_getr (o' := pl) C fr_X6_19 sh_0 (Nat.le_of_ble_eq_true rfl) rfl (iSW_r1 hw) dX6_unit_1 ?_
  refine v_iloadn C 1 rfl rfl dX6_unit_4 ?_
  refine v_cvI (As := [.int x1]) C mv_X6_132 (con_X3_hasUnit l S 148 R pl (x1) (iSW_plan hw) _ _ h) (iPlan_s0 (iSW_plan hw)) (iPlan_l0 (iSW_plan hw)) rfl ⟨(Nat.le_of_ble_eq_true rfl), (Nat.le_of_ble_eq_true rfl)⟩ ⟨rfl, rfl, Nat.zero_le _, Nat.zero_le _⟩ (Nat.le_of_ble_eq_true rfl) dX6_unit_5 (fun r1 M1 h => ?_)
  refine v_if_ne C 14 (by decide) dX6_unit_8 (fun c2 => ?_) (fun c2 => ?_)
  · replace h := h.1 c2
    refine v_iloadn C 2 rfl rfl dX6_unit_14 ?_
    by_cases s3_0 : x2 = (0 : Int32)
    · replace h := h.1 s3_0
      refine v_tin (off := 37) C 52 0 (by rw [s3_0]; decide) (by decide) (by decide) (by decide) (by decide) dX6_unit_15 ?_
      refine v_aloadn C 0 rfl rfl dX6_unit_52 ?_
      refine v_getr (o' := pl) C fr_X6_19 sh_0 (Nat.le_of_ble_eq_true rfl) rfl (iSW_r1 hw) dX6_unit_53 ?_
      refine v_getr (o' := (pl + 1)) C fr_X6_136 (iPlan_s0 (iSW_plan hw)) (iPlan_l0 (iSW_plan hw)) rfl (iPlan_r0 (iSW_plan hw)) dX6_unit_56 ?_
      refine v_iloadn C 1 rfl rfl dX6_unit_59 ?_
      refine v_ald C (iPlan_s1 (iSW_plan hw)) (iPlan_l1 (iSW_plan hw)) h.1 dX6_unit_60 ?_
      replace h := h.2
      exact v_iret C hr dX6_unit_61 h
    by_cases s3_1 : x2 = (1 : Int32)
    · replace h := h.2.1 s3_1
      refine v_tin (off := 47) C 62 1 (by rw [s3_1]; decide) (by decide) (by decide) (by decide) (by decide) dX6_unit_15 ?_
      refine v_aloadn C 0 rfl rfl dX6_unit_62 ?_
      refine v_getr (o' := pl) C fr_X6_19 sh_0 (Nat.le_of_ble_eq_true rfl) rfl (iSW_r1 hw) dX6_unit_63 ?_
      refine v_getr (o' := (pl + 2)) C fr_X6_139 (iPlan_s0 (iSW_plan hw)) (iPlan_l0 (iSW_plan hw)) rfl (iPlan_r1 (iSW_plan hw)) dX6_unit_66 ?_
      refine v_iloadn C 1 rfl rfl dX6_unit_69 ?_
      refine v_ald C (iPlan_s2 (iSW_plan hw)) (iPlan_l2 (iSW_plan hw)) h.1 dX6_unit_70 ?_
      replace h := h.2
      exact v_iret C hr dX6_unit_71 h
    by_cases s3_2 : x2 = (2 : Int32)
    · replace h := h.2.2.1 s3_2
      refine v_tin (off := 57) C 72 2 (by rw [s3_2]; decide) (by decide) (by decide) (by decide) (by decide) dX6_unit_15 ?_
      refine v_aloadn C 0 rfl rfl dX6_unit_72 ?_
      refine v_getr (o' := 13) C fr_X6_29 sh_0 (Nat.le_of_ble_eq_true rfl) rfl (iSW_r3 hw) dX6_unit_73 ?_
      refine v_getr (o' := 14) C fr_X6_103 (iPress_s0 (iSW_press hw)) (iPress_l0 (iSW_press hw)) rfl (iPress_r0 (iSW_press hw)) dX6_unit_76 ?_
      refine v_iloadn C 1 rfl rfl dX6_unit_79 ?_
      refine v_ald C (iPress_s1 (iSW_press hw)) (iPress_l1 (iSW_press hw)) h.1 dX6_unit_80 ?_
      replace h := h.2
      exact v_iret C hr dX6_unit_81 h
    by_cases s3_3 : x2 = (3 : Int32)
    · replace h := h.2.2.2.1 s3_3
      refine v_tin (off := 67) C 82 3 (by rw [s3_3]; decide) (by decide) (by decide) (by decide) (by decide) dX6_unit_15 ?_
      refine v_aloadn C 0 rfl rfl dX6_unit_82 ?_
      refine v_getr (o' := 13) C fr_X6_29 sh_0 (Nat.le_of_ble_eq_true rfl) rfl (iSW_r3 hw) dX6_unit_83 ?_
      refine v_getr (o' := 15) C fr_X6_142 (iPress_s0 (iSW_press hw)) (iPress_l0 (iSW_press hw)) rfl (iPress_r1 (iSW_press hw)) dX6_unit_86 ?_
      refine v_iloadn C 1 rfl rfl dX6_unit_89 ?_
      refine v_ald C (iPress_s2 (iSW_press hw)) (iPress_l2 (iSW_press hw)) h.1 dX6_unit_90 ?_
      replace h := h.2
      exact v_iret C hr dX6_unit_91 h
    by_cases s3_4 : x2 = (4 : Int32)
    · replace h := h.2.2.2.2.1 s3_4
      refine v_tin (off := 77) C 92 4 (by rw [s3_4]; decide) (by decide) (by decide) (by decide) (by decide) dX6_unit_15 ?_
      refine v_aloadn C 0 rfl rfl dX6_unit_92 ?_
      refine v_getr (o' := 13) C fr_X6_29 sh_0 (Nat.le_of_ble_eq_true rfl) rfl (iSW_r3 hw) dX6_unit_93 ?_
      refine v_getr (o' := 16) C fr_X6_111 (iPress_s0 (iSW_press hw)) (iPress_l0 (iSW_press hw)) rfl (iPress_r2 (iSW_press hw)) dX6_unit_96 ?_
      refine v_iloadn C 1 rfl rfl dX6_unit_99 ?_
      refine v_ald C (iPress_s3 (iSW_press hw)) (iPress_l3 (iSW_press hw)) h.1 dX6_unit_100 ?_
      replace h := h.2
      exact v_iret C hr dX6_unit_101 h
    by_cases s3_5 : x2 = (5 : Int32)
    · replace h := h.2.2.2.2.2.1 s3_5
      refine v_tin (off := 87) C 102 5 (by rw [s3_5]; decide) (by decide) (by decide) (by decide) (by decide) dX6_unit_15 ?_
      refine v_aloadn C 0 rfl rfl dX6_unit_102 ?_
      refine v_getr (o' := 13) C fr_X6_29 sh_0 (Nat.le_of_ble_eq_true rfl) rfl (iSW_r3 hw) dX6_unit_103 ?_
      refine v_iloadn C 1 rfl rfl dX6_unit_106 ?_
      refine v_cvI (As := [.int x1]) C mv_X6_145 (con_X4_toBePassed l S 148 R 13 (x1) (iSW_press hw) _ _ h) (iPress_s0 (iSW_press hw)) (iPress_l0 (iSW_press hw)) rfl ⟨(Nat.le_of_ble_eq_true rfl), (Nat.le_of_ble_eq_true rfl)⟩ ⟨rfl, rfl, Nat.zero_le _, Nat.zero_le _⟩ (Nat.le_of_ble_eq_true rfl) dX6_unit_107 (fun r4 M4 h => ?_)
      exact v_iret C hr dX6_unit_110 h
    replace h := h.2.2.2.2.2.2 s3_0 s3_1 s3_2 s3_3 s3_4 s3_5
    have t3_0 := ne_ti 0 0 (by decide) s3_0
    have t3_1 := ne_ti 1 1 (by decide) s3_1
    have t3_2 := ne_ti 2 2 (by decide) s3_2
    have t3_3 := ne_ti 3 3 (by decide) s3_3
    have t3_4 := ne_ti 4 4 (by decide) s3_4
    have t3_5 := ne_ti 5 5 (by decide) s3_5
    refine v_tout C 111 (by omega) (by decide) dX6_unit_15 ?_
    refine v_ldc C wx_X6_135 dX6_unit_111 ?_
    exact v_iret C hr dX6_unit_113 h
  · replace h := h.2 c2
    refine v_ldc C wx_X6_135 dX6_unit_11 ?_
    exact v_iret C hr dX6_unit_13 h
abbrev rmX6_reel : Room := { frames := 2, cells := 0, slots := 0, locals := 43 }
def wp_X6_reel (pl dr : Nat) (x1 : Int32) (x2 : Int32) (M : Mem) (K : Int32 → Mem → Prop) : Prop := wp_X3_hasReel pl (x1) M (fun r1 M1 => (¬ r1 = 0 → (x2 = (0 : Int32) → vp_in x1 8 ∧ (K (M1 (pl + 3) (ix x1)) M1)) ∧ (x2 = (1 : Int32) → vp_in x1 8 ∧ (K (M1 (pl + 4) (ix x1)) M1)) ∧ (x2 = (2 : Int32) → wp_X4_leftOn 13 pl (x1) M1 (fun r4 M4 => K r4 M4)) ∧ (¬ x2 = (0 : Int32) → ¬ x2 = (1 : Int32) → ¬ x2 = (2 : Int32) → K (-1000000 : Int32) M1)) ∧ (r1 = 0 → K (-1000000 : Int32) M1))
set_option maxRecDepth 20000 in
theorem con_X6_reel (l : Launch) (S : XS) (R : Rfs) (pl dr : Nat) (x1 : Int32) (x2 : Int32) (hw : isSW R pl dr) (M : Mem) (K : Int32 → Mem → Prop) (h : wp_X6_reel pl dr x1 x2 M K) : CI l yX6_reel cX6_reel 3 (some .int) rmX6_reel S 148 R [.ref (XB S + 0), .int x1, .int x2] M K := by
  refine conI (lv := [(0, .ref (XB S + 0)), (1, .int x1), (2, .int x2)]) (by decide) (Nat.le_of_ble_eq_true rfl) rfl ?_
  intro p e s m args below meth c C hr
  replace C : Cx p m meth c s args cX6_reel RX6 3 S := C
  refine v_aloadn C 0 rfl rfl dX6_reel_0 ?_
  refine v_getr (o' := pl) C fr_X6_19 sh_0 (Nat.le_of_ble_eq_true rfl) rfl (iSW_r1 hw) dX6_reel_1 ?_
  refine v_iloadn C 1 rfl rfl dX6_reel_4 ?_
  refine v_cvI (As := [.int x1]) C mv_X6_149 (con_X3_hasReel l S 148 R pl (x1) (iSW_plan hw) _ _ h) (iPlan_s0 (iSW_plan hw)) (iPlan_l0 (iSW_plan hw)) rfl ⟨(Nat.le_of_ble_eq_true rfl), (Nat.le_of_ble_eq_true rfl)⟩ ⟨rfl, rfl, Nat.zero_le _, Nat.zero_le _⟩ (Nat.le_of_ble_eq_true rfl) dX6_reel_5 (fun r1 M1 h => ?_)
  refine v_if_ne C 14 (by decide) dX6_reel_8 (fun c2 => ?_) (fun c2 => ?_)
  · replace h := h.1 c2
    refine v_iloadn C 2 rfl rfl dX6_reel_14 ?_
    by_cases s3_0 : x2 = (0 : Int32)
    · replace h := h.1 s3_0
      refine v_tin (off := 25) C 40 0 (by rw [s3_0]; decide) (by decide) (by decide) (by decide) (by decide) dX6_reel_15 ?_
      refine v_aloadn C 0 rfl rfl dX6_reel_40 ?_
      refine v_getr (o' := pl) C fr_X6_19 sh_0 (Nat.le_of_ble_eq_true rfl) rfl (iSW_r1 hw) dX6_reel_41 ?_
      refine v_getr (o' := (pl + 3)) C fr_X6_152 (iPlan_s0 (iSW_plan hw)) (iPlan_l0 (iSW_plan hw)) rfl (iPlan_r2 (iSW_plan hw)) dX6_reel_44 ?_
      refine v_iloadn C 1 rfl rfl dX6_reel_47 ?_
      refine v_ald C (iPlan_s3 (iSW_plan hw)) (iPlan_l3 (iSW_plan hw)) h.1 dX6_reel_48 ?_
      replace h := h.2
      exact v_iret C hr dX6_reel_49 h
    by_cases s3_1 : x2 = (1 : Int32)
    · replace h := h.2.1 s3_1
      refine v_tin (off := 35) C 50 1 (by rw [s3_1]; decide) (by decide) (by decide) (by decide) (by decide) dX6_reel_15 ?_
      refine v_aloadn C 0 rfl rfl dX6_reel_50 ?_
      refine v_getr (o' := pl) C fr_X6_19 sh_0 (Nat.le_of_ble_eq_true rfl) rfl (iSW_r1 hw) dX6_reel_51 ?_
      refine v_getr (o' := (pl + 4)) C fr_X6_155 (iPlan_s0 (iSW_plan hw)) (iPlan_l0 (iSW_plan hw)) rfl (iPlan_r3 (iSW_plan hw)) dX6_reel_54 ?_
      refine v_iloadn C 1 rfl rfl dX6_reel_57 ?_
      refine v_ald C (iPlan_s4 (iSW_plan hw)) (iPlan_l4 (iSW_plan hw)) h.1 dX6_reel_58 ?_
      replace h := h.2
      exact v_iret C hr dX6_reel_59 h
    by_cases s3_2 : x2 = (2 : Int32)
    · replace h := h.2.2.1 s3_2
      refine v_tin (off := 45) C 60 2 (by rw [s3_2]; decide) (by decide) (by decide) (by decide) (by decide) dX6_reel_15 ?_
      refine v_aloadn C 0 rfl rfl dX6_reel_60 ?_
      refine v_getr (o' := 13) C fr_X6_29 sh_0 (Nat.le_of_ble_eq_true rfl) rfl (iSW_r3 hw) dX6_reel_61 ?_
      refine v_aloadn C 0 rfl rfl dX6_reel_64 ?_
      refine v_getr (o' := pl) C fr_X6_19 sh_0 (Nat.le_of_ble_eq_true rfl) rfl (iSW_r1 hw) dX6_reel_65 ?_
      refine v_iloadn C 1 rfl rfl dX6_reel_68 ?_
      refine v_cvI (As := [.ref (XB S + pl), .int x1]) C mv_X6_158 (con_X4_leftOn l S 148 R 13 pl (x1) (iSW_press hw) (iSW_plan hw) _ _ h) (iPress_s0 (iSW_press hw)) (iPress_l0 (iSW_press hw)) rfl ⟨(Nat.le_of_ble_eq_true rfl), (Nat.le_of_ble_eq_true rfl)⟩ ⟨rfl, rfl, Nat.zero_le _, Nat.zero_le _⟩ (Nat.le_of_ble_eq_true rfl) dX6_reel_69 (fun r4 M4 h => ?_)
      exact v_iret C hr dX6_reel_72 h
    replace h := h.2.2.2 s3_0 s3_1 s3_2
    have t3_0 := ne_ti 0 0 (by decide) s3_0
    have t3_1 := ne_ti 1 1 (by decide) s3_1
    have t3_2 := ne_ti 2 2 (by decide) s3_2
    refine v_tout C 73 (by omega) (by decide) dX6_reel_15 ?_
    refine v_ldc C wx_X6_135 dX6_reel_73 ?_
    exact v_iret C hr dX6_reel_75 h
  · replace h := h.2 c2
    refine v_ldc C wx_X6_135 dX6_reel_11 ?_
    exact v_iret C hr dX6_reel_13 h
abbrev rmX6_last : Room := { frames := 1, cells := 0, slots := 0, locals := 22 }
def wp_X6_last (pl dr : Nat) (x1 : Int32) (M : Mem) (K : Int32 → Mem → Prop) : Prop := wp_X6_isWithin (x1) ((0 : Int32)) ((6 : Int32)) M (fun r1 M1 => (¬ r1 = 0 → (¬ (M1 18 6) = 0 → (x1 = (0 : Int32) → K (M1 18 7) M1) ∧ (x1 = (1 : Int32) → ((M1 18 8) = 0 → K (0 : Int32) M1) ∧ (¬ (M1 18 8) = 0 → K (1 : Int32) M1)) ∧ (x1 = (2 : Int32) → ((M1 18 9) = 0 → K (0 : Int32) M1) ∧ (¬ (M1 18 9) = 0 → K (1 : Int32) M1)) ∧ (¬ x1 = (0 : Int32) → ¬ x1 = (1 : Int32) → ¬ x1 = (2 : Int32) → vp_in (x1 - (3 : Int32)) 4 ∧ (K (M1 23 (ix (x1 - (3 : Int32)))) M1))) ∧ ((M1 18 6) = 0 → K (-2000000 : Int32) M1)) ∧ (r1 = 0 → K (-1000000 : Int32) M1))
set_option maxRecDepth 20000 in
theorem con_X6_last (l : Launch) (S : XS) (R : Rfs) (pl dr : Nat) (x1 : Int32) (hw : isSW R pl dr) (M : Mem) (K : Int32 → Mem → Prop) (h : wp_X6_last pl dr x1 M K) : CI l yX6_last cX6_last 3 (some .int) rmX6_last S 148 R [.ref (XB S + 0), .int x1] M K := by
  refine conI (lv := [(0, .ref (XB S + 0)), (1, .int x1)]) (by decide) (Nat.le_of_ble_eq_true rfl) rfl ?_
  intro p e s m args below meth c C hr
  replace C : Cx p m meth c s args cX6_last RX6 3 S := C
  refine v_iloadn C 1 rfl rfl dX6_last_0 ?_
  refine v_iconst C kc_0 dX6_last_1 ?_
  refine v_bipush C kb_6 dX6_last_2 ?_
  refine v_csI (As := [.int x1, .int (0 : Int32), .int (6 : Int32)]) C ms_X6_62 (con_X6_isWithin l S 148 R (x1) ((0 : Int32)) ((6 : Int32))  _ _ h) rfl ⟨(Nat.le_of_ble_eq_true rfl), (Nat.le_of_ble_eq_true rfl)⟩ ⟨rfl, rfl, Nat.zero_le _, Nat.zero_le _⟩ (Nat.le_of_ble_eq_true rfl) dX6_last_4 (fun r1 M1 h => ?_)
  refine v_if_ne C 13 (by decide) dX6_last_7 (fun c2 => ?_) (fun c2 => ?_)
  · replace h := h.1 c2
    refine v_aloadn C 0 rfl rfl dX6_last_13 ?_
    refine v_getr (o' := 13) C fr_X6_29 sh_0 (Nat.le_of_ble_eq_true rfl) rfl (iSW_r3 hw) dX6_last_14 ?_
    refine v_getr (o' := 18) C fr_X6_162 (iPress_s0 (iSW_press hw)) (iPress_l0 (iSW_press hw)) rfl (iPress_r4 (iSW_press hw)) dX6_last_17 ?_
    refine v_astoren (lv' := [(2, .ref (XB S + 18)), (0, .ref (XB S + 0)), (1, .int x1)]) C rfl rfl (Nat.le_of_ble_eq_true rfl) dX6_last_20 ?_
    refine v_aloadn C 0 rfl rfl dX6_last_21 ?_
    refine v_geti C fr_X6_166 (iBand_s0 (iPress_x (iSW_press hw))) (iBand_l0 (iPress_x (iSW_press hw))) rfl dX6_last_22 ?_
    refine v_if_ne C 31 (by decide) dX6_last_25 (fun c3 => ?_) (fun c3 => ?_)
    · replace h := h.1 c3
      refine v_iloadn C 2 rfl rfl dX6_last_31 ?_
      by_cases s4_0 : x1 = (0 : Int32)
      · replace h := h.1 s4_0
        refine v_tin (off := 28) C 60 0 (by rw [s4_0]; decide) (by decide) (by decide) (by decide) (by decide) dX6_last_32 ?_
        refine v_aloadn C 0 rfl rfl dX6_last_60 ?_
        refine v_geti C fr_X6_172 (iBand_s0 (iPress_x (iSW_press hw))) (iBand_l0 (iPress_x (iSW_press hw))) rfl dX6_last_61 ?_
        exact v_iret C hr dX6_last_64 h
      by_cases s4_1 : x1 = (1 : Int32)
      · replace h := h.2.1 s4_1
        refine v_tin (off := 33) C 65 1 (by rw [s4_1]; decide) (by decide) (by decide) (by decide) (by decide) dX6_last_32 ?_
        refine v_aloadn C 0 rfl rfl dX6_last_65 ?_
        refine v_geti C fr_X6_175 (iBand_s0 (iPress_x (iSW_press hw))) (iBand_l0 (iPress_x (iSW_press hw))) rfl dX6_last_66 ?_
        refine v_if_eq C 76 (by decide) dX6_last_69 (fun c5 => ?_) (fun c5 => ?_)
        · replace h := h.1 c5
          refine v_iconst C kc_0 dX6_last_76 ?_
          exact v_iret C hr dX6_last_77 h
        · replace h := h.2 c5
          refine v_iconst C kc_1 dX6_last_72 ?_
          refine v_goto C 77 (by decide) dX6_last_73 ?_
          exact v_iret C hr dX6_last_77 h
      by_cases s4_2 : x1 = (2 : Int32)
      · replace h := h.2.2.1 s4_2
        refine v_tin (off := 46) C 78 2 (by rw [s4_2]; decide) (by decide) (by decide) (by decide) (by decide) dX6_last_32 ?_
        refine v_aloadn C 0 rfl rfl dX6_last_78 ?_
        refine v_geti C fr_X6_178 (iBand_s0 (iPress_x (iSW_press hw))) (iBand_l0 (iPress_x (iSW_press hw))) rfl dX6_last_79 ?_
        refine v_if_eq C 89 (by decide) dX6_last_82 (fun c6 => ?_) (fun c6 => ?_)
        · replace h := h.1 c6
          refine v_iconst C kc_0 dX6_last_89 ?_
          exact v_iret C hr dX6_last_90 h
        · replace h := h.2 c6
          refine v_iconst C kc_1 dX6_last_85 ?_
          refine v_goto C 90 (by decide) dX6_last_86 ?_
          exact v_iret C hr dX6_last_90 h
      replace h := h.2.2.2 s4_0 s4_1 s4_2
      have t4_0 := ne_ti 0 0 (by decide) s4_0
      have t4_1 := ne_ti 1 1 (by decide) s4_1
      have t4_2 := ne_ti 2 2 (by decide) s4_2
      refine v_tout C 91 (by omega) (by decide) dX6_last_32 ?_
      refine v_aloadn C 0 rfl rfl dX6_last_91 ?_
      refine v_getr (o' := 23) C fr_X6_181 (iBand_s0 (iPress_x (iSW_press hw))) (iBand_l0 (iPress_x (iSW_press hw))) rfl (iBand_r10 (iPress_x (iSW_press hw))) dX6_last_92 ?_
      refine v_iloadn C 2 rfl rfl dX6_last_95 ?_
      refine v_iconst C kc_3 dX6_last_96 ?_
      refine v_isub C dX6_last_97 ?_
      refine v_ald C (iBand_s5 (iPress_x (iSW_press hw))) (iBand_l5 (iPress_x (iSW_press hw))) h.1 dX6_last_98 ?_
      replace h := h.2
      exact v_iret C hr dX6_last_99 h
    · replace h := h.2 c3
      refine v_ldc C wx_X6_171 dX6_last_28 ?_
      exact v_iret C hr dX6_last_30 h
  · replace h := h.2 c2
    refine v_ldc C wx_X6_135 dX6_last_10 ?_
    exact v_iret C hr dX6_last_12 h
abbrev rmX6_error : Room := { frames := 2, cells := 0, slots := 0, locals := 44 }
def wp_X6_error (pl dr : Nat) (x1 : Int32) (x2 : Int32) (M : Mem) (K : Int32 → Mem → Prop) : Prop := wp_X3_hasUnit pl (x1) M (fun r1 M1 => (r1 = 0 → K (-1000000 : Int32) M1) ∧ (¬ r1 = 0 → (0 ≤ x2 → ((M1 18 5) ≤ x2 → K (-2000000 : Int32) M1) ∧ (¬ (M1 18 5) ≤ x2 → vp_in x1 4 ∧ (((M1 (pl + 2) (ix x1)) ≤ x2 → wp_X0_errorAt 18 (x2) (x1) M1 (fun r6 M6 => K r6 M6)) ∧ (¬ (M1 (pl + 2) (ix x1)) ≤ x2 → K (-2000000 : Int32) M1)))) ∧ (¬ 0 ≤ x2 → K (-1000000 : Int32) M1)))
set_option maxRecDepth 20000 in
theorem con_X6_error (l : Launch) (S : XS) (R : Rfs) (pl dr : Nat) (x1 : Int32) (x2 : Int32) (hw : isSW R pl dr) (M : Mem) (K : Int32 → Mem → Prop) (h : wp_X6_error pl dr x1 x2 M K) : CI l yX6_error cX6_error 4 (some .int) rmX6_error S 148 R [.ref (XB S + 0), .int x1, .int x2] M K := by
  refine conI (lv := [(0, .ref (XB S + 0)), (1, .int x1), (2, .int x2)]) (by decide) (Nat.le_of_ble_eq_true rfl) rfl ?_
  intro p e s m args below meth c C hr
  replace C : Cx p m meth c s args cX6_error RX6 4 S := C
  refine v_aloadn C 0 rfl rfl dX6_error_0 ?_
  refine v_getr (o' := pl) C fr_X6_19 sh_0 (Nat.le_of_ble_eq_true rfl) rfl (iSW_r1 hw) dX6_error_1 ?_
  refine v_iloadn C 1 rfl rfl dX6_error_4 ?_
  refine v_cvI (As := [.int x1]) C mv_X6_132 (con_X3_hasUnit l S 148 R pl (x1) (iSW_plan hw) _ _ h) (iPlan_s0 (iSW_plan hw)) (iPlan_l0 (iSW_plan hw)) rfl ⟨(Nat.le_of_ble_eq_true rfl), (Nat.le_of_ble_eq_true rfl)⟩ ⟨rfl, rfl, Nat.zero_le _, Nat.zero_le _⟩ (Nat.le_of_ble_eq_true rfl) dX6_error_5 (fun r1 M1 h => ?_)
  refine v_if_eq C 15 (by decide) dX6_error_8 (fun c2 => ?_) (fun c2 => ?_)
  · replace h := h.1 c2
    refine v_ldc C wx_X6_135 dX6_error_15 ?_
    exact v_iret C hr dX6_error_17 h
  · replace h := h.2 c2
    refine v_iloadn C 2 rfl rfl dX6_error_11 ?_
    refine v_if_ge C 18 (by decide) dX6_error_12 (fun c3 => ?_) (fun c3 => ?_)
    · replace h := h.1 c3
      refine v_aloadn C 0 rfl rfl dX6_error_18 ?_
      refine v_getr (o' := 13) C fr_X6_29 sh_0 (Nat.le_of_ble_eq_true rfl) rfl (iSW_r3 hw) dX6_error_19 ?_
      refine v_getr (o' := 18) C fr_X6_162 (iPress_s0 (iSW_press hw)) (iPress_l0 (iSW_press hw)) rfl (iPress_r4 (iSW_press hw)) dX6_error_22 ?_
      refine v_astoren (lv' := [(3, .ref (XB S + 18)), (0, .ref (XB S + 0)), (1, .int x1), (2, .int x2)]) C rfl rfl (Nat.le_of_ble_eq_true rfl) dX6_error_25 ?_
      refine v_iloadn C 3 rfl rfl dX6_error_26 ?_
      refine v_aloadn C 0 rfl rfl dX6_error_27 ?_
      refine v_geti C fr_X6_184 (iBand_s0 (iPress_x (iSW_press hw))) (iBand_l0 (iPress_x (iSW_press hw))) rfl dX6_error_28 ?_
      refine v_icmp_ge C 47 (by decide) dX6_error_31 (fun c4 => ?_) (fun c4 => ?_)
      · replace h := h.1 c4
        refine v_ldc C wx_X6_171 dX6_error_47 ?_
        exact v_iret C hr dX6_error_49 h
      · replace h := h.2 c4
        refine v_iloadn C 3 rfl rfl dX6_error_34 ?_
        refine v_aloadn C 1 rfl rfl dX6_error_35 ?_
        refine v_getr (o' := pl) C fr_X6_19 sh_0 (Nat.le_of_ble_eq_true rfl) rfl (iSW_r1 hw) dX6_error_36 ?_
        refine v_getr (o' := (pl + 2)) C fr_X6_139 (iPlan_s0 (iSW_plan hw)) (iPlan_l0 (iSW_plan hw)) rfl (iPlan_r1 (iSW_plan hw)) dX6_error_39 ?_
        refine v_iloadn C 2 rfl rfl dX6_error_42 ?_
        refine v_ald C (iPlan_s2 (iSW_plan hw)) (iPlan_l2 (iSW_plan hw)) h.1 dX6_error_43 ?_
        replace h := h.2
        refine v_icmp_ge C 50 (by decide) dX6_error_44 (fun c5 => ?_) (fun c5 => ?_)
        · replace h := h.1 c5
          refine v_aloadn C 0 rfl rfl dX6_error_50 ?_
          refine v_iloadn C 3 rfl rfl dX6_error_51 ?_
          refine v_iloadn C 2 rfl rfl dX6_error_52 ?_
          refine v_cvI (As := [.int x2, .int x1]) C mv_X6_187 (con_X0_errorAt l S 148 R 18 (x2) (x1) (iPress_x (iSW_press hw)) _ _ h) (iBand_s0 (iPress_x (iSW_press hw))) (iBand_l0 (iPress_x (iSW_press hw))) rfl ⟨(Nat.le_of_ble_eq_true rfl), (Nat.le_of_ble_eq_true rfl)⟩ ⟨rfl, rfl, Nat.zero_le _, Nat.zero_le _⟩ (Nat.le_of_ble_eq_true rfl) dX6_error_53 (fun r6 M6 h => ?_)
          exact v_iret C hr dX6_error_56 h
        · replace h := h.2 c5
          refine v_ldc C wx_X6_171 dX6_error_47 ?_
          exact v_iret C hr dX6_error_49 h
    · replace h := h.2 c3
      refine v_ldc C wx_X6_135 dX6_error_15 ?_
      exact v_iret C hr dX6_error_17 h
abbrev rmX6_steady : Room := { frames := 5, cells := 0, slots := 0, locals := 101 }
def wp_X6_steady_93 (pl : Nat) (dr : Nat) (X50 : Int32 → Int32 → Mem → Prop) (K : Int32 → Mem → Prop) (x1 x2 : Int32) (M : Mem) : Prop := X50 x1 (x2 + (1 : Int32)) M
def L_X6_steady_50 (pl : Nat) (dr : Nat)  (K : Int32 → Mem → Prop) : Nat → Int32 → Int32 → Mem → Prop
  | 0, _, _, _ => False
  | k + 1, x1, x2, M => ((300 : Int32) < x2 → ((200 : Int32) < x1 → K (-9 : Int32) M) ∧ (¬ (200 : Int32) < x1 → K x1 M)) ∧ (¬ (300 : Int32) < x2 → wp_X4_tick 24 pl M (fun r8 M8 => (r8 = 0 → wp_X6_steady_93 pl dr (fun x1 x2 M => L_X6_steady_50 pl dr  K k x1 x2 M) K (x1) (x2) M8) ∧ (¬ r8 = 0 → wp_X0_cameFurtherOutThan 29 ((M8 pl 8)) M8 (fun r10 M10 => (r10 = 0 → wp_X6_steady_93 pl dr (fun x1 x2 M => L_X6_steady_50 pl dr  K k x1 x2 M) K (x1) (x2) M10) ∧ (¬ r10 = 0 → wp_X6_steady_93 pl dr (fun x1 x2 M => L_X6_steady_50 pl dr  K k x1 x2 M) K (x2) (x2) M10)))))
def wp_X6_steady (pl dr : Nat) (M : Mem) (K : Int32 → Mem → Prop) : Prop := ((M 13 8) = 0 → K (-9 : Int32) M) ∧ (¬ (M 13 8) = 0 → (¬ (M 13 5) = (-9 : Int32) → wp_X4_takeFrom 24 13 M (fun M3 => (∀ M4 : Mem, M4 = mw M3 24 6 (1000 : Int32) → ∃ j5 : Nat, L_X6_steady_50 pl dr K j5 ((0 : Int32)) ((1 : Int32)) M4))) ∧ ((M 13 5) = (-9 : Int32) → K (-9 : Int32) M))
set_option maxRecDepth 20000 in
theorem tb_X6_steady_93 {p : Program} {e : Env} {s : State} {m : MethodId} {args : Array Value} {below : List Frame} {meth : Method} {c : Code} (l : Launch) (S : XS) (R : Rfs) (pl : Nat) (dr : Nat) (hw : isSW R pl dr) (C : Cx p m meth c s args cX6_steady RX6 3 S) (hr : meth.sig.returnType = (some .int)) (K : Int32 → Mem → Prop) (X50 : Int32 → Int32 → Mem → Prop) (hX50 : ∀ (x1 x2 : Int32) (M : Mem), X50 x1 x2 M → V p l e rmX6_steady s m args below meth c (MQ below (va_Qi K (XPost S 148 R) (XA S)) args s 0 0 (XA S)) S 3 0 0 148 M R 50 [(0, .ref (XB S + 0)), (1, .int x1), (2, .int x2)] []) (x1 x2 : Int32) (M : Mem) (h : wp_X6_steady_93 pl dr X50 K x1 x2 M) : V p l e rmX6_steady s m args below meth c (MQ below (va_Qi K (XPost S 148 R) (XA S)) args s 0 0 (XA S)) S 3 0 0 148 M R 93 [(0, .ref (XB S + 0)), (1, .int x1), (2, .int x2)] [] := by
  refine v_iinc (lv' := [(2, .int (x2 + (1 : Int32))), (0, .ref (XB S + 0)), (1, .int x1)]) C 2 rfl kc_1 rfl rfl (Nat.le_of_ble_eq_true rfl) dX6_steady_93 ?_
  refine v_goto C 50 (by decide) dX6_steady_96 ?_
  refine v_loc [1, 2, 0] rfl ?_
  exact hX50 (x1) ((x2 + (1 : Int32))) M h
set_option maxRecDepth 20000 in
theorem tl_X6_steady_50 {p : Program} {e : Env} {s : State} {m : MethodId} {args : Array Value} {below : List Frame} {meth : Method} {c : Code} (l : Launch) (S : XS) (R : Rfs) (pl : Nat) (dr : Nat) (hw : isSW R pl dr) (C : Cx p m meth c s args cX6_steady RX6 3 S) (hr : meth.sig.returnType = (some .int)) (K : Int32 → Mem → Prop)   (k : Nat) : ∀ (x1 x2 : Int32) (M : Mem), L_X6_steady_50 pl dr  K k x1 x2 M → V p l e rmX6_steady s m args below meth c (MQ below (va_Qi K (XPost S 148 R) (XA S)) args s 0 0 (XA S)) S 3 0 0 148 M R 50 [(0, .ref (XB S + 0)), (1, .int x1), (2, .int x2)] [] := by
  induction k with
  | zero => intro x1 x2 M h; exact h.elim
  | succ k ih =>
    intro x1 x2 M h
    refine v_iloadn C 2 rfl rfl dX6_steady_50 ?_
    refine v_sipush C ks_300 dX6_steady_51 ?_
    refine v_icmp_gt C 99 (by decide) dX6_steady_54 (fun c6 => ?_) (fun c6 => ?_)
    · replace h := h.1 c6
      refine v_iloadn C 1 rfl rfl dX6_steady_99 ?_
      refine v_sipush C ks_200 dX6_steady_100 ?_
      refine v_icmp_gt C 110 (by decide) dX6_steady_103 (fun c7 => ?_) (fun c7 => ?_)
      · replace h := h.1 c7
        refine v_bipush C kb_m9 dX6_steady_110 ?_
        exact v_iret C hr dX6_steady_112 h
      · replace h := h.2 c7
        refine v_iloadn C 1 rfl rfl dX6_steady_106 ?_
        refine v_goto C 112 (by decide) dX6_steady_107 ?_
        exact v_iret C hr dX6_steady_112 h
    · replace h := h.2 c6
      refine v_aloadn C 0 rfl rfl dX6_steady_57 ?_
      refine v_getr (o' := 24) C fr_X6_33 sh_0 (Nat.le_of_ble_eq_true rfl) rfl (iSW_r4 hw) dX6_steady_58 ?_
      refine v_aloadn C 0 rfl rfl dX6_steady_61 ?_
      refine v_getr (o' := pl) C fr_X6_19 sh_0 (Nat.le_of_ble_eq_true rfl) rfl (iSW_r1 hw) dX6_steady_62 ?_
      refine v_cvI (As := [.ref (XB S + pl)]) C mv_X6_96 (con_X4_tick l S 148 R 24 pl (iSW_trial hw) (iSW_plan hw) _ _ h) (iPress_s0 (iSW_trial hw)) (iPress_l0 (iSW_trial hw)) rfl ⟨(Nat.le_of_ble_eq_true rfl), (Nat.le_of_ble_eq_true rfl)⟩ ⟨rfl, rfl, Nat.zero_le _, Nat.zero_le _⟩ (Nat.le_of_ble_eq_true rfl) dX6_steady_65 (fun r8 M8 h => ?_)
      refine v_if_eq C 93 (by decide) dX6_steady_68 (fun c9 => ?_) (fun c9 => ?_)
      · replace h := h.1 c9
        exact tb_X6_steady_93 l S R pl dr hw C hr K (fun x1 x2 M => L_X6_steady_50 pl dr  K k x1 x2 M) (ih) (x1) (x2) M8 h
      · replace h := h.2 c9
        refine v_aloadn C 0 rfl rfl dX6_steady_71 ?_
        refine v_getr (o' := 24) C fr_X6_33 sh_0 (Nat.le_of_ble_eq_true rfl) rfl (iSW_r4 hw) dX6_steady_72 ?_
        refine v_getr (o' := 29) C fr_X6_162 (iPress_s0 (iSW_trial hw)) (iPress_l0 (iSW_trial hw)) rfl (iPress_r4 (iSW_trial hw)) dX6_steady_75 ?_
        refine v_aloadn C 0 rfl rfl dX6_steady_78 ?_
        refine v_getr (o' := pl) C fr_X6_19 sh_0 (Nat.le_of_ble_eq_true rfl) rfl (iSW_r1 hw) dX6_steady_79 ?_
        refine v_geti C fr_X6_197 (iPlan_s0 (iSW_plan hw)) (iPlan_l0 (iSW_plan hw)) rfl dX6_steady_82 ?_
        refine v_cvI (As := [.int (M8 pl 8)]) C mv_X6_200 (con_X0_cameFurtherOutThan l S 148 R 29 ((M8 pl 8)) (iPress_x (iSW_trial hw)) _ _ h) (iBand_s0 (iPress_x (iSW_trial hw))) (iBand_l0 (iPress_x (iSW_trial hw))) rfl ⟨(Nat.le_of_ble_eq_true rfl), (Nat.le_of_ble_eq_true rfl)⟩ ⟨rfl, rfl, Nat.zero_le _, Nat.zero_le _⟩ (Nat.le_of_ble_eq_true rfl) dX6_steady_85 (fun r10 M10 h => ?_)
        refine v_if_eq C 93 (by decide) dX6_steady_88 (fun c11 => ?_) (fun c11 => ?_)
        · replace h := h.1 c11
          exact tb_X6_steady_93 l S R pl dr hw C hr K (fun x1 x2 M => L_X6_steady_50 pl dr  K k x1 x2 M) (ih) (x1) (x2) M10 h
        · replace h := h.2 c11
          refine v_iloadn C 2 rfl rfl dX6_steady_91 ?_
          refine v_istoren (lv' := [(1, .int x2), (0, .ref (XB S + 0)), (2, .int x2)]) C rfl rfl (Nat.le_of_ble_eq_true rfl) dX6_steady_92 ?_
          refine v_loc [1, 0, 2] rfl ?_
          exact tb_X6_steady_93 l S R pl dr hw C hr K (fun x1 x2 M => L_X6_steady_50 pl dr  K k x1 x2 M) (ih) (x2) (x2) M10 h
set_option maxRecDepth 20000 in
theorem con_X6_steady (l : Launch) (S : XS) (R : Rfs) (pl dr : Nat) (hw : isSW R pl dr) (M : Mem) (K : Int32 → Mem → Prop) (h : wp_X6_steady pl dr M K) : CI l yX6_steady cX6_steady 3 (some .int) rmX6_steady S 148 R [.ref (XB S + 0)] M K := by
  refine conI (lv := [(0, .ref (XB S + 0))]) (by decide) (Nat.le_of_ble_eq_true rfl) rfl ?_
  intro p e s m args below meth c C hr
  replace C : Cx p m meth c s args cX6_steady RX6 3 S := C
  refine v_aloadn C 0 rfl rfl dX6_steady_0 ?_
  refine v_getr (o' := 13) C fr_X6_29 sh_0 (Nat.le_of_ble_eq_true rfl) rfl (iSW_r3 hw) dX6_steady_1 ?_
  refine v_geti C fr_X6_82 (iPress_s0 (iSW_press hw)) (iPress_l0 (iSW_press hw)) rfl dX6_steady_4 ?_
  refine v_if_eq C 22 (by decide) dX6_steady_7 (fun c1 => ?_) (fun c1 => ?_)
  · replace h := h.1 c1
    refine v_bipush C kb_m9 dX6_steady_22 ?_
    exact v_iret C hr dX6_steady_24 h
  · replace h := h.2 c1
    refine v_aloadn C 0 rfl rfl dX6_steady_10 ?_
    refine v_getr (o' := 13) C fr_X6_29 sh_0 (Nat.le_of_ble_eq_true rfl) rfl (iSW_r3 hw) dX6_steady_11 ?_
    refine v_geti C fr_X6_123 (iPress_s0 (iSW_press hw)) (iPress_l0 (iSW_press hw)) rfl dX6_steady_14 ?_
    refine v_bipush C kb_m9 dX6_steady_17 ?_
    refine v_icmp_ne C 25 (by decide) dX6_steady_19 (fun c2 => ?_) (fun c2 => ?_)
    · replace h := h.1 c2
      refine v_aloadn C 0 rfl rfl dX6_steady_25 ?_
      refine v_getr (o' := 24) C fr_X6_33 sh_0 (Nat.le_of_ble_eq_true rfl) rfl (iSW_r4 hw) dX6_steady_26 ?_
      refine v_aloadn C 0 rfl rfl dX6_steady_29 ?_
      refine v_getr (o' := 13) C fr_X6_29 sh_0 (Nat.le_of_ble_eq_true rfl) rfl (iSW_r3 hw) dX6_steady_30 ?_
      refine v_cvV (As := [.ref (XB S + 13)]) C mv_X6_191 (con_X4_takeFrom l S 148 R 24 13 (iSW_trial hw) (iSW_press hw) _ _ h) (iPress_s0 (iSW_trial hw)) (iPress_l0 (iSW_trial hw)) rfl ⟨(Nat.le_of_ble_eq_true rfl), (Nat.le_of_ble_eq_true rfl)⟩ ⟨rfl, rfl, Nat.zero_le _, Nat.zero_le _⟩ (Nat.le_of_ble_eq_true rfl) dX6_steady_33 (fun M3 h => ?_)
      refine v_aloadn C 0 rfl rfl dX6_steady_36 ?_
      refine v_getr (o' := 24) C fr_X6_33 sh_0 (Nat.le_of_ble_eq_true rfl) rfl (iSW_r4 hw) dX6_steady_37 ?_
      refine v_sipush C ks_1000 dX6_steady_40 ?_
      refine v_puti C fr_X6_194 (iPress_s0 (iSW_trial hw)) (iPress_l0 (iSW_trial hw)) rfl dX6_steady_43 (fun M4 e4 => ?_)
      replace h := h M4 e4
      refine v_iconst C kc_0 dX6_steady_46 ?_
      refine v_istoren (lv' := [(1, .int (0 : Int32)), (0, .ref (XB S + 0))]) C rfl rfl (Nat.le_of_ble_eq_true rfl) dX6_steady_47 ?_
      refine v_iconst C kc_1 dX6_steady_48 ?_
      refine v_istoren (lv' := [(2, .int (1 : Int32)), (1, .int (0 : Int32)), (0, .ref (XB S + 0))]) C rfl rfl (Nat.le_of_ble_eq_true rfl) dX6_steady_49 ?_
      refine v_loc [2, 1, 0] rfl ?_
      obtain ⟨k5, h⟩ := h
      exact tl_X6_steady_50 l S R pl dr hw C hr K   k5 ((0 : Int32)) ((1 : Int32)) M4 h
    · replace h := h.2 c2
      refine v_bipush C kb_m9 dX6_steady_22 ?_
      exact v_iret C hr dX6_steady_24 h
abbrev rmX6_cost : Room := { frames := 6, cells := 0, slots := 0, locals := 124 }
def wp_X6_cost (pl dr : Nat) (M : Mem) (K : Int32 → Mem → Prop) : Prop := ((M 13 8) = 0 → K (-2000000 : Int32) M) ∧ (¬ (M 13 8) = 0 → wp_X4_nextReel 13 pl M (fun r2 M2 => (¬ r2 = (-9 : Int32) → wp_X4_takeFrom 24 13 M2 (fun M4 => (∀ M5 : Mem, M5 = mw M4 24 6 (1000 : Int32) → wp_X4_tickTimes 24 pl ((200 : Int32)) M5 (fun M6 => wp_X4_takeFrom 24 13 M6 (fun M7 => wp_X4_makeReadyToPaste 24 pl M7 (fun M8 => wp_X4_tick 24 pl M8 (fun r9 M9 => (∀ M10 : Mem, M10 = mw M9 24 6 (1000 : Int32) → wp_X4_tickTimes 24 pl ((199 : Int32)) M10 (fun M11 => K ((M11 24 12) - (M6 24 12)) M11))))))))) ∧ (r2 = (-9 : Int32) → K (-2000000 : Int32) M2)))
set_option maxRecDepth 20000 in
theorem con_X6_cost (l : Launch) (S : XS) (R : Rfs) (pl dr : Nat) (hw : isSW R pl dr) (M : Mem) (K : Int32 → Mem → Prop) (h : wp_X6_cost pl dr M K) : CI l yX6_cost cX6_cost 2 (some .int) rmX6_cost S 148 R [.ref (XB S + 0)] M K := by
  refine conI (lv := [(0, .ref (XB S + 0))]) (by decide) (Nat.le_of_ble_eq_true rfl) rfl ?_
  intro p e s m args below meth c C hr
  replace C : Cx p m meth c s args cX6_cost RX6 2 S := C
  refine v_aloadn C 0 rfl rfl dX6_cost_0 ?_
  refine v_getr (o' := 13) C fr_X6_29 sh_0 (Nat.le_of_ble_eq_true rfl) rfl (iSW_r3 hw) dX6_cost_1 ?_
  refine v_geti C fr_X6_82 (iPress_s0 (iSW_press hw)) (iPress_l0 (iSW_press hw)) rfl dX6_cost_4 ?_
  refine v_if_eq C 26 (by decide) dX6_cost_7 (fun c1 => ?_) (fun c1 => ?_)
  · replace h := h.1 c1
    refine v_ldc C wx_X6_171 dX6_cost_26 ?_
    exact v_iret C hr dX6_cost_28 h
  · replace h := h.2 c1
    refine v_aloadn C 0 rfl rfl dX6_cost_10 ?_
    refine v_getr (o' := 13) C fr_X6_29 sh_0 (Nat.le_of_ble_eq_true rfl) rfl (iSW_r3 hw) dX6_cost_11 ?_
    refine v_aloadn C 0 rfl rfl dX6_cost_14 ?_
    refine v_getr (o' := pl) C fr_X6_19 sh_0 (Nat.le_of_ble_eq_true rfl) rfl (iSW_r1 hw) dX6_cost_15 ?_
    refine v_cvI (As := [.ref (XB S + pl)]) C mv_X6_114 (con_X4_nextReel l S 148 R 13 pl (iSW_press hw) (iSW_plan hw) _ _ h) (iPress_s0 (iSW_press hw)) (iPress_l0 (iSW_press hw)) rfl ⟨(Nat.le_of_ble_eq_true rfl), (Nat.le_of_ble_eq_true rfl)⟩ ⟨rfl, rfl, Nat.zero_le _, Nat.zero_le _⟩ (Nat.le_of_ble_eq_true rfl) dX6_cost_18 (fun r2 M2 h => ?_)
    refine v_bipush C kb_m9 dX6_cost_21 ?_
    refine v_icmp_ne C 29 (by decide) dX6_cost_23 (fun c3 => ?_) (fun c3 => ?_)
    · replace h := h.1 c3
      refine v_aloadn C 0 rfl rfl dX6_cost_29 ?_
      refine v_getr (o' := 24) C fr_X6_33 sh_0 (Nat.le_of_ble_eq_true rfl) rfl (iSW_r4 hw) dX6_cost_30 ?_
      refine v_aloadn C 0 rfl rfl dX6_cost_33 ?_
      refine v_getr (o' := 13) C fr_X6_29 sh_0 (Nat.le_of_ble_eq_true rfl) rfl (iSW_r3 hw) dX6_cost_34 ?_
      refine v_cvV (As := [.ref (XB S + 13)]) C mv_X6_191 (con_X4_takeFrom l S 148 R 24 13 (iSW_trial hw) (iSW_press hw) _ _ h) (iPress_s0 (iSW_trial hw)) (iPress_l0 (iSW_trial hw)) rfl ⟨(Nat.le_of_ble_eq_true rfl), (Nat.le_of_ble_eq_true rfl)⟩ ⟨rfl, rfl, Nat.zero_le _, Nat.zero_le _⟩ (Nat.le_of_ble_eq_true rfl) dX6_cost_37 (fun M4 h => ?_)
      refine v_aloadn C 0 rfl rfl dX6_cost_40 ?_
      refine v_getr (o' := 24) C fr_X6_33 sh_0 (Nat.le_of_ble_eq_true rfl) rfl (iSW_r4 hw) dX6_cost_41 ?_
      refine v_sipush C ks_1000 dX6_cost_44 ?_
      refine v_puti C fr_X6_194 (iPress_s0 (iSW_trial hw)) (iPress_l0 (iSW_trial hw)) rfl dX6_cost_47 (fun M5 e5 => ?_)
      replace h := h M5 e5
      refine v_aloadn C 0 rfl rfl dX6_cost_50 ?_
      refine v_getr (o' := 24) C fr_X6_33 sh_0 (Nat.le_of_ble_eq_true rfl) rfl (iSW_r4 hw) dX6_cost_51 ?_
      refine v_aloadn C 0 rfl rfl dX6_cost_54 ?_
      refine v_getr (o' := pl) C fr_X6_19 sh_0 (Nat.le_of_ble_eq_true rfl) rfl (iSW_r1 hw) dX6_cost_55 ?_
      refine v_sipush C ks_200 dX6_cost_58 ?_
      refine v_cvV (As := [.ref (XB S + pl), .int (200 : Int32)]) C mv_X6_203 (con_X4_tickTimes l S 148 R 24 pl ((200 : Int32)) (iSW_trial hw) (iSW_plan hw) _ _ h) (iPress_s0 (iSW_trial hw)) (iPress_l0 (iSW_trial hw)) rfl ⟨(Nat.le_of_ble_eq_true rfl), (Nat.le_of_ble_eq_true rfl)⟩ ⟨rfl, rfl, Nat.zero_le _, Nat.zero_le _⟩ (Nat.le_of_ble_eq_true rfl) dX6_cost_61 (fun M6 h => ?_)
      refine v_aloadn C 0 rfl rfl dX6_cost_64 ?_
      refine v_getr (o' := 24) C fr_X6_33 sh_0 (Nat.le_of_ble_eq_true rfl) rfl (iSW_r4 hw) dX6_cost_65 ?_
      refine v_geti C fr_X6_207 (iPress_s0 (iSW_trial hw)) (iPress_l0 (iSW_trial hw)) rfl dX6_cost_68 ?_
      refine v_istoren (lv' := [(1, .int (M6 24 12)), (0, .ref (XB S + 0))]) C rfl rfl (Nat.le_of_ble_eq_true rfl) dX6_cost_71 ?_
      refine v_aloadn C 1 rfl rfl dX6_cost_72 ?_
      refine v_getr (o' := 24) C fr_X6_33 sh_0 (Nat.le_of_ble_eq_true rfl) rfl (iSW_r4 hw) dX6_cost_73 ?_
      refine v_aloadn C 1 rfl rfl dX6_cost_76 ?_
      refine v_getr (o' := 13) C fr_X6_29 sh_0 (Nat.le_of_ble_eq_true rfl) rfl (iSW_r3 hw) dX6_cost_77 ?_
      refine v_cvV (As := [.ref (XB S + 13)]) C mv_X6_191 (con_X4_takeFrom l S 148 R 24 13 (iSW_trial hw) (iSW_press hw) _ _ h) (iPress_s0 (iSW_trial hw)) (iPress_l0 (iSW_trial hw)) rfl ⟨(Nat.le_of_ble_eq_true rfl), (Nat.le_of_ble_eq_true rfl)⟩ ⟨rfl, rfl, Nat.zero_le _, Nat.zero_le _⟩ (Nat.le_of_ble_eq_true rfl) dX6_cost_80 (fun M7 h => ?_)
      refine v_aloadn C 1 rfl rfl dX6_cost_83 ?_
      refine v_getr (o' := 24) C fr_X6_33 sh_0 (Nat.le_of_ble_eq_true rfl) rfl (iSW_r4 hw) dX6_cost_84 ?_
      refine v_aloadn C 1 rfl rfl dX6_cost_87 ?_
      refine v_getr (o' := pl) C fr_X6_19 sh_0 (Nat.le_of_ble_eq_true rfl) rfl (iSW_r1 hw) dX6_cost_88 ?_
      refine v_cvV (As := [.ref (XB S + pl)]) C mv_X6_210 (con_X4_makeReadyToPaste l S 148 R 24 pl (iSW_trial hw) (iSW_plan hw) _ _ h) (iPress_s0 (iSW_trial hw)) (iPress_l0 (iSW_trial hw)) rfl ⟨(Nat.le_of_ble_eq_true rfl), (Nat.le_of_ble_eq_true rfl)⟩ ⟨rfl, rfl, Nat.zero_le _, Nat.zero_le _⟩ (Nat.le_of_ble_eq_true rfl) dX6_cost_91 (fun M8 h => ?_)
      refine v_aloadn C 1 rfl rfl dX6_cost_94 ?_
      refine v_getr (o' := 24) C fr_X6_33 sh_0 (Nat.le_of_ble_eq_true rfl) rfl (iSW_r4 hw) dX6_cost_95 ?_
      refine v_aloadn C 1 rfl rfl dX6_cost_98 ?_
      refine v_getr (o' := pl) C fr_X6_19 sh_0 (Nat.le_of_ble_eq_true rfl) rfl (iSW_r1 hw) dX6_cost_99 ?_
      refine v_cvI (As := [.ref (XB S + pl)]) C mv_X6_96 (con_X4_tick l S 148 R 24 pl (iSW_trial hw) (iSW_plan hw) _ _ h) (iPress_s0 (iSW_trial hw)) (iPress_l0 (iSW_trial hw)) rfl ⟨(Nat.le_of_ble_eq_true rfl), (Nat.le_of_ble_eq_true rfl)⟩ ⟨rfl, rfl, Nat.zero_le _, Nat.zero_le _⟩ (Nat.le_of_ble_eq_true rfl) dX6_cost_102 (fun r9 M9 h => ?_)
      refine v_pop C rfl dX6_cost_105 ?_
      refine v_aloadn C 1 rfl rfl dX6_cost_106 ?_
      refine v_getr (o' := 24) C fr_X6_33 sh_0 (Nat.le_of_ble_eq_true rfl) rfl (iSW_r4 hw) dX6_cost_107 ?_
      refine v_sipush C ks_1000 dX6_cost_110 ?_
      refine v_puti C fr_X6_194 (iPress_s0 (iSW_trial hw)) (iPress_l0 (iSW_trial hw)) rfl dX6_cost_113 (fun M10 e10 => ?_)
      replace h := h M10 e10
      refine v_aloadn C 1 rfl rfl dX6_cost_116 ?_
      refine v_getr (o' := 24) C fr_X6_33 sh_0 (Nat.le_of_ble_eq_true rfl) rfl (iSW_r4 hw) dX6_cost_117 ?_
      refine v_aloadn C 1 rfl rfl dX6_cost_120 ?_
      refine v_getr (o' := pl) C fr_X6_19 sh_0 (Nat.le_of_ble_eq_true rfl) rfl (iSW_r1 hw) dX6_cost_121 ?_
      refine v_sipush C ks_199 dX6_cost_124 ?_
      refine v_cvV (As := [.ref (XB S + pl), .int (199 : Int32)]) C mv_X6_203 (con_X4_tickTimes l S 148 R 24 pl ((199 : Int32)) (iSW_trial hw) (iSW_plan hw) _ _ h) (iPress_s0 (iSW_trial hw)) (iPress_l0 (iSW_trial hw)) rfl ⟨(Nat.le_of_ble_eq_true rfl), (Nat.le_of_ble_eq_true rfl)⟩ ⟨rfl, rfl, Nat.zero_le _, Nat.zero_le _⟩ (Nat.le_of_ble_eq_true rfl) dX6_cost_127 (fun M11 h => ?_)
      refine v_aloadn C 1 rfl rfl dX6_cost_130 ?_
      refine v_getr (o' := 24) C fr_X6_33 sh_0 (Nat.le_of_ble_eq_true rfl) rfl (iSW_r4 hw) dX6_cost_131 ?_
      refine v_geti C fr_X6_207 (iPress_s0 (iSW_trial hw)) (iPress_l0 (iSW_trial hw)) rfl dX6_cost_134 ?_
      refine v_iloadn C 0 rfl rfl dX6_cost_137 ?_
      refine v_isub C dX6_cost_138 ?_
      exact v_iret C hr dX6_cost_139 h
    · replace h := h.2 c3
      refine v_ldc C wx_X6_171 dX6_cost_26 ?_
      exact v_iret C hr dX6_cost_28 h
abbrev rmX6_sees : Room := { frames := 1, cells := 0, slots := 0, locals := 22 }
def wp_X6_sees (pl dr : Nat) (x1 : Int32) (x2 : Int32) (M : Mem) (K : Int32 → Mem → Prop) : Prop := wp_X3_isMovable pl (x1) M (fun r1 M1 => (r1 = 0 → K (-1 : Int32) M1) ∧ (¬ r1 = 0 → wp_X6_isWithin (x2) ((-99 : Int32)) ((99 : Int32)) M1 (fun r3 M3 => (¬ r3 = 0 → wp_X1_add 105 (x1) (x2) M3 (fun r5 M5 => (r5 = 0 → K (-3 : Int32) M5) ∧ (¬ r5 = 0 → K (M5 105 2) M5))) ∧ (r3 = 0 → K (-1 : Int32) M3))))
set_option maxRecDepth 20000 in
theorem con_X6_sees (l : Launch) (S : XS) (R : Rfs) (pl dr : Nat) (x1 : Int32) (x2 : Int32) (hw : isSW R pl dr) (M : Mem) (K : Int32 → Mem → Prop) (h : wp_X6_sees pl dr x1 x2 M K) : CI l yX6_sees cX6_sees 3 (some .int) rmX6_sees S 148 R [.ref (XB S + 0), .int x1, .int x2] M K := by
  refine conI (lv := [(0, .ref (XB S + 0)), (1, .int x1), (2, .int x2)]) (by decide) (Nat.le_of_ble_eq_true rfl) rfl ?_
  intro p e s m args below meth c C hr
  replace C : Cx p m meth c s args cX6_sees RX6 3 S := C
  refine v_aloadn C 0 rfl rfl dX6_sees_0 ?_
  refine v_getr (o' := pl) C fr_X6_19 sh_0 (Nat.le_of_ble_eq_true rfl) rfl (iSW_r1 hw) dX6_sees_1 ?_
  refine v_iloadn C 1 rfl rfl dX6_sees_4 ?_
  refine v_cvI (As := [.int x1]) C mv_X6_100 (con_X3_isMovable l S 148 R pl (x1) (iSW_plan hw) _ _ h) (iPlan_s0 (iSW_plan hw)) (iPlan_l0 (iSW_plan hw)) rfl ⟨(Nat.le_of_ble_eq_true rfl), (Nat.le_of_ble_eq_true rfl)⟩ ⟨rfl, rfl, Nat.zero_le _, Nat.zero_le _⟩ (Nat.le_of_ble_eq_true rfl) dX6_sees_5 (fun r1 M1 h => ?_)
  refine v_if_eq C 22 (by decide) dX6_sees_8 (fun c2 => ?_) (fun c2 => ?_)
  · replace h := h.1 c2
    refine v_iconst C kc_m1 dX6_sees_22 ?_
    exact v_iret C hr dX6_sees_23 h
  · replace h := h.2 c2
    refine v_iloadn C 2 rfl rfl dX6_sees_11 ?_
    refine v_bipush C kb_m99 dX6_sees_12 ?_
    refine v_bipush C kb_99 dX6_sees_14 ?_
    refine v_csI (As := [.int x2, .int (-99 : Int32), .int (99 : Int32)]) C ms_X6_62 (con_X6_isWithin l S 148 R (x2) ((-99 : Int32)) ((99 : Int32))  _ _ h) rfl ⟨(Nat.le_of_ble_eq_true rfl), (Nat.le_of_ble_eq_true rfl)⟩ ⟨rfl, rfl, Nat.zero_le _, Nat.zero_le _⟩ (Nat.le_of_ble_eq_true rfl) dX6_sees_16 (fun r3 M3 h => ?_)
    refine v_if_ne C 24 (by decide) dX6_sees_19 (fun c4 => ?_) (fun c4 => ?_)
    · replace h := h.1 c4
      refine v_aloadn C 0 rfl rfl dX6_sees_24 ?_
      refine v_getr (o' := 105) C fr_X6_54 sh_0 (Nat.le_of_ble_eq_true rfl) rfl (iSW_r8 hw) dX6_sees_25 ?_
      refine v_iloadn C 1 rfl rfl dX6_sees_28 ?_
      refine v_iloadn C 2 rfl rfl dX6_sees_29 ?_
      refine v_cvI (As := [.int x1, .int x2]) C mv_X6_213 (con_X1_add l S 148 R 105 (x1) (x2) (iSW_clues hw) _ _ h) (iClues_s0 (iSW_clues hw)) (iClues_l0 (iSW_clues hw)) rfl ⟨(Nat.le_of_ble_eq_true rfl), (Nat.le_of_ble_eq_true rfl)⟩ ⟨rfl, rfl, Nat.zero_le _, Nat.zero_le _⟩ (Nat.le_of_ble_eq_true rfl) dX6_sees_30 (fun r5 M5 h => ?_)
      refine v_if_eq C 46 (by decide) dX6_sees_33 (fun c6 => ?_) (fun c6 => ?_)
      · replace h := h.1 c6
        refine v_bipush C kb_m3 dX6_sees_46 ?_
        exact v_iret C hr dX6_sees_48 h
      · replace h := h.2 c6
        refine v_aloadn C 0 rfl rfl dX6_sees_36 ?_
        refine v_getr (o' := 105) C fr_X6_54 sh_0 (Nat.le_of_ble_eq_true rfl) rfl (iSW_r8 hw) dX6_sees_37 ?_
        refine v_geti C fr_X6_81 (iClues_s0 (iSW_clues hw)) (iClues_l0 (iSW_clues hw)) rfl dX6_sees_40 ?_
        refine v_goto C 48 (by decide) dX6_sees_43 ?_
        exact v_iret C hr dX6_sees_48 h
    · replace h := h.2 c4
      refine v_iconst C kc_m1 dX6_sees_22 ?_
      exact v_iret C hr dX6_sees_23 h
abbrev rmX6_forget : Room := { frames := 0, cells := 0, slots := 0, locals := 0 }
def wp_X6_forget (pl dr : Nat) (M : Mem) (K : Int32 → Mem → Prop) : Prop := (∀ M1 : Mem, M1 = mw M 105 2 (0 : Int32) → K (M 105 2) M1)
set_option maxRecDepth 20000 in
theorem con_X6_forget (l : Launch) (S : XS) (R : Rfs) (pl dr : Nat) (hw : isSW R pl dr) (M : Mem) (K : Int32 → Mem → Prop) (h : wp_X6_forget pl dr M K) : CI l yX6_forget cX6_forget 2 (some .int) rmX6_forget S 148 R [.ref (XB S + 0)] M K := by
  refine conI (lv := [(0, .ref (XB S + 0))]) (by decide) (Nat.le_of_ble_eq_true rfl) rfl ?_
  intro p e s m args below meth c C hr
  replace C : Cx p m meth c s args cX6_forget RX6 2 S := C
  refine v_aloadn C 0 rfl rfl dX6_forget_0 ?_
  refine v_getr (o' := 105) C fr_X6_54 sh_0 (Nat.le_of_ble_eq_true rfl) rfl (iSW_r8 hw) dX6_forget_1 ?_
  refine v_geti C fr_X6_81 (iClues_s0 (iSW_clues hw)) (iClues_l0 (iSW_clues hw)) rfl dX6_forget_4 ?_
  refine v_istoren (lv' := [(1, .int (M 105 2)), (0, .ref (XB S + 0))]) C rfl rfl (Nat.le_of_ble_eq_true rfl) dX6_forget_7 ?_
  refine v_aloadn C 1 rfl rfl dX6_forget_8 ?_
  refine v_getr (o' := 105) C fr_X6_54 sh_0 (Nat.le_of_ble_eq_true rfl) rfl (iSW_r8 hw) dX6_forget_9 ?_
  refine v_iconst C kc_0 dX6_forget_12 ?_
  refine v_puti C fr_X6_81 (iClues_s0 (iSW_clues hw)) (iClues_l0 (iSW_clues hw)) rfl dX6_forget_13 (fun M1 e1 => ?_)
  replace h := h M1 e1
  refine v_iloadn C 0 rfl rfl dX6_forget_16 ?_
  exact v_iret C hr dX6_forget_17 h
abbrev rmX6_which : Room := { frames := 5, cells := 0, slots := 0, locals := 111 }
def wp_X6_which (pl dr : Nat) (M : Mem) (K : Int32 → Mem → Prop) : Prop := wp_X1_causes 105 ((M pl 4)) M (fun r1 M1 => K r1 M1)
set_option maxRecDepth 20000 in
theorem con_X6_which (l : Launch) (S : XS) (R : Rfs) (pl dr : Nat) (hw : isSW R pl dr) (M : Mem) (K : Int32 → Mem → Prop) (h : wp_X6_which pl dr M K) : CI l yX6_which cX6_which 1 (some .int) rmX6_which S 148 R [.ref (XB S + 0)] M K := by
  refine conI (lv := [(0, .ref (XB S + 0))]) (by decide) (Nat.le_of_ble_eq_true rfl) rfl ?_
  intro p e s m args below meth c C hr
  replace C : Cx p m meth c s args cX6_which RX6 1 S := C
  refine v_aloadn C 0 rfl rfl dX6_which_0 ?_
  refine v_getr (o' := 105) C fr_X6_54 sh_0 (Nat.le_of_ble_eq_true rfl) rfl (iSW_r8 hw) dX6_which_1 ?_
  refine v_aloadn C 0 rfl rfl dX6_which_4 ?_
  refine v_getr (o' := pl) C fr_X6_19 sh_0 (Nat.le_of_ble_eq_true rfl) rfl (iSW_r1 hw) dX6_which_5 ?_
  refine v_geti C fr_X6_216 (iPlan_s0 (iSW_plan hw)) (iPlan_l0 (iSW_plan hw)) rfl dX6_which_8 ?_
  refine v_cvI (As := [.int (M pl 4)]) C mv_X6_219 (con_X1_causes l S 148 R 105 ((M pl 4)) (iSW_clues hw) _ _ h) (iClues_s0 (iSW_clues hw)) (iClues_l0 (iSW_clues hw)) rfl ⟨(Nat.le_of_ble_eq_true rfl), (Nat.le_of_ble_eq_true rfl)⟩ ⟨rfl, rfl, Nat.zero_le _, Nat.zero_le _⟩ (Nat.le_of_ble_eq_true rfl) dX6_which_11 (fun r1 M1 h => ?_)
  exact v_iret C hr dX6_which_14 h
abbrev rmX6_look : Room := { frames := 6, cells := 0, slots := 0, locals := 139 }
def wp_X6_look (pl dr : Nat) (M : Mem) (K : Int32 → Mem → Prop) : Prop := wp_X1_bestUnit 105 ((M pl 4)) M (fun r1 M1 => K r1 M1)
set_option maxRecDepth 20000 in
theorem con_X6_look (l : Launch) (S : XS) (R : Rfs) (pl dr : Nat) (hw : isSW R pl dr) (M : Mem) (K : Int32 → Mem → Prop) (h : wp_X6_look pl dr M K) : CI l yX6_look cX6_look 1 (some .int) rmX6_look S 148 R [.ref (XB S + 0)] M K := by
  refine conI (lv := [(0, .ref (XB S + 0))]) (by decide) (Nat.le_of_ble_eq_true rfl) rfl ?_
  intro p e s m args below meth c C hr
  replace C : Cx p m meth c s args cX6_look RX6 1 S := C
  refine v_aloadn C 0 rfl rfl dX6_look_0 ?_
  refine v_getr (o' := 105) C fr_X6_54 sh_0 (Nat.le_of_ble_eq_true rfl) rfl (iSW_r8 hw) dX6_look_1 ?_
  refine v_aloadn C 0 rfl rfl dX6_look_4 ?_
  refine v_getr (o' := pl) C fr_X6_19 sh_0 (Nat.le_of_ble_eq_true rfl) rfl (iSW_r1 hw) dX6_look_5 ?_
  refine v_geti C fr_X6_216 (iPlan_s0 (iSW_plan hw)) (iPlan_l0 (iSW_plan hw)) rfl dX6_look_8 ?_
  refine v_cvI (As := [.int (M pl 4)]) C mv_X6_222 (con_X1_bestUnit l S 148 R 105 ((M pl 4)) (iSW_clues hw) _ _ h) (iClues_s0 (iSW_clues hw)) (iClues_l0 (iSW_clues hw)) rfl ⟨(Nat.le_of_ble_eq_true rfl), (Nat.le_of_ble_eq_true rfl)⟩ ⟨rfl, rfl, Nat.zero_le _, Nat.zero_le _⟩ (Nat.le_of_ble_eq_true rfl) dX6_look_11 (fun r1 M1 h => ?_)
  exact v_iret C hr dX6_look_14 h
abbrev rmX6_keep : Room := { frames := 3, cells := 0, slots := 0, locals := 60 }
def wp_X6_keep (pl dr : Nat) (x1 : Int32) (M : Mem) (K : Int32 → Mem → Prop) : Prop := wp_X6_isWithin (x1) ((0 : Int32)) ((1 : Int32)) M (fun r1 M1 => (¬ r1 = 0 → vp_in x1 2 ∧ (wp_X4_takeFrom (108 + 11 * ix x1) 13 M1 (fun M4 => vp_in x1 2 ∧ (∀ M5 : Mem, M5 = mw M4 104 (ix x1) (1 : Int32) → K (M5 13 10) M5)))) ∧ (r1 = 0 → K (-1 : Int32) M1))
set_option maxRecDepth 20000 in
theorem con_X6_keep (l : Launch) (S : XS) (R : Rfs) (pl dr : Nat) (x1 : Int32) (hw : isSW R pl dr) (M : Mem) (K : Int32 → Mem → Prop) (h : wp_X6_keep pl dr x1 M K) : CI l yX6_keep cX6_keep 2 (some .int) rmX6_keep S 148 R [.ref (XB S + 0), .int x1] M K := by
  refine conI (lv := [(0, .ref (XB S + 0)), (1, .int x1)]) (by decide) (Nat.le_of_ble_eq_true rfl) rfl ?_
  intro p e s m args below meth c C hr
  replace C : Cx p m meth c s args cX6_keep RX6 2 S := C
  refine v_iloadn C 1 rfl rfl dX6_keep_0 ?_
  refine v_iconst C kc_0 dX6_keep_1 ?_
  refine v_iconst C kc_1 dX6_keep_2 ?_
  refine v_csI (As := [.int x1, .int (0 : Int32), .int (1 : Int32)]) C ms_X6_62 (con_X6_isWithin l S 148 R (x1) ((0 : Int32)) ((1 : Int32))  _ _ h) rfl ⟨(Nat.le_of_ble_eq_true rfl), (Nat.le_of_ble_eq_true rfl)⟩ ⟨rfl, rfl, Nat.zero_le _, Nat.zero_le _⟩ (Nat.le_of_ble_eq_true rfl) dX6_keep_3 (fun r1 M1 h => ?_)
  refine v_if_ne C 11 (by decide) dX6_keep_6 (fun c2 => ?_) (fun c2 => ?_)
  · replace h := h.1 c2
    refine v_aloadn C 0 rfl rfl dX6_keep_11 ?_
    refine v_getr (o' := 103) C fr_X6_43 sh_0 (Nat.le_of_ble_eq_true rfl) rfl (iSW_r6 hw) dX6_keep_12 ?_
    refine v_iloadn C 1 rfl rfl dX6_keep_15 ?_
    have hq3 := h.1
    replace h := h.2
    refine v_qald (o' := (108 + 11 * ix x1)) C sh_103 (Nat.le_of_ble_eq_true rfl) hq3 (iSW_img hw _ (vin_lt hq3)).1 dX6_keep_16 ?_
    refine v_aloadn C 0 rfl rfl dX6_keep_17 ?_
    refine v_getr (o' := 13) C fr_X6_29 sh_0 (Nat.le_of_ble_eq_true rfl) rfl (iSW_r3 hw) dX6_keep_18 ?_
    refine v_cvV (As := [.ref (XB S + 13)]) C mv_X6_191 (con_X4_takeFrom l S 148 R (108 + 11 * ix x1) 13 (iSW_img hw _ (vin_lt hq3)).2 (iSW_press hw) _ _ h) (iPress_s0 (iSW_img hw _ (vin_lt hq3)).2) (iPress_l0 (iSW_img hw _ (vin_lt hq3)).2) rfl ⟨(Nat.le_of_ble_eq_true rfl), (Nat.le_of_ble_eq_true rfl)⟩ ⟨rfl, rfl, Nat.zero_le _, Nat.zero_le _⟩ (Nat.le_of_ble_eq_true rfl) dX6_keep_21 (fun M4 h => ?_)
    refine v_aloadn C 0 rfl rfl dX6_keep_24 ?_
    refine v_getr (o' := 104) C fr_X6_47 sh_0 (Nat.le_of_ble_eq_true rfl) rfl (iSW_r7 hw) dX6_keep_25 ?_
    refine v_iloadn C 1 rfl rfl dX6_keep_28 ?_
    refine v_iconst C kc_1 dX6_keep_29 ?_
    have hi5 := h.1
    replace h := h.2
    refine v_zast C sh_104 (Nat.le_of_ble_eq_true rfl) isB1 hi5 dX6_keep_30 (fun M5 e5 => ?_)
    replace h := h M5 e5
    refine v_aloadn C 0 rfl rfl dX6_keep_31 ?_
    refine v_getr (o' := 13) C fr_X6_29 sh_0 (Nat.le_of_ble_eq_true rfl) rfl (iSW_r3 hw) dX6_keep_32 ?_
    refine v_geti C fr_X6_86 (iPress_s0 (iSW_press hw)) (iPress_l0 (iSW_press hw)) rfl dX6_keep_35 ?_
    exact v_iret C hr dX6_keep_38 h
  · replace h := h.2 c2
    refine v_iconst C kc_m1 dX6_keep_9 ?_
    exact v_iret C hr dX6_keep_10 h
abbrev rmX6_back : Room := { frames := 3, cells := 0, slots := 0, locals := 60 }
def wp_X6_back (pl dr : Nat) (x1 : Int32) (M : Mem) (K : Int32 → Mem → Prop) : Prop := wp_X6_isWithin (x1) ((0 : Int32)) ((1 : Int32)) M (fun r1 M1 => (¬ r1 = 0 → vp_in x1 2 ∧ ((¬ (M1 104 (ix x1)) = 0 → vp_in x1 2 ∧ (wp_X4_takeFrom 13 (108 + 11 * ix x1) M1 (fun M5 => (∀ M6 : Mem, M6 = mw M5 35 2 (0 : Int32) → K (M6 13 10) M6)))) ∧ ((M1 104 (ix x1)) = 0 → K (-2 : Int32) M1))) ∧ (r1 = 0 → K (-1 : Int32) M1))
set_option maxRecDepth 20000 in
theorem con_X6_back (l : Launch) (S : XS) (R : Rfs) (pl dr : Nat) (x1 : Int32) (hw : isSW R pl dr) (M : Mem) (K : Int32 → Mem → Prop) (h : wp_X6_back pl dr x1 M K) : CI l yX6_back cX6_back 2 (some .int) rmX6_back S 148 R [.ref (XB S + 0), .int x1] M K := by
  refine conI (lv := [(0, .ref (XB S + 0)), (1, .int x1)]) (by decide) (Nat.le_of_ble_eq_true rfl) rfl ?_
  intro p e s m args below meth c C hr
  replace C : Cx p m meth c s args cX6_back RX6 2 S := C
  refine v_iloadn C 1 rfl rfl dX6_back_0 ?_
  refine v_iconst C kc_0 dX6_back_1 ?_
  refine v_iconst C kc_1 dX6_back_2 ?_
  refine v_csI (As := [.int x1, .int (0 : Int32), .int (1 : Int32)]) C ms_X6_62 (con_X6_isWithin l S 148 R (x1) ((0 : Int32)) ((1 : Int32))  _ _ h) rfl ⟨(Nat.le_of_ble_eq_true rfl), (Nat.le_of_ble_eq_true rfl)⟩ ⟨rfl, rfl, Nat.zero_le _, Nat.zero_le _⟩ (Nat.le_of_ble_eq_true rfl) dX6_back_3 (fun r1 M1 h => ?_)
  refine v_if_ne C 11 (by decide) dX6_back_6 (fun c2 => ?_) (fun c2 => ?_)
  · replace h := h.1 c2
    refine v_aloadn C 0 rfl rfl dX6_back_11 ?_
    refine v_getr (o' := 104) C fr_X6_47 sh_0 (Nat.le_of_ble_eq_true rfl) rfl (iSW_r7 hw) dX6_back_12 ?_
    refine v_iloadn C 1 rfl rfl dX6_back_15 ?_
    refine v_zald C sh_104 (Nat.le_of_ble_eq_true rfl) h.1 dX6_back_16 ?_
    replace h := h.2
    refine v_if_ne C 23 (by decide) dX6_back_17 (fun c3 => ?_) (fun c3 => ?_)
    · replace h := h.1 c3
      refine v_aloadn C 0 rfl rfl dX6_back_23 ?_
      refine v_getr (o' := 13) C fr_X6_29 sh_0 (Nat.le_of_ble_eq_true rfl) rfl (iSW_r3 hw) dX6_back_24 ?_
      refine v_aloadn C 0 rfl rfl dX6_back_27 ?_
      refine v_getr (o' := 103) C fr_X6_43 sh_0 (Nat.le_of_ble_eq_true rfl) rfl (iSW_r6 hw) dX6_back_28 ?_
      refine v_iloadn C 1 rfl rfl dX6_back_31 ?_
      have hq4 := h.1
      replace h := h.2
      refine v_qald (o' := (108 + 11 * ix x1)) C sh_103 (Nat.le_of_ble_eq_true rfl) hq4 (iSW_img hw _ (vin_lt hq4)).1 dX6_back_32 ?_
      refine v_cvV (As := [.ref (XB S + (108 + 11 * ix x1))]) C mv_X6_191 (con_X4_takeFrom l S 148 R 13 (108 + 11 * ix x1) (iSW_press hw) (iSW_img hw _ (vin_lt hq4)).2 _ _ h) (iPress_s0 (iSW_press hw)) (iPress_l0 (iSW_press hw)) rfl ⟨(Nat.le_of_ble_eq_true rfl), (Nat.le_of_ble_eq_true rfl)⟩ ⟨rfl, rfl, Nat.zero_le _, Nat.zero_le _⟩ (Nat.le_of_ble_eq_true rfl) dX6_back_33 (fun M5 h => ?_)
      refine v_aloadn C 0 rfl rfl dX6_back_36 ?_
      refine v_getr (o' := 35) C fr_X6_39 sh_0 (Nat.le_of_ble_eq_true rfl) rfl (iSW_r5 hw) dX6_back_37 ?_
      refine v_iconst C kc_0 dX6_back_40 ?_
      refine v_puti C fr_X6_78 (iHist_s0 (iSW_hist hw)) (iHist_l0 (iSW_hist hw)) rfl dX6_back_41 (fun M6 e6 => ?_)
      replace h := h M6 e6
      refine v_aloadn C 0 rfl rfl dX6_back_44 ?_
      refine v_getr (o' := 13) C fr_X6_29 sh_0 (Nat.le_of_ble_eq_true rfl) rfl (iSW_r3 hw) dX6_back_45 ?_
      refine v_geti C fr_X6_86 (iPress_s0 (iSW_press hw)) (iPress_l0 (iSW_press hw)) rfl dX6_back_48 ?_
      exact v_iret C hr dX6_back_51 h
    · replace h := h.2 c3
      refine v_bipush C kb_m2 dX6_back_20 ?_
      exact v_iret C hr dX6_back_22 h
  · replace h := h.2 c2
    refine v_iconst C kc_m1 dX6_back_9 ?_
    exact v_iret C hr dX6_back_10 h
abbrev rmX6_count : Room := { frames := 2, cells := 0, slots := 0, locals := 42 }
def wp_X6_count (pl dr : Nat) (x1 : Int32) (M : Mem) (K : Int32 → Mem → Prop) : Prop := (x1 = (0 : Int32) → K (M pl 4) M) ∧ (x1 = (1 : Int32) → K (M pl 5) M) ∧ (x1 = (2 : Int32) → K (M 13 10) M) ∧ (x1 = (3 : Int32) → K (M 18 4) M) ∧ (x1 = (4 : Int32) → K (M 13 11) M) ∧ (x1 = (5 : Int32) → K (M 13 12) M) ∧ (x1 = (6 : Int32) → K (M 18 5) M) ∧ (x1 = (7 : Int32) → K (M 13 5) M) ∧ (x1 = (8 : Int32) → wp_X4_nextReel 13 pl M (fun r2 M2 => K r2 M2)) ∧ (x1 = (9 : Int32) → K (M 13 7) M) ∧ (x1 = (10 : Int32) → ((M 13 8) = 0 → K (0 : Int32) M) ∧ (¬ (M 13 8) = 0 → K (1 : Int32) M)) ∧ (x1 = (11 : Int32) → ((M 13 9) = 0 → K (0 : Int32) M) ∧ (¬ (M 13 9) = 0 → K (1 : Int32) M)) ∧ (x1 = (12 : Int32) → K (M 13 13) M) ∧ (x1 = (13 : Int32) → K (M pl 6) M) ∧ (x1 = (14 : Int32) → K (M pl 7) M) ∧ (x1 = (15 : Int32) → K (M pl 8) M) ∧ (x1 = (16 : Int32) → K (M pl 9) M) ∧ (x1 = (17 : Int32) → K (M 105 2) M) ∧ (x1 = (18 : Int32) → K (M 1 1) M) ∧ (x1 = (19 : Int32) → K (M 35 2) M) ∧ (¬ x1 = (0 : Int32) → ¬ x1 = (1 : Int32) → ¬ x1 = (2 : Int32) → ¬ x1 = (3 : Int32) → ¬ x1 = (4 : Int32) → ¬ x1 = (5 : Int32) → ¬ x1 = (6 : Int32) → ¬ x1 = (7 : Int32) → ¬ x1 = (8 : Int32) → ¬ x1 = (9 : Int32) → ¬ x1 = (10 : Int32) → ¬ x1 = (11 : Int32) → ¬ x1 = (12 : Int32) → ¬ x1 = (13 : Int32) → ¬ x1 = (14 : Int32) → ¬ x1 = (15 : Int32) → ¬ x1 = (16 : Int32) → ¬ x1 = (17 : Int32) → ¬ x1 = (18 : Int32) → ¬ x1 = (19 : Int32) → K (-1 : Int32) M)
set_option maxRecDepth 20000 in
theorem con_X6_count (l : Launch) (S : XS) (R : Rfs) (pl dr : Nat) (x1 : Int32) (hw : isSW R pl dr) (M : Mem) (K : Int32 → Mem → Prop) (h : wp_X6_count pl dr x1 M K) : CI l yX6_count cX6_count 2 (some .int) rmX6_count S 148 R [.ref (XB S + 0), .int x1] M K := by
  refine conI (lv := [(0, .ref (XB S + 0)), (1, .int x1)]) (by decide) (Nat.le_of_ble_eq_true rfl) rfl ?_
  intro p e s m args below meth c C hr
  replace C : Cx p m meth c s args cX6_count RX6 2 S := C
  refine v_iloadn C 1 rfl rfl dX6_count_0 ?_
  by_cases s1_0 : x1 = (0 : Int32)
  · replace h := h.1 s1_0
    refine v_tin (off := 95) C 96 0 (by rw [s1_0]; decide) (by decide) (by decide) (by decide) (by decide) dX6_count_1 ?_
    refine v_aloadn C 0 rfl rfl dX6_count_96 ?_
    refine v_getr (o' := pl) C fr_X6_19 sh_0 (Nat.le_of_ble_eq_true rfl) rfl (iSW_r1 hw) dX6_count_97 ?_
    refine v_geti C fr_X6_216 (iPlan_s0 (iSW_plan hw)) (iPlan_l0 (iSW_plan hw)) rfl dX6_count_100 ?_
    exact v_iret C hr dX6_count_103 h
  by_cases s1_1 : x1 = (1 : Int32)
  · replace h := h.2.1 s1_1
    refine v_tin (off := 103) C 104 1 (by rw [s1_1]; decide) (by decide) (by decide) (by decide) (by decide) dX6_count_1 ?_
    refine v_aloadn C 0 rfl rfl dX6_count_104 ?_
    refine v_getr (o' := pl) C fr_X6_19 sh_0 (Nat.le_of_ble_eq_true rfl) rfl (iSW_r1 hw) dX6_count_105 ?_
    refine v_geti C fr_X6_225 (iPlan_s0 (iSW_plan hw)) (iPlan_l0 (iSW_plan hw)) rfl dX6_count_108 ?_
    exact v_iret C hr dX6_count_111 h
  by_cases s1_2 : x1 = (2 : Int32)
  · replace h := h.2.2.1 s1_2
    refine v_tin (off := 111) C 112 2 (by rw [s1_2]; decide) (by decide) (by decide) (by decide) (by decide) dX6_count_1 ?_
    refine v_aloadn C 0 rfl rfl dX6_count_112 ?_
    refine v_getr (o' := 13) C fr_X6_29 sh_0 (Nat.le_of_ble_eq_true rfl) rfl (iSW_r3 hw) dX6_count_113 ?_
    refine v_geti C fr_X6_86 (iPress_s0 (iSW_press hw)) (iPress_l0 (iSW_press hw)) rfl dX6_count_116 ?_
    exact v_iret C hr dX6_count_119 h
  by_cases s1_3 : x1 = (3 : Int32)
  · replace h := h.2.2.2.1 s1_3
    refine v_tin (off := 119) C 120 3 (by rw [s1_3]; decide) (by decide) (by decide) (by decide) (by decide) dX6_count_1 ?_
    refine v_aloadn C 0 rfl rfl dX6_count_120 ?_
    refine v_getr (o' := 13) C fr_X6_29 sh_0 (Nat.le_of_ble_eq_true rfl) rfl (iSW_r3 hw) dX6_count_121 ?_
    refine v_getr (o' := 18) C fr_X6_162 (iPress_s0 (iSW_press hw)) (iPress_l0 (iSW_press hw)) rfl (iPress_r4 (iSW_press hw)) dX6_count_124 ?_
    refine v_geti C fr_X6_228 (iBand_s0 (iPress_x (iSW_press hw))) (iBand_l0 (iPress_x (iSW_press hw))) rfl dX6_count_127 ?_
    exact v_iret C hr dX6_count_130 h
  by_cases s1_4 : x1 = (4 : Int32)
  · replace h := h.2.2.2.2.1 s1_4
    refine v_tin (off := 130) C 131 4 (by rw [s1_4]; decide) (by decide) (by decide) (by decide) (by decide) dX6_count_1 ?_
    refine v_aloadn C 0 rfl rfl dX6_count_131 ?_
    refine v_getr (o' := 13) C fr_X6_29 sh_0 (Nat.le_of_ble_eq_true rfl) rfl (iSW_r3 hw) dX6_count_132 ?_
    refine v_geti C fr_X6_93 (iPress_s0 (iSW_press hw)) (iPress_l0 (iSW_press hw)) rfl dX6_count_135 ?_
    exact v_iret C hr dX6_count_138 h
  by_cases s1_5 : x1 = (5 : Int32)
  · replace h := h.2.2.2.2.2.1 s1_5
    refine v_tin (off := 138) C 139 5 (by rw [s1_5]; decide) (by decide) (by decide) (by decide) (by decide) dX6_count_1 ?_
    refine v_aloadn C 0 rfl rfl dX6_count_139 ?_
    refine v_getr (o' := 13) C fr_X6_29 sh_0 (Nat.le_of_ble_eq_true rfl) rfl (iSW_r3 hw) dX6_count_140 ?_
    refine v_geti C fr_X6_207 (iPress_s0 (iSW_press hw)) (iPress_l0 (iSW_press hw)) rfl dX6_count_143 ?_
    exact v_iret C hr dX6_count_146 h
  by_cases s1_6 : x1 = (6 : Int32)
  · replace h := h.2.2.2.2.2.2.1 s1_6
    refine v_tin (off := 146) C 147 6 (by rw [s1_6]; decide) (by decide) (by decide) (by decide) (by decide) dX6_count_1 ?_
    refine v_aloadn C 0 rfl rfl dX6_count_147 ?_
    refine v_getr (o' := 13) C fr_X6_29 sh_0 (Nat.le_of_ble_eq_true rfl) rfl (iSW_r3 hw) dX6_count_148 ?_
    refine v_getr (o' := 18) C fr_X6_162 (iPress_s0 (iSW_press hw)) (iPress_l0 (iSW_press hw)) rfl (iPress_r4 (iSW_press hw)) dX6_count_151 ?_
    refine v_geti C fr_X6_184 (iBand_s0 (iPress_x (iSW_press hw))) (iBand_l0 (iPress_x (iSW_press hw))) rfl dX6_count_154 ?_
    exact v_iret C hr dX6_count_157 h
  by_cases s1_7 : x1 = (7 : Int32)
  · replace h := h.2.2.2.2.2.2.2.1 s1_7
    refine v_tin (off := 157) C 158 7 (by rw [s1_7]; decide) (by decide) (by decide) (by decide) (by decide) dX6_count_1 ?_
    refine v_aloadn C 0 rfl rfl dX6_count_158 ?_
    refine v_getr (o' := 13) C fr_X6_29 sh_0 (Nat.le_of_ble_eq_true rfl) rfl (iSW_r3 hw) dX6_count_159 ?_
    refine v_geti C fr_X6_123 (iPress_s0 (iSW_press hw)) (iPress_l0 (iSW_press hw)) rfl dX6_count_162 ?_
    exact v_iret C hr dX6_count_165 h
  by_cases s1_8 : x1 = (8 : Int32)
  · replace h := h.2.2.2.2.2.2.2.2.1 s1_8
    refine v_tin (off := 165) C 166 8 (by rw [s1_8]; decide) (by decide) (by decide) (by decide) (by decide) dX6_count_1 ?_
    refine v_aloadn C 0 rfl rfl dX6_count_166 ?_
    refine v_getr (o' := 13) C fr_X6_29 sh_0 (Nat.le_of_ble_eq_true rfl) rfl (iSW_r3 hw) dX6_count_167 ?_
    refine v_aloadn C 0 rfl rfl dX6_count_170 ?_
    refine v_getr (o' := pl) C fr_X6_19 sh_0 (Nat.le_of_ble_eq_true rfl) rfl (iSW_r1 hw) dX6_count_171 ?_
    refine v_cvI (As := [.ref (XB S + pl)]) C mv_X6_114 (con_X4_nextReel l S 148 R 13 pl (iSW_press hw) (iSW_plan hw) _ _ h) (iPress_s0 (iSW_press hw)) (iPress_l0 (iSW_press hw)) rfl ⟨(Nat.le_of_ble_eq_true rfl), (Nat.le_of_ble_eq_true rfl)⟩ ⟨rfl, rfl, Nat.zero_le _, Nat.zero_le _⟩ (Nat.le_of_ble_eq_true rfl) dX6_count_174 (fun r2 M2 h => ?_)
    exact v_iret C hr dX6_count_177 h
  by_cases s1_9 : x1 = (9 : Int32)
  · replace h := h.2.2.2.2.2.2.2.2.2.1 s1_9
    refine v_tin (off := 177) C 178 9 (by rw [s1_9]; decide) (by decide) (by decide) (by decide) (by decide) dX6_count_1 ?_
    refine v_aloadn C 0 rfl rfl dX6_count_178 ?_
    refine v_getr (o' := 13) C fr_X6_29 sh_0 (Nat.le_of_ble_eq_true rfl) rfl (iSW_r3 hw) dX6_count_179 ?_
    refine v_geti C fr_X6_117 (iPress_s0 (iSW_press hw)) (iPress_l0 (iSW_press hw)) rfl dX6_count_182 ?_
    exact v_iret C hr dX6_count_185 h
  by_cases s1_10 : x1 = (10 : Int32)
  · replace h := h.2.2.2.2.2.2.2.2.2.2.1 s1_10
    refine v_tin (off := 185) C 186 10 (by rw [s1_10]; decide) (by decide) (by decide) (by decide) (by decide) dX6_count_1 ?_
    refine v_aloadn C 0 rfl rfl dX6_count_186 ?_
    refine v_getr (o' := 13) C fr_X6_29 sh_0 (Nat.le_of_ble_eq_true rfl) rfl (iSW_r3 hw) dX6_count_187 ?_
    refine v_geti C fr_X6_82 (iPress_s0 (iSW_press hw)) (iPress_l0 (iSW_press hw)) rfl dX6_count_190 ?_
    refine v_if_eq C 200 (by decide) dX6_count_193 (fun c3 => ?_) (fun c3 => ?_)
    · replace h := h.1 c3
      refine v_iconst C kc_0 dX6_count_200 ?_
      exact v_iret C hr dX6_count_201 h
    · replace h := h.2 c3
      refine v_iconst C kc_1 dX6_count_196 ?_
      refine v_goto C 201 (by decide) dX6_count_197 ?_
      exact v_iret C hr dX6_count_201 h
  by_cases s1_11 : x1 = (11 : Int32)
  · replace h := h.2.2.2.2.2.2.2.2.2.2.2.1 s1_11
    refine v_tin (off := 201) C 202 11 (by rw [s1_11]; decide) (by decide) (by decide) (by decide) (by decide) dX6_count_1 ?_
    refine v_aloadn C 0 rfl rfl dX6_count_202 ?_
    refine v_getr (o' := 13) C fr_X6_29 sh_0 (Nat.le_of_ble_eq_true rfl) rfl (iSW_r3 hw) dX6_count_203 ?_
    refine v_geti C fr_X6_126 (iPress_s0 (iSW_press hw)) (iPress_l0 (iSW_press hw)) rfl dX6_count_206 ?_
    refine v_if_eq C 216 (by decide) dX6_count_209 (fun c4 => ?_) (fun c4 => ?_)
    · replace h := h.1 c4
      refine v_iconst C kc_0 dX6_count_216 ?_
      exact v_iret C hr dX6_count_217 h
    · replace h := h.2 c4
      refine v_iconst C kc_1 dX6_count_212 ?_
      refine v_goto C 217 (by decide) dX6_count_213 ?_
      exact v_iret C hr dX6_count_217 h
  by_cases s1_12 : x1 = (12 : Int32)
  · replace h := h.2.2.2.2.2.2.2.2.2.2.2.2.1 s1_12
    refine v_tin (off := 217) C 218 12 (by rw [s1_12]; decide) (by decide) (by decide) (by decide) (by decide) dX6_count_1 ?_
    refine v_aloadn C 0 rfl rfl dX6_count_218 ?_
    refine v_getr (o' := 13) C fr_X6_29 sh_0 (Nat.le_of_ble_eq_true rfl) rfl (iSW_r3 hw) dX6_count_219 ?_
    refine v_geti C fr_X6_231 (iPress_s0 (iSW_press hw)) (iPress_l0 (iSW_press hw)) rfl dX6_count_222 ?_
    exact v_iret C hr dX6_count_225 h
  by_cases s1_13 : x1 = (13 : Int32)
  · replace h := h.2.2.2.2.2.2.2.2.2.2.2.2.2.1 s1_13
    refine v_tin (off := 225) C 226 13 (by rw [s1_13]; decide) (by decide) (by decide) (by decide) (by decide) dX6_count_1 ?_
    refine v_aloadn C 0 rfl rfl dX6_count_226 ?_
    refine v_getr (o' := pl) C fr_X6_19 sh_0 (Nat.le_of_ble_eq_true rfl) rfl (iSW_r1 hw) dX6_count_227 ?_
    refine v_geti C fr_X6_234 (iPlan_s0 (iSW_plan hw)) (iPlan_l0 (iSW_plan hw)) rfl dX6_count_230 ?_
    exact v_iret C hr dX6_count_233 h
  by_cases s1_14 : x1 = (14 : Int32)
  · replace h := h.2.2.2.2.2.2.2.2.2.2.2.2.2.2.1 s1_14
    refine v_tin (off := 233) C 234 14 (by rw [s1_14]; decide) (by decide) (by decide) (by decide) (by decide) dX6_count_1 ?_
    refine v_aloadn C 0 rfl rfl dX6_count_234 ?_
    refine v_getr (o' := pl) C fr_X6_19 sh_0 (Nat.le_of_ble_eq_true rfl) rfl (iSW_r1 hw) dX6_count_235 ?_
    refine v_geti C fr_X6_237 (iPlan_s0 (iSW_plan hw)) (iPlan_l0 (iSW_plan hw)) rfl dX6_count_238 ?_
    exact v_iret C hr dX6_count_241 h
  by_cases s1_15 : x1 = (15 : Int32)
  · replace h := h.2.2.2.2.2.2.2.2.2.2.2.2.2.2.2.1 s1_15
    refine v_tin (off := 241) C 242 15 (by rw [s1_15]; decide) (by decide) (by decide) (by decide) (by decide) dX6_count_1 ?_
    refine v_aloadn C 0 rfl rfl dX6_count_242 ?_
    refine v_getr (o' := pl) C fr_X6_19 sh_0 (Nat.le_of_ble_eq_true rfl) rfl (iSW_r1 hw) dX6_count_243 ?_
    refine v_geti C fr_X6_197 (iPlan_s0 (iSW_plan hw)) (iPlan_l0 (iSW_plan hw)) rfl dX6_count_246 ?_
    exact v_iret C hr dX6_count_249 h
  by_cases s1_16 : x1 = (16 : Int32)
  · replace h := h.2.2.2.2.2.2.2.2.2.2.2.2.2.2.2.2.1 s1_16
    refine v_tin (off := 249) C 250 16 (by rw [s1_16]; decide) (by decide) (by decide) (by decide) (by decide) dX6_count_1 ?_
    refine v_aloadn C 0 rfl rfl dX6_count_250 ?_
    refine v_getr (o' := pl) C fr_X6_19 sh_0 (Nat.le_of_ble_eq_true rfl) rfl (iSW_r1 hw) dX6_count_251 ?_
    refine v_geti C fr_X6_240 (iPlan_s0 (iSW_plan hw)) (iPlan_l0 (iSW_plan hw)) rfl dX6_count_254 ?_
    exact v_iret C hr dX6_count_257 h
  by_cases s1_17 : x1 = (17 : Int32)
  · replace h := h.2.2.2.2.2.2.2.2.2.2.2.2.2.2.2.2.2.1 s1_17
    refine v_tin (off := 257) C 258 17 (by rw [s1_17]; decide) (by decide) (by decide) (by decide) (by decide) dX6_count_1 ?_
    refine v_aloadn C 0 rfl rfl dX6_count_258 ?_
    refine v_getr (o' := 105) C fr_X6_54 sh_0 (Nat.le_of_ble_eq_true rfl) rfl (iSW_r8 hw) dX6_count_259 ?_
    refine v_geti C fr_X6_81 (iClues_s0 (iSW_clues hw)) (iClues_l0 (iSW_clues hw)) rfl dX6_count_262 ?_
    exact v_iret C hr dX6_count_265 h
  by_cases s1_18 : x1 = (18 : Int32)
  · replace h := h.2.2.2.2.2.2.2.2.2.2.2.2.2.2.2.2.2.2.1 s1_18
    refine v_tin (off := 265) C 266 18 (by rw [s1_18]; decide) (by decide) (by decide) (by decide) (by decide) dX6_count_1 ?_
    refine v_aloadn C 0 rfl rfl dX6_count_266 ?_
    refine v_getr (o' := 1) C fr_X6_10 sh_0 (Nat.le_of_ble_eq_true rfl) rfl (iSW_r0 hw) dX6_count_267 ?_
    refine v_geti C fr_X6_70 (iText_s0 (iSW_text hw)) (iText_l0 (iSW_text hw)) rfl dX6_count_270 ?_
    exact v_iret C hr dX6_count_273 h
  by_cases s1_19 : x1 = (19 : Int32)
  · replace h := h.2.2.2.2.2.2.2.2.2.2.2.2.2.2.2.2.2.2.2.1 s1_19
    refine v_tin (off := 273) C 274 19 (by rw [s1_19]; decide) (by decide) (by decide) (by decide) (by decide) dX6_count_1 ?_
    refine v_aloadn C 0 rfl rfl dX6_count_274 ?_
    refine v_getr (o' := 35) C fr_X6_39 sh_0 (Nat.le_of_ble_eq_true rfl) rfl (iSW_r5 hw) dX6_count_275 ?_
    refine v_geti C fr_X6_78 (iHist_s0 (iSW_hist hw)) (iHist_l0 (iSW_hist hw)) rfl dX6_count_278 ?_
    exact v_iret C hr dX6_count_281 h
  replace h := h.2.2.2.2.2.2.2.2.2.2.2.2.2.2.2.2.2.2.2.2 s1_0 s1_1 s1_2 s1_3 s1_4 s1_5 s1_6 s1_7 s1_8 s1_9 s1_10 s1_11 s1_12 s1_13 s1_14 s1_15 s1_16 s1_17 s1_18 s1_19
  have t1_0 := ne_ti 0 0 (by decide) s1_0
  have t1_1 := ne_ti 1 1 (by decide) s1_1
  have t1_2 := ne_ti 2 2 (by decide) s1_2
  have t1_3 := ne_ti 3 3 (by decide) s1_3
  have t1_4 := ne_ti 4 4 (by decide) s1_4
  have t1_5 := ne_ti 5 5 (by decide) s1_5
  have t1_6 := ne_ti 6 6 (by decide) s1_6
  have t1_7 := ne_ti 7 7 (by decide) s1_7
  have t1_8 := ne_ti 8 8 (by decide) s1_8
  have t1_9 := ne_ti 9 9 (by decide) s1_9
  have t1_10 := ne_ti 10 10 (by decide) s1_10
  have t1_11 := ne_ti 11 11 (by decide) s1_11
  have t1_12 := ne_ti 12 12 (by decide) s1_12
  have t1_13 := ne_ti 13 13 (by decide) s1_13
  have t1_14 := ne_ti 14 14 (by decide) s1_14
  have t1_15 := ne_ti 15 15 (by decide) s1_15
  have t1_16 := ne_ti 16 16 (by decide) s1_16
  have t1_17 := ne_ti 17 17 (by decide) s1_17
  have t1_18 := ne_ti 18 18 (by decide) s1_18
  have t1_19 := ne_ti 19 19 (by decide) s1_19
  refine v_tout C 282 (by omega) (by decide) dX6_count_1 ?_
  refine v_iconst C kc_m1 dX6_count_282 ?_
  exact v_iret C hr dX6_count_283 h
