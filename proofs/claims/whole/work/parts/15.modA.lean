abbrev rmX7_in : Room := { frames := 0, cells := 0, slots := 0, locals := 0 }
def wp_X7_in (x0 : Int32) (x1 : Int32) (x2 : Int32) (M : Mem) (K : Int32 → Mem → Prop) : Prop := (x0 < x1 → K (0 : Int32) M) ∧ (¬ x0 < x1 → (x2 < x0 → K (0 : Int32) M) ∧ (¬ x2 < x0 → K (1 : Int32) M))
set_option maxRecDepth 20000 in
theorem con_X7_in (l : Launch) (S : XS) (n : Nat) (R : Rfs) (x0 : Int32) (x1 : Int32) (x2 : Int32)  (M : Mem) (K : Int32 → Mem → Prop) (h : wp_X7_in x0 x1 x2 M K) : CI l yX7_in cX7_in 3 (some .boolean) rmX7_in S n R [.int x0, .int x1, .int x2] M K := by
  refine conI (lv := [(0, .int x0), (1, .int x1), (2, .int x2)]) (by decide) (Nat.le_of_ble_eq_true rfl) rfl ?_
  intro p e s m args below meth c C hr
  replace C : Cx p m meth c s args cX7_in RX7 3 S := C
  refine v_iloadn C 0 rfl rfl dX7_in_0 ?_
  refine v_iloadn C 1 rfl rfl dX7_in_1 ?_
  refine v_icmp_lt C 14 (by decide) dX7_in_2 (fun c1 => ?_) (fun c1 => ?_)
  · replace h := h.1 c1
    refine v_iconst C kc_0 dX7_in_14 ?_
    exact v_zret C isB0 hr dX7_in_15 h
  · replace h := h.2 c1
    refine v_iloadn C 0 rfl rfl dX7_in_5 ?_
    refine v_iloadn C 2 rfl rfl dX7_in_6 ?_
    refine v_icmp_gt C 14 (by decide) dX7_in_7 (fun c2 => ?_) (fun c2 => ?_)
    · replace h := h.1 c2
      refine v_iconst C kc_0 dX7_in_14 ?_
      exact v_zret C isB0 hr dX7_in_15 h
    · replace h := h.2 c2
      refine v_iconst C kc_1 dX7_in_10 ?_
      refine v_goto C 15 (by decide) dX7_in_11 ?_
      exact v_zret C isB1 hr dX7_in_15 h
abbrev rmX7_size : Room := { frames := 0, cells := 0, slots := 0, locals := 0 }
def wp_X7_size (x0 : Int32) (M : Mem) (K : Int32 → Mem → Prop) : Prop := (0 ≤ x0 → K x0 M) ∧ (¬ 0 ≤ x0 → K (-x0) M)
set_option maxRecDepth 20000 in
theorem con_X7_size (l : Launch) (S : XS) (n : Nat) (R : Rfs) (x0 : Int32)  (M : Mem) (K : Int32 → Mem → Prop) (h : wp_X7_size x0 M K) : CI l yX7_size cX7_size 1 (some .int) rmX7_size S n R [.int x0] M K := by
  refine conI (lv := [(0, .int x0)]) (by decide) (Nat.le_of_ble_eq_true rfl) rfl ?_
  intro p e s m args below meth c C hr
  replace C : Cx p m meth c s args cX7_size RX7 1 S := C
  refine v_iloadn C 0 rfl rfl dX7_size_0 ?_
  refine v_if_ge C 9 (by decide) dX7_size_1 (fun c1 => ?_) (fun c1 => ?_)
  · replace h := h.1 c1
    refine v_iloadn C 0 rfl rfl dX7_size_9 ?_
    exact v_iret C hr dX7_size_10 h
  · replace h := h.2 c1
    refine v_iloadn C 0 rfl rfl dX7_size_4 ?_
    refine v_ineg C dX7_size_5 ?_
    refine v_goto C 10 (by decide) dX7_size_6 ?_
    exact v_iret C hr dX7_size_10 h
abbrev rmX7_begins : Room := { frames := 0, cells := 0, slots := 0, locals := 0 }
def L_X7_begins_40   (K : Mem → Prop) : Nat → Int32 → Mem → Prop
  | 0, _, _ => False
  | k + 1, x1, M => ((4 : Int32) ≤ x1 → K M) ∧ (¬ (4 : Int32) ≤ x1 → vp_in x1 4 ∧ (∀ M9 : Mem, M9 = mw M 147 (ix x1) (0 : Int32) → L_X7_begins_40  K k (x1 + (1 : Int32)) M9))
def wp_X7_begins (M : Mem) (K : Mem → Prop) : Prop := (∀ M1 : Mem, M1 = mw M 130 17 (1 : Int32) → (∀ M2 : Mem, M2 = mw M1 130 18 (0 : Int32) → (∀ M3 : Mem, M3 = mw M2 146 0 (3 : Int32) → (∀ M4 : Mem, M4 = mw M3 146 1 (3 : Int32) → (∀ M5 : Mem, M5 = mw M4 146 2 (1 : Int32) → (∀ M6 : Mem, M6 = mw M5 146 3 (5 : Int32) → ∃ j7 : Nat, L_X7_begins_40  K j7 ((0 : Int32)) M6))))))
set_option maxRecDepth 20000 in
theorem tl_X7_begins_40 {p : Program} {e : Env} {s : State} {m : MethodId} {args : Array Value} {below : List Frame} {meth : Method} {c : Code} (l : Launch) (S : XS) (R : Rfs)  (hm : isMod R) (C : Cx p m meth c s args cX7_begins RX7 2 S) (hr : meth.sig.returnType = none) (K : Mem → Prop)   (k : Nat) : ∀ (x1 : Int32) (M : Mem), L_X7_begins_40   K k x1 M → V p l e rmX7_begins s m args below meth c (MQ below (va_Qv K (XPost S 148 R) (XA S)) args s 0 0 (XA S)) S 2 0 0 148 M R 40 [(0, .ref (XB S + 130)), (1, .int x1)] [] := by
  induction k with
  | zero => intro x1 M h; exact h.elim
  | succ k ih =>
    intro x1 M h
    refine v_iloadn C 1 rfl rfl dX7_begins_40 ?_
    refine v_iconst C kc_4 dX7_begins_41 ?_
    refine v_icmp_ge C 58 (by decide) dX7_begins_42 (fun c8 => ?_) (fun c8 => ?_)
    · replace h := h.1 c8
      exact v_vret C hr dX7_begins_58 h
    · replace h := h.2 c8
      refine v_aloadn C 0 rfl rfl dX7_begins_45 ?_
      refine v_getr (o' := 147) C fr_X7_59 sh_130 (Nat.le_of_ble_eq_true rfl) rfl (iMod_r23 hm) dX7_begins_46 ?_
      refine v_iloadn C 1 rfl rfl dX7_begins_49 ?_
      refine v_iconst C kc_0 dX7_begins_50 ?_
      have hi9 := h.1
      replace h := h.2
      refine v_zast C sh_147 (Nat.le_of_ble_eq_true rfl) isB0 hi9 dX7_begins_51 (fun M9 e9 => ?_)
      replace h := h M9 e9
      refine v_iinc (lv' := [(1, .int (x1 + (1 : Int32))), (0, .ref (XB S + 130))]) C 1 rfl kc_1 rfl rfl (Nat.le_of_ble_eq_true rfl) dX7_begins_52 ?_
      refine v_goto C 40 (by decide) dX7_begins_55 ?_
      refine v_loc [1, 0] rfl ?_
      exact ih ((x1 + (1 : Int32))) M9 h
set_option maxRecDepth 20000 in
theorem con_X7_begins (l : Launch) (S : XS) (R : Rfs)  (hm : isMod R) (M : Mem) (K : Mem → Prop) (h : wp_X7_begins  M K) : CV l yX7_begins cX7_begins 2 rmX7_begins S 148 R [.ref (XB S + 130)] M K := by
  refine conV (lv := [(0, .ref (XB S + 130))]) (by decide) (Nat.le_of_ble_eq_true rfl) rfl ?_
  intro p e s m args below meth c C hr
  replace C : Cx p m meth c s args cX7_begins RX7 2 S := C
  refine v_aloadn C 0 rfl rfl dX7_begins_0 ?_
  refine v_iconst C kc_1 dX7_begins_1 ?_
  refine v_puti C fr_X7_68 sh_130 (Nat.le_of_ble_eq_true rfl) rfl dX7_begins_2 (fun M1 e1 => ?_)
  replace h := h M1 e1
  refine v_aloadn C 0 rfl rfl dX7_begins_5 ?_
  refine v_iconst C kc_0 dX7_begins_6 ?_
  refine v_puti C fr_X7_72 sh_130 (Nat.le_of_ble_eq_true rfl) rfl dX7_begins_7 (fun M2 e2 => ?_)
  replace h := h M2 e2
  refine v_aloadn C 0 rfl rfl dX7_begins_10 ?_
  refine v_getr (o' := 146) C fr_X7_56 sh_130 (Nat.le_of_ble_eq_true rfl) rfl (iMod_r22 hm) dX7_begins_11 ?_
  refine v_iconst C kc_0 dX7_begins_14 ?_
  refine v_iconst C kc_3 dX7_begins_15 ?_
  refine v_astk C sh_146 (Nat.le_of_ble_eq_true rfl) lit_0 (Nat.le_of_ble_eq_true rfl) dX7_begins_16 (fun M3 e3 => ?_)
  replace h := h M3 e3
  refine v_aloadn C 0 rfl rfl dX7_begins_17 ?_
  refine v_getr (o' := 146) C fr_X7_56 sh_130 (Nat.le_of_ble_eq_true rfl) rfl (iMod_r22 hm) dX7_begins_18 ?_
  refine v_iconst C kc_1 dX7_begins_21 ?_
  refine v_iconst C kc_3 dX7_begins_22 ?_
  refine v_astk C sh_146 (Nat.le_of_ble_eq_true rfl) lit_1 (Nat.le_of_ble_eq_true rfl) dX7_begins_23 (fun M4 e4 => ?_)
  replace h := h M4 e4
  refine v_aloadn C 0 rfl rfl dX7_begins_24 ?_
  refine v_getr (o' := 146) C fr_X7_56 sh_130 (Nat.le_of_ble_eq_true rfl) rfl (iMod_r22 hm) dX7_begins_25 ?_
  refine v_iconst C kc_2 dX7_begins_28 ?_
  refine v_iconst C kc_1 dX7_begins_29 ?_
  refine v_astk C sh_146 (Nat.le_of_ble_eq_true rfl) lit_2 (Nat.le_of_ble_eq_true rfl) dX7_begins_30 (fun M5 e5 => ?_)
  replace h := h M5 e5
  refine v_aloadn C 0 rfl rfl dX7_begins_31 ?_
  refine v_getr (o' := 146) C fr_X7_56 sh_130 (Nat.le_of_ble_eq_true rfl) rfl (iMod_r22 hm) dX7_begins_32 ?_
  refine v_iconst C kc_3 dX7_begins_35 ?_
  refine v_iconst C kc_5 dX7_begins_36 ?_
  refine v_astk C sh_146 (Nat.le_of_ble_eq_true rfl) lit_3 (Nat.le_of_ble_eq_true rfl) dX7_begins_37 (fun M6 e6 => ?_)
  replace h := h M6 e6
  refine v_iconst C kc_0 dX7_begins_38 ?_
  refine v_istoren (lv' := [(1, .int (0 : Int32)), (0, .ref (XB S + 130))]) C rfl rfl (Nat.le_of_ble_eq_true rfl) dX7_begins_39 ?_
  refine v_loc [1, 0] rfl ?_
  obtain ⟨k7, h⟩ := h
  exact tl_X7_begins_40 l S R  hm C hr K   k7 ((0 : Int32)) M6 h
abbrev rmX7_takes : Room := { frames := 0, cells := 0, slots := 0, locals := 0 }
def wp_X7_takes_197   (K : Mem → Prop) (y0 : Int32) (M : Mem) : Prop := (∀ M17 : Mem, M17 = mw M 131 2 y0 → (∀ M18 : Mem, M18 = mw M17 131 4 (1 : Int32) → (∀ M19 : Mem, M19 = mw M18 130 3 (0 : Int32) → (∀ M20 : Mem, M20 = mw M19 130 9 (0 : Int32) → (∀ M21 : Mem, M21 = mw M20 135 0 (0 : Int32) → (∀ M22 : Mem, M22 = mw M21 135 1 (0 : Int32) → K M22))))))
def wp_X7_takes_174   (K : Mem → Prop) (y0 : Int32) (M : Mem) : Prop := (∀ M15 : Mem, M15 = mw M 131 1 y0 → ((M15 130 13) ≤ 0 → wp_X7_takes_197   K ((0 : Int32)) M15) ∧ (¬ (M15 130 13) ≤ 0 → wp_X7_takes_197   K ((M15 140 0)) M15))
def L_X7_takes_130   (K : Mem → Prop) : Nat → Int32 → Mem → Prop
  | 0, _, _ => False
  | k + 1, x1, M => ((349 : Int32) ≤ x1 → (∀ M12 : Mem, M12 = mw M 131 0 (1 : Int32) → ((M12 130 13) ≤ 0 → wp_X7_takes_174   K ((-1 : Int32)) M12) ∧ (¬ (M12 130 13) ≤ 0 → wp_X7_takes_174   K ((0 : Int32)) M12))) ∧ (¬ (349 : Int32) ≤ x1 → vp_in x1 349 ∧ (∀ M14 : Mem, M14 = mw M 131 (ix x1) (0 : Int32) → L_X7_takes_130  K k (x1 + (1 : Int32)) M14))
def L_X7_takes_92   (K : Mem → Prop) : Nat → Int32 → Mem → Prop
  | 0, _, _ => False
  | k + 1, x1, M => ((8 : Int32) ≤ x1 → ∃ j8 : Nat, L_X7_takes_130   K j8 ((0 : Int32)) M) ∧ (¬ (8 : Int32) ≤ x1 → vp_in x1 8 ∧ (vp_in x1 8 ∧ (∀ M9 : Mem, M9 = mw M 140 (ix x1) (M 144 (ix x1)) → vp_in x1 8 ∧ (vp_in x1 8 ∧ (∀ M10 : Mem, M10 = mw M9 141 (ix x1) (M9 145 (ix x1)) → L_X7_takes_92  K k (x1 + (1 : Int32)) M10)))))
def wp_X7_takes_71  (X18 : Int32 → Mem → Prop) (K : Mem → Prop) (x1 y0 y1 : Int32) (M : Mem) : Prop := vp_in y1 4 ∧ (∀ M25 : Mem, M25 = mw M 139 (ix y1) y0 → vp_in x1 4 ∧ (vp_in x1 4 ∧ (∀ M26 : Mem, M26 = mw M25 142 (ix x1) (M25 146 (ix x1)) → X18 (x1 + (1 : Int32)) M26)))
def wp_X7_takes_42  (X18 : Int32 → Mem → Prop) (K : Mem → Prop) (x1 y0 y1 : Int32) (M : Mem) : Prop := vp_in y1 4 ∧ (∀ M23 : Mem, M23 = mw M 138 (ix y1) y0 → (¬ x1 = 0 → vp_in (x1 - (1 : Int32)) 4 ∧ (vp_in x1 4 ∧ (wp_X7_takes_71  X18 K (x1) (((M23 139 (ix (x1 - (1 : Int32)))) + (M23 138 (ix x1)))) (x1) M23))) ∧ (x1 = 0 → wp_X7_takes_71  X18 K (x1) ((0 : Int32)) (x1) M23))
def L_X7_takes_18   (K : Mem → Prop) : Nat → Int32 → Mem → Prop
  | 0, _, _ => False
  | k + 1, x1, M => ((4 : Int32) ≤ x1 → ∃ j5 : Nat, L_X7_takes_92   K j5 ((0 : Int32)) M) ∧ (¬ (4 : Int32) ≤ x1 → (¬ x1 = 0 → vp_in x1 4 ∧ (wp_X7_takes_42  (fun x1 M => L_X7_takes_18   K k x1 M) K (x1) ((M 143 (ix x1))) (x1) M)) ∧ (x1 = 0 → wp_X7_takes_42  (fun x1 M => L_X7_takes_18   K k x1 M) K (x1) ((0 : Int32)) (x1) M))
def wp_X7_takes (M : Mem) (K : Mem → Prop) : Prop := (∀ M1 : Mem, M1 = mw M 130 10 (M 130 17) → (∀ M2 : Mem, M2 = mw M1 130 13 (M1 130 18) → ∃ j3 : Nat, L_X7_takes_18  K j3 ((0 : Int32)) M2))
set_option maxRecDepth 20000 in
theorem tb_X7_takes_197 {p : Program} {e : Env} {s : State} {m : MethodId} {args : Array Value} {below : List Frame} {meth : Method} {c : Code} (l : Launch) (S : XS) (R : Rfs)  (hm : isMod R) (C : Cx p m meth c s args cX7_takes RX7 2 S) (hr : meth.sig.returnType = none) (K : Mem → Prop)   (y0 : Int32) (M : Mem) (h : wp_X7_takes_197   K y0 M) : V p l e rmX7_takes s m args below meth c (MQ below (va_Qv K (XPost S 148 R) (XA S)) args s 0 0 (XA S)) S 2 0 0 148 M R 197 [(0, .ref (XB S + 130))] [.int y0, .int (2 : Int32), .ref (XB S + 131)] := by
  refine v_astk C sh_131 (Nat.le_of_ble_eq_true rfl) lit_2 (Nat.le_of_ble_eq_true rfl) dX7_takes_197 (fun M17 e17 => ?_)
  replace h := h M17 e17
  refine v_aloadn C 0 rfl rfl dX7_takes_198 ?_
  refine v_getr (o' := 131) C fr_X7_7 sh_130 (Nat.le_of_ble_eq_true rfl) rfl (iMod_r0 hm) dX7_takes_199 ?_
  refine v_iconst C kc_4 dX7_takes_202 ?_
  refine v_iconst C kc_1 dX7_takes_203 ?_
  refine v_astk C sh_131 (Nat.le_of_ble_eq_true rfl) lit_4 (Nat.le_of_ble_eq_true rfl) dX7_takes_204 (fun M18 e18 => ?_)
  replace h := h M18 e18
  refine v_aloadn C 0 rfl rfl dX7_takes_205 ?_
  refine v_iconst C kc_0 dX7_takes_206 ?_
  refine v_puti C fr_X7_81 sh_130 (Nat.le_of_ble_eq_true rfl) rfl dX7_takes_207 (fun M19 e19 => ?_)
  replace h := h M19 e19
  refine v_aloadn C 0 rfl rfl dX7_takes_210 ?_
  refine v_iconst C kc_0 dX7_takes_211 ?_
  refine v_puti C fr_X7_84 sh_130 (Nat.le_of_ble_eq_true rfl) rfl dX7_takes_212 (fun M20 e20 => ?_)
  replace h := h M20 e20
  refine v_aloadn C 0 rfl rfl dX7_takes_215 ?_
  refine v_getr (o' := 135) C fr_X7_22 sh_130 (Nat.le_of_ble_eq_true rfl) rfl (iMod_r5 hm) dX7_takes_216 ?_
  refine v_iconst C kc_0 dX7_takes_219 ?_
  refine v_iconst C kc_0 dX7_takes_220 ?_
  refine v_zastk C sh_135 (Nat.le_of_ble_eq_true rfl) isB0 lit_0 (Nat.le_of_ble_eq_true rfl) dX7_takes_221 (fun M21 e21 => ?_)
  replace h := h M21 e21
  refine v_aloadn C 0 rfl rfl dX7_takes_222 ?_
  refine v_getr (o' := 135) C fr_X7_22 sh_130 (Nat.le_of_ble_eq_true rfl) rfl (iMod_r5 hm) dX7_takes_223 ?_
  refine v_iconst C kc_1 dX7_takes_226 ?_
  refine v_iconst C kc_0 dX7_takes_227 ?_
  refine v_zastk C sh_135 (Nat.le_of_ble_eq_true rfl) isB0 lit_1 (Nat.le_of_ble_eq_true rfl) dX7_takes_228 (fun M22 e22 => ?_)
  replace h := h M22 e22
  exact v_vret C hr dX7_takes_229 h
set_option maxRecDepth 20000 in
theorem tb_X7_takes_174 {p : Program} {e : Env} {s : State} {m : MethodId} {args : Array Value} {below : List Frame} {meth : Method} {c : Code} (l : Launch) (S : XS) (R : Rfs)  (hm : isMod R) (C : Cx p m meth c s args cX7_takes RX7 2 S) (hr : meth.sig.returnType = none) (K : Mem → Prop)   (y0 : Int32) (M : Mem) (h : wp_X7_takes_174   K y0 M) : V p l e rmX7_takes s m args below meth c (MQ below (va_Qv K (XPost S 148 R) (XA S)) args s 0 0 (XA S)) S 2 0 0 148 M R 174 [(0, .ref (XB S + 130))] [.int y0, .int (1 : Int32), .ref (XB S + 131)] := by
  refine v_astk C sh_131 (Nat.le_of_ble_eq_true rfl) lit_1 (Nat.le_of_ble_eq_true rfl) dX7_takes_174 (fun M15 e15 => ?_)
  replace h := h M15 e15
  refine v_aloadn C 0 rfl rfl dX7_takes_175 ?_
  refine v_getr (o' := 131) C fr_X7_7 sh_130 (Nat.le_of_ble_eq_true rfl) rfl (iMod_r0 hm) dX7_takes_176 ?_
  refine v_iconst C kc_2 dX7_takes_179 ?_
  refine v_aloadn C 0 rfl rfl dX7_takes_180 ?_
  refine v_geti C fr_X7_78 sh_130 (Nat.le_of_ble_eq_true rfl) rfl dX7_takes_181 ?_
  refine v_if_le C 196 (by decide) dX7_takes_184 (fun c16 => ?_) (fun c16 => ?_)
  · replace h := h.1 c16
    refine v_iconst C kc_0 dX7_takes_196 ?_
    exact tb_X7_takes_197 l S R  hm C hr K   ((0 : Int32)) M15 h
  · replace h := h.2 c16
    refine v_aloadn C 0 rfl rfl dX7_takes_187 ?_
    refine v_getr (o' := 140) C fr_X7_38 sh_130 (Nat.le_of_ble_eq_true rfl) rfl (iMod_r14 hm) dX7_takes_188 ?_
    refine v_iconst C kc_0 dX7_takes_191 ?_
    refine v_aldk C sh_140 (Nat.le_of_ble_eq_true rfl) lit_0 (Nat.le_of_ble_eq_true rfl) dX7_takes_192 ?_
    refine v_goto C 197 (by decide) dX7_takes_193 ?_
    exact tb_X7_takes_197 l S R  hm C hr K   ((M15 140 0)) M15 h
set_option maxRecDepth 20000 in
theorem tl_X7_takes_130 {p : Program} {e : Env} {s : State} {m : MethodId} {args : Array Value} {below : List Frame} {meth : Method} {c : Code} (l : Launch) (S : XS) (R : Rfs)  (hm : isMod R) (C : Cx p m meth c s args cX7_takes RX7 2 S) (hr : meth.sig.returnType = none) (K : Mem → Prop)   (k : Nat) : ∀ (x1 : Int32) (M : Mem), L_X7_takes_130   K k x1 M → V p l e rmX7_takes s m args below meth c (MQ below (va_Qv K (XPost S 148 R) (XA S)) args s 0 0 (XA S)) S 2 0 0 148 M R 130 [(0, .ref (XB S + 130)), (1, .int x1)] [] := by
  induction k with
  | zero => intro x1 M h; exact h.elim
  | succ k ih =>
    intro x1 M h
    refine v_iloadn C 1 rfl rfl dX7_takes_130 ?_
    refine v_sipush C ks_349 dX7_takes_131 ?_
    refine v_icmp_ge C 150 (by decide) dX7_takes_134 (fun c11 => ?_) (fun c11 => ?_)
    · replace h := h.1 c11
      refine v_aloadn C 0 rfl rfl dX7_takes_150 ?_
      refine v_getr (o' := 131) C fr_X7_7 sh_130 (Nat.le_of_ble_eq_true rfl) rfl (iMod_r0 hm) dX7_takes_151 ?_
      refine v_iconst C kc_0 dX7_takes_154 ?_
      refine v_iconst C kc_1 dX7_takes_155 ?_
      refine v_astk C sh_131 (Nat.le_of_ble_eq_true rfl) lit_0 (Nat.le_of_ble_eq_true rfl) dX7_takes_156 (fun M12 e12 => ?_)
      replace h := h M12 e12
      refine v_aloadn C 0 rfl rfl dX7_takes_157 ?_
      refine v_getr (o' := 131) C fr_X7_7 sh_130 (Nat.le_of_ble_eq_true rfl) rfl (iMod_r0 hm) dX7_takes_158 ?_
      refine v_iconst C kc_1 dX7_takes_161 ?_
      refine v_aloadn C 0 rfl rfl dX7_takes_162 ?_
      refine v_geti C fr_X7_78 sh_130 (Nat.le_of_ble_eq_true rfl) rfl dX7_takes_163 ?_
      refine v_if_le C 173 (by decide) dX7_takes_166 (fun c13 => ?_) (fun c13 => ?_)
      · replace h := h.1 c13
        refine v_iconst C kc_m1 dX7_takes_173 ?_
        refine v_loc [0] rfl ?_
        exact tb_X7_takes_174 l S R  hm C hr K   ((-1 : Int32)) M12 h
      · replace h := h.2 c13
        refine v_iconst C kc_0 dX7_takes_169 ?_
        refine v_goto C 174 (by decide) dX7_takes_170 ?_
        refine v_loc [0] rfl ?_
        exact tb_X7_takes_174 l S R  hm C hr K   ((0 : Int32)) M12 h
    · replace h := h.2 c11
      refine v_aloadn C 0 rfl rfl dX7_takes_137 ?_
      refine v_getr (o' := 131) C fr_X7_7 sh_130 (Nat.le_of_ble_eq_true rfl) rfl (iMod_r0 hm) dX7_takes_138 ?_
      refine v_iloadn C 1 rfl rfl dX7_takes_141 ?_
      refine v_iconst C kc_0 dX7_takes_142 ?_
      have hi14 := h.1
      replace h := h.2
      refine v_ast C sh_131 (Nat.le_of_ble_eq_true rfl) hi14 dX7_takes_143 (fun M14 e14 => ?_)
      replace h := h M14 e14
      refine v_iinc (lv' := [(1, .int (x1 + (1 : Int32))), (0, .ref (XB S + 130))]) C 1 rfl kc_1 rfl rfl (Nat.le_of_ble_eq_true rfl) dX7_takes_144 ?_
      refine v_goto C 130 (by decide) dX7_takes_147 ?_
      refine v_loc [1, 0] rfl ?_
      exact ih ((x1 + (1 : Int32))) M14 h
set_option maxRecDepth 20000 in
theorem tl_X7_takes_92 {p : Program} {e : Env} {s : State} {m : MethodId} {args : Array Value} {below : List Frame} {meth : Method} {c : Code} (l : Launch) (S : XS) (R : Rfs)  (hm : isMod R) (C : Cx p m meth c s args cX7_takes RX7 2 S) (hr : meth.sig.returnType = none) (K : Mem → Prop)   (k : Nat) : ∀ (x1 : Int32) (M : Mem), L_X7_takes_92   K k x1 M → V p l e rmX7_takes s m args below meth c (MQ below (va_Qv K (XPost S 148 R) (XA S)) args s 0 0 (XA S)) S 2 0 0 148 M R 92 [(0, .ref (XB S + 130)), (1, .int x1)] [] := by
  induction k with
  | zero => intro x1 M h; exact h.elim
  | succ k ih =>
    intro x1 M h
    refine v_iloadn C 1 rfl rfl dX7_takes_92 ?_
    refine v_bipush C kb_8 dX7_takes_93 ?_
    refine v_icmp_ge C 128 (by decide) dX7_takes_95 (fun c7 => ?_) (fun c7 => ?_)
    · replace h := h.1 c7
      refine v_iconst C kc_0 dX7_takes_128 ?_
      refine v_istoren (lv' := [(1, .int (0 : Int32)), (0, .ref (XB S + 130))]) C rfl rfl (Nat.le_of_ble_eq_true rfl) dX7_takes_129 ?_
      refine v_loc [1, 0] rfl ?_
      obtain ⟨k8, h⟩ := h
      exact tl_X7_takes_130 l S R  hm C hr K   k8 ((0 : Int32)) M h
    · replace h := h.2 c7
      refine v_aloadn C 0 rfl rfl dX7_takes_98 ?_
      refine v_getr (o' := 140) C fr_X7_38 sh_130 (Nat.le_of_ble_eq_true rfl) rfl (iMod_r14 hm) dX7_takes_99 ?_
      refine v_iloadn C 1 rfl rfl dX7_takes_102 ?_
      refine v_aloadn C 0 rfl rfl dX7_takes_103 ?_
      refine v_getr (o' := 144) C fr_X7_50 sh_130 (Nat.le_of_ble_eq_true rfl) rfl (iMod_r20 hm) dX7_takes_104 ?_
      refine v_iloadn C 1 rfl rfl dX7_takes_107 ?_
      refine v_ald C sh_144 (Nat.le_of_ble_eq_true rfl) h.1 dX7_takes_108 ?_
      replace h := h.2
      have hi9 := h.1
      replace h := h.2
      refine v_ast C sh_140 (Nat.le_of_ble_eq_true rfl) hi9 dX7_takes_109 (fun M9 e9 => ?_)
      replace h := h M9 e9
      refine v_aloadn C 0 rfl rfl dX7_takes_110 ?_
      refine v_getr (o' := 141) C fr_X7_41 sh_130 (Nat.le_of_ble_eq_true rfl) rfl (iMod_r15 hm) dX7_takes_111 ?_
      refine v_iloadn C 1 rfl rfl dX7_takes_114 ?_
      refine v_aloadn C 0 rfl rfl dX7_takes_115 ?_
      refine v_getr (o' := 145) C fr_X7_53 sh_130 (Nat.le_of_ble_eq_true rfl) rfl (iMod_r21 hm) dX7_takes_116 ?_
      refine v_iloadn C 1 rfl rfl dX7_takes_119 ?_
      refine v_ald C sh_145 (Nat.le_of_ble_eq_true rfl) h.1 dX7_takes_120 ?_
      replace h := h.2
      have hi10 := h.1
      replace h := h.2
      refine v_ast C sh_141 (Nat.le_of_ble_eq_true rfl) hi10 dX7_takes_121 (fun M10 e10 => ?_)
      replace h := h M10 e10
      refine v_iinc (lv' := [(1, .int (x1 + (1 : Int32))), (0, .ref (XB S + 130))]) C 1 rfl kc_1 rfl rfl (Nat.le_of_ble_eq_true rfl) dX7_takes_122 ?_
      refine v_goto C 92 (by decide) dX7_takes_125 ?_
      refine v_loc [1, 0] rfl ?_
      exact ih ((x1 + (1 : Int32))) M10 h
set_option maxRecDepth 20000 in
theorem tb_X7_takes_71 {p : Program} {e : Env} {s : State} {m : MethodId} {args : Array Value} {below : List Frame} {meth : Method} {c : Code} (l : Launch) (S : XS) (R : Rfs)  (hm : isMod R) (C : Cx p m meth c s args cX7_takes RX7 2 S) (hr : meth.sig.returnType = none) (K : Mem → Prop) (X18 : Int32 → Mem → Prop) (hX18 : ∀ (x1 : Int32) (M : Mem), X18 x1 M → V p l e rmX7_takes s m args below meth c (MQ below (va_Qv K (XPost S 148 R) (XA S)) args s 0 0 (XA S)) S 2 0 0 148 M R 18 [(0, .ref (XB S + 130)), (1, .int x1)] []) (x1 y0 y1 : Int32) (M : Mem) (h : wp_X7_takes_71  X18 K x1 y0 y1 M) : V p l e rmX7_takes s m args below meth c (MQ below (va_Qv K (XPost S 148 R) (XA S)) args s 0 0 (XA S)) S 2 0 0 148 M R 71 [(0, .ref (XB S + 130)), (1, .int x1)] [.int y0, .int y1, .ref (XB S + 139)] := by
  have hi25 := h.1
  replace h := h.2
  refine v_ast C sh_139 (Nat.le_of_ble_eq_true rfl) hi25 dX7_takes_71 (fun M25 e25 => ?_)
  replace h := h M25 e25
  refine v_aloadn C 0 rfl rfl dX7_takes_72 ?_
  refine v_getr (o' := 142) C fr_X7_44 sh_130 (Nat.le_of_ble_eq_true rfl) rfl (iMod_r16 hm) dX7_takes_73 ?_
  refine v_iloadn C 1 rfl rfl dX7_takes_76 ?_
  refine v_aloadn C 0 rfl rfl dX7_takes_77 ?_
  refine v_getr (o' := 146) C fr_X7_56 sh_130 (Nat.le_of_ble_eq_true rfl) rfl (iMod_r22 hm) dX7_takes_78 ?_
  refine v_iloadn C 1 rfl rfl dX7_takes_81 ?_
  refine v_ald C sh_146 (Nat.le_of_ble_eq_true rfl) h.1 dX7_takes_82 ?_
  replace h := h.2
  have hi26 := h.1
  replace h := h.2
  refine v_ast C sh_142 (Nat.le_of_ble_eq_true rfl) hi26 dX7_takes_83 (fun M26 e26 => ?_)
  replace h := h M26 e26
  refine v_iinc (lv' := [(1, .int (x1 + (1 : Int32))), (0, .ref (XB S + 130))]) C 1 rfl kc_1 rfl rfl (Nat.le_of_ble_eq_true rfl) dX7_takes_84 ?_
  refine v_goto C 18 (by decide) dX7_takes_87 ?_
  refine v_loc [1, 0] rfl ?_
  exact hX18 ((x1 + (1 : Int32))) M26 h
set_option maxRecDepth 20000 in
theorem tb_X7_takes_42 {p : Program} {e : Env} {s : State} {m : MethodId} {args : Array Value} {below : List Frame} {meth : Method} {c : Code} (l : Launch) (S : XS) (R : Rfs)  (hm : isMod R) (C : Cx p m meth c s args cX7_takes RX7 2 S) (hr : meth.sig.returnType = none) (K : Mem → Prop) (X18 : Int32 → Mem → Prop) (hX18 : ∀ (x1 : Int32) (M : Mem), X18 x1 M → V p l e rmX7_takes s m args below meth c (MQ below (va_Qv K (XPost S 148 R) (XA S)) args s 0 0 (XA S)) S 2 0 0 148 M R 18 [(0, .ref (XB S + 130)), (1, .int x1)] []) (x1 y0 y1 : Int32) (M : Mem) (h : wp_X7_takes_42  X18 K x1 y0 y1 M) : V p l e rmX7_takes s m args below meth c (MQ below (va_Qv K (XPost S 148 R) (XA S)) args s 0 0 (XA S)) S 2 0 0 148 M R 42 [(0, .ref (XB S + 130)), (1, .int x1)] [.int y0, .int y1, .ref (XB S + 138)] := by
  have hi23 := h.1
  replace h := h.2
  refine v_ast C sh_138 (Nat.le_of_ble_eq_true rfl) hi23 dX7_takes_42 (fun M23 e23 => ?_)
  replace h := h M23 e23
  refine v_aloadn C 0 rfl rfl dX7_takes_43 ?_
  refine v_getr (o' := 139) C fr_X7_35 sh_130 (Nat.le_of_ble_eq_true rfl) rfl (iMod_r12 hm) dX7_takes_44 ?_
  refine v_iloadn C 1 rfl rfl dX7_takes_47 ?_
  refine v_iloadn C 1 rfl rfl dX7_takes_48 ?_
  refine v_if_ne C 56 (by decide) dX7_takes_49 (fun c24 => ?_) (fun c24 => ?_)
  · replace h := h.1 c24
    refine v_aloadn C 0 rfl rfl dX7_takes_56 ?_
    refine v_getr (o' := 139) C fr_X7_35 sh_130 (Nat.le_of_ble_eq_true rfl) rfl (iMod_r12 hm) dX7_takes_57 ?_
    refine v_iloadn C 1 rfl rfl dX7_takes_60 ?_
    refine v_iconst C kc_1 dX7_takes_61 ?_
    refine v_isub C dX7_takes_62 ?_
    refine v_ald C sh_139 (Nat.le_of_ble_eq_true rfl) h.1 dX7_takes_63 ?_
    replace h := h.2
    refine v_aloadn C 0 rfl rfl dX7_takes_64 ?_
    refine v_getr (o' := 138) C fr_X7_32 sh_130 (Nat.le_of_ble_eq_true rfl) rfl (iMod_r11 hm) dX7_takes_65 ?_
    refine v_iloadn C 1 rfl rfl dX7_takes_68 ?_
    refine v_ald C sh_138 (Nat.le_of_ble_eq_true rfl) h.1 dX7_takes_69 ?_
    replace h := h.2
    refine v_iadd C dX7_takes_70 ?_
    exact tb_X7_takes_71 l S R  hm C hr K X18 (hX18) (x1) (((M23 139 (ix (x1 - (1 : Int32)))) + (M23 138 (ix x1)))) (x1) M23 h
  · replace h := h.2 c24
    refine v_iconst C kc_0 dX7_takes_52 ?_
    refine v_goto C 71 (by decide) dX7_takes_53 ?_
    exact tb_X7_takes_71 l S R  hm C hr K X18 (hX18) (x1) ((0 : Int32)) (x1) M23 h
set_option maxRecDepth 20000 in
theorem tl_X7_takes_18 {p : Program} {e : Env} {s : State} {m : MethodId} {args : Array Value} {below : List Frame} {meth : Method} {c : Code} (l : Launch) (S : XS) (R : Rfs)  (hm : isMod R) (C : Cx p m meth c s args cX7_takes RX7 2 S) (hr : meth.sig.returnType = none) (K : Mem → Prop)   (k : Nat) : ∀ (x1 : Int32) (M : Mem), L_X7_takes_18   K k x1 M → V p l e rmX7_takes s m args below meth c (MQ below (va_Qv K (XPost S 148 R) (XA S)) args s 0 0 (XA S)) S 2 0 0 148 M R 18 [(0, .ref (XB S + 130)), (1, .int x1)] [] := by
  induction k with
  | zero => intro x1 M h; exact h.elim
  | succ k ih =>
    intro x1 M h
    refine v_iloadn C 1 rfl rfl dX7_takes_18 ?_
    refine v_iconst C kc_4 dX7_takes_19 ?_
    refine v_icmp_ge C 90 (by decide) dX7_takes_20 (fun c4 => ?_) (fun c4 => ?_)
    · replace h := h.1 c4
      refine v_iconst C kc_0 dX7_takes_90 ?_
      refine v_istoren (lv' := [(1, .int (0 : Int32)), (0, .ref (XB S + 130))]) C rfl rfl (Nat.le_of_ble_eq_true rfl) dX7_takes_91 ?_
      refine v_loc [1, 0] rfl ?_
      obtain ⟨k5, h⟩ := h
      exact tl_X7_takes_92 l S R  hm C hr K   k5 ((0 : Int32)) M h
    · replace h := h.2 c4
      refine v_aloadn C 0 rfl rfl dX7_takes_23 ?_
      refine v_getr (o' := 138) C fr_X7_32 sh_130 (Nat.le_of_ble_eq_true rfl) rfl (iMod_r11 hm) dX7_takes_24 ?_
      refine v_iloadn C 1 rfl rfl dX7_takes_27 ?_
      refine v_iloadn C 1 rfl rfl dX7_takes_28 ?_
      refine v_if_ne C 36 (by decide) dX7_takes_29 (fun c6 => ?_) (fun c6 => ?_)
      · replace h := h.1 c6
        refine v_aloadn C 0 rfl rfl dX7_takes_36 ?_
        refine v_getr (o' := 143) C fr_X7_47 sh_130 (Nat.le_of_ble_eq_true rfl) rfl (iMod_r19 hm) dX7_takes_37 ?_
        refine v_iloadn C 1 rfl rfl dX7_takes_40 ?_
        refine v_ald C sh_143 (Nat.le_of_ble_eq_true rfl) h.1 dX7_takes_41 ?_
        replace h := h.2
        exact tb_X7_takes_42 l S R  hm C hr K (fun x1 M => L_X7_takes_18   K k x1 M) (ih) (x1) ((M 143 (ix x1))) (x1) M h
      · replace h := h.2 c6
        refine v_iconst C kc_0 dX7_takes_32 ?_
        refine v_goto C 42 (by decide) dX7_takes_33 ?_
        exact tb_X7_takes_42 l S R  hm C hr K (fun x1 M => L_X7_takes_18   K k x1 M) (ih) (x1) ((0 : Int32)) (x1) M h
set_option maxRecDepth 20000 in
theorem con_X7_takes (l : Launch) (S : XS) (R : Rfs)  (hm : isMod R) (M : Mem) (K : Mem → Prop) (h : wp_X7_takes  M K) : CV l yX7_takes cX7_takes 2 rmX7_takes S 148 R [.ref (XB S + 130)] M K := by
  refine conV (lv := [(0, .ref (XB S + 130))]) (by decide) (Nat.le_of_ble_eq_true rfl) rfl ?_
  intro p e s m args below meth c C hr
  replace C : Cx p m meth c s args cX7_takes RX7 2 S := C
  refine v_aloadn C 0 rfl rfl dX7_takes_0 ?_
  refine v_aloadn C 0 rfl rfl dX7_takes_1 ?_
  refine v_geti C fr_X7_68 sh_130 (Nat.le_of_ble_eq_true rfl) rfl dX7_takes_2 ?_
  refine v_puti C fr_X7_75 sh_130 (Nat.le_of_ble_eq_true rfl) rfl dX7_takes_5 (fun M1 e1 => ?_)
  replace h := h M1 e1
  refine v_aloadn C 0 rfl rfl dX7_takes_8 ?_
  refine v_aloadn C 0 rfl rfl dX7_takes_9 ?_
  refine v_geti C fr_X7_72 sh_130 (Nat.le_of_ble_eq_true rfl) rfl dX7_takes_10 ?_
  refine v_puti C fr_X7_78 sh_130 (Nat.le_of_ble_eq_true rfl) rfl dX7_takes_13 (fun M2 e2 => ?_)
  replace h := h M2 e2
  refine v_iconst C kc_0 dX7_takes_16 ?_
  refine v_istoren (lv' := [(1, .int (0 : Int32)), (0, .ref (XB S + 130))]) C rfl rfl (Nat.le_of_ble_eq_true rfl) dX7_takes_17 ?_
  refine v_loc [1, 0] rfl ?_
  obtain ⟨k3, h⟩ := h
  exact tl_X7_takes_18 l S R  hm C hr K   k3 ((0 : Int32)) M2 h
abbrev rmX7_blanks : Room := { frames := 0, cells := 0, slots := 0, locals := 0 }
def L_X7_blanks_0   (K : Mem → Prop) : Nat → Mem → Prop
  | 0, _ => False
  | k + 1, M => ((M 130 7) ≤ (M 130 24) → (∀ M8 : Mem, M8 = mw M 130 25 (M 130 24) → K M8)) ∧ (¬ (M 130 7) ≤ (M 130 24) → vp_in (M 130 24) 120 ∧ ((¬ (M 136 (ix (M 130 24))) = (32 : Int32) → (∀ M10 : Mem, M10 = mw M 130 25 (M 130 24) → K M10)) ∧ ((M 136 (ix (M 130 24))) = (32 : Int32) → (∀ M11 : Mem, M11 = mw M 130 24 ((M 130 24) + (1 : Int32)) → L_X7_blanks_0  K k  M11))))
def wp_X7_blanks (M : Mem) (K : Mem → Prop) : Prop := ((M 130 7) ≤ (M 130 24) → (∀ M2 : Mem, M2 = mw M 130 25 (M 130 24) → K M2)) ∧ (¬ (M 130 7) ≤ (M 130 24) → vp_in (M 130 24) 120 ∧ ((¬ (M 136 (ix (M 130 24))) = (32 : Int32) → (∀ M4 : Mem, M4 = mw M 130 25 (M 130 24) → K M4)) ∧ ((M 136 (ix (M 130 24))) = (32 : Int32) → (∀ M5 : Mem, M5 = mw M 130 24 ((M 130 24) + (1 : Int32)) → ∃ j6 : Nat, L_X7_blanks_0  K j6 M5))))
set_option maxRecDepth 20000 in
theorem tl_X7_blanks_0 {p : Program} {e : Env} {s : State} {m : MethodId} {args : Array Value} {below : List Frame} {meth : Method} {c : Code} (l : Launch) (S : XS) (R : Rfs)  (hm : isMod R) (C : Cx p m meth c s args cX7_blanks RX7 1 S) (hr : meth.sig.returnType = none) (K : Mem → Prop)   (k : Nat) : ∀ (M : Mem), L_X7_blanks_0   K k  M → V p l e rmX7_blanks s m args below meth c (MQ below (va_Qv K (XPost S 148 R) (XA S)) args s 0 0 (XA S)) S 1 0 0 148 M R 0 [(0, .ref (XB S + 130))] [] := by
  induction k with
  | zero => intro  M h; exact h.elim
  | succ k ih =>
    intro  M h
    refine v_aloadn C 0 rfl rfl dX7_blanks_0 ?_
    refine v_geti C fr_X7_87 sh_130 (Nat.le_of_ble_eq_true rfl) rfl dX7_blanks_1 ?_
    refine v_aloadn C 0 rfl rfl dX7_blanks_4 ?_
    refine v_geti C fr_X7_90 sh_130 (Nat.le_of_ble_eq_true rfl) rfl dX7_blanks_5 ?_
    refine v_icmp_ge C 38 (by decide) dX7_blanks_8 (fun c7 => ?_) (fun c7 => ?_)
    · replace h := h.1 c7
      refine v_aloadn C 0 rfl rfl dX7_blanks_38 ?_
      refine v_aloadn C 0 rfl rfl dX7_blanks_39 ?_
      refine v_geti C fr_X7_87 sh_130 (Nat.le_of_ble_eq_true rfl) rfl dX7_blanks_40 ?_
      refine v_puti C fr_X7_93 sh_130 (Nat.le_of_ble_eq_true rfl) rfl dX7_blanks_43 (fun M8 e8 => ?_)
      replace h := h M8 e8
      exact v_vret C hr dX7_blanks_46 h
    · replace h := h.2 c7
      refine v_aloadn C 0 rfl rfl dX7_blanks_11 ?_
      refine v_getr (o' := 136) C fr_X7_26 sh_130 (Nat.le_of_ble_eq_true rfl) rfl (iMod_r6 hm) dX7_blanks_12 ?_
      refine v_aloadn C 0 rfl rfl dX7_blanks_15 ?_
      refine v_geti C fr_X7_87 sh_130 (Nat.le_of_ble_eq_true rfl) rfl dX7_blanks_16 ?_
      refine v_ald C sh_136 (Nat.le_of_ble_eq_true rfl) h.1 dX7_blanks_19 ?_
      replace h := h.2
      refine v_bipush C kb_32 dX7_blanks_20 ?_
      refine v_icmp_ne C 38 (by decide) dX7_blanks_22 (fun c9 => ?_) (fun c9 => ?_)
      · replace h := h.1 c9
        refine v_aloadn C 0 rfl rfl dX7_blanks_38 ?_
        refine v_aloadn C 0 rfl rfl dX7_blanks_39 ?_
        refine v_geti C fr_X7_87 sh_130 (Nat.le_of_ble_eq_true rfl) rfl dX7_blanks_40 ?_
        refine v_puti C fr_X7_93 sh_130 (Nat.le_of_ble_eq_true rfl) rfl dX7_blanks_43 (fun M10 e10 => ?_)
        replace h := h M10 e10
        exact v_vret C hr dX7_blanks_46 h
      · replace h := h.2 c9
        refine v_aloadn C 0 rfl rfl dX7_blanks_25 ?_
        refine v_dup C rfl dX7_blanks_26 ?_
        refine v_geti C fr_X7_87 sh_130 (Nat.le_of_ble_eq_true rfl) rfl dX7_blanks_27 ?_
        refine v_iconst C kc_1 dX7_blanks_30 ?_
        refine v_iadd C dX7_blanks_31 ?_
        refine v_puti C fr_X7_87 sh_130 (Nat.le_of_ble_eq_true rfl) rfl dX7_blanks_32 (fun M11 e11 => ?_)
        replace h := h M11 e11
        refine v_goto C 0 (by decide) dX7_blanks_35 ?_
        exact ih  M11 h
set_option maxRecDepth 20000 in
theorem con_X7_blanks (l : Launch) (S : XS) (R : Rfs)  (hm : isMod R) (M : Mem) (K : Mem → Prop) (h : wp_X7_blanks  M K) : CV l yX7_blanks cX7_blanks 1 rmX7_blanks S 148 R [.ref (XB S + 130)] M K := by
  refine conV (lv := [(0, .ref (XB S + 130))]) (by decide) (Nat.le_of_ble_eq_true rfl) rfl ?_
  intro p e s m args below meth c C hr
  replace C : Cx p m meth c s args cX7_blanks RX7 1 S := C
  refine v_aloadn C 0 rfl rfl dX7_blanks_0 ?_
  refine v_geti C fr_X7_87 sh_130 (Nat.le_of_ble_eq_true rfl) rfl dX7_blanks_1 ?_
  refine v_aloadn C 0 rfl rfl dX7_blanks_4 ?_
  refine v_geti C fr_X7_90 sh_130 (Nat.le_of_ble_eq_true rfl) rfl dX7_blanks_5 ?_
  refine v_icmp_ge C 38 (by decide) dX7_blanks_8 (fun c1 => ?_) (fun c1 => ?_)
  · replace h := h.1 c1
    refine v_aloadn C 0 rfl rfl dX7_blanks_38 ?_
    refine v_aloadn C 0 rfl rfl dX7_blanks_39 ?_
    refine v_geti C fr_X7_87 sh_130 (Nat.le_of_ble_eq_true rfl) rfl dX7_blanks_40 ?_
    refine v_puti C fr_X7_93 sh_130 (Nat.le_of_ble_eq_true rfl) rfl dX7_blanks_43 (fun M2 e2 => ?_)
    replace h := h M2 e2
    exact v_vret C hr dX7_blanks_46 h
  · replace h := h.2 c1
    refine v_aloadn C 0 rfl rfl dX7_blanks_11 ?_
    refine v_getr (o' := 136) C fr_X7_26 sh_130 (Nat.le_of_ble_eq_true rfl) rfl (iMod_r6 hm) dX7_blanks_12 ?_
    refine v_aloadn C 0 rfl rfl dX7_blanks_15 ?_
    refine v_geti C fr_X7_87 sh_130 (Nat.le_of_ble_eq_true rfl) rfl dX7_blanks_16 ?_
    refine v_ald C sh_136 (Nat.le_of_ble_eq_true rfl) h.1 dX7_blanks_19 ?_
    replace h := h.2
    refine v_bipush C kb_32 dX7_blanks_20 ?_
    refine v_icmp_ne C 38 (by decide) dX7_blanks_22 (fun c3 => ?_) (fun c3 => ?_)
    · replace h := h.1 c3
      refine v_aloadn C 0 rfl rfl dX7_blanks_38 ?_
      refine v_aloadn C 0 rfl rfl dX7_blanks_39 ?_
      refine v_geti C fr_X7_87 sh_130 (Nat.le_of_ble_eq_true rfl) rfl dX7_blanks_40 ?_
      refine v_puti C fr_X7_93 sh_130 (Nat.le_of_ble_eq_true rfl) rfl dX7_blanks_43 (fun M4 e4 => ?_)
      replace h := h M4 e4
      exact v_vret C hr dX7_blanks_46 h
    · replace h := h.2 c3
      refine v_aloadn C 0 rfl rfl dX7_blanks_25 ?_
      refine v_dup C rfl dX7_blanks_26 ?_
      refine v_geti C fr_X7_87 sh_130 (Nat.le_of_ble_eq_true rfl) rfl dX7_blanks_27 ?_
      refine v_iconst C kc_1 dX7_blanks_30 ?_
      refine v_iadd C dX7_blanks_31 ?_
      refine v_puti C fr_X7_87 sh_130 (Nat.le_of_ble_eq_true rfl) rfl dX7_blanks_32 (fun M5 e5 => ?_)
      replace h := h M5 e5
      refine v_goto C 0 (by decide) dX7_blanks_35 ?_
      obtain ⟨k6, h⟩ := h
      exact tl_X7_blanks_0 l S R  hm C hr K   k6  M5 h
abbrev rmX7_isAt : Room := { frames := 1, cells := 0, slots := 0, locals := 22 }
def wp_X7_isAt (x1 : Int32) (x2 : Int32) (M : Mem) (K : Int32 → Mem → Prop) : Prop := ((M 130 7) ≤ (M 130 24) → K (0 : Int32) M) ∧ (¬ (M 130 7) ≤ (M 130 24) → vp_in (M 130 24) 120 ∧ (wp_X7_in ((M 136 (ix (M 130 24)))) (x1) (x2) M (fun r2 M2 => (r2 = 0 → K (0 : Int32) M2) ∧ (¬ r2 = 0 → K (1 : Int32) M2))))
set_option maxRecDepth 20000 in
theorem con_X7_isAt (l : Launch) (S : XS) (R : Rfs) (x1 : Int32) (x2 : Int32) (hm : isMod R) (M : Mem) (K : Int32 → Mem → Prop) (h : wp_X7_isAt x1 x2 M K) : CI l yX7_isAt cX7_isAt 3 (some .boolean) rmX7_isAt S 148 R [.ref (XB S + 130), .int x1, .int x2] M K := by
  refine conI (lv := [(0, .ref (XB S + 130)), (1, .int x1), (2, .int x2)]) (by decide) (Nat.le_of_ble_eq_true rfl) rfl ?_
  intro p e s m args below meth c C hr
  replace C : Cx p m meth c s args cX7_isAt RX7 3 S := C
  refine v_aloadn C 0 rfl rfl dX7_isAt_0 ?_
  refine v_geti C fr_X7_87 sh_130 (Nat.le_of_ble_eq_true rfl) rfl dX7_isAt_1 ?_
  refine v_aloadn C 0 rfl rfl dX7_isAt_4 ?_
  refine v_geti C fr_X7_90 sh_130 (Nat.le_of_ble_eq_true rfl) rfl dX7_isAt_5 ?_
  refine v_icmp_ge C 32 (by decide) dX7_isAt_8 (fun c1 => ?_) (fun c1 => ?_)
  · replace h := h.1 c1
    refine v_iconst C kc_0 dX7_isAt_32 ?_
    exact v_zret C isB0 hr dX7_isAt_33 h
  · replace h := h.2 c1
    refine v_aloadn C 0 rfl rfl dX7_isAt_11 ?_
    refine v_getr (o' := 136) C fr_X7_26 sh_130 (Nat.le_of_ble_eq_true rfl) rfl (iMod_r6 hm) dX7_isAt_12 ?_
    refine v_aloadn C 0 rfl rfl dX7_isAt_15 ?_
    refine v_geti C fr_X7_87 sh_130 (Nat.le_of_ble_eq_true rfl) rfl dX7_isAt_16 ?_
    refine v_ald C sh_136 (Nat.le_of_ble_eq_true rfl) h.1 dX7_isAt_19 ?_
    replace h := h.2
    refine v_iloadn C 1 rfl rfl dX7_isAt_20 ?_
    refine v_iloadn C 2 rfl rfl dX7_isAt_21 ?_
    refine v_csI (As := [.int (M 136 (ix (M 130 24))), .int x1, .int x2]) C ms_X7_96 (con_X7_in l S 148 R ((M 136 (ix (M 130 24)))) (x1) (x2)  _ _ h) rfl ⟨(Nat.le_of_ble_eq_true rfl), (Nat.le_of_ble_eq_true rfl)⟩ ⟨rfl, rfl, Nat.zero_le _, Nat.zero_le _⟩ (Nat.le_of_ble_eq_true rfl) dX7_isAt_22 (fun r2 M2 h => ?_)
    refine v_if_eq C 32 (by decide) dX7_isAt_25 (fun c3 => ?_) (fun c3 => ?_)
    · replace h := h.1 c3
      refine v_iconst C kc_0 dX7_isAt_32 ?_
      exact v_zret C isB0 hr dX7_isAt_33 h
    · replace h := h.2 c3
      refine v_iconst C kc_1 dX7_isAt_28 ?_
      refine v_goto C 33 (by decide) dX7_isAt_29 ?_
      exact v_zret C isB1 hr dX7_isAt_33 h
abbrev rmX7_takesSign : Room := { frames := 2, cells := 0, slots := 0, locals := 44 }
def wp_X7_takesSign (x1 : Int32) (M : Mem) (K : Int32 → Mem → Prop) : Prop := wp_X7_blanks M (fun M1 => wp_X7_isAt (x1) (x1) M1 (fun r2 M2 => (r2 = 0 → (∀ M4 : Mem, M4 = mw M2 130 24 ((M2 130 24) + (0 : Int32)) → (isB r2 ∧ K r2 M4))) ∧ (¬ r2 = 0 → (∀ M5 : Mem, M5 = mw M2 130 24 ((M2 130 24) + (1 : Int32)) → (isB r2 ∧ K r2 M5)))))
set_option maxRecDepth 20000 in
theorem con_X7_takesSign (l : Launch) (S : XS) (R : Rfs) (x1 : Int32) (hm : isMod R) (M : Mem) (K : Int32 → Mem → Prop) (h : wp_X7_takesSign x1 M K) : CI l yX7_takesSign cX7_takesSign 3 (some .boolean) rmX7_takesSign S 148 R [.ref (XB S + 130), .int x1] M K := by
  refine conI (lv := [(0, .ref (XB S + 130)), (1, .int x1)]) (by decide) (Nat.le_of_ble_eq_true rfl) rfl ?_
  intro p e s m args below meth c C hr
  replace C : Cx p m meth c s args cX7_takesSign RX7 3 S := C
  refine v_aloadn C 0 rfl rfl dX7_takesSign_0 ?_
  refine v_cvV (As := []) C mv_X7_100 (con_X7_blanks l S R  hm _ _ h) sh_130 (Nat.le_of_ble_eq_true rfl) rfl ⟨(Nat.le_of_ble_eq_true rfl), (Nat.le_of_ble_eq_true rfl)⟩ ⟨rfl, rfl, Nat.zero_le _, Nat.zero_le _⟩ (Nat.le_of_ble_eq_true rfl) dX7_takesSign_1 (fun M1 h => ?_)
  refine v_aloadn C 0 rfl rfl dX7_takesSign_4 ?_
  refine v_iloadn C 1 rfl rfl dX7_takesSign_5 ?_
  refine v_iloadn C 1 rfl rfl dX7_takesSign_6 ?_
  refine v_cvI (As := [.int x1, .int x1]) C mv_X7_103 (con_X7_isAt l S R (x1) (x1) hm _ _ h) sh_130 (Nat.le_of_ble_eq_true rfl) rfl ⟨(Nat.le_of_ble_eq_true rfl), (Nat.le_of_ble_eq_true rfl)⟩ ⟨rfl, rfl, Nat.zero_le _, Nat.zero_le _⟩ (Nat.le_of_ble_eq_true rfl) dX7_takesSign_7 (fun r2 M2 h => ?_)
  refine v_istoren (lv' := [(2, .int r2), (0, .ref (XB S + 130)), (1, .int x1)]) C rfl rfl (Nat.le_of_ble_eq_true rfl) dX7_takesSign_10 ?_
  refine v_aloadn C 1 rfl rfl dX7_takesSign_11 ?_
  refine v_dup C rfl dX7_takesSign_12 ?_
  refine v_geti C fr_X7_87 sh_130 (Nat.le_of_ble_eq_true rfl) rfl dX7_takesSign_13 ?_
  refine v_iloadn C 0 rfl rfl dX7_takesSign_16 ?_
  refine v_if_eq C 24 (by decide) dX7_takesSign_17 (fun c3 => ?_) (fun c3 => ?_)
  · replace h := h.1 c3
    refine v_iconst C kc_0 dX7_takesSign_24 ?_
    refine v_iadd C dX7_takesSign_25 ?_
    refine v_puti C fr_X7_87 sh_130 (Nat.le_of_ble_eq_true rfl) rfl dX7_takesSign_26 (fun M4 e4 => ?_)
    replace h := h M4 e4
    refine v_iloadn C 0 rfl rfl dX7_takesSign_29 ?_
    exact v_zret C h.1 hr dX7_takesSign_30 h.2
  · replace h := h.2 c3
    refine v_iconst C kc_1 dX7_takesSign_20 ?_
    refine v_goto C 25 (by decide) dX7_takesSign_21 ?_
    refine v_iadd C dX7_takesSign_25 ?_
    refine v_puti C fr_X7_87 sh_130 (Nat.le_of_ble_eq_true rfl) rfl dX7_takesSign_26 (fun M5 e5 => ?_)
    replace h := h M5 e5
    refine v_iloadn C 0 rfl rfl dX7_takesSign_29 ?_
    exact v_zret C h.1 hr dX7_takesSign_30 h.2
abbrev rmX7_takesNumber : Room := { frames := 2, cells := 0, slots := 0, locals := 44 }
def wp_X7_takesNumber_114   (K : Int32 → Mem → Prop) (x1 x2 y0 : Int32) (M : Mem) : Prop := (y0 = 0 → K (0 : Int32) M) ∧ (¬ y0 = 0 → wp_X7_in ((M 130 26)) (x1) (x2) M (fun r11 M11 => (r11 = 0 → K (0 : Int32) M11) ∧ (¬ r11 = 0 → K (1 : Int32) M11)))
def wp_X7_takesNumber_109   (K : Int32 → Mem → Prop) (x1 x2 : Int32) (M : Mem) : Prop := wp_X7_takesNumber_114   K (x1) (x2) ((1 : Int32)) M
def wp_X7_takesNumber_113   (K : Int32 → Mem → Prop) (x1 x2 : Int32) (M : Mem) : Prop := wp_X7_takesNumber_114   K (x1) (x2) ((0 : Int32)) M
def wp_X7_takesNumber_55  (X9 : Int32 → Int32 → Mem → Prop) (K : Int32 → Mem → Prop) (x1 x2 y0 : Int32) (M : Mem) : Prop := (∀ M13 : Mem, M13 = mw M 130 26 y0 → (∀ M14 : Mem, M14 = mw M13 130 24 ((M13 130 24) + (1 : Int32)) → X9 x1 x2 M14))
def L_X7_takesNumber_9   (K : Int32 → Mem → Prop) : Nat → Int32 → Int32 → Mem → Prop
  | 0, _, _, _ => False
  | k + 1, x1, x2, M => wp_X7_isAt ((48 : Int32)) ((57 : Int32)) M (fun r4 M4 => (r4 = 0 → ((M4 130 24) = ((M4 130 25) + (1 : Int32)) → wp_X7_takesNumber_109   K (x1) (x2) M4) ∧ (¬ (M4 130 24) = ((M4 130 25) + (1 : Int32)) → ((M4 130 24) ≤ (M4 130 25) → wp_X7_takesNumber_113   K (x1) (x2) M4) ∧ (¬ (M4 130 24) ≤ (M4 130 25) → vp_in (M4 130 25) 120 ∧ (((M4 136 (ix (M4 130 25))) = (48 : Int32) → wp_X7_takesNumber_113   K (x1) (x2) M4) ∧ (¬ (M4 136 (ix (M4 130 25))) = (48 : Int32) → wp_X7_takesNumber_109   K (x1) (x2) M4))))) ∧ (¬ r4 = 0 → ((M4 130 26) ≤ (99 : Int32) → vp_in (M4 130 24) 120 ∧ (wp_X7_takesNumber_55  (fun x1 x2 M => L_X7_takesNumber_9   K k x1 x2 M) K (x1) (x2) (((((10 : Int32) * (M4 130 26)) + (M4 136 (ix (M4 130 24)))) - (48 : Int32))) M4)) ∧ (¬ (M4 130 26) ≤ (99 : Int32) → wp_X7_takesNumber_55  (fun x1 x2 M => L_X7_takesNumber_9   K k x1 x2 M) K (x1) (x2) ((100 : Int32)) M4)))
def wp_X7_takesNumber (x1 : Int32) (x2 : Int32) (M : Mem) (K : Int32 → Mem → Prop) : Prop := wp_X7_blanks M (fun M1 => (∀ M2 : Mem, M2 = mw M1 130 26 (0 : Int32) → ∃ j3 : Nat, L_X7_takesNumber_9  K j3 (x1) (x2) M2))
set_option maxRecDepth 20000 in
theorem tb_X7_takesNumber_114 {p : Program} {e : Env} {s : State} {m : MethodId} {args : Array Value} {below : List Frame} {meth : Method} {c : Code} (l : Launch) (S : XS) (R : Rfs)  (hm : isMod R) (C : Cx p m meth c s args cX7_takesNumber RX7 4 S) (hr : meth.sig.returnType = (some .boolean)) (K : Int32 → Mem → Prop)   (x1 x2 y0 : Int32) (M : Mem) (h : wp_X7_takesNumber_114   K x1 x2 y0 M) : V p l e rmX7_takesNumber s m args below meth c (MQ below (va_Qi K (XPost S 148 R) (XA S)) args s 0 0 (XA S)) S 4 0 0 148 M R 114 [(0, .ref (XB S + 130)), (1, .int x1), (2, .int x2)] [.int y0] := by
  refine v_istoren (lv' := [(3, .int y0), (0, .ref (XB S + 130)), (1, .int x1), (2, .int x2)]) C rfl rfl (Nat.le_of_ble_eq_true rfl) dX7_takesNumber_114 ?_
  refine v_iloadn C 0 rfl rfl dX7_takesNumber_115 ?_
  refine v_if_eq C 135 (by decide) dX7_takesNumber_116 (fun c10 => ?_) (fun c10 => ?_)
  · replace h := h.1 c10
    refine v_iconst C kc_0 dX7_takesNumber_135 ?_
    exact v_zret C isB0 hr dX7_takesNumber_136 h
  · replace h := h.2 c10
    refine v_aloadn C 1 rfl rfl dX7_takesNumber_119 ?_
    refine v_geti C fr_X7_107 sh_130 (Nat.le_of_ble_eq_true rfl) rfl dX7_takesNumber_120 ?_
    refine v_iloadn C 2 rfl rfl dX7_takesNumber_123 ?_
    refine v_iloadn C 3 rfl rfl dX7_takesNumber_124 ?_
    refine v_csI (As := [.int (M 130 26), .int x1, .int x2]) C ms_X7_96 (con_X7_in l S 148 R ((M 130 26)) (x1) (x2)  _ _ h) rfl ⟨(Nat.le_of_ble_eq_true rfl), (Nat.le_of_ble_eq_true rfl)⟩ ⟨rfl, rfl, Nat.zero_le _, Nat.zero_le _⟩ (Nat.le_of_ble_eq_true rfl) dX7_takesNumber_125 (fun r11 M11 h => ?_)
    refine v_if_eq C 135 (by decide) dX7_takesNumber_128 (fun c12 => ?_) (fun c12 => ?_)
    · replace h := h.1 c12
      refine v_iconst C kc_0 dX7_takesNumber_135 ?_
      exact v_zret C isB0 hr dX7_takesNumber_136 h
    · replace h := h.2 c12
      refine v_iconst C kc_1 dX7_takesNumber_131 ?_
      refine v_goto C 136 (by decide) dX7_takesNumber_132 ?_
      exact v_zret C isB1 hr dX7_takesNumber_136 h
set_option maxRecDepth 20000 in
theorem tb_X7_takesNumber_109 {p : Program} {e : Env} {s : State} {m : MethodId} {args : Array Value} {below : List Frame} {meth : Method} {c : Code} (l : Launch) (S : XS) (R : Rfs)  (hm : isMod R) (C : Cx p m meth c s args cX7_takesNumber RX7 4 S) (hr : meth.sig.returnType = (some .boolean)) (K : Int32 → Mem → Prop)   (x1 x2 : Int32) (M : Mem) (h : wp_X7_takesNumber_109   K x1 x2 M) : V p l e rmX7_takesNumber s m args below meth c (MQ below (va_Qi K (XPost S 148 R) (XA S)) args s 0 0 (XA S)) S 4 0 0 148 M R 109 [(0, .ref (XB S + 130)), (1, .int x1), (2, .int x2)] [] := by
  refine v_iconst C kc_1 dX7_takesNumber_109 ?_
  refine v_goto C 114 (by decide) dX7_takesNumber_110 ?_
  exact tb_X7_takesNumber_114 l S R  hm C hr K   (x1) (x2) ((1 : Int32)) M h
set_option maxRecDepth 20000 in
theorem tb_X7_takesNumber_113 {p : Program} {e : Env} {s : State} {m : MethodId} {args : Array Value} {below : List Frame} {meth : Method} {c : Code} (l : Launch) (S : XS) (R : Rfs)  (hm : isMod R) (C : Cx p m meth c s args cX7_takesNumber RX7 4 S) (hr : meth.sig.returnType = (some .boolean)) (K : Int32 → Mem → Prop)   (x1 x2 : Int32) (M : Mem) (h : wp_X7_takesNumber_113   K x1 x2 M) : V p l e rmX7_takesNumber s m args below meth c (MQ below (va_Qi K (XPost S 148 R) (XA S)) args s 0 0 (XA S)) S 4 0 0 148 M R 113 [(0, .ref (XB S + 130)), (1, .int x1), (2, .int x2)] [] := by
  refine v_iconst C kc_0 dX7_takesNumber_113 ?_
  exact tb_X7_takesNumber_114 l S R  hm C hr K   (x1) (x2) ((0 : Int32)) M h
set_option maxRecDepth 20000 in
theorem tb_X7_takesNumber_55 {p : Program} {e : Env} {s : State} {m : MethodId} {args : Array Value} {below : List Frame} {meth : Method} {c : Code} (l : Launch) (S : XS) (R : Rfs)  (hm : isMod R) (C : Cx p m meth c s args cX7_takesNumber RX7 4 S) (hr : meth.sig.returnType = (some .boolean)) (K : Int32 → Mem → Prop) (X9 : Int32 → Int32 → Mem → Prop) (hX9 : ∀ (x1 x2 : Int32) (M : Mem), X9 x1 x2 M → V p l e rmX7_takesNumber s m args below meth c (MQ below (va_Qi K (XPost S 148 R) (XA S)) args s 0 0 (XA S)) S 4 0 0 148 M R 9 [(0, .ref (XB S + 130)), (1, .int x1), (2, .int x2)] []) (x1 x2 y0 : Int32) (M : Mem) (h : wp_X7_takesNumber_55  X9 K x1 x2 y0 M) : V p l e rmX7_takesNumber s m args below meth c (MQ below (va_Qi K (XPost S 148 R) (XA S)) args s 0 0 (XA S)) S 4 0 0 148 M R 55 [(0, .ref (XB S + 130)), (1, .int x1), (2, .int x2)] [.int y0, .ref (XB S + 130)] := by
  refine v_puti C fr_X7_107 sh_130 (Nat.le_of_ble_eq_true rfl) rfl dX7_takesNumber_55 (fun M13 e13 => ?_)
  replace h := h M13 e13
  refine v_aloadn C 0 rfl rfl dX7_takesNumber_58 ?_
  refine v_dup C rfl dX7_takesNumber_59 ?_
  refine v_geti C fr_X7_87 sh_130 (Nat.le_of_ble_eq_true rfl) rfl dX7_takesNumber_60 ?_
  refine v_iconst C kc_1 dX7_takesNumber_63 ?_
  refine v_iadd C dX7_takesNumber_64 ?_
  refine v_puti C fr_X7_87 sh_130 (Nat.le_of_ble_eq_true rfl) rfl dX7_takesNumber_65 (fun M14 e14 => ?_)
  replace h := h M14 e14
  refine v_goto C 9 (by decide) dX7_takesNumber_68 ?_
  exact hX9 (x1) (x2) M14 h
set_option maxRecDepth 20000 in
theorem tl_X7_takesNumber_9 {p : Program} {e : Env} {s : State} {m : MethodId} {args : Array Value} {below : List Frame} {meth : Method} {c : Code} (l : Launch) (S : XS) (R : Rfs)  (hm : isMod R) (C : Cx p m meth c s args cX7_takesNumber RX7 4 S) (hr : meth.sig.returnType = (some .boolean)) (K : Int32 → Mem → Prop)   (k : Nat) : ∀ (x1 x2 : Int32) (M : Mem), L_X7_takesNumber_9   K k x1 x2 M → V p l e rmX7_takesNumber s m args below meth c (MQ below (va_Qi K (XPost S 148 R) (XA S)) args s 0 0 (XA S)) S 4 0 0 148 M R 9 [(0, .ref (XB S + 130)), (1, .int x1), (2, .int x2)] [] := by
  induction k with
  | zero => intro x1 x2 M h; exact h.elim
  | succ k ih =>
    intro x1 x2 M h
    refine v_aloadn C 0 rfl rfl dX7_takesNumber_9 ?_
    refine v_bipush C kb_48 dX7_takesNumber_10 ?_
    refine v_bipush C kb_57 dX7_takesNumber_12 ?_
    refine v_cvI (As := [.int (48 : Int32), .int (57 : Int32)]) C mv_X7_103 (con_X7_isAt l S R ((48 : Int32)) ((57 : Int32)) hm _ _ h) sh_130 (Nat.le_of_ble_eq_true rfl) rfl ⟨(Nat.le_of_ble_eq_true rfl), (Nat.le_of_ble_eq_true rfl)⟩ ⟨rfl, rfl, Nat.zero_le _, Nat.zero_le _⟩ (Nat.le_of_ble_eq_true rfl) dX7_takesNumber_14 (fun r4 M4 h => ?_)
    refine v_if_eq C 71 (by decide) dX7_takesNumber_17 (fun c5 => ?_) (fun c5 => ?_)
    · replace h := h.1 c5
      refine v_aloadn C 0 rfl rfl dX7_takesNumber_71 ?_
      refine v_geti C fr_X7_87 sh_130 (Nat.le_of_ble_eq_true rfl) rfl dX7_takesNumber_72 ?_
      refine v_aloadn C 0 rfl rfl dX7_takesNumber_75 ?_
      refine v_geti C fr_X7_93 sh_130 (Nat.le_of_ble_eq_true rfl) rfl dX7_takesNumber_76 ?_
      refine v_iconst C kc_1 dX7_takesNumber_79 ?_
      refine v_iadd C dX7_takesNumber_80 ?_
      refine v_icmp_eq C 109 (by decide) dX7_takesNumber_81 (fun c6 => ?_) (fun c6 => ?_)
      · replace h := h.1 c6
        exact tb_X7_takesNumber_109 l S R  hm C hr K   (x1) (x2) M4 h
      · replace h := h.2 c6
        refine v_aloadn C 0 rfl rfl dX7_takesNumber_84 ?_
        refine v_geti C fr_X7_87 sh_130 (Nat.le_of_ble_eq_true rfl) rfl dX7_takesNumber_85 ?_
        refine v_aloadn C 0 rfl rfl dX7_takesNumber_88 ?_
        refine v_geti C fr_X7_93 sh_130 (Nat.le_of_ble_eq_true rfl) rfl dX7_takesNumber_89 ?_
        refine v_icmp_le C 113 (by decide) dX7_takesNumber_92 (fun c7 => ?_) (fun c7 => ?_)
        · replace h := h.1 c7
          exact tb_X7_takesNumber_113 l S R  hm C hr K   (x1) (x2) M4 h
        · replace h := h.2 c7
          refine v_aloadn C 0 rfl rfl dX7_takesNumber_95 ?_
          refine v_getr (o' := 136) C fr_X7_26 sh_130 (Nat.le_of_ble_eq_true rfl) rfl (iMod_r6 hm) dX7_takesNumber_96 ?_
          refine v_aloadn C 0 rfl rfl dX7_takesNumber_99 ?_
          refine v_geti C fr_X7_93 sh_130 (Nat.le_of_ble_eq_true rfl) rfl dX7_takesNumber_100 ?_
          refine v_ald C sh_136 (Nat.le_of_ble_eq_true rfl) h.1 dX7_takesNumber_103 ?_
          replace h := h.2
          refine v_bipush C kb_48 dX7_takesNumber_104 ?_
          refine v_icmp_eq C 113 (by decide) dX7_takesNumber_106 (fun c8 => ?_) (fun c8 => ?_)
          · replace h := h.1 c8
            exact tb_X7_takesNumber_113 l S R  hm C hr K   (x1) (x2) M4 h
          · replace h := h.2 c8
            exact tb_X7_takesNumber_109 l S R  hm C hr K   (x1) (x2) M4 h
    · replace h := h.2 c5
      refine v_aloadn C 0 rfl rfl dX7_takesNumber_20 ?_
      refine v_aloadn C 0 rfl rfl dX7_takesNumber_21 ?_
      refine v_geti C fr_X7_107 sh_130 (Nat.le_of_ble_eq_true rfl) rfl dX7_takesNumber_22 ?_
      refine v_bipush C kb_99 dX7_takesNumber_25 ?_
      refine v_icmp_le C 35 (by decide) dX7_takesNumber_27 (fun c9 => ?_) (fun c9 => ?_)
      · replace h := h.1 c9
        refine v_bipush C kb_10 dX7_takesNumber_35 ?_
        refine v_aloadn C 0 rfl rfl dX7_takesNumber_37 ?_
        refine v_geti C fr_X7_107 sh_130 (Nat.le_of_ble_eq_true rfl) rfl dX7_takesNumber_38 ?_
        refine v_imul C dX7_takesNumber_41 ?_
        refine v_aloadn C 0 rfl rfl dX7_takesNumber_42 ?_
        refine v_getr (o' := 136) C fr_X7_26 sh_130 (Nat.le_of_ble_eq_true rfl) rfl (iMod_r6 hm) dX7_takesNumber_43 ?_
        refine v_aloadn C 0 rfl rfl dX7_takesNumber_46 ?_
        refine v_geti C fr_X7_87 sh_130 (Nat.le_of_ble_eq_true rfl) rfl dX7_takesNumber_47 ?_
        refine v_ald C sh_136 (Nat.le_of_ble_eq_true rfl) h.1 dX7_takesNumber_50 ?_
        replace h := h.2
        refine v_iadd C dX7_takesNumber_51 ?_
        refine v_bipush C kb_48 dX7_takesNumber_52 ?_
        refine v_isub C dX7_takesNumber_54 ?_
        exact tb_X7_takesNumber_55 l S R  hm C hr K (fun x1 x2 M => L_X7_takesNumber_9   K k x1 x2 M) (ih) (x1) (x2) (((((10 : Int32) * (M4 130 26)) + (M4 136 (ix (M4 130 24)))) - (48 : Int32))) M4 h
      · replace h := h.2 c9
        refine v_bipush C kb_100 dX7_takesNumber_30 ?_
        refine v_goto C 55 (by decide) dX7_takesNumber_32 ?_
        exact tb_X7_takesNumber_55 l S R  hm C hr K (fun x1 x2 M => L_X7_takesNumber_9   K k x1 x2 M) (ih) (x1) (x2) ((100 : Int32)) M4 h
set_option maxRecDepth 20000 in
theorem con_X7_takesNumber (l : Launch) (S : XS) (R : Rfs) (x1 : Int32) (x2 : Int32) (hm : isMod R) (M : Mem) (K : Int32 → Mem → Prop) (h : wp_X7_takesNumber x1 x2 M K) : CI l yX7_takesNumber cX7_takesNumber 4 (some .boolean) rmX7_takesNumber S 148 R [.ref (XB S + 130), .int x1, .int x2] M K := by
  refine conI (lv := [(0, .ref (XB S + 130)), (1, .int x1), (2, .int x2)]) (by decide) (Nat.le_of_ble_eq_true rfl) rfl ?_
  intro p e s m args below meth c C hr
  replace C : Cx p m meth c s args cX7_takesNumber RX7 4 S := C
  refine v_aloadn C 0 rfl rfl dX7_takesNumber_0 ?_
  refine v_cvV (As := []) C mv_X7_100 (con_X7_blanks l S R  hm _ _ h) sh_130 (Nat.le_of_ble_eq_true rfl) rfl ⟨(Nat.le_of_ble_eq_true rfl), (Nat.le_of_ble_eq_true rfl)⟩ ⟨rfl, rfl, Nat.zero_le _, Nat.zero_le _⟩ (Nat.le_of_ble_eq_true rfl) dX7_takesNumber_1 (fun M1 h => ?_)
  refine v_aloadn C 0 rfl rfl dX7_takesNumber_4 ?_
  refine v_iconst C kc_0 dX7_takesNumber_5 ?_
  refine v_puti C fr_X7_107 sh_130 (Nat.le_of_ble_eq_true rfl) rfl dX7_takesNumber_6 (fun M2 e2 => ?_)
  replace h := h M2 e2
  obtain ⟨k3, h⟩ := h
  exact tl_X7_takesNumber_9 l S R  hm C hr K   k3 (x1) (x2) M2 h
abbrev rmX7_takesUnit : Room := { frames := 3, cells := 0, slots := 0, locals := 67 }
def wp_X7_takesUnit (M : Mem) (K : Int32 → Mem → Prop) : Prop := (¬ (M 130 17) = (4 : Int32) → (∀ M2 : Mem, M2 = mw M 130 24 ((M 130 24) + (1 : Int32)) → wp_X7_takesNumber ((1 : Int32)) ((6 : Int32)) M2 (fun r3 M3 => (¬ r3 = 0 → vp_in (M3 130 17) 4 ∧ (∀ M5 : Mem, M5 = mw M3 143 (ix (M3 130 17)) (M3 130 26) → (∀ M6 : Mem, M6 = mw M5 130 17 ((M5 130 17) + (1 : Int32)) → wp_X7_takesSign ((59 : Int32)) M6 (fun r7 M7 => (isB r7 ∧ K r7 M7))))) ∧ (r3 = 0 → K (0 : Int32) M3)))) ∧ ((M 130 17) = (4 : Int32) → K (0 : Int32) M)
set_option maxRecDepth 20000 in
theorem con_X7_takesUnit (l : Launch) (S : XS) (R : Rfs)  (hm : isMod R) (M : Mem) (K : Int32 → Mem → Prop) (h : wp_X7_takesUnit  M K) : CI l yX7_takesUnit cX7_takesUnit 1 (some .boolean) rmX7_takesUnit S 148 R [.ref (XB S + 130)] M K := by
  refine conI (lv := [(0, .ref (XB S + 130))]) (by decide) (Nat.le_of_ble_eq_true rfl) rfl ?_
  intro p e s m args below meth c C hr
  replace C : Cx p m meth c s args cX7_takesUnit RX7 1 S := C
  refine v_aloadn C 0 rfl rfl dX7_takesUnit_0 ?_
  refine v_geti C fr_X7_68 sh_130 (Nat.le_of_ble_eq_true rfl) rfl dX7_takesUnit_1 ?_
  refine v_iconst C kc_4 dX7_takesUnit_4 ?_
  refine v_icmp_ne C 10 (by decide) dX7_takesUnit_5 (fun c1 => ?_) (fun c1 => ?_)
  · replace h := h.1 c1
    refine v_aloadn C 0 rfl rfl dX7_takesUnit_10 ?_
    refine v_dup C rfl dX7_takesUnit_11 ?_
    refine v_geti C fr_X7_87 sh_130 (Nat.le_of_ble_eq_true rfl) rfl dX7_takesUnit_12 ?_
    refine v_iconst C kc_1 dX7_takesUnit_15 ?_
    refine v_iadd C dX7_takesUnit_16 ?_
    refine v_puti C fr_X7_87 sh_130 (Nat.le_of_ble_eq_true rfl) rfl dX7_takesUnit_17 (fun M2 e2 => ?_)
    replace h := h M2 e2
    refine v_aloadn C 0 rfl rfl dX7_takesUnit_20 ?_
    refine v_iconst C kc_1 dX7_takesUnit_21 ?_
    refine v_bipush C kb_6 dX7_takesUnit_22 ?_
    refine v_cvI (As := [.int (1 : Int32), .int (6 : Int32)]) C mv_X7_110 (con_X7_takesNumber l S R ((1 : Int32)) ((6 : Int32)) hm _ _ h) sh_130 (Nat.le_of_ble_eq_true rfl) rfl ⟨(Nat.le_of_ble_eq_true rfl), (Nat.le_of_ble_eq_true rfl)⟩ ⟨rfl, rfl, Nat.zero_le _, Nat.zero_le _⟩ (Nat.le_of_ble_eq_true rfl) dX7_takesUnit_24 (fun r3 M3 h => ?_)
    refine v_if_ne C 32 (by decide) dX7_takesUnit_27 (fun c4 => ?_) (fun c4 => ?_)
    · replace h := h.1 c4
      refine v_aloadn C 0 rfl rfl dX7_takesUnit_32 ?_
      refine v_getr (o' := 143) C fr_X7_47 sh_130 (Nat.le_of_ble_eq_true rfl) rfl (iMod_r19 hm) dX7_takesUnit_33 ?_
      refine v_aloadn C 0 rfl rfl dX7_takesUnit_36 ?_
      refine v_geti C fr_X7_68 sh_130 (Nat.le_of_ble_eq_true rfl) rfl dX7_takesUnit_37 ?_
      refine v_aloadn C 0 rfl rfl dX7_takesUnit_40 ?_
      refine v_geti C fr_X7_107 sh_130 (Nat.le_of_ble_eq_true rfl) rfl dX7_takesUnit_41 ?_
      have hi5 := h.1
      replace h := h.2
      refine v_ast C sh_143 (Nat.le_of_ble_eq_true rfl) hi5 dX7_takesUnit_44 (fun M5 e5 => ?_)
      replace h := h M5 e5
      refine v_aloadn C 0 rfl rfl dX7_takesUnit_45 ?_
      refine v_dup C rfl dX7_takesUnit_46 ?_
      refine v_geti C fr_X7_68 sh_130 (Nat.le_of_ble_eq_true rfl) rfl dX7_takesUnit_47 ?_
      refine v_iconst C kc_1 dX7_takesUnit_50 ?_
      refine v_iadd C dX7_takesUnit_51 ?_
      refine v_puti C fr_X7_68 sh_130 (Nat.le_of_ble_eq_true rfl) rfl dX7_takesUnit_52 (fun M6 e6 => ?_)
      replace h := h M6 e6
      refine v_aloadn C 0 rfl rfl dX7_takesUnit_55 ?_
      refine v_bipush C kb_59 dX7_takesUnit_56 ?_
      refine v_cvI (As := [.int (59 : Int32)]) C mv_X7_113 (con_X7_takesSign l S R ((59 : Int32)) hm _ _ h) sh_130 (Nat.le_of_ble_eq_true rfl) rfl ⟨(Nat.le_of_ble_eq_true rfl), (Nat.le_of_ble_eq_true rfl)⟩ ⟨rfl, rfl, Nat.zero_le _, Nat.zero_le _⟩ (Nat.le_of_ble_eq_true rfl) dX7_takesUnit_58 (fun r7 M7 h => ?_)
      exact v_zret C h.1 hr dX7_takesUnit_61 h.2
    · replace h := h.2 c4
      refine v_iconst C kc_0 dX7_takesUnit_30 ?_
      exact v_zret C isB0 hr dX7_takesUnit_31 h
  · replace h := h.2 c1
    refine v_iconst C kc_0 dX7_takesUnit_8 ?_
    exact v_zret C isB0 hr dX7_takesUnit_9 h
abbrev rmX7_takesReel : Room := { frames := 3, cells := 0, slots := 0, locals := 67 }
def wp_X7_takesReel_89   (K : Int32 → Mem → Prop) (y0 y1 : Int32) (M : Mem) : Prop := vp_in y1 8 ∧ (∀ M10 : Mem, M10 = mw M 145 (ix y1) y0 → (∀ M11 : Mem, M11 = mw M10 130 18 ((M10 130 18) + (1 : Int32)) → wp_X7_takesSign ((59 : Int32)) M11 (fun r12 M12 => (isB r12 ∧ K r12 M12))))
def wp_X7_takesReel (M : Mem) (K : Int32 → Mem → Prop) : Prop := (¬ (M 130 18) = (8 : Int32) → (∀ M2 : Mem, M2 = mw M 130 24 ((M 130 24) + (1 : Int32)) → wp_X7_takesNumber ((1 : Int32)) ((99 : Int32)) M2 (fun r3 M3 => (¬ r3 = 0 → vp_in (M3 130 18) 8 ∧ (∀ M5 : Mem, M5 = mw M3 144 (ix (M3 130 18)) (M3 130 26) → wp_X7_takesSign ((45 : Int32)) M5 (fun r6 M6 => wp_X7_takesNumber ((0 : Int32)) ((9 : Int32)) M6 (fun r7 M7 => (¬ r7 = 0 → (r6 = 0 → wp_X7_takesReel_89  K ((M7 130 26)) ((M7 130 18)) M7) ∧ (¬ r6 = 0 → wp_X7_takesReel_89  K ((-(M7 130 26))) ((M7 130 18)) M7)) ∧ (r7 = 0 → K (0 : Int32) M7))))) ∧ (r3 = 0 → K (0 : Int32) M3)))) ∧ ((M 130 18) = (8 : Int32) → K (0 : Int32) M)
set_option maxRecDepth 20000 in
theorem tb_X7_takesReel_89 {p : Program} {e : Env} {s : State} {m : MethodId} {args : Array Value} {below : List Frame} {meth : Method} {c : Code} (l : Launch) (S : XS) (R : Rfs)  (hm : isMod R) (C : Cx p m meth c s args cX7_takesReel RX7 2 S) (hr : meth.sig.returnType = (some .boolean)) (K : Int32 → Mem → Prop)   (y0 y1 : Int32) (M : Mem) (h : wp_X7_takesReel_89   K y0 y1 M) : V p l e rmX7_takesReel s m args below meth c (MQ below (va_Qi K (XPost S 148 R) (XA S)) args s 0 0 (XA S)) S 2 0 0 148 M R 89 [(0, .ref (XB S + 130))] [.int y0, .int y1, .ref (XB S + 145)] := by
  have hi10 := h.1
  replace h := h.2
  refine v_ast C sh_145 (Nat.le_of_ble_eq_true rfl) hi10 dX7_takesReel_89 (fun M10 e10 => ?_)
  replace h := h M10 e10
  refine v_aloadn C 0 rfl rfl dX7_takesReel_90 ?_
  refine v_dup C rfl dX7_takesReel_91 ?_
  refine v_geti C fr_X7_72 sh_130 (Nat.le_of_ble_eq_true rfl) rfl dX7_takesReel_92 ?_
  refine v_iconst C kc_1 dX7_takesReel_95 ?_
  refine v_iadd C dX7_takesReel_96 ?_
  refine v_puti C fr_X7_72 sh_130 (Nat.le_of_ble_eq_true rfl) rfl dX7_takesReel_97 (fun M11 e11 => ?_)
  replace h := h M11 e11
  refine v_aloadn C 0 rfl rfl dX7_takesReel_100 ?_
  refine v_bipush C kb_59 dX7_takesReel_101 ?_
  refine v_cvI (As := [.int (59 : Int32)]) C mv_X7_113 (con_X7_takesSign l S R ((59 : Int32)) hm _ _ h) sh_130 (Nat.le_of_ble_eq_true rfl) rfl ⟨(Nat.le_of_ble_eq_true rfl), (Nat.le_of_ble_eq_true rfl)⟩ ⟨rfl, rfl, Nat.zero_le _, Nat.zero_le _⟩ (Nat.le_of_ble_eq_true rfl) dX7_takesReel_103 (fun r12 M12 h => ?_)
  exact v_zret C h.1 hr dX7_takesReel_106 h.2
set_option maxRecDepth 20000 in
theorem con_X7_takesReel (l : Launch) (S : XS) (R : Rfs)  (hm : isMod R) (M : Mem) (K : Int32 → Mem → Prop) (h : wp_X7_takesReel  M K) : CI l yX7_takesReel cX7_takesReel 2 (some .boolean) rmX7_takesReel S 148 R [.ref (XB S + 130)] M K := by
  refine conI (lv := [(0, .ref (XB S + 130))]) (by decide) (Nat.le_of_ble_eq_true rfl) rfl ?_
  intro p e s m args below meth c C hr
  replace C : Cx p m meth c s args cX7_takesReel RX7 2 S := C
  refine v_aloadn C 0 rfl rfl dX7_takesReel_0 ?_
  refine v_geti C fr_X7_72 sh_130 (Nat.le_of_ble_eq_true rfl) rfl dX7_takesReel_1 ?_
  refine v_bipush C kb_8 dX7_takesReel_4 ?_
  refine v_icmp_ne C 11 (by decide) dX7_takesReel_6 (fun c1 => ?_) (fun c1 => ?_)
  · replace h := h.1 c1
    refine v_aloadn C 0 rfl rfl dX7_takesReel_11 ?_
    refine v_dup C rfl dX7_takesReel_12 ?_
    refine v_geti C fr_X7_87 sh_130 (Nat.le_of_ble_eq_true rfl) rfl dX7_takesReel_13 ?_
    refine v_iconst C kc_1 dX7_takesReel_16 ?_
    refine v_iadd C dX7_takesReel_17 ?_
    refine v_puti C fr_X7_87 sh_130 (Nat.le_of_ble_eq_true rfl) rfl dX7_takesReel_18 (fun M2 e2 => ?_)
    replace h := h M2 e2
    refine v_aloadn C 0 rfl rfl dX7_takesReel_21 ?_
    refine v_iconst C kc_1 dX7_takesReel_22 ?_
    refine v_bipush C kb_99 dX7_takesReel_23 ?_
    refine v_cvI (As := [.int (1 : Int32), .int (99 : Int32)]) C mv_X7_110 (con_X7_takesNumber l S R ((1 : Int32)) ((99 : Int32)) hm _ _ h) sh_130 (Nat.le_of_ble_eq_true rfl) rfl ⟨(Nat.le_of_ble_eq_true rfl), (Nat.le_of_ble_eq_true rfl)⟩ ⟨rfl, rfl, Nat.zero_le _, Nat.zero_le _⟩ (Nat.le_of_ble_eq_true rfl) dX7_takesReel_25 (fun r3 M3 h => ?_)
    refine v_if_ne C 33 (by decide) dX7_takesReel_28 (fun c4 => ?_) (fun c4 => ?_)
    · replace h := h.1 c4
      refine v_aloadn C 0 rfl rfl dX7_takesReel_33 ?_
      refine v_getr (o' := 144) C fr_X7_50 sh_130 (Nat.le_of_ble_eq_true rfl) rfl (iMod_r20 hm) dX7_takesReel_34 ?_
      refine v_aloadn C 0 rfl rfl dX7_takesReel_37 ?_
      refine v_geti C fr_X7_72 sh_130 (Nat.le_of_ble_eq_true rfl) rfl dX7_takesReel_38 ?_
      refine v_aloadn C 0 rfl rfl dX7_takesReel_41 ?_
      refine v_geti C fr_X7_107 sh_130 (Nat.le_of_ble_eq_true rfl) rfl dX7_takesReel_42 ?_
      have hi5 := h.1
      replace h := h.2
      refine v_ast C sh_144 (Nat.le_of_ble_eq_true rfl) hi5 dX7_takesReel_45 (fun M5 e5 => ?_)
      replace h := h M5 e5
      refine v_aloadn C 0 rfl rfl dX7_takesReel_46 ?_
      refine v_bipush C kb_45 dX7_takesReel_47 ?_
      refine v_cvI (As := [.int (45 : Int32)]) C mv_X7_113 (con_X7_takesSign l S R ((45 : Int32)) hm _ _ h) sh_130 (Nat.le_of_ble_eq_true rfl) rfl ⟨(Nat.le_of_ble_eq_true rfl), (Nat.le_of_ble_eq_true rfl)⟩ ⟨rfl, rfl, Nat.zero_le _, Nat.zero_le _⟩ (Nat.le_of_ble_eq_true rfl) dX7_takesReel_49 (fun r6 M6 h => ?_)
      refine v_istoren (lv' := [(1, .int r6), (0, .ref (XB S + 130))]) C rfl rfl (Nat.le_of_ble_eq_true rfl) dX7_takesReel_52 ?_
      refine v_aloadn C 1 rfl rfl dX7_takesReel_53 ?_
      refine v_iconst C kc_0 dX7_takesReel_54 ?_
      refine v_bipush C kb_9 dX7_takesReel_55 ?_
      refine v_cvI (As := [.int (0 : Int32), .int (9 : Int32)]) C mv_X7_110 (con_X7_takesNumber l S R ((0 : Int32)) ((9 : Int32)) hm _ _ h) sh_130 (Nat.le_of_ble_eq_true rfl) rfl ⟨(Nat.le_of_ble_eq_true rfl), (Nat.le_of_ble_eq_true rfl)⟩ ⟨rfl, rfl, Nat.zero_le _, Nat.zero_le _⟩ (Nat.le_of_ble_eq_true rfl) dX7_takesReel_57 (fun r7 M7 h => ?_)
      refine v_if_ne C 65 (by decide) dX7_takesReel_60 (fun c8 => ?_) (fun c8 => ?_)
      · replace h := h.1 c8
        refine v_aloadn C 1 rfl rfl dX7_takesReel_65 ?_
        refine v_getr (o' := 145) C fr_X7_53 sh_130 (Nat.le_of_ble_eq_true rfl) rfl (iMod_r21 hm) dX7_takesReel_66 ?_
        refine v_aloadn C 1 rfl rfl dX7_takesReel_69 ?_
        refine v_geti C fr_X7_72 sh_130 (Nat.le_of_ble_eq_true rfl) rfl dX7_takesReel_70 ?_
        refine v_iloadn C 0 rfl rfl dX7_takesReel_73 ?_
        refine v_if_eq C 85 (by decide) dX7_takesReel_74 (fun c9 => ?_) (fun c9 => ?_)
        · replace h := h.1 c9
          refine v_aloadn C 1 rfl rfl dX7_takesReel_85 ?_
          refine v_geti C fr_X7_107 sh_130 (Nat.le_of_ble_eq_true rfl) rfl dX7_takesReel_86 ?_
          refine v_loc [1] rfl ?_
          exact tb_X7_takesReel_89 l S R  hm C hr K   ((M7 130 26)) ((M7 130 18)) M7 h
        · replace h := h.2 c9
          refine v_aloadn C 1 rfl rfl dX7_takesReel_77 ?_
          refine v_geti C fr_X7_107 sh_130 (Nat.le_of_ble_eq_true rfl) rfl dX7_takesReel_78 ?_
          refine v_ineg C dX7_takesReel_81 ?_
          refine v_goto C 89 (by decide) dX7_takesReel_82 ?_
          refine v_loc [1] rfl ?_
          exact tb_X7_takesReel_89 l S R  hm C hr K   ((-(M7 130 26))) ((M7 130 18)) M7 h
      · replace h := h.2 c8
        refine v_iconst C kc_0 dX7_takesReel_63 ?_
        exact v_zret C isB0 hr dX7_takesReel_64 h
    · replace h := h.2 c4
      refine v_iconst C kc_0 dX7_takesReel_31 ?_
      exact v_zret C isB0 hr dX7_takesReel_32 h
  · replace h := h.2 c1
    refine v_iconst C kc_0 dX7_takesReel_9 ?_
    exact v_zret C isB0 hr dX7_takesReel_10 h
abbrev rmX7_takesSetting : Room := { frames := 3, cells := 0, slots := 0, locals := 67 }
def wp_X7_takesSetting_55   (K : Int32 → Mem → Prop) (x1 y0 y1 : Int32) (M : Mem) : Prop := wp_X7_takesNumber (y1) (y0) M (fun r7 M7 => (¬ r7 = 0 → vp_in x1 4 ∧ (∀ M9 : Mem, M9 = mw M7 146 (ix x1) (M7 130 26) → wp_X7_takesSign ((59 : Int32)) M9 (fun r10 M10 => (isB r10 ∧ K r10 M10)))) ∧ (r7 = 0 → K (0 : Int32) M7))
def wp_X7_takesSetting_48   (K : Int32 → Mem → Prop) (x1 y0 : Int32) (M : Mem) : Prop := wp_X7_takesSetting_55   K (x1) ((9 : Int32)) (y0) M
def wp_X7_takesSetting_39   (K : Int32 → Mem → Prop) (x1 y0 : Int32) (M : Mem) : Prop := (x1 = 0 → wp_X7_takesSetting_48   K (x1) (y0) M) ∧ (¬ x1 = 0 → (¬ x1 = (2 : Int32) → wp_X7_takesSetting_55   K (x1) ((20 : Int32)) (y0) M) ∧ (x1 = (2 : Int32) → wp_X7_takesSetting_48   K (x1) (y0) M))
def wp_X7_takesSetting (x1 : Int32) (M : Mem) (K : Int32 → Mem → Prop) : Prop := vp_in x1 4 ∧ (((M 147 (ix x1)) = 0 → vp_in x1 4 ∧ (∀ M2 : Mem, M2 = mw M 147 (ix x1) (1 : Int32) → (∀ M3 : Mem, M3 = mw M2 130 24 ((M2 130 24) + (1 : Int32)) → (¬ x1 = (2 : Int32) → wp_X7_takesSetting_39  K (x1) ((1 : Int32)) M3) ∧ (x1 = (2 : Int32) → wp_X7_takesSetting_39  K (x1) ((0 : Int32)) M3)))) ∧ (¬ (M 147 (ix x1)) = 0 → K (0 : Int32) M))
set_option maxRecDepth 20000 in
theorem tb_X7_takesSetting_55 {p : Program} {e : Env} {s : State} {m : MethodId} {args : Array Value} {below : List Frame} {meth : Method} {c : Code} (l : Launch) (S : XS) (R : Rfs)  (hm : isMod R) (C : Cx p m meth c s args cX7_takesSetting RX7 2 S) (hr : meth.sig.returnType = (some .boolean)) (K : Int32 → Mem → Prop)   (x1 y0 y1 : Int32) (M : Mem) (h : wp_X7_takesSetting_55   K x1 y0 y1 M) : V p l e rmX7_takesSetting s m args below meth c (MQ below (va_Qi K (XPost S 148 R) (XA S)) args s 0 0 (XA S)) S 2 0 0 148 M R 55 [(0, .ref (XB S + 130)), (1, .int x1)] [.int y0, .int y1, .ref (XB S + 130)] := by
  refine v_cvI (As := [.int y1, .int y0]) C mv_X7_110 (con_X7_takesNumber l S R (y1) (y0) hm _ _ h) sh_130 (Nat.le_of_ble_eq_true rfl) rfl ⟨(Nat.le_of_ble_eq_true rfl), (Nat.le_of_ble_eq_true rfl)⟩ ⟨rfl, rfl, Nat.zero_le _, Nat.zero_le _⟩ (Nat.le_of_ble_eq_true rfl) dX7_takesSetting_55 (fun r7 M7 h => ?_)
  refine v_if_ne C 63 (by decide) dX7_takesSetting_58 (fun c8 => ?_) (fun c8 => ?_)
  · replace h := h.1 c8
    refine v_aloadn C 0 rfl rfl dX7_takesSetting_63 ?_
    refine v_getr (o' := 146) C fr_X7_56 sh_130 (Nat.le_of_ble_eq_true rfl) rfl (iMod_r22 hm) dX7_takesSetting_64 ?_
    refine v_iloadn C 1 rfl rfl dX7_takesSetting_67 ?_
    refine v_aloadn C 0 rfl rfl dX7_takesSetting_68 ?_
    refine v_geti C fr_X7_107 sh_130 (Nat.le_of_ble_eq_true rfl) rfl dX7_takesSetting_69 ?_
    have hi9 := h.1
    replace h := h.2
    refine v_ast C sh_146 (Nat.le_of_ble_eq_true rfl) hi9 dX7_takesSetting_72 (fun M9 e9 => ?_)
    replace h := h M9 e9
    refine v_aloadn C 0 rfl rfl dX7_takesSetting_73 ?_
    refine v_bipush C kb_59 dX7_takesSetting_74 ?_
    refine v_cvI (As := [.int (59 : Int32)]) C mv_X7_113 (con_X7_takesSign l S R ((59 : Int32)) hm _ _ h) sh_130 (Nat.le_of_ble_eq_true rfl) rfl ⟨(Nat.le_of_ble_eq_true rfl), (Nat.le_of_ble_eq_true rfl)⟩ ⟨rfl, rfl, Nat.zero_le _, Nat.zero_le _⟩ (Nat.le_of_ble_eq_true rfl) dX7_takesSetting_76 (fun r10 M10 h => ?_)
    exact v_zret C h.1 hr dX7_takesSetting_79 h.2
  · replace h := h.2 c8
    refine v_iconst C kc_0 dX7_takesSetting_61 ?_
    exact v_zret C isB0 hr dX7_takesSetting_62 h
set_option maxRecDepth 20000 in
theorem tb_X7_takesSetting_48 {p : Program} {e : Env} {s : State} {m : MethodId} {args : Array Value} {below : List Frame} {meth : Method} {c : Code} (l : Launch) (S : XS) (R : Rfs)  (hm : isMod R) (C : Cx p m meth c s args cX7_takesSetting RX7 2 S) (hr : meth.sig.returnType = (some .boolean)) (K : Int32 → Mem → Prop)   (x1 y0 : Int32) (M : Mem) (h : wp_X7_takesSetting_48   K x1 y0 M) : V p l e rmX7_takesSetting s m args below meth c (MQ below (va_Qi K (XPost S 148 R) (XA S)) args s 0 0 (XA S)) S 2 0 0 148 M R 48 [(0, .ref (XB S + 130)), (1, .int x1)] [.int y0, .ref (XB S + 130)] := by
  refine v_bipush C kb_9 dX7_takesSetting_48 ?_
  refine v_goto C 55 (by decide) dX7_takesSetting_50 ?_
  exact tb_X7_takesSetting_55 l S R  hm C hr K   (x1) ((9 : Int32)) (y0) M h
set_option maxRecDepth 20000 in
theorem tb_X7_takesSetting_39 {p : Program} {e : Env} {s : State} {m : MethodId} {args : Array Value} {below : List Frame} {meth : Method} {c : Code} (l : Launch) (S : XS) (R : Rfs)  (hm : isMod R) (C : Cx p m meth c s args cX7_takesSetting RX7 2 S) (hr : meth.sig.returnType = (some .boolean)) (K : Int32 → Mem → Prop)   (x1 y0 : Int32) (M : Mem) (h : wp_X7_takesSetting_39   K x1 y0 M) : V p l e rmX7_takesSetting s m args below meth c (MQ below (va_Qi K (XPost S 148 R) (XA S)) args s 0 0 (XA S)) S 2 0 0 148 M R 39 [(0, .ref (XB S + 130)), (1, .int x1)] [.int y0, .ref (XB S + 130)] := by
  refine v_iloadn C 1 rfl rfl dX7_takesSetting_39 ?_
  refine v_if_eq C 48 (by decide) dX7_takesSetting_40 (fun c5 => ?_) (fun c5 => ?_)
  · replace h := h.1 c5
    exact tb_X7_takesSetting_48 l S R  hm C hr K   (x1) (y0) M h
  · replace h := h.2 c5
    refine v_iloadn C 1 rfl rfl dX7_takesSetting_43 ?_
    refine v_iconst C kc_2 dX7_takesSetting_44 ?_
    refine v_icmp_ne C 53 (by decide) dX7_takesSetting_45 (fun c6 => ?_) (fun c6 => ?_)
    · replace h := h.1 c6
      refine v_bipush C kb_20 dX7_takesSetting_53 ?_
      exact tb_X7_takesSetting_55 l S R  hm C hr K   (x1) ((20 : Int32)) (y0) M h
    · replace h := h.2 c6
      exact tb_X7_takesSetting_48 l S R  hm C hr K   (x1) (y0) M h
set_option maxRecDepth 20000 in
theorem con_X7_takesSetting (l : Launch) (S : XS) (R : Rfs) (x1 : Int32) (hm : isMod R) (M : Mem) (K : Int32 → Mem → Prop) (h : wp_X7_takesSetting x1 M K) : CI l yX7_takesSetting cX7_takesSetting 2 (some .boolean) rmX7_takesSetting S 148 R [.ref (XB S + 130), .int x1] M K := by
  refine conI (lv := [(0, .ref (XB S + 130)), (1, .int x1)]) (by decide) (Nat.le_of_ble_eq_true rfl) rfl ?_
  intro p e s m args below meth c C hr
  replace C : Cx p m meth c s args cX7_takesSetting RX7 2 S := C
  refine v_aloadn C 0 rfl rfl dX7_takesSetting_0 ?_
  refine v_getr (o' := 147) C fr_X7_59 sh_130 (Nat.le_of_ble_eq_true rfl) rfl (iMod_r23 hm) dX7_takesSetting_1 ?_
  refine v_iloadn C 1 rfl rfl dX7_takesSetting_4 ?_
  refine v_zald C sh_147 (Nat.le_of_ble_eq_true rfl) h.1 dX7_takesSetting_5 ?_
  replace h := h.2
  refine v_if_eq C 11 (by decide) dX7_takesSetting_6 (fun c1 => ?_) (fun c1 => ?_)
  · replace h := h.1 c1
    refine v_aloadn C 0 rfl rfl dX7_takesSetting_11 ?_
    refine v_getr (o' := 147) C fr_X7_59 sh_130 (Nat.le_of_ble_eq_true rfl) rfl (iMod_r23 hm) dX7_takesSetting_12 ?_
    refine v_iloadn C 1 rfl rfl dX7_takesSetting_15 ?_
    refine v_iconst C kc_1 dX7_takesSetting_16 ?_
    have hi2 := h.1
    replace h := h.2
    refine v_zast C sh_147 (Nat.le_of_ble_eq_true rfl) isB1 hi2 dX7_takesSetting_17 (fun M2 e2 => ?_)
    replace h := h M2 e2
    refine v_aloadn C 0 rfl rfl dX7_takesSetting_18 ?_
    refine v_dup C rfl dX7_takesSetting_19 ?_
    refine v_geti C fr_X7_87 sh_130 (Nat.le_of_ble_eq_true rfl) rfl dX7_takesSetting_20 ?_
    refine v_iconst C kc_1 dX7_takesSetting_23 ?_
    refine v_iadd C dX7_takesSetting_24 ?_
    refine v_puti C fr_X7_87 sh_130 (Nat.le_of_ble_eq_true rfl) rfl dX7_takesSetting_25 (fun M3 e3 => ?_)
    replace h := h M3 e3
    refine v_aloadn C 0 rfl rfl dX7_takesSetting_28 ?_
    refine v_iloadn C 1 rfl rfl dX7_takesSetting_29 ?_
    refine v_iconst C kc_2 dX7_takesSetting_30 ?_
    refine v_icmp_ne C 38 (by decide) dX7_takesSetting_31 (fun c4 => ?_) (fun c4 => ?_)
    · replace h := h.1 c4
      refine v_iconst C kc_1 dX7_takesSetting_38 ?_
      exact tb_X7_takesSetting_39 l S R  hm C hr K   (x1) ((1 : Int32)) M3 h
    · replace h := h.2 c4
      refine v_iconst C kc_0 dX7_takesSetting_34 ?_
      refine v_goto C 39 (by decide) dX7_takesSetting_35 ?_
      exact tb_X7_takesSetting_39 l S R  hm C hr K   (x1) ((0 : Int32)) M3 h
  · replace h := h.2 c1
    refine v_iconst C kc_0 dX7_takesSetting_9 ?_
    exact v_zret C isB0 hr dX7_takesSetting_10 h
abbrev rmX7_takesItem : Room := { frames := 4, cells := 0, slots := 0, locals := 88 }
def wp_X7_takesItem (M : Mem) (K : Int32 → Mem → Prop) : Prop := vp_in (M 130 24) 120 ∧ (((M 136 (ix (M 130 24))) = (101 : Int32) → wp_X7_takesSetting ((0 : Int32)) M (fun r2 M2 => (isB r2 ∧ K r2 M2))) ∧ ((M 136 (ix (M 130 24))) = (102 : Int32) → K (0 : Int32) M) ∧ ((M 136 (ix (M 130 24))) = (103 : Int32) → K (0 : Int32) M) ∧ ((M 136 (ix (M 130 24))) = (104 : Int32) → K (0 : Int32) M) ∧ ((M 136 (ix (M 130 24))) = (105 : Int32) → wp_X7_takesSetting ((2 : Int32)) M (fun r3 M3 => (isB r3 ∧ K r3 M3))) ∧ ((M 136 (ix (M 130 24))) = (106 : Int32) → K (0 : Int32) M) ∧ ((M 136 (ix (M 130 24))) = (107 : Int32) → K (0 : Int32) M) ∧ ((M 136 (ix (M 130 24))) = (108 : Int32) → wp_X7_takesSetting ((1 : Int32)) M (fun r4 M4 => (isB r4 ∧ K r4 M4))) ∧ ((M 136 (ix (M 130 24))) = (109 : Int32) → K (0 : Int32) M) ∧ ((M 136 (ix (M 130 24))) = (110 : Int32) → K (0 : Int32) M) ∧ ((M 136 (ix (M 130 24))) = (111 : Int32) → K (0 : Int32) M) ∧ ((M 136 (ix (M 130 24))) = (112 : Int32) → wp_X7_takesSetting ((3 : Int32)) M (fun r5 M5 => (isB r5 ∧ K r5 M5))) ∧ ((M 136 (ix (M 130 24))) = (113 : Int32) → K (0 : Int32) M) ∧ ((M 136 (ix (M 130 24))) = (114 : Int32) → wp_X7_takesReel M (fun r6 M6 => (isB r6 ∧ K r6 M6))) ∧ ((M 136 (ix (M 130 24))) = (115 : Int32) → K (0 : Int32) M) ∧ ((M 136 (ix (M 130 24))) = (116 : Int32) → K (0 : Int32) M) ∧ ((M 136 (ix (M 130 24))) = (117 : Int32) → wp_X7_takesUnit M (fun r7 M7 => (isB r7 ∧ K r7 M7))) ∧ (¬ (M 136 (ix (M 130 24))) = (101 : Int32) → ¬ (M 136 (ix (M 130 24))) = (102 : Int32) → ¬ (M 136 (ix (M 130 24))) = (103 : Int32) → ¬ (M 136 (ix (M 130 24))) = (104 : Int32) → ¬ (M 136 (ix (M 130 24))) = (105 : Int32) → ¬ (M 136 (ix (M 130 24))) = (106 : Int32) → ¬ (M 136 (ix (M 130 24))) = (107 : Int32) → ¬ (M 136 (ix (M 130 24))) = (108 : Int32) → ¬ (M 136 (ix (M 130 24))) = (109 : Int32) → ¬ (M 136 (ix (M 130 24))) = (110 : Int32) → ¬ (M 136 (ix (M 130 24))) = (111 : Int32) → ¬ (M 136 (ix (M 130 24))) = (112 : Int32) → ¬ (M 136 (ix (M 130 24))) = (113 : Int32) → ¬ (M 136 (ix (M 130 24))) = (114 : Int32) → ¬ (M 136 (ix (M 130 24))) = (115 : Int32) → ¬ (M 136 (ix (M 130 24))) = (116 : Int32) → ¬ (M 136 (ix (M 130 24))) = (117 : Int32) → K (0 : Int32) M))
set_option maxRecDepth 20000 in
theorem con_X7_takesItem (l : Launch) (S : XS) (R : Rfs)  (hm : isMod R) (M : Mem) (K : Int32 → Mem → Prop) (h : wp_X7_takesItem  M K) : CI l yX7_takesItem cX7_takesItem 1 (some .boolean) rmX7_takesItem S 148 R [.ref (XB S + 130)] M K := by
  refine conI (lv := [(0, .ref (XB S + 130))]) (by decide) (Nat.le_of_ble_eq_true rfl) rfl ?_
  intro p e s m args below meth c C hr
  replace C : Cx p m meth c s args cX7_takesItem RX7 1 S := C
  refine v_aloadn C 0 rfl rfl dX7_takesItem_0 ?_
  refine v_getr (o' := 136) C fr_X7_26 sh_130 (Nat.le_of_ble_eq_true rfl) rfl (iMod_r6 hm) dX7_takesItem_1 ?_
  refine v_aloadn C 0 rfl rfl dX7_takesItem_4 ?_
  refine v_geti C fr_X7_87 sh_130 (Nat.le_of_ble_eq_true rfl) rfl dX7_takesItem_5 ?_
  refine v_ald C sh_136 (Nat.le_of_ble_eq_true rfl) h.1 dX7_takesItem_8 ?_
  replace h := h.2
  by_cases s1_0 : (M 136 (ix (M 130 24))) = (101 : Int32)
  · replace h := h.1 s1_0
    refine v_tin (off := 93) C 102 101 (by rw [s1_0]; decide) (by decide) (by decide) (by decide) (by decide) dX7_takesItem_9 ?_
    refine v_aloadn C 0 rfl rfl dX7_takesItem_102 ?_
    refine v_iconst C kc_0 dX7_takesItem_103 ?_
    refine v_cvI (As := [.int (0 : Int32)]) C mv_X7_124 (con_X7_takesSetting l S R ((0 : Int32)) hm _ _ h) sh_130 (Nat.le_of_ble_eq_true rfl) rfl ⟨(Nat.le_of_ble_eq_true rfl), (Nat.le_of_ble_eq_true rfl)⟩ ⟨rfl, rfl, Nat.zero_le _, Nat.zero_le _⟩ (Nat.le_of_ble_eq_true rfl) dX7_takesItem_104 (fun r2 M2 h => ?_)
    exact v_zret C h.1 hr dX7_takesItem_107 h.2
  by_cases s1_1 : (M 136 (ix (M 130 24))) = (102 : Int32)
  · replace h := h.2.1 s1_1
    refine v_tin (off := 117) C 126 102 (by rw [s1_1]; decide) (by decide) (by decide) (by decide) (by decide) dX7_takesItem_9 ?_
    refine v_iconst C kc_0 dX7_takesItem_126 ?_
    exact v_zret C isB0 hr dX7_takesItem_127 h
  by_cases s1_2 : (M 136 (ix (M 130 24))) = (103 : Int32)
  · replace h := h.2.2.1 s1_2
    refine v_tin (off := 117) C 126 103 (by rw [s1_2]; decide) (by decide) (by decide) (by decide) (by decide) dX7_takesItem_9 ?_
    refine v_iconst C kc_0 dX7_takesItem_126 ?_
    exact v_zret C isB0 hr dX7_takesItem_127 h
  by_cases s1_3 : (M 136 (ix (M 130 24))) = (104 : Int32)
  · replace h := h.2.2.2.1 s1_3
    refine v_tin (off := 117) C 126 104 (by rw [s1_3]; decide) (by decide) (by decide) (by decide) (by decide) dX7_takesItem_9 ?_
    refine v_iconst C kc_0 dX7_takesItem_126 ?_
    exact v_zret C isB0 hr dX7_takesItem_127 h
  by_cases s1_4 : (M 136 (ix (M 130 24))) = (105 : Int32)
  · replace h := h.2.2.2.2.1 s1_4
    refine v_tin (off := 105) C 114 105 (by rw [s1_4]; decide) (by decide) (by decide) (by decide) (by decide) dX7_takesItem_9 ?_
    refine v_aloadn C 0 rfl rfl dX7_takesItem_114 ?_
    refine v_iconst C kc_2 dX7_takesItem_115 ?_
    refine v_cvI (As := [.int (2 : Int32)]) C mv_X7_124 (con_X7_takesSetting l S R ((2 : Int32)) hm _ _ h) sh_130 (Nat.le_of_ble_eq_true rfl) rfl ⟨(Nat.le_of_ble_eq_true rfl), (Nat.le_of_ble_eq_true rfl)⟩ ⟨rfl, rfl, Nat.zero_le _, Nat.zero_le _⟩ (Nat.le_of_ble_eq_true rfl) dX7_takesItem_116 (fun r3 M3 h => ?_)
    exact v_zret C h.1 hr dX7_takesItem_119 h.2
  by_cases s1_5 : (M 136 (ix (M 130 24))) = (106 : Int32)
  · replace h := h.2.2.2.2.2.1 s1_5
    refine v_tin (off := 117) C 126 106 (by rw [s1_5]; decide) (by decide) (by decide) (by decide) (by decide) dX7_takesItem_9 ?_
    refine v_iconst C kc_0 dX7_takesItem_126 ?_
    exact v_zret C isB0 hr dX7_takesItem_127 h
  by_cases s1_6 : (M 136 (ix (M 130 24))) = (107 : Int32)
  · replace h := h.2.2.2.2.2.2.1 s1_6
    refine v_tin (off := 117) C 126 107 (by rw [s1_6]; decide) (by decide) (by decide) (by decide) (by decide) dX7_takesItem_9 ?_
    refine v_iconst C kc_0 dX7_takesItem_126 ?_
    exact v_zret C isB0 hr dX7_takesItem_127 h
  by_cases s1_7 : (M 136 (ix (M 130 24))) = (108 : Int32)
  · replace h := h.2.2.2.2.2.2.2.1 s1_7
    refine v_tin (off := 99) C 108 108 (by rw [s1_7]; decide) (by decide) (by decide) (by decide) (by decide) dX7_takesItem_9 ?_
    refine v_aloadn C 0 rfl rfl dX7_takesItem_108 ?_
    refine v_iconst C kc_1 dX7_takesItem_109 ?_
    refine v_cvI (As := [.int (1 : Int32)]) C mv_X7_124 (con_X7_takesSetting l S R ((1 : Int32)) hm _ _ h) sh_130 (Nat.le_of_ble_eq_true rfl) rfl ⟨(Nat.le_of_ble_eq_true rfl), (Nat.le_of_ble_eq_true rfl)⟩ ⟨rfl, rfl, Nat.zero_le _, Nat.zero_le _⟩ (Nat.le_of_ble_eq_true rfl) dX7_takesItem_110 (fun r4 M4 h => ?_)
    exact v_zret C h.1 hr dX7_takesItem_113 h.2
  by_cases s1_8 : (M 136 (ix (M 130 24))) = (109 : Int32)
  · replace h := h.2.2.2.2.2.2.2.2.1 s1_8
    refine v_tin (off := 117) C 126 109 (by rw [s1_8]; decide) (by decide) (by decide) (by decide) (by decide) dX7_takesItem_9 ?_
    refine v_iconst C kc_0 dX7_takesItem_126 ?_
    exact v_zret C isB0 hr dX7_takesItem_127 h
  by_cases s1_9 : (M 136 (ix (M 130 24))) = (110 : Int32)
  · replace h := h.2.2.2.2.2.2.2.2.2.1 s1_9
    refine v_tin (off := 117) C 126 110 (by rw [s1_9]; decide) (by decide) (by decide) (by decide) (by decide) dX7_takesItem_9 ?_
    refine v_iconst C kc_0 dX7_takesItem_126 ?_
    exact v_zret C isB0 hr dX7_takesItem_127 h
  by_cases s1_10 : (M 136 (ix (M 130 24))) = (111 : Int32)
  · replace h := h.2.2.2.2.2.2.2.2.2.2.1 s1_10
    refine v_tin (off := 117) C 126 111 (by rw [s1_10]; decide) (by decide) (by decide) (by decide) (by decide) dX7_takesItem_9 ?_
    refine v_iconst C kc_0 dX7_takesItem_126 ?_
    exact v_zret C isB0 hr dX7_takesItem_127 h
  by_cases s1_11 : (M 136 (ix (M 130 24))) = (112 : Int32)
  · replace h := h.2.2.2.2.2.2.2.2.2.2.2.1 s1_11
    refine v_tin (off := 111) C 120 112 (by rw [s1_11]; decide) (by decide) (by decide) (by decide) (by decide) dX7_takesItem_9 ?_
    refine v_aloadn C 0 rfl rfl dX7_takesItem_120 ?_
    refine v_iconst C kc_3 dX7_takesItem_121 ?_
    refine v_cvI (As := [.int (3 : Int32)]) C mv_X7_124 (con_X7_takesSetting l S R ((3 : Int32)) hm _ _ h) sh_130 (Nat.le_of_ble_eq_true rfl) rfl ⟨(Nat.le_of_ble_eq_true rfl), (Nat.le_of_ble_eq_true rfl)⟩ ⟨rfl, rfl, Nat.zero_le _, Nat.zero_le _⟩ (Nat.le_of_ble_eq_true rfl) dX7_takesItem_122 (fun r5 M5 h => ?_)
    exact v_zret C h.1 hr dX7_takesItem_125 h.2
  by_cases s1_12 : (M 136 (ix (M 130 24))) = (113 : Int32)
  · replace h := h.2.2.2.2.2.2.2.2.2.2.2.2.1 s1_12
    refine v_tin (off := 117) C 126 113 (by rw [s1_12]; decide) (by decide) (by decide) (by decide) (by decide) dX7_takesItem_9 ?_
    refine v_iconst C kc_0 dX7_takesItem_126 ?_
    exact v_zret C isB0 hr dX7_takesItem_127 h
  by_cases s1_13 : (M 136 (ix (M 130 24))) = (114 : Int32)
  · replace h := h.2.2.2.2.2.2.2.2.2.2.2.2.2.1 s1_13
    refine v_tin (off := 88) C 97 114 (by rw [s1_13]; decide) (by decide) (by decide) (by decide) (by decide) dX7_takesItem_9 ?_
    refine v_aloadn C 0 rfl rfl dX7_takesItem_97 ?_
    refine v_cvI (As := []) C mv_X7_121 (con_X7_takesReel l S R  hm _ _ h) sh_130 (Nat.le_of_ble_eq_true rfl) rfl ⟨(Nat.le_of_ble_eq_true rfl), (Nat.le_of_ble_eq_true rfl)⟩ ⟨rfl, rfl, Nat.zero_le _, Nat.zero_le _⟩ (Nat.le_of_ble_eq_true rfl) dX7_takesItem_98 (fun r6 M6 h => ?_)
    exact v_zret C h.1 hr dX7_takesItem_101 h.2
  by_cases s1_14 : (M 136 (ix (M 130 24))) = (115 : Int32)
  · replace h := h.2.2.2.2.2.2.2.2.2.2.2.2.2.2.1 s1_14
    refine v_tin (off := 117) C 126 115 (by rw [s1_14]; decide) (by decide) (by decide) (by decide) (by decide) dX7_takesItem_9 ?_
    refine v_iconst C kc_0 dX7_takesItem_126 ?_
    exact v_zret C isB0 hr dX7_takesItem_127 h
  by_cases s1_15 : (M 136 (ix (M 130 24))) = (116 : Int32)
  · replace h := h.2.2.2.2.2.2.2.2.2.2.2.2.2.2.2.1 s1_15
    refine v_tin (off := 117) C 126 116 (by rw [s1_15]; decide) (by decide) (by decide) (by decide) (by decide) dX7_takesItem_9 ?_
    refine v_iconst C kc_0 dX7_takesItem_126 ?_
    exact v_zret C isB0 hr dX7_takesItem_127 h
  by_cases s1_16 : (M 136 (ix (M 130 24))) = (117 : Int32)
  · replace h := h.2.2.2.2.2.2.2.2.2.2.2.2.2.2.2.2.1 s1_16
    refine v_tin (off := 83) C 92 117 (by rw [s1_16]; decide) (by decide) (by decide) (by decide) (by decide) dX7_takesItem_9 ?_
    refine v_aloadn C 0 rfl rfl dX7_takesItem_92 ?_
    refine v_cvI (As := []) C mv_X7_117 (con_X7_takesUnit l S R  hm _ _ h) sh_130 (Nat.le_of_ble_eq_true rfl) rfl ⟨(Nat.le_of_ble_eq_true rfl), (Nat.le_of_ble_eq_true rfl)⟩ ⟨rfl, rfl, Nat.zero_le _, Nat.zero_le _⟩ (Nat.le_of_ble_eq_true rfl) dX7_takesItem_93 (fun r7 M7 h => ?_)
    exact v_zret C h.1 hr dX7_takesItem_96 h.2
  replace h := h.2.2.2.2.2.2.2.2.2.2.2.2.2.2.2.2.2 s1_0 s1_1 s1_2 s1_3 s1_4 s1_5 s1_6 s1_7 s1_8 s1_9 s1_10 s1_11 s1_12 s1_13 s1_14 s1_15 s1_16
  have t1_0 := ne_ti 101 101 (by decide) s1_0
  have t1_1 := ne_ti 102 102 (by decide) s1_1
  have t1_2 := ne_ti 103 103 (by decide) s1_2
  have t1_3 := ne_ti 104 104 (by decide) s1_3
  have t1_4 := ne_ti 105 105 (by decide) s1_4
  have t1_5 := ne_ti 106 106 (by decide) s1_5
  have t1_6 := ne_ti 107 107 (by decide) s1_6
  have t1_7 := ne_ti 108 108 (by decide) s1_7
  have t1_8 := ne_ti 109 109 (by decide) s1_8
  have t1_9 := ne_ti 110 110 (by decide) s1_9
  have t1_10 := ne_ti 111 111 (by decide) s1_10
  have t1_11 := ne_ti 112 112 (by decide) s1_11
  have t1_12 := ne_ti 113 113 (by decide) s1_12
  have t1_13 := ne_ti 114 114 (by decide) s1_13
  have t1_14 := ne_ti 115 115 (by decide) s1_14
  have t1_15 := ne_ti 116 116 (by decide) s1_15
  have t1_16 := ne_ti 117 117 (by decide) s1_16
  refine v_tout C 126 (by omega) (by decide) dX7_takesItem_9 ?_
  refine v_iconst C kc_0 dX7_takesItem_126 ?_
  exact v_zret C isB0 hr dX7_takesItem_127 h
abbrev rmX7_reads : Room := { frames := 5, cells := 0, slots := 0, locals := 108 }
def L_X7_reads_15   (K : Int32 → Mem → Prop) : Nat → Int32 → Mem → Prop
  | 0, _, _ => False
  | k + 1, x1, M => ((M 130 7) ≤ (M 130 24) → K x1 M) ∧ (¬ (M 130 7) ≤ (M 130 24) → wp_X7_takesItem  M (fun r6 M6 => (¬ r6 = 0 → wp_X7_blanks  M6 (fun M8 => L_X7_reads_15  K k (x1 + (1 : Int32)) M8)) ∧ (r6 = 0 → K ((-10 : Int32) - (M6 130 25)) M6)))
def wp_X7_reads (M : Mem) (K : Int32 → Mem → Prop) : Prop := wp_X7_begins M (fun M1 => (∀ M2 : Mem, M2 = mw M1 130 24 (0 : Int32) → wp_X7_blanks M2 (fun M3 => ∃ j4 : Nat, L_X7_reads_15  K j4 ((0 : Int32)) M3)))
set_option maxRecDepth 20000 in
theorem tl_X7_reads_15 {p : Program} {e : Env} {s : State} {m : MethodId} {args : Array Value} {below : List Frame} {meth : Method} {c : Code} (l : Launch) (S : XS) (R : Rfs)  (hm : isMod R) (C : Cx p m meth c s args cX7_reads RX7 2 S) (hr : meth.sig.returnType = (some .int)) (K : Int32 → Mem → Prop)   (k : Nat) : ∀ (x1 : Int32) (M : Mem), L_X7_reads_15   K k x1 M → V p l e rmX7_reads s m args below meth c (MQ below (va_Qi K (XPost S 148 R) (XA S)) args s 0 0 (XA S)) S 2 0 0 148 M R 15 [(0, .ref (XB S + 130)), (1, .int x1)] [] := by
  induction k with
  | zero => intro x1 M h; exact h.elim
  | succ k ih =>
    intro x1 M h
    refine v_aloadn C 0 rfl rfl dX7_reads_15 ?_
    refine v_geti C fr_X7_87 sh_130 (Nat.le_of_ble_eq_true rfl) rfl dX7_reads_16 ?_
    refine v_aloadn C 0 rfl rfl dX7_reads_19 ?_
    refine v_geti C fr_X7_90 sh_130 (Nat.le_of_ble_eq_true rfl) rfl dX7_reads_20 ?_
    refine v_icmp_ge C 51 (by decide) dX7_reads_23 (fun c5 => ?_) (fun c5 => ?_)
    · replace h := h.1 c5
      refine v_iloadn C 1 rfl rfl dX7_reads_51 ?_
      exact v_iret C hr dX7_reads_52 h
    · replace h := h.2 c5
      refine v_aloadn C 0 rfl rfl dX7_reads_26 ?_
      refine v_cvI (As := []) C mv_X7_127 (con_X7_takesItem l S R  hm _ _ h) sh_130 (Nat.le_of_ble_eq_true rfl) rfl ⟨(Nat.le_of_ble_eq_true rfl), (Nat.le_of_ble_eq_true rfl)⟩ ⟨rfl, rfl, Nat.zero_le _, Nat.zero_le _⟩ (Nat.le_of_ble_eq_true rfl) dX7_reads_27 (fun r6 M6 h => ?_)
      refine v_if_ne C 41 (by decide) dX7_reads_30 (fun c7 => ?_) (fun c7 => ?_)
      · replace h := h.1 c7
        refine v_iinc (lv' := [(1, .int (x1 + (1 : Int32))), (0, .ref (XB S + 130))]) C 1 rfl kc_1 rfl rfl (Nat.le_of_ble_eq_true rfl) dX7_reads_41 ?_
        refine v_aloadn C 1 rfl rfl dX7_reads_44 ?_
        refine v_cvV (As := []) C mv_X7_100 (con_X7_blanks l S R  hm _ _ h) sh_130 (Nat.le_of_ble_eq_true rfl) rfl ⟨(Nat.le_of_ble_eq_true rfl), (Nat.le_of_ble_eq_true rfl)⟩ ⟨rfl, rfl, Nat.zero_le _, Nat.zero_le _⟩ (Nat.le_of_ble_eq_true rfl) dX7_reads_45 (fun M8 h => ?_)
        refine v_goto C 15 (by decide) dX7_reads_48 ?_
        refine v_loc [1, 0] rfl ?_
        exact ih ((x1 + (1 : Int32))) M8 h
      · replace h := h.2 c7
        refine v_bipush C kb_m10 dX7_reads_33 ?_
        refine v_aloadn C 0 rfl rfl dX7_reads_35 ?_
        refine v_geti C fr_X7_93 sh_130 (Nat.le_of_ble_eq_true rfl) rfl dX7_reads_36 ?_
        refine v_isub C dX7_reads_39 ?_
        exact v_iret C hr dX7_reads_40 h
set_option maxRecDepth 20000 in
theorem con_X7_reads (l : Launch) (S : XS) (R : Rfs)  (hm : isMod R) (M : Mem) (K : Int32 → Mem → Prop) (h : wp_X7_reads  M K) : CI l yX7_reads cX7_reads 2 (some .int) rmX7_reads S 148 R [.ref (XB S + 130)] M K := by
  refine conI (lv := [(0, .ref (XB S + 130))]) (by decide) (Nat.le_of_ble_eq_true rfl) rfl ?_
  intro p e s m args below meth c C hr
  replace C : Cx p m meth c s args cX7_reads RX7 2 S := C
  refine v_aloadn C 0 rfl rfl dX7_reads_0 ?_
  refine v_cvV (As := []) C mv_X7_62 (con_X7_begins l S R  hm _ _ h) sh_130 (Nat.le_of_ble_eq_true rfl) rfl ⟨(Nat.le_of_ble_eq_true rfl), (Nat.le_of_ble_eq_true rfl)⟩ ⟨rfl, rfl, Nat.zero_le _, Nat.zero_le _⟩ (Nat.le_of_ble_eq_true rfl) dX7_reads_1 (fun M1 h => ?_)
  refine v_aloadn C 0 rfl rfl dX7_reads_4 ?_
  refine v_iconst C kc_0 dX7_reads_5 ?_
  refine v_puti C fr_X7_87 sh_130 (Nat.le_of_ble_eq_true rfl) rfl dX7_reads_6 (fun M2 e2 => ?_)
  replace h := h M2 e2
  refine v_iconst C kc_0 dX7_reads_9 ?_
  refine v_istoren (lv' := [(1, .int (0 : Int32)), (0, .ref (XB S + 130))]) C rfl rfl (Nat.le_of_ble_eq_true rfl) dX7_reads_10 ?_
  refine v_aloadn C 1 rfl rfl dX7_reads_11 ?_
  refine v_cvV (As := []) C mv_X7_100 (con_X7_blanks l S R  hm _ _ h) sh_130 (Nat.le_of_ble_eq_true rfl) rfl ⟨(Nat.le_of_ble_eq_true rfl), (Nat.le_of_ble_eq_true rfl)⟩ ⟨rfl, rfl, Nat.zero_le _, Nat.zero_le _⟩ (Nat.le_of_ble_eq_true rfl) dX7_reads_12 (fun M3 h => ?_)
  refine v_loc [1, 0] rfl ?_
  obtain ⟨k4, h⟩ := h
  exact tl_X7_reads_15 l S R  hm C hr K   k4 ((0 : Int32)) M3 h
abbrev rmX7_type : Room := { frames := 1, cells := 0, slots := 0, locals := 22 }
def wp_X7_type (x1 : Int32) (M : Mem) (K : Int32 → Mem → Prop) : Prop := wp_X7_in (x1) ((0 : Int32)) ((255 : Int32)) M (fun r1 M1 => (¬ r1 = 0 → (¬ (M1 130 7) = (120 : Int32) → vp_in (M1 130 7) 120 ∧ (∀ M4 : Mem, M4 = mw M1 136 (ix (M1 130 7)) x1 → (∀ M5 : Mem, M5 = mw M4 130 7 ((M4 130 7) + (1 : Int32)) → K (M5 130 7) M5))) ∧ ((M1 130 7) = (120 : Int32) → K (-3 : Int32) M1)) ∧ (r1 = 0 → K (-1 : Int32) M1))
set_option maxRecDepth 20000 in
theorem con_X7_type (l : Launch) (S : XS) (R : Rfs) (x1 : Int32) (hm : isMod R) (M : Mem) (K : Int32 → Mem → Prop) (h : wp_X7_type x1 M K) : CI l yX7_type cX7_type 2 (some .int) rmX7_type S 148 R [.ref (XB S + 130), .int x1] M K := by
  refine conI (lv := [(0, .ref (XB S + 130)), (1, .int x1)]) (by decide) (Nat.le_of_ble_eq_true rfl) rfl ?_
  intro p e s m args below meth c C hr
  replace C : Cx p m meth c s args cX7_type RX7 2 S := C
  refine v_iloadn C 1 rfl rfl dX7_type_0 ?_
  refine v_iconst C kc_0 dX7_type_1 ?_
  refine v_sipush C ks_255 dX7_type_2 ?_
  refine v_csI (As := [.int x1, .int (0 : Int32), .int (255 : Int32)]) C ms_X7_96 (con_X7_in l S 148 R (x1) ((0 : Int32)) ((255 : Int32))  _ _ h) rfl ⟨(Nat.le_of_ble_eq_true rfl), (Nat.le_of_ble_eq_true rfl)⟩ ⟨rfl, rfl, Nat.zero_le _, Nat.zero_le _⟩ (Nat.le_of_ble_eq_true rfl) dX7_type_5 (fun r1 M1 h => ?_)
  refine v_if_ne C 13 (by decide) dX7_type_8 (fun c2 => ?_) (fun c2 => ?_)
  · replace h := h.1 c2
    refine v_aloadn C 0 rfl rfl dX7_type_13 ?_
    refine v_geti C fr_X7_90 sh_130 (Nat.le_of_ble_eq_true rfl) rfl dX7_type_14 ?_
    refine v_bipush C kb_120 dX7_type_17 ?_
    refine v_icmp_ne C 25 (by decide) dX7_type_19 (fun c3 => ?_) (fun c3 => ?_)
    · replace h := h.1 c3
      refine v_aloadn C 0 rfl rfl dX7_type_25 ?_
      refine v_getr (o' := 136) C fr_X7_26 sh_130 (Nat.le_of_ble_eq_true rfl) rfl (iMod_r6 hm) dX7_type_26 ?_
      refine v_aloadn C 0 rfl rfl dX7_type_29 ?_
      refine v_geti C fr_X7_90 sh_130 (Nat.le_of_ble_eq_true rfl) rfl dX7_type_30 ?_
      refine v_iloadn C 1 rfl rfl dX7_type_33 ?_
      have hi4 := h.1
      replace h := h.2
      refine v_ast C sh_136 (Nat.le_of_ble_eq_true rfl) hi4 dX7_type_34 (fun M4 e4 => ?_)
      replace h := h M4 e4
      refine v_aloadn C 0 rfl rfl dX7_type_35 ?_
      refine v_dup C rfl dX7_type_36 ?_
      refine v_geti C fr_X7_90 sh_130 (Nat.le_of_ble_eq_true rfl) rfl dX7_type_37 ?_
      refine v_iconst C kc_1 dX7_type_40 ?_
      refine v_iadd C dX7_type_41 ?_
      refine v_puti C fr_X7_90 sh_130 (Nat.le_of_ble_eq_true rfl) rfl dX7_type_42 (fun M5 e5 => ?_)
      replace h := h M5 e5
      refine v_aloadn C 0 rfl rfl dX7_type_45 ?_
      refine v_geti C fr_X7_90 sh_130 (Nat.le_of_ble_eq_true rfl) rfl dX7_type_46 ?_
      exact v_iret C hr dX7_type_49 h
    · replace h := h.2 c3
      refine v_bipush C kb_m3 dX7_type_22 ?_
      exact v_iret C hr dX7_type_24 h
  · replace h := h.2 c2
    refine v_iconst C kc_m1 dX7_type_11 ?_
    exact v_iret C hr dX7_type_12 h
abbrev rmX7_clear : Room := { frames := 0, cells := 0, slots := 0, locals := 0 }
def wp_X7_clear (M : Mem) (K : Int32 → Mem → Prop) : Prop := (∀ M1 : Mem, M1 = mw M 130 7 (0 : Int32) → K (M 130 7) M1)
set_option maxRecDepth 20000 in
theorem con_X7_clear (l : Launch) (S : XS) (R : Rfs)  (hm : isMod R) (M : Mem) (K : Int32 → Mem → Prop) (h : wp_X7_clear  M K) : CI l yX7_clear cX7_clear 2 (some .int) rmX7_clear S 148 R [.ref (XB S + 130)] M K := by
  refine conI (lv := [(0, .ref (XB S + 130))]) (by decide) (Nat.le_of_ble_eq_true rfl) rfl ?_
  intro p e s m args below meth c C hr
  replace C : Cx p m meth c s args cX7_clear RX7 2 S := C
  refine v_aloadn C 0 rfl rfl dX7_clear_0 ?_
  refine v_geti C fr_X7_90 sh_130 (Nat.le_of_ble_eq_true rfl) rfl dX7_clear_1 ?_
  refine v_istoren (lv' := [(1, .int (M 130 7)), (0, .ref (XB S + 130))]) C rfl rfl (Nat.le_of_ble_eq_true rfl) dX7_clear_4 ?_
  refine v_aloadn C 1 rfl rfl dX7_clear_5 ?_
  refine v_iconst C kc_0 dX7_clear_6 ?_
  refine v_puti C fr_X7_90 sh_130 (Nat.le_of_ble_eq_true rfl) rfl dX7_clear_7 (fun M1 e1 => ?_)
  replace h := h M1 e1
  refine v_iloadn C 0 rfl rfl dX7_clear_10 ?_
  exact v_iret C hr dX7_clear_11 h
abbrev rmX7_tells : Room := { frames := 6, cells := 0, slots := 0, locals := 129 }
def wp_X7_tells (M : Mem) (K : Int32 → Mem → Prop) : Prop := wp_X7_reads M (fun r1 M1 => (r1 < 0 → K r1 M1) ∧ (¬ r1 < 0 → wp_X7_takes M1 (fun M3 => (∀ M4 : Mem, M4 = mw M3 130 7 (0 : Int32) → K r1 M4))))
set_option maxRecDepth 20000 in
theorem con_X7_tells (l : Launch) (S : XS) (R : Rfs)  (hm : isMod R) (M : Mem) (K : Int32 → Mem → Prop) (h : wp_X7_tells  M K) : CI l yX7_tells cX7_tells 2 (some .int) rmX7_tells S 148 R [.ref (XB S + 130)] M K := by
  refine conI (lv := [(0, .ref (XB S + 130))]) (by decide) (Nat.le_of_ble_eq_true rfl) rfl ?_
  intro p e s m args below meth c C hr
  replace C : Cx p m meth c s args cX7_tells RX7 2 S := C
  refine v_aloadn C 0 rfl rfl dX7_tells_0 ?_
  refine v_cvI (As := []) C mv_X7_130 (con_X7_reads l S R  hm _ _ h) sh_130 (Nat.le_of_ble_eq_true rfl) rfl ⟨(Nat.le_of_ble_eq_true rfl), (Nat.le_of_ble_eq_true rfl)⟩ ⟨rfl, rfl, Nat.zero_le _, Nat.zero_le _⟩ (Nat.le_of_ble_eq_true rfl) dX7_tells_1 (fun r1 M1 h => ?_)
  refine v_istoren (lv' := [(1, .int r1), (0, .ref (XB S + 130))]) C rfl rfl (Nat.le_of_ble_eq_true rfl) dX7_tells_4 ?_
  refine v_iloadn C 0 rfl rfl dX7_tells_5 ?_
  refine v_if_lt C 18 (by decide) dX7_tells_6 (fun c2 => ?_) (fun c2 => ?_)
  · replace h := h.1 c2
    refine v_iloadn C 0 rfl rfl dX7_tells_18 ?_
    exact v_iret C hr dX7_tells_19 h
  · replace h := h.2 c2
    refine v_aloadn C 1 rfl rfl dX7_tells_9 ?_
    refine v_cvV (As := []) C mv_X7_65 (con_X7_takes l S R  hm _ _ h) sh_130 (Nat.le_of_ble_eq_true rfl) rfl ⟨(Nat.le_of_ble_eq_true rfl), (Nat.le_of_ble_eq_true rfl)⟩ ⟨rfl, rfl, Nat.zero_le _, Nat.zero_le _⟩ (Nat.le_of_ble_eq_true rfl) dX7_tells_10 (fun M3 h => ?_)
    refine v_aloadn C 1 rfl rfl dX7_tells_13 ?_
    refine v_iconst C kc_0 dX7_tells_14 ?_
    refine v_puti C fr_X7_90 sh_130 (Nat.le_of_ble_eq_true rfl) rfl dX7_tells_15 (fun M4 e4 => ?_)
    replace h := h M4 e4
    refine v_iloadn C 0 rfl rfl dX7_tells_18 ?_
    exact v_iret C hr dX7_tells_19 h
abbrev rmX7_remembers : Room := { frames := 0, cells := 0, slots := 0, locals := 0 }
def L_X7_remembers_52   (K : Mem → Prop) : Nat → Int32 → Mem → Prop
  | 0, _, _ => False
  | k + 1, x1, M => ((349 : Int32) ≤ x1 → (∀ M5 : Mem, M5 = mw M 130 3 ((M 130 3) + (1 : Int32)) → K M5)) ∧ (¬ (349 : Int32) ≤ x1 → vp_in x1 349 ∧ (vp_in (((349 : Int32) * (M 130 3)) + x1) 2094 ∧ (∀ M6 : Mem, M6 = mw M 133 (ix (((349 : Int32) * (M 130 3)) + x1)) (M 131 (ix x1)) → L_X7_remembers_52  K k (x1 + (1 : Int32)) M6)))
def wp_X7_remembers_50   (K : Mem → Prop) (M : Mem) : Prop := ∃ j3 : Nat, L_X7_remembers_52   K j3 ((0 : Int32)) M
def L_X7_remembers_11   (K : Mem → Prop) : Nat → Int32 → Mem → Prop
  | 0, _, _ => False
  | k + 1, x1, M => ((1745 : Int32) ≤ x1 → (∀ M8 : Mem, M8 = mw M 130 3 ((M 130 3) - (1 : Int32)) → wp_X7_remembers_50   K  M8)) ∧ (¬ (1745 : Int32) ≤ x1 → vp_in (x1 + (349 : Int32)) 2094 ∧ (vp_in x1 2094 ∧ (∀ M9 : Mem, M9 = mw M 133 (ix x1) (M 133 (ix (x1 + (349 : Int32)))) → L_X7_remembers_11  K k (x1 + (1 : Int32)) M9)))
def wp_X7_remembers (M : Mem) (K : Mem → Prop) : Prop := (¬ (M 130 3) = (6 : Int32) → wp_X7_remembers_50  K M) ∧ ((M 130 3) = (6 : Int32) → ∃ j2 : Nat, L_X7_remembers_11  K j2 ((0 : Int32)) M)
set_option maxRecDepth 20000 in
theorem tl_X7_remembers_52 {p : Program} {e : Env} {s : State} {m : MethodId} {args : Array Value} {below : List Frame} {meth : Method} {c : Code} (l : Launch) (S : XS) (R : Rfs)  (hm : isMod R) (C : Cx p m meth c s args cX7_remembers RX7 2 S) (hr : meth.sig.returnType = none) (K : Mem → Prop)   (k : Nat) : ∀ (x1 : Int32) (M : Mem), L_X7_remembers_52   K k x1 M → V p l e rmX7_remembers s m args below meth c (MQ below (va_Qv K (XPost S 148 R) (XA S)) args s 0 0 (XA S)) S 2 0 0 148 M R 52 [(0, .ref (XB S + 130)), (1, .int x1)] [] := by
  induction k with
  | zero => intro x1 M h; exact h.elim
  | succ k ih =>
    intro x1 M h
    refine v_iloadn C 1 rfl rfl dX7_remembers_52 ?_
    refine v_sipush C ks_349 dX7_remembers_53 ?_
    refine v_icmp_ge C 86 (by decide) dX7_remembers_56 (fun c4 => ?_) (fun c4 => ?_)
    · replace h := h.1 c4
      refine v_aloadn C 0 rfl rfl dX7_remembers_86 ?_
      refine v_dup C rfl dX7_remembers_87 ?_
      refine v_geti C fr_X7_81 sh_130 (Nat.le_of_ble_eq_true rfl) rfl dX7_remembers_88 ?_
      refine v_iconst C kc_1 dX7_remembers_91 ?_
      refine v_iadd C dX7_remembers_92 ?_
      refine v_puti C fr_X7_81 sh_130 (Nat.le_of_ble_eq_true rfl) rfl dX7_remembers_93 (fun M5 e5 => ?_)
      replace h := h M5 e5
      exact v_vret C hr dX7_remembers_96 h
    · replace h := h.2 c4
      refine v_aloadn C 0 rfl rfl dX7_remembers_59 ?_
      refine v_getr (o' := 133) C fr_X7_16 sh_130 (Nat.le_of_ble_eq_true rfl) rfl (iMod_r2 hm) dX7_remembers_60 ?_
      refine v_sipush C ks_349 dX7_remembers_63 ?_
      refine v_aloadn C 0 rfl rfl dX7_remembers_66 ?_
      refine v_geti C fr_X7_81 sh_130 (Nat.le_of_ble_eq_true rfl) rfl dX7_remembers_67 ?_
      refine v_imul C dX7_remembers_70 ?_
      refine v_iloadn C 1 rfl rfl dX7_remembers_71 ?_
      refine v_iadd C dX7_remembers_72 ?_
      refine v_aloadn C 0 rfl rfl dX7_remembers_73 ?_
      refine v_getr (o' := 131) C fr_X7_7 sh_130 (Nat.le_of_ble_eq_true rfl) rfl (iMod_r0 hm) dX7_remembers_74 ?_
      refine v_iloadn C 1 rfl rfl dX7_remembers_77 ?_
      refine v_ald C sh_131 (Nat.le_of_ble_eq_true rfl) h.1 dX7_remembers_78 ?_
      replace h := h.2
      have hi6 := h.1
      replace h := h.2
      refine v_ast C sh_133 (Nat.le_of_ble_eq_true rfl) hi6 dX7_remembers_79 (fun M6 e6 => ?_)
      replace h := h M6 e6
      refine v_iinc (lv' := [(1, .int (x1 + (1 : Int32))), (0, .ref (XB S + 130))]) C 1 rfl kc_1 rfl rfl (Nat.le_of_ble_eq_true rfl) dX7_remembers_80 ?_
      refine v_goto C 52 (by decide) dX7_remembers_83 ?_
      refine v_loc [1, 0] rfl ?_
      exact ih ((x1 + (1 : Int32))) M6 h
set_option maxRecDepth 20000 in
theorem tb_X7_remembers_50 {p : Program} {e : Env} {s : State} {m : MethodId} {args : Array Value} {below : List Frame} {meth : Method} {c : Code} (l : Launch) (S : XS) (R : Rfs)  (hm : isMod R) (C : Cx p m meth c s args cX7_remembers RX7 2 S) (hr : meth.sig.returnType = none) (K : Mem → Prop)   (M : Mem) (h : wp_X7_remembers_50   K  M) : V p l e rmX7_remembers s m args below meth c (MQ below (va_Qv K (XPost S 148 R) (XA S)) args s 0 0 (XA S)) S 2 0 0 148 M R 50 [(0, .ref (XB S + 130))] [] := by
  refine v_iconst C kc_0 dX7_remembers_50 ?_
  refine v_istoren (lv' := [(1, .int (0 : Int32)), (0, .ref (XB S + 130))]) C rfl rfl (Nat.le_of_ble_eq_true rfl) dX7_remembers_51 ?_
  refine v_loc [1, 0] rfl ?_
  obtain ⟨k3, h⟩ := h
  exact tl_X7_remembers_52 l S R  hm C hr K   k3 ((0 : Int32)) M h
set_option maxRecDepth 20000 in
theorem tl_X7_remembers_11 {p : Program} {e : Env} {s : State} {m : MethodId} {args : Array Value} {below : List Frame} {meth : Method} {c : Code} (l : Launch) (S : XS) (R : Rfs)  (hm : isMod R) (C : Cx p m meth c s args cX7_remembers RX7 2 S) (hr : meth.sig.returnType = none) (K : Mem → Prop)   (k : Nat) : ∀ (x1 : Int32) (M : Mem), L_X7_remembers_11   K k x1 M → V p l e rmX7_remembers s m args below meth c (MQ below (va_Qv K (XPost S 148 R) (XA S)) args s 0 0 (XA S)) S 2 0 0 148 M R 11 [(0, .ref (XB S + 130)), (1, .int x1)] [] := by
  induction k with
  | zero => intro x1 M h; exact h.elim
  | succ k ih =>
    intro x1 M h
    refine v_iloadn C 1 rfl rfl dX7_remembers_11 ?_
    refine v_sipush C ks_1745 dX7_remembers_12 ?_
    refine v_icmp_ge C 40 (by decide) dX7_remembers_15 (fun c7 => ?_) (fun c7 => ?_)
    · replace h := h.1 c7
      refine v_aloadn C 0 rfl rfl dX7_remembers_40 ?_
      refine v_dup C rfl dX7_remembers_41 ?_
      refine v_geti C fr_X7_81 sh_130 (Nat.le_of_ble_eq_true rfl) rfl dX7_remembers_42 ?_
      refine v_iconst C kc_1 dX7_remembers_45 ?_
      refine v_isub C dX7_remembers_46 ?_
      refine v_puti C fr_X7_81 sh_130 (Nat.le_of_ble_eq_true rfl) rfl dX7_remembers_47 (fun M8 e8 => ?_)
      replace h := h M8 e8
      refine v_loc [0] rfl ?_
      exact tb_X7_remembers_50 l S R  hm C hr K    M8 h
    · replace h := h.2 c7
      refine v_aloadn C 0 rfl rfl dX7_remembers_18 ?_
      refine v_getr (o' := 133) C fr_X7_16 sh_130 (Nat.le_of_ble_eq_true rfl) rfl (iMod_r2 hm) dX7_remembers_19 ?_
      refine v_iloadn C 1 rfl rfl dX7_remembers_22 ?_
      refine v_aloadn C 0 rfl rfl dX7_remembers_23 ?_
      refine v_getr (o' := 133) C fr_X7_16 sh_130 (Nat.le_of_ble_eq_true rfl) rfl (iMod_r2 hm) dX7_remembers_24 ?_
      refine v_iloadn C 1 rfl rfl dX7_remembers_27 ?_
      refine v_sipush C ks_349 dX7_remembers_28 ?_
      refine v_iadd C dX7_remembers_31 ?_
      refine v_ald C sh_133 (Nat.le_of_ble_eq_true rfl) h.1 dX7_remembers_32 ?_
      replace h := h.2
      have hi9 := h.1
      replace h := h.2
      refine v_ast C sh_133 (Nat.le_of_ble_eq_true rfl) hi9 dX7_remembers_33 (fun M9 e9 => ?_)
      replace h := h M9 e9
      refine v_iinc (lv' := [(1, .int (x1 + (1 : Int32))), (0, .ref (XB S + 130))]) C 1 rfl kc_1 rfl rfl (Nat.le_of_ble_eq_true rfl) dX7_remembers_34 ?_
      refine v_goto C 11 (by decide) dX7_remembers_37 ?_
      refine v_loc [1, 0] rfl ?_
      exact ih ((x1 + (1 : Int32))) M9 h
set_option maxRecDepth 20000 in
theorem con_X7_remembers (l : Launch) (S : XS) (R : Rfs)  (hm : isMod R) (M : Mem) (K : Mem → Prop) (h : wp_X7_remembers  M K) : CV l yX7_remembers cX7_remembers 2 rmX7_remembers S 148 R [.ref (XB S + 130)] M K := by
  refine conV (lv := [(0, .ref (XB S + 130))]) (by decide) (Nat.le_of_ble_eq_true rfl) rfl ?_
  intro p e s m args below meth c C hr
  replace C : Cx p m meth c s args cX7_remembers RX7 2 S := C
  refine v_aloadn C 0 rfl rfl dX7_remembers_0 ?_
  refine v_geti C fr_X7_81 sh_130 (Nat.le_of_ble_eq_true rfl) rfl dX7_remembers_1 ?_
  refine v_bipush C kb_6 dX7_remembers_4 ?_
  refine v_icmp_ne C 50 (by decide) dX7_remembers_6 (fun c1 => ?_) (fun c1 => ?_)
  · replace h := h.1 c1
    exact tb_X7_remembers_50 l S R  hm C hr K    M h
  · replace h := h.2 c1
    refine v_iconst C kc_0 dX7_remembers_9 ?_
    refine v_istoren (lv' := [(1, .int (0 : Int32)), (0, .ref (XB S + 130))]) C rfl rfl (Nat.le_of_ble_eq_true rfl) dX7_remembers_10 ?_
    refine v_loc [1, 0] rfl ?_
    obtain ⟨k2, h⟩ := h
    exact tl_X7_remembers_11 l S R  hm C hr K   k2 ((0 : Int32)) M h
abbrev rmX7_undo : Room := { frames := 0, cells := 0, slots := 0, locals := 0 }
def L_X7_undo_22   (K : Int32 → Mem → Prop) : Nat → Int32 → Mem → Prop
  | 0, _, _ => False
  | k + 1, x1, M => ((349 : Int32) ≤ x1 → K (M 130 3) M) ∧ (¬ (349 : Int32) ≤ x1 → vp_in (((349 : Int32) * (M 130 3)) + x1) 2094 ∧ (vp_in x1 349 ∧ (∀ M5 : Mem, M5 = mw M 131 (ix x1) (M 133 (ix (((349 : Int32) * (M 130 3)) + x1))) → L_X7_undo_22  K k (x1 + (1 : Int32)) M5)))
def wp_X7_undo (M : Mem) (K : Int32 → Mem → Prop) : Prop := (¬ (M 130 3) = 0 → (∀ M2 : Mem, M2 = mw M 130 3 ((M 130 3) - (1 : Int32)) → ∃ j3 : Nat, L_X7_undo_22  K j3 ((0 : Int32)) M2)) ∧ ((M 130 3) = 0 → K (-2 : Int32) M)
set_option maxRecDepth 20000 in
theorem tl_X7_undo_22 {p : Program} {e : Env} {s : State} {m : MethodId} {args : Array Value} {below : List Frame} {meth : Method} {c : Code} (l : Launch) (S : XS) (R : Rfs)  (hm : isMod R) (C : Cx p m meth c s args cX7_undo RX7 2 S) (hr : meth.sig.returnType = (some .int)) (K : Int32 → Mem → Prop)   (k : Nat) : ∀ (x1 : Int32) (M : Mem), L_X7_undo_22   K k x1 M → V p l e rmX7_undo s m args below meth c (MQ below (va_Qi K (XPost S 148 R) (XA S)) args s 0 0 (XA S)) S 2 0 0 148 M R 22 [(0, .ref (XB S + 130)), (1, .int x1)] [] := by
  induction k with
  | zero => intro x1 M h; exact h.elim
  | succ k ih =>
    intro x1 M h
    refine v_iloadn C 1 rfl rfl dX7_undo_22 ?_
    refine v_sipush C ks_349 dX7_undo_23 ?_
    refine v_icmp_ge C 56 (by decide) dX7_undo_26 (fun c4 => ?_) (fun c4 => ?_)
    · replace h := h.1 c4
      refine v_aloadn C 0 rfl rfl dX7_undo_56 ?_
      refine v_geti C fr_X7_81 sh_130 (Nat.le_of_ble_eq_true rfl) rfl dX7_undo_57 ?_
      exact v_iret C hr dX7_undo_60 h
    · replace h := h.2 c4
      refine v_aloadn C 0 rfl rfl dX7_undo_29 ?_
      refine v_getr (o' := 131) C fr_X7_7 sh_130 (Nat.le_of_ble_eq_true rfl) rfl (iMod_r0 hm) dX7_undo_30 ?_
      refine v_iloadn C 1 rfl rfl dX7_undo_33 ?_
      refine v_aloadn C 0 rfl rfl dX7_undo_34 ?_
      refine v_getr (o' := 133) C fr_X7_16 sh_130 (Nat.le_of_ble_eq_true rfl) rfl (iMod_r2 hm) dX7_undo_35 ?_
      refine v_sipush C ks_349 dX7_undo_38 ?_
      refine v_aloadn C 0 rfl rfl dX7_undo_41 ?_
      refine v_geti C fr_X7_81 sh_130 (Nat.le_of_ble_eq_true rfl) rfl dX7_undo_42 ?_
      refine v_imul C dX7_undo_45 ?_
      refine v_iloadn C 1 rfl rfl dX7_undo_46 ?_
      refine v_iadd C dX7_undo_47 ?_
      refine v_ald C sh_133 (Nat.le_of_ble_eq_true rfl) h.1 dX7_undo_48 ?_
      replace h := h.2
      have hi5 := h.1
      replace h := h.2
      refine v_ast C sh_131 (Nat.le_of_ble_eq_true rfl) hi5 dX7_undo_49 (fun M5 e5 => ?_)
      replace h := h M5 e5
      refine v_iinc (lv' := [(1, .int (x1 + (1 : Int32))), (0, .ref (XB S + 130))]) C 1 rfl kc_1 rfl rfl (Nat.le_of_ble_eq_true rfl) dX7_undo_50 ?_
      refine v_goto C 22 (by decide) dX7_undo_53 ?_
      refine v_loc [1, 0] rfl ?_
      exact ih ((x1 + (1 : Int32))) M5 h
set_option maxRecDepth 20000 in
theorem con_X7_undo (l : Launch) (S : XS) (R : Rfs)  (hm : isMod R) (M : Mem) (K : Int32 → Mem → Prop) (h : wp_X7_undo  M K) : CI l yX7_undo cX7_undo 2 (some .int) rmX7_undo S 148 R [.ref (XB S + 130)] M K := by
  refine conI (lv := [(0, .ref (XB S + 130))]) (by decide) (Nat.le_of_ble_eq_true rfl) rfl ?_
  intro p e s m args below meth c C hr
  replace C : Cx p m meth c s args cX7_undo RX7 2 S := C
  refine v_aloadn C 0 rfl rfl dX7_undo_0 ?_
  refine v_geti C fr_X7_81 sh_130 (Nat.le_of_ble_eq_true rfl) rfl dX7_undo_1 ?_
  refine v_if_ne C 10 (by decide) dX7_undo_4 (fun c1 => ?_) (fun c1 => ?_)
  · replace h := h.1 c1
    refine v_aloadn C 0 rfl rfl dX7_undo_10 ?_
    refine v_dup C rfl dX7_undo_11 ?_
    refine v_geti C fr_X7_81 sh_130 (Nat.le_of_ble_eq_true rfl) rfl dX7_undo_12 ?_
    refine v_iconst C kc_1 dX7_undo_15 ?_
    refine v_isub C dX7_undo_16 ?_
    refine v_puti C fr_X7_81 sh_130 (Nat.le_of_ble_eq_true rfl) rfl dX7_undo_17 (fun M2 e2 => ?_)
    replace h := h M2 e2
    refine v_iconst C kc_0 dX7_undo_20 ?_
    refine v_istoren (lv' := [(1, .int (0 : Int32)), (0, .ref (XB S + 130))]) C rfl rfl (Nat.le_of_ble_eq_true rfl) dX7_undo_21 ?_
    refine v_loc [1, 0] rfl ?_
    obtain ⟨k3, h⟩ := h
    exact tl_X7_undo_22 l S R  hm C hr K   k3 ((0 : Int32)) M2 h
  · replace h := h.2 c1
    refine v_bipush C kb_m2 dX7_undo_7 ?_
    exact v_iret C hr dX7_undo_9 h
abbrev rmX7_laysAside : Room := { frames := 0, cells := 0, slots := 0, locals := 0 }
def L_X7_laysAside_2   (K : Mem → Prop) : Nat → Int32 → Mem → Prop
  | 0, _, _ => False
  | k + 1, x1, M => ((349 : Int32) ≤ x1 → K M) ∧ (¬ (349 : Int32) ≤ x1 → vp_in x1 349 ∧ (vp_in x1 349 ∧ (∀ M3 : Mem, M3 = mw M 132 (ix x1) (M 131 (ix x1)) → L_X7_laysAside_2  K k (x1 + (1 : Int32)) M3)))
def wp_X7_laysAside (M : Mem) (K : Mem → Prop) : Prop := ∃ j1 : Nat, L_X7_laysAside_2  K j1 ((0 : Int32)) M
set_option maxRecDepth 20000 in
theorem tl_X7_laysAside_2 {p : Program} {e : Env} {s : State} {m : MethodId} {args : Array Value} {below : List Frame} {meth : Method} {c : Code} (l : Launch) (S : XS) (R : Rfs)  (hm : isMod R) (C : Cx p m meth c s args cX7_laysAside RX7 2 S) (hr : meth.sig.returnType = none) (K : Mem → Prop)   (k : Nat) : ∀ (x1 : Int32) (M : Mem), L_X7_laysAside_2   K k x1 M → V p l e rmX7_laysAside s m args below meth c (MQ below (va_Qv K (XPost S 148 R) (XA S)) args s 0 0 (XA S)) S 2 0 0 148 M R 2 [(0, .ref (XB S + 130)), (1, .int x1)] [] := by
  induction k with
  | zero => intro x1 M h; exact h.elim
  | succ k ih =>
    intro x1 M h
    refine v_iloadn C 1 rfl rfl dX7_laysAside_2 ?_
    refine v_sipush C ks_349 dX7_laysAside_3 ?_
    refine v_icmp_ge C 27 (by decide) dX7_laysAside_6 (fun c2 => ?_) (fun c2 => ?_)
    · replace h := h.1 c2
      exact v_vret C hr dX7_laysAside_27 h
    · replace h := h.2 c2
      refine v_aloadn C 0 rfl rfl dX7_laysAside_9 ?_
      refine v_getr (o' := 132) C fr_X7_13 sh_130 (Nat.le_of_ble_eq_true rfl) rfl (iMod_r1 hm) dX7_laysAside_10 ?_
      refine v_iloadn C 1 rfl rfl dX7_laysAside_13 ?_
      refine v_aloadn C 0 rfl rfl dX7_laysAside_14 ?_
      refine v_getr (o' := 131) C fr_X7_7 sh_130 (Nat.le_of_ble_eq_true rfl) rfl (iMod_r0 hm) dX7_laysAside_15 ?_
      refine v_iloadn C 1 rfl rfl dX7_laysAside_18 ?_
      refine v_ald C sh_131 (Nat.le_of_ble_eq_true rfl) h.1 dX7_laysAside_19 ?_
      replace h := h.2
      have hi3 := h.1
      replace h := h.2
      refine v_ast C sh_132 (Nat.le_of_ble_eq_true rfl) hi3 dX7_laysAside_20 (fun M3 e3 => ?_)
      replace h := h M3 e3
      refine v_iinc (lv' := [(1, .int (x1 + (1 : Int32))), (0, .ref (XB S + 130))]) C 1 rfl kc_1 rfl rfl (Nat.le_of_ble_eq_true rfl) dX7_laysAside_21 ?_
      refine v_goto C 2 (by decide) dX7_laysAside_24 ?_
      refine v_loc [1, 0] rfl ?_
      exact ih ((x1 + (1 : Int32))) M3 h
set_option maxRecDepth 20000 in
theorem con_X7_laysAside (l : Launch) (S : XS) (R : Rfs)  (hm : isMod R) (M : Mem) (K : Mem → Prop) (h : wp_X7_laysAside  M K) : CV l yX7_laysAside cX7_laysAside 2 rmX7_laysAside S 148 R [.ref (XB S + 130)] M K := by
  refine conV (lv := [(0, .ref (XB S + 130))]) (by decide) (Nat.le_of_ble_eq_true rfl) rfl ?_
  intro p e s m args below meth c C hr
  replace C : Cx p m meth c s args cX7_laysAside RX7 2 S := C
  refine v_iconst C kc_0 dX7_laysAside_0 ?_
  refine v_istoren (lv' := [(1, .int (0 : Int32)), (0, .ref (XB S + 130))]) C rfl rfl (Nat.le_of_ble_eq_true rfl) dX7_laysAside_1 ?_
  refine v_loc [1, 0] rfl ?_
  obtain ⟨k1, h⟩ := h
  exact tl_X7_laysAside_2 l S R  hm C hr K   k1 ((0 : Int32)) M h
abbrev rmX7_comesBack : Room := { frames := 0, cells := 0, slots := 0, locals := 0 }
def L_X7_comesBack_2   (K : Mem → Prop) : Nat → Int32 → Mem → Prop
  | 0, _, _ => False
  | k + 1, x1, M => ((349 : Int32) ≤ x1 → K M) ∧ (¬ (349 : Int32) ≤ x1 → vp_in x1 349 ∧ (vp_in x1 349 ∧ (∀ M3 : Mem, M3 = mw M 131 (ix x1) (M 132 (ix x1)) → L_X7_comesBack_2  K k (x1 + (1 : Int32)) M3)))
def wp_X7_comesBack (M : Mem) (K : Mem → Prop) : Prop := ∃ j1 : Nat, L_X7_comesBack_2  K j1 ((0 : Int32)) M
set_option maxRecDepth 20000 in
theorem tl_X7_comesBack_2 {p : Program} {e : Env} {s : State} {m : MethodId} {args : Array Value} {below : List Frame} {meth : Method} {c : Code} (l : Launch) (S : XS) (R : Rfs)  (hm : isMod R) (C : Cx p m meth c s args cX7_comesBack RX7 2 S) (hr : meth.sig.returnType = none) (K : Mem → Prop)   (k : Nat) : ∀ (x1 : Int32) (M : Mem), L_X7_comesBack_2   K k x1 M → V p l e rmX7_comesBack s m args below meth c (MQ below (va_Qv K (XPost S 148 R) (XA S)) args s 0 0 (XA S)) S 2 0 0 148 M R 2 [(0, .ref (XB S + 130)), (1, .int x1)] [] := by
  induction k with
  | zero => intro x1 M h; exact h.elim
  | succ k ih =>
    intro x1 M h
    refine v_iloadn C 1 rfl rfl dX7_comesBack_2 ?_
    refine v_sipush C ks_349 dX7_comesBack_3 ?_
    refine v_icmp_ge C 27 (by decide) dX7_comesBack_6 (fun c2 => ?_) (fun c2 => ?_)
    · replace h := h.1 c2
      exact v_vret C hr dX7_comesBack_27 h
    · replace h := h.2 c2
      refine v_aloadn C 0 rfl rfl dX7_comesBack_9 ?_
      refine v_getr (o' := 131) C fr_X7_7 sh_130 (Nat.le_of_ble_eq_true rfl) rfl (iMod_r0 hm) dX7_comesBack_10 ?_
      refine v_iloadn C 1 rfl rfl dX7_comesBack_13 ?_
      refine v_aloadn C 0 rfl rfl dX7_comesBack_14 ?_
      refine v_getr (o' := 132) C fr_X7_13 sh_130 (Nat.le_of_ble_eq_true rfl) rfl (iMod_r1 hm) dX7_comesBack_15 ?_
      refine v_iloadn C 1 rfl rfl dX7_comesBack_18 ?_
      refine v_ald C sh_132 (Nat.le_of_ble_eq_true rfl) h.1 dX7_comesBack_19 ?_
      replace h := h.2
      have hi3 := h.1
      replace h := h.2
      refine v_ast C sh_131 (Nat.le_of_ble_eq_true rfl) hi3 dX7_comesBack_20 (fun M3 e3 => ?_)
      replace h := h M3 e3
      refine v_iinc (lv' := [(1, .int (x1 + (1 : Int32))), (0, .ref (XB S + 130))]) C 1 rfl kc_1 rfl rfl (Nat.le_of_ble_eq_true rfl) dX7_comesBack_21 ?_
      refine v_goto C 2 (by decide) dX7_comesBack_24 ?_
      refine v_loc [1, 0] rfl ?_
      exact ih ((x1 + (1 : Int32))) M3 h
set_option maxRecDepth 20000 in
theorem con_X7_comesBack (l : Launch) (S : XS) (R : Rfs)  (hm : isMod R) (M : Mem) (K : Mem → Prop) (h : wp_X7_comesBack  M K) : CV l yX7_comesBack cX7_comesBack 2 rmX7_comesBack S 148 R [.ref (XB S + 130)] M K := by
  refine conV (lv := [(0, .ref (XB S + 130))]) (by decide) (Nat.le_of_ble_eq_true rfl) rfl ?_
  intro p e s m args below meth c C hr
  replace C : Cx p m meth c s args cX7_comesBack RX7 2 S := C
  refine v_iconst C kc_0 dX7_comesBack_0 ?_
  refine v_istoren (lv' := [(1, .int (0 : Int32)), (0, .ref (XB S + 130))]) C rfl rfl (Nat.le_of_ble_eq_true rfl) dX7_comesBack_1 ?_
  refine v_loc [1, 0] rfl ?_
  obtain ⟨k1, h⟩ := h
  exact tl_X7_comesBack_2 l S R  hm C hr K   k1 ((0 : Int32)) M h
abbrev rmX7_nextReel : Room := { frames := 0, cells := 0, slots := 0, locals := 0 }
def wp_X7_nextReel (M : Mem) (K : Int32 → Mem → Prop) : Prop := ((M 130 13) ≤ ((M 131 1) + (1 : Int32)) → K (-9 : Int32) M) ∧ (¬ (M 130 13) ≤ ((M 131 1) + (1 : Int32)) → K ((M 131 1) + (1 : Int32)) M)
set_option maxRecDepth 20000 in
theorem con_X7_nextReel (l : Launch) (S : XS) (R : Rfs)  (hm : isMod R) (M : Mem) (K : Int32 → Mem → Prop) (h : wp_X7_nextReel  M K) : CI l yX7_nextReel cX7_nextReel 1 (some .int) rmX7_nextReel S 148 R [.ref (XB S + 130)] M K := by
  refine conI (lv := [(0, .ref (XB S + 130))]) (by decide) (Nat.le_of_ble_eq_true rfl) rfl ?_
  intro p e s m args below meth c C hr
  replace C : Cx p m meth c s args cX7_nextReel RX7 1 S := C
  refine v_aloadn C 0 rfl rfl dX7_nextReel_0 ?_
  refine v_getr (o' := 131) C fr_X7_7 sh_130 (Nat.le_of_ble_eq_true rfl) rfl (iMod_r0 hm) dX7_nextReel_1 ?_
  refine v_iconst C kc_1 dX7_nextReel_4 ?_
  refine v_aldk C sh_131 (Nat.le_of_ble_eq_true rfl) lit_1 (Nat.le_of_ble_eq_true rfl) dX7_nextReel_5 ?_
  refine v_iconst C kc_1 dX7_nextReel_6 ?_
  refine v_iadd C dX7_nextReel_7 ?_
  refine v_aloadn C 0 rfl rfl dX7_nextReel_8 ?_
  refine v_geti C fr_X7_78 sh_130 (Nat.le_of_ble_eq_true rfl) rfl dX7_nextReel_9 ?_
  refine v_icmp_ge C 26 (by decide) dX7_nextReel_12 (fun c1 => ?_) (fun c1 => ?_)
  · replace h := h.1 c1
    refine v_bipush C kb_m9 dX7_nextReel_26 ?_
    exact v_iret C hr dX7_nextReel_28 h
  · replace h := h.2 c1
    refine v_aloadn C 0 rfl rfl dX7_nextReel_15 ?_
    refine v_getr (o' := 131) C fr_X7_7 sh_130 (Nat.le_of_ble_eq_true rfl) rfl (iMod_r0 hm) dX7_nextReel_16 ?_
    refine v_iconst C kc_1 dX7_nextReel_19 ?_
    refine v_aldk C sh_131 (Nat.le_of_ble_eq_true rfl) lit_1 (Nat.le_of_ble_eq_true rfl) dX7_nextReel_20 ?_
    refine v_iconst C kc_1 dX7_nextReel_21 ?_
    refine v_iadd C dX7_nextReel_22 ?_
    refine v_goto C 28 (by decide) dX7_nextReel_23 ?_
    exact v_iret C hr dX7_nextReel_28 h
abbrev rmX7_goesOnReel : Room := { frames := 0, cells := 0, slots := 0, locals := 0 }
def wp_X7_goesOnReel (M : Mem) (K : Mem → Prop) : Prop := (∀ M1 : Mem, M1 = mw M 131 1 ((M 131 1) + (1 : Int32)) → vp_in (M1 131 1) 8 ∧ ((∀ M2 : Mem, M2 = mw M1 131 2 (M1 140 (ix (M1 131 1))) → (∀ M3 : Mem, M3 = mw M2 131 3 (0 : Int32) → K M3))))
set_option maxRecDepth 20000 in
theorem con_X7_goesOnReel (l : Launch) (S : XS) (R : Rfs)  (hm : isMod R) (M : Mem) (K : Mem → Prop) (h : wp_X7_goesOnReel  M K) : CV l yX7_goesOnReel cX7_goesOnReel 1 rmX7_goesOnReel S 148 R [.ref (XB S + 130)] M K := by
  refine conV (lv := [(0, .ref (XB S + 130))]) (by decide) (Nat.le_of_ble_eq_true rfl) rfl ?_
  intro p e s m args below meth c C hr
  replace C : Cx p m meth c s args cX7_goesOnReel RX7 1 S := C
  refine v_aloadn C 0 rfl rfl dX7_goesOnReel_0 ?_
  refine v_getr (o' := 131) C fr_X7_7 sh_130 (Nat.le_of_ble_eq_true rfl) rfl (iMod_r0 hm) dX7_goesOnReel_1 ?_
  refine v_iconst C kc_1 dX7_goesOnReel_4 ?_
  refine v_dup2 C rfl rfl dX7_goesOnReel_5 ?_
  refine v_aldk C sh_131 (Nat.le_of_ble_eq_true rfl) lit_1 (Nat.le_of_ble_eq_true rfl) dX7_goesOnReel_6 ?_
  refine v_iconst C kc_1 dX7_goesOnReel_7 ?_
  refine v_iadd C dX7_goesOnReel_8 ?_
  refine v_astk C sh_131 (Nat.le_of_ble_eq_true rfl) lit_1 (Nat.le_of_ble_eq_true rfl) dX7_goesOnReel_9 (fun M1 e1 => ?_)
  replace h := h M1 e1
  refine v_aloadn C 0 rfl rfl dX7_goesOnReel_10 ?_
  refine v_getr (o' := 131) C fr_X7_7 sh_130 (Nat.le_of_ble_eq_true rfl) rfl (iMod_r0 hm) dX7_goesOnReel_11 ?_
  refine v_iconst C kc_2 dX7_goesOnReel_14 ?_
  refine v_aloadn C 0 rfl rfl dX7_goesOnReel_15 ?_
  refine v_getr (o' := 140) C fr_X7_38 sh_130 (Nat.le_of_ble_eq_true rfl) rfl (iMod_r14 hm) dX7_goesOnReel_16 ?_
  refine v_aloadn C 0 rfl rfl dX7_goesOnReel_19 ?_
  refine v_getr (o' := 131) C fr_X7_7 sh_130 (Nat.le_of_ble_eq_true rfl) rfl (iMod_r0 hm) dX7_goesOnReel_20 ?_
  refine v_iconst C kc_1 dX7_goesOnReel_23 ?_
  refine v_aldk C sh_131 (Nat.le_of_ble_eq_true rfl) lit_1 (Nat.le_of_ble_eq_true rfl) dX7_goesOnReel_24 ?_
  refine v_ald C sh_140 (Nat.le_of_ble_eq_true rfl) h.1 dX7_goesOnReel_25 ?_
  replace h := h.2
  refine v_astk C sh_131 (Nat.le_of_ble_eq_true rfl) lit_2 (Nat.le_of_ble_eq_true rfl) dX7_goesOnReel_26 (fun M2 e2 => ?_)
  replace h := h M2 e2
  refine v_aloadn C 0 rfl rfl dX7_goesOnReel_27 ?_
  refine v_getr (o' := 131) C fr_X7_7 sh_130 (Nat.le_of_ble_eq_true rfl) rfl (iMod_r0 hm) dX7_goesOnReel_28 ?_
  refine v_iconst C kc_3 dX7_goesOnReel_31 ?_
  refine v_iconst C kc_0 dX7_goesOnReel_32 ?_
  refine v_astk C sh_131 (Nat.le_of_ble_eq_true rfl) lit_3 (Nat.le_of_ble_eq_true rfl) dX7_goesOnReel_33 (fun M3 e3 => ?_)
  replace h := h M3 e3
  exact v_vret C hr dX7_goesOnReel_34 h
abbrev rmX7_copyPlace : Room := { frames := 0, cells := 0, slots := 0, locals := 0 }
def wp_X7_copyPlace (x0 : Int32) (M : Mem) (K : Int32 → Mem → Prop) : Prop := K ((61 : Int32) + ((9 : Int32) * (x0 - x0 / (32 : Int32) * (32 : Int32)))) M
set_option maxRecDepth 20000 in
theorem con_X7_copyPlace (l : Launch) (S : XS) (n : Nat) (R : Rfs) (x0 : Int32)  (M : Mem) (K : Int32 → Mem → Prop) (h : wp_X7_copyPlace x0 M K) : CI l yX7_copyPlace cX7_copyPlace 1 (some .int) rmX7_copyPlace S n R [.int x0] M K := by
  refine conI (lv := [(0, .int x0)]) (by decide) (Nat.le_of_ble_eq_true rfl) rfl ?_
  intro p e s m args below meth c C hr
  replace C : Cx p m meth c s args cX7_copyPlace RX7 1 S := C
  refine v_bipush C kb_61 dX7_copyPlace_0 ?_
  refine v_bipush C kb_9 dX7_copyPlace_2 ?_
  refine v_iloadn C 0 rfl rfl dX7_copyPlace_4 ?_
  refine v_bipush C kb_32 dX7_copyPlace_5 ?_
  refine v_irem C (by decide) dX7_copyPlace_7 ?_
  refine v_imul C dX7_copyPlace_8 ?_
  refine v_iadd C dX7_copyPlace_9 ?_
  exact v_iret C hr dX7_copyPlace_10 h
abbrev rmX7_isThere : Room := { frames := 1, cells := 0, slots := 0, locals := 20 }
def wp_X7_isThere (x1 : Int32) (M : Mem) (K : Int32 → Mem → Prop) : Prop := (x1 ≤ 0 → K (0 : Int32) M) ∧ (¬ x1 ≤ 0 → wp_X7_copyPlace (x1) M (fun r2 M2 => vp_in r2 349 ∧ ((¬ (M2 131 (ix r2)) = (1 : Int32) → K (0 : Int32) M2) ∧ ((M2 131 (ix r2)) = (1 : Int32) → K (1 : Int32) M2))))
set_option maxRecDepth 20000 in
theorem con_X7_isThere (l : Launch) (S : XS) (R : Rfs) (x1 : Int32) (hm : isMod R) (M : Mem) (K : Int32 → Mem → Prop) (h : wp_X7_isThere x1 M K) : CI l yX7_isThere cX7_isThere 2 (some .boolean) rmX7_isThere S 148 R [.ref (XB S + 130), .int x1] M K := by
  refine conI (lv := [(0, .ref (XB S + 130)), (1, .int x1)]) (by decide) (Nat.le_of_ble_eq_true rfl) rfl ?_
  intro p e s m args below meth c C hr
  replace C : Cx p m meth c s args cX7_isThere RX7 2 S := C
  refine v_iloadn C 1 rfl rfl dX7_isThere_0 ?_
  refine v_if_le C 21 (by decide) dX7_isThere_1 (fun c1 => ?_) (fun c1 => ?_)
  · replace h := h.1 c1
    refine v_iconst C kc_0 dX7_isThere_21 ?_
    exact v_zret C isB0 hr dX7_isThere_22 h
  · replace h := h.2 c1
    refine v_aloadn C 0 rfl rfl dX7_isThere_4 ?_
    refine v_getr (o' := 131) C fr_X7_7 sh_130 (Nat.le_of_ble_eq_true rfl) rfl (iMod_r0 hm) dX7_isThere_5 ?_
    refine v_iloadn C 1 rfl rfl dX7_isThere_8 ?_
    refine v_csI (As := [.int x1]) C ms_X7_134 (con_X7_copyPlace l S 148 R (x1)  _ _ h) rfl ⟨(Nat.le_of_ble_eq_true rfl), (Nat.le_of_ble_eq_true rfl)⟩ ⟨rfl, rfl, Nat.zero_le _, Nat.zero_le _⟩ (Nat.le_of_ble_eq_true rfl) dX7_isThere_9 (fun r2 M2 h => ?_)
    refine v_ald C sh_131 (Nat.le_of_ble_eq_true rfl) h.1 dX7_isThere_12 ?_
    replace h := h.2
    refine v_iconst C kc_1 dX7_isThere_13 ?_
    refine v_icmp_ne C 21 (by decide) dX7_isThere_14 (fun c3 => ?_) (fun c3 => ?_)
    · replace h := h.1 c3
      refine v_iconst C kc_0 dX7_isThere_21 ?_
      exact v_zret C isB0 hr dX7_isThere_22 h
    · replace h := h.2 c3
      refine v_iconst C kc_1 dX7_isThere_17 ?_
      refine v_goto C 22 (by decide) dX7_isThere_18 ?_
      exact v_zret C isB1 hr dX7_isThere_22 h
abbrev rmX7_breaks : Room := { frames := 1, cells := 0, slots := 0, locals := 20 }
def L_X7_breaks_70   (K : Mem → Prop) : Nat → Int32 → Mem → Prop
  | 0, _, _ => False
  | k + 1, x1, M => ((54 : Int32) ≤ x1 → K M) ∧ (¬ (54 : Int32) ≤ x1 → vp_in x1 349 ∧ (∀ M9 : Mem, M9 = mw M 131 (ix x1) (0 : Int32) → L_X7_breaks_70  K k (x1 + (1 : Int32)) M9))
def L_X7_breaks_40  (X9 : Int32 → Mem → Prop) (K : Mem → Prop) : Nat → Int32 → Int32 → Int32 → Mem → Prop
  | 0, _, _, _, _ => False
  | k + 1, x1, x2, x3, M => ((9 : Int32) ≤ x3 → X9 (x1 + (1 : Int32)) M) ∧ (¬ (9 : Int32) ≤ x3 → vp_in (x2 + x3) 349 ∧ (∀ M11 : Mem, M11 = mw M 131 (ix (x2 + x3)) (0 : Int32) → L_X7_breaks_40 X9 K k x1 x2 (x3 + (1 : Int32)) M11))
def L_X7_breaks_9   (K : Mem → Prop) : Nat → Int32 → Mem → Prop
  | 0, _, _ => False
  | k + 1, x1, M => ((32 : Int32) ≤ x1 → ∃ j4 : Nat, L_X7_breaks_70   K j4 ((22 : Int32)) M) ∧ (¬ (32 : Int32) ≤ x1 → wp_X7_copyPlace (x1) M (fun r5 M5 => vp_in (r5 + (0 : Int32)) 349 ∧ ((∀ M6 : Mem, M6 = mw M5 131 8 ((M5 131 8) + (M5 131 (ix (r5 + (0 : Int32))))) → ∃ j7 : Nat, L_X7_breaks_40  (fun x1 M => L_X7_breaks_9   K k x1 M) K j7 (x1) (r5) ((0 : Int32)) M6))))
def wp_X7_breaks (M : Mem) (K : Mem → Prop) : Prop := (∀ M1 : Mem, M1 = mw M 131 0 (0 : Int32) → ∃ j2 : Nat, L_X7_breaks_9  K j2 ((0 : Int32)) M1)
set_option maxRecDepth 20000 in
theorem tl_X7_breaks_70 {p : Program} {e : Env} {s : State} {m : MethodId} {args : Array Value} {below : List Frame} {meth : Method} {c : Code} (l : Launch) (S : XS) (R : Rfs)  (hm : isMod R) (C : Cx p m meth c s args cX7_breaks RX7 4 S) (hr : meth.sig.returnType = none) (K : Mem → Prop)   (k : Nat) : ∀ (x1 : Int32) (M : Mem), L_X7_breaks_70   K k x1 M → V p l e rmX7_breaks s m args below meth c (MQ below (va_Qv K (XPost S 148 R) (XA S)) args s 0 0 (XA S)) S 4 0 0 148 M R 70 [(0, .ref (XB S + 130)), (1, .int x1)] [] := by
  induction k with
  | zero => intro x1 M h; exact h.elim
  | succ k ih =>
    intro x1 M h
    refine v_iloadn C 1 rfl rfl dX7_breaks_70 ?_
    refine v_bipush C kb_54 dX7_breaks_71 ?_
    refine v_icmp_ge C 89 (by decide) dX7_breaks_73 (fun c8 => ?_) (fun c8 => ?_)
    · replace h := h.1 c8
      exact v_vret C hr dX7_breaks_89 h
    · replace h := h.2 c8
      refine v_aloadn C 0 rfl rfl dX7_breaks_76 ?_
      refine v_getr (o' := 131) C fr_X7_7 sh_130 (Nat.le_of_ble_eq_true rfl) rfl (iMod_r0 hm) dX7_breaks_77 ?_
      refine v_iloadn C 1 rfl rfl dX7_breaks_80 ?_
      refine v_iconst C kc_0 dX7_breaks_81 ?_
      have hi9 := h.1
      replace h := h.2
      refine v_ast C sh_131 (Nat.le_of_ble_eq_true rfl) hi9 dX7_breaks_82 (fun M9 e9 => ?_)
      replace h := h M9 e9
      refine v_iinc (lv' := [(1, .int (x1 + (1 : Int32))), (0, .ref (XB S + 130))]) C 1 rfl kc_1 rfl rfl (Nat.le_of_ble_eq_true rfl) dX7_breaks_83 ?_
      refine v_goto C 70 (by decide) dX7_breaks_86 ?_
      refine v_loc [1, 0] rfl ?_
      exact ih ((x1 + (1 : Int32))) M9 h
set_option maxRecDepth 20000 in
theorem tl_X7_breaks_40 {p : Program} {e : Env} {s : State} {m : MethodId} {args : Array Value} {below : List Frame} {meth : Method} {c : Code} (l : Launch) (S : XS) (R : Rfs)  (hm : isMod R) (C : Cx p m meth c s args cX7_breaks RX7 4 S) (hr : meth.sig.returnType = none) (K : Mem → Prop) (X9 : Int32 → Mem → Prop) (hX9 : ∀ (x1 : Int32) (M : Mem), X9 x1 M → V p l e rmX7_breaks s m args below meth c (MQ below (va_Qv K (XPost S 148 R) (XA S)) args s 0 0 (XA S)) S 4 0 0 148 M R 9 [(0, .ref (XB S + 130)), (1, .int x1)] []) (k : Nat) : ∀ (x1 x2 x3 : Int32) (M : Mem), L_X7_breaks_40  X9 K k x1 x2 x3 M → V p l e rmX7_breaks s m args below meth c (MQ below (va_Qv K (XPost S 148 R) (XA S)) args s 0 0 (XA S)) S 4 0 0 148 M R 40 [(0, .ref (XB S + 130)), (1, .int x1), (2, .int x2), (3, .int x3)] [] := by
  induction k with
  | zero => intro x1 x2 x3 M h; exact h.elim
  | succ k ih =>
    intro x1 x2 x3 M h
    refine v_iloadn C 3 rfl rfl dX7_breaks_40 ?_
    refine v_bipush C kb_9 dX7_breaks_41 ?_
    refine v_icmp_ge C 61 (by decide) dX7_breaks_43 (fun c10 => ?_) (fun c10 => ?_)
    · replace h := h.1 c10
      refine v_iinc (lv' := [(1, .int (x1 + (1 : Int32))), (0, .ref (XB S + 130)), (2, .int x2), (3, .int x3)]) C 1 rfl kc_1 rfl rfl (Nat.le_of_ble_eq_true rfl) dX7_breaks_61 ?_
      refine v_goto C 9 (by decide) dX7_breaks_64 ?_
      refine v_loc [1, 0] rfl ?_
      exact hX9 ((x1 + (1 : Int32))) M h
    · replace h := h.2 c10
      refine v_aloadn C 0 rfl rfl dX7_breaks_46 ?_
      refine v_getr (o' := 131) C fr_X7_7 sh_130 (Nat.le_of_ble_eq_true rfl) rfl (iMod_r0 hm) dX7_breaks_47 ?_
      refine v_iloadn C 2 rfl rfl dX7_breaks_50 ?_
      refine v_iloadn C 3 rfl rfl dX7_breaks_51 ?_
      refine v_iadd C dX7_breaks_52 ?_
      refine v_iconst C kc_0 dX7_breaks_53 ?_
      have hi11 := h.1
      replace h := h.2
      refine v_ast C sh_131 (Nat.le_of_ble_eq_true rfl) hi11 dX7_breaks_54 (fun M11 e11 => ?_)
      replace h := h M11 e11
      refine v_iinc (lv' := [(3, .int (x3 + (1 : Int32))), (0, .ref (XB S + 130)), (1, .int x1), (2, .int x2)]) C 3 rfl kc_1 rfl rfl (Nat.le_of_ble_eq_true rfl) dX7_breaks_55 ?_
      refine v_goto C 40 (by decide) dX7_breaks_58 ?_
      refine v_loc [1, 2, 3, 0] rfl ?_
      exact ih (x1) (x2) ((x3 + (1 : Int32))) M11 h
set_option maxRecDepth 20000 in
theorem tl_X7_breaks_9 {p : Program} {e : Env} {s : State} {m : MethodId} {args : Array Value} {below : List Frame} {meth : Method} {c : Code} (l : Launch) (S : XS) (R : Rfs)  (hm : isMod R) (C : Cx p m meth c s args cX7_breaks RX7 4 S) (hr : meth.sig.returnType = none) (K : Mem → Prop)   (k : Nat) : ∀ (x1 : Int32) (M : Mem), L_X7_breaks_9   K k x1 M → V p l e rmX7_breaks s m args below meth c (MQ below (va_Qv K (XPost S 148 R) (XA S)) args s 0 0 (XA S)) S 4 0 0 148 M R 9 [(0, .ref (XB S + 130)), (1, .int x1)] [] := by
  induction k with
  | zero => intro x1 M h; exact h.elim
  | succ k ih =>
    intro x1 M h
    refine v_iloadn C 1 rfl rfl dX7_breaks_9 ?_
    refine v_bipush C kb_32 dX7_breaks_10 ?_
    refine v_icmp_ge C 67 (by decide) dX7_breaks_12 (fun c3 => ?_) (fun c3 => ?_)
    · replace h := h.1 c3
      refine v_bipush C kb_22 dX7_breaks_67 ?_
      refine v_istoren (lv' := [(1, .int (22 : Int32)), (0, .ref (XB S + 130))]) C rfl rfl (Nat.le_of_ble_eq_true rfl) dX7_breaks_69 ?_
      refine v_loc [1, 0] rfl ?_
      obtain ⟨k4, h⟩ := h
      exact tl_X7_breaks_70 l S R  hm C hr K   k4 ((22 : Int32)) M h
    · replace h := h.2 c3
      refine v_iloadn C 1 rfl rfl dX7_breaks_15 ?_
      refine v_csI (As := [.int x1]) C ms_X7_134 (con_X7_copyPlace l S 148 R (x1)  _ _ h) rfl ⟨(Nat.le_of_ble_eq_true rfl), (Nat.le_of_ble_eq_true rfl)⟩ ⟨rfl, rfl, Nat.zero_le _, Nat.zero_le _⟩ (Nat.le_of_ble_eq_true rfl) dX7_breaks_16 (fun r5 M5 h => ?_)
      refine v_istoren (lv' := [(2, .int r5), (0, .ref (XB S + 130)), (1, .int x1)]) C rfl rfl (Nat.le_of_ble_eq_true rfl) dX7_breaks_19 ?_
      refine v_aloadn C 1 rfl rfl dX7_breaks_20 ?_
      refine v_getr (o' := 131) C fr_X7_7 sh_130 (Nat.le_of_ble_eq_true rfl) rfl (iMod_r0 hm) dX7_breaks_21 ?_
      refine v_bipush C kb_8 dX7_breaks_24 ?_
      refine v_dup2 C rfl rfl dX7_breaks_26 ?_
      refine v_aldk C sh_131 (Nat.le_of_ble_eq_true rfl) lit_8 (Nat.le_of_ble_eq_true rfl) dX7_breaks_27 ?_
      refine v_aloadn C 1 rfl rfl dX7_breaks_28 ?_
      refine v_getr (o' := 131) C fr_X7_7 sh_130 (Nat.le_of_ble_eq_true rfl) rfl (iMod_r0 hm) dX7_breaks_29 ?_
      refine v_iloadn C 0 rfl rfl dX7_breaks_32 ?_
      refine v_iconst C kc_0 dX7_breaks_33 ?_
      refine v_iadd C dX7_breaks_34 ?_
      refine v_ald C sh_131 (Nat.le_of_ble_eq_true rfl) h.1 dX7_breaks_35 ?_
      replace h := h.2
      refine v_iadd C dX7_breaks_36 ?_
      refine v_astk C sh_131 (Nat.le_of_ble_eq_true rfl) lit_8 (Nat.le_of_ble_eq_true rfl) dX7_breaks_37 (fun M6 e6 => ?_)
      replace h := h M6 e6
      refine v_iconst C kc_0 dX7_breaks_38 ?_
      refine v_istoren (lv' := [(3, .int (0 : Int32)), (2, .int r5), (0, .ref (XB S + 130)), (1, .int x1)]) C rfl rfl (Nat.le_of_ble_eq_true rfl) dX7_breaks_39 ?_
      refine v_loc [2, 3, 1, 0] rfl ?_
      obtain ⟨k7, h⟩ := h
      exact tl_X7_breaks_40 l S R  hm C hr K (fun x1 M => L_X7_breaks_9   K k x1 M) (ih) k7 (x1) (r5) ((0 : Int32)) M6 h
set_option maxRecDepth 20000 in
theorem con_X7_breaks (l : Launch) (S : XS) (R : Rfs)  (hm : isMod R) (M : Mem) (K : Mem → Prop) (h : wp_X7_breaks  M K) : CV l yX7_breaks cX7_breaks 4 rmX7_breaks S 148 R [.ref (XB S + 130)] M K := by
  refine conV (lv := [(0, .ref (XB S + 130))]) (by decide) (Nat.le_of_ble_eq_true rfl) rfl ?_
  intro p e s m args below meth c C hr
  replace C : Cx p m meth c s args cX7_breaks RX7 4 S := C
  refine v_aloadn C 0 rfl rfl dX7_breaks_0 ?_
  refine v_getr (o' := 131) C fr_X7_7 sh_130 (Nat.le_of_ble_eq_true rfl) rfl (iMod_r0 hm) dX7_breaks_1 ?_
  refine v_iconst C kc_0 dX7_breaks_4 ?_
  refine v_iconst C kc_0 dX7_breaks_5 ?_
  refine v_astk C sh_131 (Nat.le_of_ble_eq_true rfl) lit_0 (Nat.le_of_ble_eq_true rfl) dX7_breaks_6 (fun M1 e1 => ?_)
  replace h := h M1 e1
  refine v_iconst C kc_0 dX7_breaks_7 ?_
  refine v_istoren (lv' := [(1, .int (0 : Int32)), (0, .ref (XB S + 130))]) C rfl rfl (Nat.le_of_ble_eq_true rfl) dX7_breaks_8 ?_
  refine v_loc [1, 0] rfl ?_
  obtain ⟨k2, h⟩ := h
  exact tl_X7_breaks_9 l S R  hm C hr K   k2 ((0 : Int32)) M1 h
abbrev rmX7_copyBegins : Room := { frames := 1, cells := 0, slots := 0, locals := 20 }
def L_X7_copyBegins_81   (K : Mem → Prop) : Nat → Int32 → Int32 → Mem → Prop
  | 0, _, _, _ => False
  | k + 1, x2, x3, M => ((4 : Int32) ≤ x3 → (∀ M10 : Mem, M10 = mw M 131 6 ((M 131 6) + (1 : Int32)) → K M10)) ∧ (¬ (4 : Int32) ≤ x3 → vp_in ((x2 + (5 : Int32)) + x3) 349 ∧ (∀ M11 : Mem, M11 = mw M 131 (ix ((x2 + (5 : Int32)) + x3)) (0 : Int32) → L_X7_copyBegins_81  K k x2 (x3 + (1 : Int32)) M11))
def wp_X7_copyBegins_69   (K : Mem → Prop) (x2 y0 y1 : Int32) (M : Mem) : Prop := vp_in y1 349 ∧ (∀ M6 : Mem, M6 = mw M 131 (ix y1) y0 → vp_in (x2 + (4 : Int32)) 349 ∧ (∀ M7 : Mem, M7 = mw M6 131 (ix (x2 + (4 : Int32))) (0 : Int32) → ∃ j8 : Nat, L_X7_copyBegins_81   K j8 (x2) ((0 : Int32)) M7))
def wp_X7_copyBegins (x1 : Int32) (M : Mem) (K : Mem → Prop) : Prop := wp_X7_copyPlace ((M 131 5)) M (fun r1 M1 => vp_in (r1 + (0 : Int32)) 349 ∧ (∀ M2 : Mem, M2 = mw M1 131 (ix (r1 + (0 : Int32))) (1 : Int32) → vp_in (r1 + (1 : Int32)) 349 ∧ (∀ M3 : Mem, M3 = mw M2 131 (ix (r1 + (1 : Int32))) (M2 131 6) → vp_in (M3 131 1) 8 ∧ (vp_in (r1 + (2 : Int32)) 349 ∧ (∀ M4 : Mem, M4 = mw M3 131 (ix (r1 + (2 : Int32))) (M3 141 (ix (M3 131 1))) → (x1 = 0 → wp_X7_copyBegins_69  K (r1) ((0 : Int32)) ((r1 + (3 : Int32))) M4) ∧ (¬ x1 = 0 → wp_X7_copyBegins_69  K (r1) ((1 : Int32)) ((r1 + (3 : Int32))) M4))))))
set_option maxRecDepth 20000 in
theorem tl_X7_copyBegins_81 {p : Program} {e : Env} {s : State} {m : MethodId} {args : Array Value} {below : List Frame} {meth : Method} {c : Code} (l : Launch) (S : XS) (R : Rfs)  (hm : isMod R) (C : Cx p m meth c s args cX7_copyBegins RX7 4 S) (hr : meth.sig.returnType = none) (K : Mem → Prop)   (k : Nat) : ∀ (x2 x3 : Int32) (M : Mem), L_X7_copyBegins_81   K k x2 x3 M → V p l e rmX7_copyBegins s m args below meth c (MQ below (va_Qv K (XPost S 148 R) (XA S)) args s 0 0 (XA S)) S 4 0 0 148 M R 81 [(0, .ref (XB S + 130)), (2, .int x2), (3, .int x3)] [] := by
  induction k with
  | zero => intro x2 x3 M h; exact h.elim
  | succ k ih =>
    intro x2 x3 M h
    refine v_iloadn C 2 rfl rfl dX7_copyBegins_81 ?_
    refine v_iconst C kc_4 dX7_copyBegins_82 ?_
    refine v_icmp_ge C 103 (by decide) dX7_copyBegins_83 (fun c9 => ?_) (fun c9 => ?_)
    · replace h := h.1 c9
      refine v_aloadn C 0 rfl rfl dX7_copyBegins_103 ?_
      refine v_getr (o' := 131) C fr_X7_7 sh_130 (Nat.le_of_ble_eq_true rfl) rfl (iMod_r0 hm) dX7_copyBegins_104 ?_
      refine v_bipush C kb_6 dX7_copyBegins_107 ?_
      refine v_dup2 C rfl rfl dX7_copyBegins_109 ?_
      refine v_aldk C sh_131 (Nat.le_of_ble_eq_true rfl) lit_6 (Nat.le_of_ble_eq_true rfl) dX7_copyBegins_110 ?_
      refine v_iconst C kc_1 dX7_copyBegins_111 ?_
      refine v_iadd C dX7_copyBegins_112 ?_
      refine v_astk C sh_131 (Nat.le_of_ble_eq_true rfl) lit_6 (Nat.le_of_ble_eq_true rfl) dX7_copyBegins_113 (fun M10 e10 => ?_)
      replace h := h M10 e10
      exact v_vret C hr dX7_copyBegins_114 h
    · replace h := h.2 c9
      refine v_aloadn C 0 rfl rfl dX7_copyBegins_86 ?_
      refine v_getr (o' := 131) C fr_X7_7 sh_130 (Nat.le_of_ble_eq_true rfl) rfl (iMod_r0 hm) dX7_copyBegins_87 ?_
      refine v_iloadn C 1 rfl rfl dX7_copyBegins_90 ?_
      refine v_iconst C kc_5 dX7_copyBegins_91 ?_
      refine v_iadd C dX7_copyBegins_92 ?_
      refine v_iloadn C 2 rfl rfl dX7_copyBegins_93 ?_
      refine v_iadd C dX7_copyBegins_94 ?_
      refine v_iconst C kc_0 dX7_copyBegins_95 ?_
      have hi11 := h.1
      replace h := h.2
      refine v_ast C sh_131 (Nat.le_of_ble_eq_true rfl) hi11 dX7_copyBegins_96 (fun M11 e11 => ?_)
      replace h := h M11 e11
      refine v_iinc (lv' := [(3, .int (x3 + (1 : Int32))), (0, .ref (XB S + 130)), (2, .int x2)]) C 2 rfl kc_1 rfl rfl (Nat.le_of_ble_eq_true rfl) dX7_copyBegins_97 ?_
      refine v_goto C 81 (by decide) dX7_copyBegins_100 ?_
      refine v_loc [1, 2, 0] rfl ?_
      exact ih (x2) ((x3 + (1 : Int32))) M11 h
set_option maxRecDepth 20000 in
theorem tb_X7_copyBegins_69 {p : Program} {e : Env} {s : State} {m : MethodId} {args : Array Value} {below : List Frame} {meth : Method} {c : Code} (l : Launch) (S : XS) (R : Rfs)  (hm : isMod R) (C : Cx p m meth c s args cX7_copyBegins RX7 4 S) (hr : meth.sig.returnType = none) (K : Mem → Prop)   (x2 y0 y1 : Int32) (M : Mem) (h : wp_X7_copyBegins_69   K x2 y0 y1 M) : V p l e rmX7_copyBegins s m args below meth c (MQ below (va_Qv K (XPost S 148 R) (XA S)) args s 0 0 (XA S)) S 4 0 0 148 M R 69 [(0, .ref (XB S + 130)), (2, .int x2)] [.int y0, .int y1, .ref (XB S + 131)] := by
  have hi6 := h.1
  replace h := h.2
  refine v_ast C sh_131 (Nat.le_of_ble_eq_true rfl) hi6 dX7_copyBegins_69 (fun M6 e6 => ?_)
  replace h := h M6 e6
  refine v_aloadn C 0 rfl rfl dX7_copyBegins_70 ?_
  refine v_getr (o' := 131) C fr_X7_7 sh_130 (Nat.le_of_ble_eq_true rfl) rfl (iMod_r0 hm) dX7_copyBegins_71 ?_
  refine v_iloadn C 1 rfl rfl dX7_copyBegins_74 ?_
  refine v_iconst C kc_4 dX7_copyBegins_75 ?_
  refine v_iadd C dX7_copyBegins_76 ?_
  refine v_iconst C kc_0 dX7_copyBegins_77 ?_
  have hi7 := h.1
  replace h := h.2
  refine v_ast C sh_131 (Nat.le_of_ble_eq_true rfl) hi7 dX7_copyBegins_78 (fun M7 e7 => ?_)
  replace h := h M7 e7
  refine v_iconst C kc_0 dX7_copyBegins_79 ?_
  refine v_istoren (lv' := [(3, .int (0 : Int32)), (0, .ref (XB S + 130)), (2, .int x2)]) C rfl rfl (Nat.le_of_ble_eq_true rfl) dX7_copyBegins_80 ?_
  refine v_loc [1, 2, 0] rfl ?_
  obtain ⟨k8, h⟩ := h
  exact tl_X7_copyBegins_81 l S R  hm C hr K   k8 (x2) ((0 : Int32)) M7 h
set_option maxRecDepth 20000 in
theorem con_X7_copyBegins (l : Launch) (S : XS) (R : Rfs) (x1 : Int32) (hm : isMod R) (M : Mem) (K : Mem → Prop) (h : wp_X7_copyBegins x1 M K) : CV l yX7_copyBegins cX7_copyBegins 4 rmX7_copyBegins S 148 R [.ref (XB S + 130), .int x1] M K := by
  refine conV (lv := [(0, .ref (XB S + 130)), (1, .int x1)]) (by decide) (Nat.le_of_ble_eq_true rfl) rfl ?_
  intro p e s m args below meth c C hr
  replace C : Cx p m meth c s args cX7_copyBegins RX7 4 S := C
  refine v_aloadn C 0 rfl rfl dX7_copyBegins_0 ?_
  refine v_getr (o' := 131) C fr_X7_7 sh_130 (Nat.le_of_ble_eq_true rfl) rfl (iMod_r0 hm) dX7_copyBegins_1 ?_
  refine v_iconst C kc_5 dX7_copyBegins_4 ?_
  refine v_aldk C sh_131 (Nat.le_of_ble_eq_true rfl) lit_5 (Nat.le_of_ble_eq_true rfl) dX7_copyBegins_5 ?_
  refine v_csI (As := [.int (M 131 5)]) C ms_X7_134 (con_X7_copyPlace l S 148 R ((M 131 5))  _ _ h) rfl ⟨(Nat.le_of_ble_eq_true rfl), (Nat.le_of_ble_eq_true rfl)⟩ ⟨rfl, rfl, Nat.zero_le _, Nat.zero_le _⟩ (Nat.le_of_ble_eq_true rfl) dX7_copyBegins_6 (fun r1 M1 h => ?_)
  refine v_istoren (lv' := [(2, .int r1), (0, .ref (XB S + 130)), (1, .int x1)]) C rfl rfl (Nat.le_of_ble_eq_true rfl) dX7_copyBegins_9 ?_
  refine v_aloadn C 1 rfl rfl dX7_copyBegins_10 ?_
  refine v_getr (o' := 131) C fr_X7_7 sh_130 (Nat.le_of_ble_eq_true rfl) rfl (iMod_r0 hm) dX7_copyBegins_11 ?_
  refine v_iloadn C 0 rfl rfl dX7_copyBegins_14 ?_
  refine v_iconst C kc_0 dX7_copyBegins_15 ?_
  refine v_iadd C dX7_copyBegins_16 ?_
  refine v_iconst C kc_1 dX7_copyBegins_17 ?_
  have hi2 := h.1
  replace h := h.2
  refine v_ast C sh_131 (Nat.le_of_ble_eq_true rfl) hi2 dX7_copyBegins_18 (fun M2 e2 => ?_)
  replace h := h M2 e2
  refine v_aloadn C 1 rfl rfl dX7_copyBegins_19 ?_
  refine v_getr (o' := 131) C fr_X7_7 sh_130 (Nat.le_of_ble_eq_true rfl) rfl (iMod_r0 hm) dX7_copyBegins_20 ?_
  refine v_iloadn C 0 rfl rfl dX7_copyBegins_23 ?_
  refine v_iconst C kc_1 dX7_copyBegins_24 ?_
  refine v_iadd C dX7_copyBegins_25 ?_
  refine v_aloadn C 1 rfl rfl dX7_copyBegins_26 ?_
  refine v_getr (o' := 131) C fr_X7_7 sh_130 (Nat.le_of_ble_eq_true rfl) rfl (iMod_r0 hm) dX7_copyBegins_27 ?_
  refine v_bipush C kb_6 dX7_copyBegins_30 ?_
  refine v_aldk C sh_131 (Nat.le_of_ble_eq_true rfl) lit_6 (Nat.le_of_ble_eq_true rfl) dX7_copyBegins_32 ?_
  have hi3 := h.1
  replace h := h.2
  refine v_ast C sh_131 (Nat.le_of_ble_eq_true rfl) hi3 dX7_copyBegins_33 (fun M3 e3 => ?_)
  replace h := h M3 e3
  refine v_aloadn C 1 rfl rfl dX7_copyBegins_34 ?_
  refine v_getr (o' := 131) C fr_X7_7 sh_130 (Nat.le_of_ble_eq_true rfl) rfl (iMod_r0 hm) dX7_copyBegins_35 ?_
  refine v_iloadn C 0 rfl rfl dX7_copyBegins_38 ?_
  refine v_iconst C kc_2 dX7_copyBegins_39 ?_
  refine v_iadd C dX7_copyBegins_40 ?_
  refine v_aloadn C 1 rfl rfl dX7_copyBegins_41 ?_
  refine v_getr (o' := 141) C fr_X7_41 sh_130 (Nat.le_of_ble_eq_true rfl) rfl (iMod_r15 hm) dX7_copyBegins_42 ?_
  refine v_aloadn C 1 rfl rfl dX7_copyBegins_45 ?_
  refine v_getr (o' := 131) C fr_X7_7 sh_130 (Nat.le_of_ble_eq_true rfl) rfl (iMod_r0 hm) dX7_copyBegins_46 ?_
  refine v_iconst C kc_1 dX7_copyBegins_49 ?_
  refine v_aldk C sh_131 (Nat.le_of_ble_eq_true rfl) lit_1 (Nat.le_of_ble_eq_true rfl) dX7_copyBegins_50 ?_
  refine v_ald C sh_141 (Nat.le_of_ble_eq_true rfl) h.1 dX7_copyBegins_51 ?_
  replace h := h.2
  have hi4 := h.1
  replace h := h.2
  refine v_ast C sh_131 (Nat.le_of_ble_eq_true rfl) hi4 dX7_copyBegins_52 (fun M4 e4 => ?_)
  replace h := h M4 e4
  refine v_aloadn C 1 rfl rfl dX7_copyBegins_53 ?_
  refine v_getr (o' := 131) C fr_X7_7 sh_130 (Nat.le_of_ble_eq_true rfl) rfl (iMod_r0 hm) dX7_copyBegins_54 ?_
  refine v_iloadn C 0 rfl rfl dX7_copyBegins_57 ?_
  refine v_iconst C kc_3 dX7_copyBegins_58 ?_
  refine v_iadd C dX7_copyBegins_59 ?_
  refine v_iloadn C 2 rfl rfl dX7_copyBegins_60 ?_
  refine v_if_eq C 68 (by decide) dX7_copyBegins_61 (fun c5 => ?_) (fun c5 => ?_)
  · replace h := h.1 c5
    refine v_iconst C kc_0 dX7_copyBegins_68 ?_
    refine v_loc [1, 0] rfl ?_
    exact tb_X7_copyBegins_69 l S R  hm C hr K   (r1) ((0 : Int32)) ((r1 + (3 : Int32))) M4 h
  · replace h := h.2 c5
    refine v_iconst C kc_1 dX7_copyBegins_64 ?_
    refine v_goto C 69 (by decide) dX7_copyBegins_65 ?_
    refine v_loc [1, 0] rfl ?_
    exact tb_X7_copyBegins_69 l S R  hm C hr K   (r1) ((1 : Int32)) ((r1 + (3 : Int32))) M4 h
abbrev rmX7_passedPlace : Room := { frames := 0, cells := 0, slots := 0, locals := 0 }
def wp_X7_passedPlace (x0 : Int32) (x1 : Int32) (M : Mem) (K : Int32 → Mem → Prop) : Prop := K (((22 : Int32) + ((8 : Int32) * x0)) + (x1 - x1 / (8 : Int32) * (8 : Int32))) M
set_option maxRecDepth 20000 in
theorem con_X7_passedPlace (l : Launch) (S : XS) (n : Nat) (R : Rfs) (x0 : Int32) (x1 : Int32)  (M : Mem) (K : Int32 → Mem → Prop) (h : wp_X7_passedPlace x0 x1 M K) : CI l yX7_passedPlace cX7_passedPlace 2 (some .int) rmX7_passedPlace S n R [.int x0, .int x1] M K := by
  refine conI (lv := [(0, .int x0), (1, .int x1)]) (by decide) (Nat.le_of_ble_eq_true rfl) rfl ?_
  intro p e s m args below meth c C hr
  replace C : Cx p m meth c s args cX7_passedPlace RX7 2 S := C
  refine v_bipush C kb_22 dX7_passedPlace_0 ?_
  refine v_bipush C kb_8 dX7_passedPlace_2 ?_
  refine v_iloadn C 0 rfl rfl dX7_passedPlace_4 ?_
  refine v_imul C dX7_passedPlace_5 ?_
  refine v_iadd C dX7_passedPlace_6 ?_
  refine v_iloadn C 1 rfl rfl dX7_passedPlace_7 ?_
  refine v_bipush C kb_8 dX7_passedPlace_8 ?_
  refine v_irem C (by decide) dX7_passedPlace_10 ?_
  refine v_iadd C dX7_passedPlace_11 ?_
  exact v_iret C hr dX7_passedPlace_12 h
abbrev rmX7_prints : Room := { frames := 2, cells := 0, slots := 0, locals := 41 }
def wp_X7_prints (x1 : Int32) (M : Mem) (K : Mem → Prop) : Prop := wp_X7_passedPlace (x1) ((M 131 5)) M (fun r1 M1 => vp_in ((14 : Int32) + x1) 349 ∧ (vp_in r1 349 ∧ (vp_in ((14 : Int32) + x1) 349 ∧ (∀ M2 : Mem, M2 = mw M1 131 (ix ((14 : Int32) + x1)) ((M1 131 (ix ((14 : Int32) + x1))) + (M1 131 (ix r1))) → vp_in r1 349 ∧ (∀ M3 : Mem, M3 = mw M2 131 (ix r1) (0 : Int32) → vp_in x1 4 ∧ (wp_X7_isThere (((M3 131 5) - (M3 139 (ix x1)))) M3 (fun r4 M4 => (r4 = 0 → K M4) ∧ (¬ r4 = 0 → wp_X7_copyPlace (((M3 131 5) - (M3 139 (ix x1)))) M4 (fun r6 M6 => vp_in (r6 + (4 : Int32)) 349 ∧ (vp_in ((14 : Int32) + x1) 349 ∧ (vp_in (r6 + (4 : Int32)) 349 ∧ (∀ M7 : Mem, M7 = mw M6 131 (ix (r6 + (4 : Int32))) ((M6 131 (ix (r6 + (4 : Int32)))) + (M6 131 (ix ((14 : Int32) + x1)))) → vp_in ((10 : Int32) + x1) 349 ∧ (vp_in (r6 + (2 : Int32)) 349 ∧ (vp_in (r6 + (4 : Int32)) 349 ∧ (vp_in ((r6 + (5 : Int32)) + x1) 349 ∧ (∀ M8 : Mem, M8 = mw M7 131 (ix ((r6 + (5 : Int32)) + x1)) (((M7 131 (ix ((10 : Int32) + x1))) + (x1 * (M7 131 (ix (r6 + (2 : Int32)))))) - (M7 131 (ix (r6 + (4 : Int32))))) → K M8))))))))))))))))
set_option maxRecDepth 20000 in
theorem con_X7_prints (l : Launch) (S : XS) (R : Rfs) (x1 : Int32) (hm : isMod R) (M : Mem) (K : Mem → Prop) (h : wp_X7_prints x1 M K) : CV l yX7_prints cX7_prints 5 rmX7_prints S 148 R [.ref (XB S + 130), .int x1] M K := by
  refine conV (lv := [(0, .ref (XB S + 130)), (1, .int x1)]) (by decide) (Nat.le_of_ble_eq_true rfl) rfl ?_
  intro p e s m args below meth c C hr
  replace C : Cx p m meth c s args cX7_prints RX7 5 S := C
  refine v_iloadn C 1 rfl rfl dX7_prints_0 ?_
  refine v_aloadn C 0 rfl rfl dX7_prints_1 ?_
  refine v_getr (o' := 131) C fr_X7_7 sh_130 (Nat.le_of_ble_eq_true rfl) rfl (iMod_r0 hm) dX7_prints_2 ?_
  refine v_iconst C kc_5 dX7_prints_5 ?_
  refine v_aldk C sh_131 (Nat.le_of_ble_eq_true rfl) lit_5 (Nat.le_of_ble_eq_true rfl) dX7_prints_6 ?_
  refine v_csI (As := [.int x1, .int (M 131 5)]) C ms_X7_138 (con_X7_passedPlace l S 148 R (x1) ((M 131 5))  _ _ h) rfl ⟨(Nat.le_of_ble_eq_true rfl), (Nat.le_of_ble_eq_true rfl)⟩ ⟨rfl, rfl, Nat.zero_le _, Nat.zero_le _⟩ (Nat.le_of_ble_eq_true rfl) dX7_prints_7 (fun r1 M1 h => ?_)
  refine v_istoren (lv' := [(2, .int r1), (0, .ref (XB S + 130)), (1, .int x1)]) C rfl rfl (Nat.le_of_ble_eq_true rfl) dX7_prints_10 ?_
  refine v_aloadn C 1 rfl rfl dX7_prints_11 ?_
  refine v_getr (o' := 131) C fr_X7_7 sh_130 (Nat.le_of_ble_eq_true rfl) rfl (iMod_r0 hm) dX7_prints_12 ?_
  refine v_bipush C kb_14 dX7_prints_15 ?_
  refine v_iloadn C 2 rfl rfl dX7_prints_17 ?_
  refine v_iadd C dX7_prints_18 ?_
  refine v_dup2 C rfl rfl dX7_prints_19 ?_
  refine v_ald C sh_131 (Nat.le_of_ble_eq_true rfl) h.1 dX7_prints_20 ?_
  replace h := h.2
  refine v_aloadn C 1 rfl rfl dX7_prints_21 ?_
  refine v_getr (o' := 131) C fr_X7_7 sh_130 (Nat.le_of_ble_eq_true rfl) rfl (iMod_r0 hm) dX7_prints_22 ?_
  refine v_iloadn C 0 rfl rfl dX7_prints_25 ?_
  refine v_ald C sh_131 (Nat.le_of_ble_eq_true rfl) h.1 dX7_prints_26 ?_
  replace h := h.2
  refine v_iadd C dX7_prints_27 ?_
  have hi2 := h.1
  replace h := h.2
  refine v_ast C sh_131 (Nat.le_of_ble_eq_true rfl) hi2 dX7_prints_28 (fun M2 e2 => ?_)
  replace h := h M2 e2
  refine v_aloadn C 1 rfl rfl dX7_prints_29 ?_
  refine v_getr (o' := 131) C fr_X7_7 sh_130 (Nat.le_of_ble_eq_true rfl) rfl (iMod_r0 hm) dX7_prints_30 ?_
  refine v_iloadn C 0 rfl rfl dX7_prints_33 ?_
  refine v_iconst C kc_0 dX7_prints_34 ?_
  have hi3 := h.1
  replace h := h.2
  refine v_ast C sh_131 (Nat.le_of_ble_eq_true rfl) hi3 dX7_prints_35 (fun M3 e3 => ?_)
  replace h := h M3 e3
  refine v_aloadn C 1 rfl rfl dX7_prints_36 ?_
  refine v_getr (o' := 131) C fr_X7_7 sh_130 (Nat.le_of_ble_eq_true rfl) rfl (iMod_r0 hm) dX7_prints_37 ?_
  refine v_iconst C kc_5 dX7_prints_40 ?_
  refine v_aldk C sh_131 (Nat.le_of_ble_eq_true rfl) lit_5 (Nat.le_of_ble_eq_true rfl) dX7_prints_41 ?_
  refine v_aloadn C 1 rfl rfl dX7_prints_42 ?_
  refine v_getr (o' := 139) C fr_X7_35 sh_130 (Nat.le_of_ble_eq_true rfl) rfl (iMod_r12 hm) dX7_prints_43 ?_
  refine v_iloadn C 2 rfl rfl dX7_prints_46 ?_
  refine v_ald C sh_139 (Nat.le_of_ble_eq_true rfl) h.1 dX7_prints_47 ?_
  replace h := h.2
  refine v_isub C dX7_prints_48 ?_
  refine v_istoren (lv' := [(3, .int ((M3 131 5) - (M3 139 (ix x1)))), (2, .int r1), (0, .ref (XB S + 130)), (1, .int x1)]) C rfl rfl (Nat.le_of_ble_eq_true rfl) dX7_prints_49 ?_
  refine v_aloadn C 2 rfl rfl dX7_prints_50 ?_
  refine v_iloadn C 0 rfl rfl dX7_prints_51 ?_
  refine v_cvI (As := [.int ((M3 131 5) - (M3 139 (ix x1)))]) C mv_X7_142 (con_X7_isThere l S R (((M3 131 5) - (M3 139 (ix x1)))) hm _ _ h) sh_130 (Nat.le_of_ble_eq_true rfl) rfl ⟨(Nat.le_of_ble_eq_true rfl), (Nat.le_of_ble_eq_true rfl)⟩ ⟨rfl, rfl, Nat.zero_le _, Nat.zero_le _⟩ (Nat.le_of_ble_eq_true rfl) dX7_prints_52 (fun r4 M4 h => ?_)
  refine v_if_eq C 127 (by decide) dX7_prints_55 (fun c5 => ?_) (fun c5 => ?_)
  · replace h := h.1 c5
    exact v_vret C hr dX7_prints_127 h
  · replace h := h.2 c5
    refine v_iloadn C 0 rfl rfl dX7_prints_58 ?_
    refine v_csI (As := [.int ((M3 131 5) - (M3 139 (ix x1)))]) C ms_X7_134 (con_X7_copyPlace l S 148 R (((M3 131 5) - (M3 139 (ix x1))))  _ _ h) rfl ⟨(Nat.le_of_ble_eq_true rfl), (Nat.le_of_ble_eq_true rfl)⟩ ⟨rfl, rfl, Nat.zero_le _, Nat.zero_le _⟩ (Nat.le_of_ble_eq_true rfl) dX7_prints_59 (fun r6 M6 h => ?_)
    refine v_istore (lv' := [(4, .int r6), (3, .int ((M3 131 5) - (M3 139 (ix x1)))), (2, .int r1), (0, .ref (XB S + 130)), (1, .int x1)]) C rfl (Nat.le_of_ble_eq_true rfl) dX7_prints_62 ?_
    refine v_aloadn C 3 rfl rfl dX7_prints_64 ?_
    refine v_getr (o' := 131) C fr_X7_7 sh_130 (Nat.le_of_ble_eq_true rfl) rfl (iMod_r0 hm) dX7_prints_65 ?_
    refine v_iload C 0 rfl dX7_prints_68 ?_
    refine v_iconst C kc_4 dX7_prints_70 ?_
    refine v_iadd C dX7_prints_71 ?_
    refine v_dup2 C rfl rfl dX7_prints_72 ?_
    refine v_ald C sh_131 (Nat.le_of_ble_eq_true rfl) h.1 dX7_prints_73 ?_
    replace h := h.2
    refine v_aloadn C 3 rfl rfl dX7_prints_74 ?_
    refine v_getr (o' := 131) C fr_X7_7 sh_130 (Nat.le_of_ble_eq_true rfl) rfl (iMod_r0 hm) dX7_prints_75 ?_
    refine v_bipush C kb_14 dX7_prints_78 ?_
    refine v_iloadn C 4 rfl rfl dX7_prints_80 ?_
    refine v_iadd C dX7_prints_81 ?_
    refine v_ald C sh_131 (Nat.le_of_ble_eq_true rfl) h.1 dX7_prints_82 ?_
    replace h := h.2
    refine v_iadd C dX7_prints_83 ?_
    have hi7 := h.1
    replace h := h.2
    refine v_ast C sh_131 (Nat.le_of_ble_eq_true rfl) hi7 dX7_prints_84 (fun M7 e7 => ?_)
    replace h := h M7 e7
    refine v_aloadn C 3 rfl rfl dX7_prints_85 ?_
    refine v_getr (o' := 131) C fr_X7_7 sh_130 (Nat.le_of_ble_eq_true rfl) rfl (iMod_r0 hm) dX7_prints_86 ?_
    refine v_iload C 0 rfl dX7_prints_89 ?_
    refine v_iconst C kc_5 dX7_prints_91 ?_
    refine v_iadd C dX7_prints_92 ?_
    refine v_iloadn C 4 rfl rfl dX7_prints_93 ?_
    refine v_iadd C dX7_prints_94 ?_
    refine v_aloadn C 3 rfl rfl dX7_prints_95 ?_
    refine v_getr (o' := 131) C fr_X7_7 sh_130 (Nat.le_of_ble_eq_true rfl) rfl (iMod_r0 hm) dX7_prints_96 ?_
    refine v_bipush C kb_10 dX7_prints_99 ?_
    refine v_iloadn C 4 rfl rfl dX7_prints_101 ?_
    refine v_iadd C dX7_prints_102 ?_
    refine v_ald C sh_131 (Nat.le_of_ble_eq_true rfl) h.1 dX7_prints_103 ?_
    replace h := h.2
    refine v_iloadn C 4 rfl rfl dX7_prints_104 ?_
    refine v_aloadn C 3 rfl rfl dX7_prints_105 ?_
    refine v_getr (o' := 131) C fr_X7_7 sh_130 (Nat.le_of_ble_eq_true rfl) rfl (iMod_r0 hm) dX7_prints_106 ?_
    refine v_iload C 0 rfl dX7_prints_109 ?_
    refine v_iconst C kc_2 dX7_prints_111 ?_
    refine v_iadd C dX7_prints_112 ?_
    refine v_ald C sh_131 (Nat.le_of_ble_eq_true rfl) h.1 dX7_prints_113 ?_
    replace h := h.2
    refine v_imul C dX7_prints_114 ?_
    refine v_iadd C dX7_prints_115 ?_
    refine v_aloadn C 3 rfl rfl dX7_prints_116 ?_
    refine v_getr (o' := 131) C fr_X7_7 sh_130 (Nat.le_of_ble_eq_true rfl) rfl (iMod_r0 hm) dX7_prints_117 ?_
    refine v_iload C 0 rfl dX7_prints_120 ?_
    refine v_iconst C kc_4 dX7_prints_122 ?_
    refine v_iadd C dX7_prints_123 ?_
    refine v_ald C sh_131 (Nat.le_of_ble_eq_true rfl) h.1 dX7_prints_124 ?_
    replace h := h.2
    refine v_isub C dX7_prints_125 ?_
    have hi8 := h.1
    replace h := h.2
    refine v_ast C sh_131 (Nat.le_of_ble_eq_true rfl) hi8 dX7_prints_126 (fun M8 e8 => ?_)
    replace h := h M8 e8
    exact v_vret C hr dX7_prints_127 h
abbrev rmX7_waitOf : Room := { frames := 0, cells := 0, slots := 0, locals := 0 }
def wp_X7_waitOf (x1 : Int32) (M : Mem) (K : Int32 → Mem → Prop) : Prop := vp_in ((M 130 10) - (1 : Int32)) 4 ∧ (vp_in x1 4 ∧ (K (((M 139 (ix ((M 130 10) - (1 : Int32)))) - (M 139 (ix x1))) + (M 142 0)) M))
set_option maxRecDepth 20000 in
theorem con_X7_waitOf (l : Launch) (S : XS) (R : Rfs) (x1 : Int32) (hm : isMod R) (M : Mem) (K : Int32 → Mem → Prop) (h : wp_X7_waitOf x1 M K) : CI l yX7_waitOf cX7_waitOf 2 (some .int) rmX7_waitOf S 148 R [.ref (XB S + 130), .int x1] M K := by
  refine conI (lv := [(0, .ref (XB S + 130)), (1, .int x1)]) (by decide) (Nat.le_of_ble_eq_true rfl) rfl ?_
  intro p e s m args below meth c C hr
  replace C : Cx p m meth c s args cX7_waitOf RX7 2 S := C
  refine v_aloadn C 0 rfl rfl dX7_waitOf_0 ?_
  refine v_getr (o' := 139) C fr_X7_35 sh_130 (Nat.le_of_ble_eq_true rfl) rfl (iMod_r12 hm) dX7_waitOf_1 ?_
  refine v_aloadn C 0 rfl rfl dX7_waitOf_4 ?_
  refine v_geti C fr_X7_75 sh_130 (Nat.le_of_ble_eq_true rfl) rfl dX7_waitOf_5 ?_
  refine v_iconst C kc_1 dX7_waitOf_8 ?_
  refine v_isub C dX7_waitOf_9 ?_
  refine v_ald C sh_139 (Nat.le_of_ble_eq_true rfl) h.1 dX7_waitOf_10 ?_
  replace h := h.2
  refine v_aloadn C 0 rfl rfl dX7_waitOf_11 ?_
  refine v_getr (o' := 139) C fr_X7_35 sh_130 (Nat.le_of_ble_eq_true rfl) rfl (iMod_r12 hm) dX7_waitOf_12 ?_
  refine v_iloadn C 1 rfl rfl dX7_waitOf_15 ?_
  refine v_ald C sh_139 (Nat.le_of_ble_eq_true rfl) h.1 dX7_waitOf_16 ?_
  replace h := h.2
  refine v_isub C dX7_waitOf_17 ?_
  refine v_aloadn C 0 rfl rfl dX7_waitOf_18 ?_
  refine v_getr (o' := 142) C fr_X7_44 sh_130 (Nat.le_of_ble_eq_true rfl) rfl (iMod_r16 hm) dX7_waitOf_19 ?_
  refine v_iconst C kc_0 dX7_waitOf_22 ?_
  refine v_aldk C sh_142 (Nat.le_of_ble_eq_true rfl) lit_0 (Nat.le_of_ble_eq_true rfl) dX7_waitOf_23 ?_
  refine v_iadd C dX7_waitOf_24 ?_
  exact v_iret C hr dX7_waitOf_25 h
abbrev rmX7_correctedBy : Room := { frames := 1, cells := 0, slots := 0, locals := 21 }
def wp_X7_correctedBy (x1 : Int32) (x2 : Int32) (M : Mem) (K : Mem → Prop) : Prop := vp_in ((14 : Int32) + x1) 349 ∧ (vp_in ((14 : Int32) + x1) 349 ∧ (∀ M1 : Mem, M1 = mw M 131 (ix ((14 : Int32) + x1)) ((M 131 (ix ((14 : Int32) + x1))) + x2) → wp_X7_waitOf (x1) M1 (fun r2 M2 => vp_in ((18 : Int32) + x1) 349 ∧ (∀ M3 : Mem, M3 = mw M2 131 (ix ((18 : Int32) + x1)) r2 → (¬ (M3 131 4) = (1 : Int32) → K M3) ∧ ((M3 131 4) = (1 : Int32) → ((M3 130 10) ≤ (x1 + (1 : Int32)) → K M3) ∧ (¬ (M3 130 10) ≤ (x1 + (1 : Int32)) → vp_in (x1 + (1 : Int32)) 4 ∧ (wp_X7_passedPlace ((x1 + (1 : Int32))) ((((M3 131 5) + (1 : Int32)) + (M3 138 (ix (x1 + (1 : Int32)))))) M3 (fun r6 M6 => vp_in r6 349 ∧ (vp_in r6 349 ∧ (∀ M7 : Mem, M7 = mw M6 131 (ix r6) ((M6 131 (ix r6)) - x2) → K M7))))))))))
set_option maxRecDepth 20000 in
theorem con_X7_correctedBy (l : Launch) (S : XS) (R : Rfs) (x1 : Int32) (x2 : Int32) (hm : isMod R) (M : Mem) (K : Mem → Prop) (h : wp_X7_correctedBy x1 x2 M K) : CV l yX7_correctedBy cX7_correctedBy 3 rmX7_correctedBy S 148 R [.ref (XB S + 130), .int x1, .int x2] M K := by
  refine conV (lv := [(0, .ref (XB S + 130)), (1, .int x1), (2, .int x2)]) (by decide) (Nat.le_of_ble_eq_true rfl) rfl ?_
  intro p e s m args below meth c C hr
  replace C : Cx p m meth c s args cX7_correctedBy RX7 3 S := C
  refine v_aloadn C 0 rfl rfl dX7_correctedBy_0 ?_
  refine v_getr (o' := 131) C fr_X7_7 sh_130 (Nat.le_of_ble_eq_true rfl) rfl (iMod_r0 hm) dX7_correctedBy_1 ?_
  refine v_bipush C kb_14 dX7_correctedBy_4 ?_
  refine v_iloadn C 1 rfl rfl dX7_correctedBy_6 ?_
  refine v_iadd C dX7_correctedBy_7 ?_
  refine v_dup2 C rfl rfl dX7_correctedBy_8 ?_
  refine v_ald C sh_131 (Nat.le_of_ble_eq_true rfl) h.1 dX7_correctedBy_9 ?_
  replace h := h.2
  refine v_iloadn C 2 rfl rfl dX7_correctedBy_10 ?_
  refine v_iadd C dX7_correctedBy_11 ?_
  have hi1 := h.1
  replace h := h.2
  refine v_ast C sh_131 (Nat.le_of_ble_eq_true rfl) hi1 dX7_correctedBy_12 (fun M1 e1 => ?_)
  replace h := h M1 e1
  refine v_aloadn C 0 rfl rfl dX7_correctedBy_13 ?_
  refine v_getr (o' := 131) C fr_X7_7 sh_130 (Nat.le_of_ble_eq_true rfl) rfl (iMod_r0 hm) dX7_correctedBy_14 ?_
  refine v_bipush C kb_18 dX7_correctedBy_17 ?_
  refine v_iloadn C 1 rfl rfl dX7_correctedBy_19 ?_
  refine v_iadd C dX7_correctedBy_20 ?_
  refine v_aloadn C 0 rfl rfl dX7_correctedBy_21 ?_
  refine v_iloadn C 1 rfl rfl dX7_correctedBy_22 ?_
  refine v_cvI (As := [.int x1]) C mv_X7_145 (con_X7_waitOf l S R (x1) hm _ _ h) sh_130 (Nat.le_of_ble_eq_true rfl) rfl ⟨(Nat.le_of_ble_eq_true rfl), (Nat.le_of_ble_eq_true rfl)⟩ ⟨rfl, rfl, Nat.zero_le _, Nat.zero_le _⟩ (Nat.le_of_ble_eq_true rfl) dX7_correctedBy_23 (fun r2 M2 h => ?_)
  have hi3 := h.1
  replace h := h.2
  refine v_ast C sh_131 (Nat.le_of_ble_eq_true rfl) hi3 dX7_correctedBy_26 (fun M3 e3 => ?_)
  replace h := h M3 e3
  refine v_aloadn C 0 rfl rfl dX7_correctedBy_27 ?_
  refine v_getr (o' := 131) C fr_X7_7 sh_130 (Nat.le_of_ble_eq_true rfl) rfl (iMod_r0 hm) dX7_correctedBy_28 ?_
  refine v_iconst C kc_4 dX7_correctedBy_31 ?_
  refine v_aldk C sh_131 (Nat.le_of_ble_eq_true rfl) lit_4 (Nat.le_of_ble_eq_true rfl) dX7_correctedBy_32 ?_
  refine v_iconst C kc_1 dX7_correctedBy_33 ?_
  refine v_icmp_ne C 79 (by decide) dX7_correctedBy_34 (fun c4 => ?_) (fun c4 => ?_)
  · replace h := h.1 c4
    exact v_vret C hr dX7_correctedBy_79 h
  · replace h := h.2 c4
    refine v_iloadn C 1 rfl rfl dX7_correctedBy_37 ?_
    refine v_iconst C kc_1 dX7_correctedBy_38 ?_
    refine v_iadd C dX7_correctedBy_39 ?_
    refine v_aloadn C 0 rfl rfl dX7_correctedBy_40 ?_
    refine v_geti C fr_X7_75 sh_130 (Nat.le_of_ble_eq_true rfl) rfl dX7_correctedBy_41 ?_
    refine v_icmp_ge C 79 (by decide) dX7_correctedBy_44 (fun c5 => ?_) (fun c5 => ?_)
    · replace h := h.1 c5
      exact v_vret C hr dX7_correctedBy_79 h
    · replace h := h.2 c5
      refine v_aloadn C 0 rfl rfl dX7_correctedBy_47 ?_
      refine v_getr (o' := 131) C fr_X7_7 sh_130 (Nat.le_of_ble_eq_true rfl) rfl (iMod_r0 hm) dX7_correctedBy_48 ?_
      refine v_iloadn C 1 rfl rfl dX7_correctedBy_51 ?_
      refine v_iconst C kc_1 dX7_correctedBy_52 ?_
      refine v_iadd C dX7_correctedBy_53 ?_
      refine v_aloadn C 0 rfl rfl dX7_correctedBy_54 ?_
      refine v_getr (o' := 131) C fr_X7_7 sh_130 (Nat.le_of_ble_eq_true rfl) rfl (iMod_r0 hm) dX7_correctedBy_55 ?_
      refine v_iconst C kc_5 dX7_correctedBy_58 ?_
      refine v_aldk C sh_131 (Nat.le_of_ble_eq_true rfl) lit_5 (Nat.le_of_ble_eq_true rfl) dX7_correctedBy_59 ?_
      refine v_iconst C kc_1 dX7_correctedBy_60 ?_
      refine v_iadd C dX7_correctedBy_61 ?_
      refine v_aloadn C 0 rfl rfl dX7_correctedBy_62 ?_
      refine v_getr (o' := 138) C fr_X7_32 sh_130 (Nat.le_of_ble_eq_true rfl) rfl (iMod_r11 hm) dX7_correctedBy_63 ?_
      refine v_iloadn C 1 rfl rfl dX7_correctedBy_66 ?_
      refine v_iconst C kc_1 dX7_correctedBy_67 ?_
      refine v_iadd C dX7_correctedBy_68 ?_
      refine v_ald C sh_138 (Nat.le_of_ble_eq_true rfl) h.1 dX7_correctedBy_69 ?_
      replace h := h.2
      refine v_iadd C dX7_correctedBy_70 ?_
      refine v_csI (As := [.int (x1 + (1 : Int32)), .int (((M3 131 5) + (1 : Int32)) + (M3 138 (ix (x1 + (1 : Int32)))))]) C ms_X7_138 (con_X7_passedPlace l S 148 R ((x1 + (1 : Int32))) ((((M3 131 5) + (1 : Int32)) + (M3 138 (ix (x1 + (1 : Int32))))))  _ _ h) rfl ⟨(Nat.le_of_ble_eq_true rfl), (Nat.le_of_ble_eq_true rfl)⟩ ⟨rfl, rfl, Nat.zero_le _, Nat.zero_le _⟩ (Nat.le_of_ble_eq_true rfl) dX7_correctedBy_71 (fun r6 M6 h => ?_)
      refine v_dup2 C rfl rfl dX7_correctedBy_74 ?_
      refine v_ald C sh_131 (Nat.le_of_ble_eq_true rfl) h.1 dX7_correctedBy_75 ?_
      replace h := h.2
      refine v_iloadn C 2 rfl rfl dX7_correctedBy_76 ?_
      refine v_isub C dX7_correctedBy_77 ?_
      have hi7 := h.1
      replace h := h.2
      refine v_ast C sh_131 (Nat.le_of_ble_eq_true rfl) hi7 dX7_correctedBy_78 (fun M7 e7 => ?_)
      replace h := h M7 e7
      exact v_vret C hr dX7_correctedBy_79 h
