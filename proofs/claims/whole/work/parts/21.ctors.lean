theorem wo_X5 : Cond.methodLink RX5 3 Lib.objectInit ∈ LG := lg_mem 75 (by decide +kernel) rfl
theorem wo_i : Cond.instanceMethod Lib.objectInit ∈ LG := lg_mem 68 (by decide +kernel) rfl
theorem wo_c : Cond.code Lib.objectInit ⟨#[0xb1]⟩ 1 none ∈ LG := lg_mem 69 (by decide +kernel) rfl
theorem wa_i : Cond.arrayClass .int ∈ LG := lg_mem 99 (by decide +kernel) rfl
theorem wo_X3 : Cond.methodLink RX3 3 Lib.objectInit ∈ LG := lg_mem 105 (by decide +kernel) rfl
theorem wo_X0 : Cond.methodLink RX0 3 Lib.objectInit ∈ LG := lg_mem 177 (by decide +kernel) rfl
theorem wo_X4 : Cond.methodLink RX4 3 Lib.objectInit ∈ LG := lg_mem 171 (by decide +kernel) rfl
theorem wkX4_24 : Cond.classLink RX4 24 RX0 ∈ LG := lg_mem 172 (by decide +kernel) rfl
theorem wj_0 : Cond.instantiable RX0 11 ∈ LG := lg_mem 173 (by decide +kernel) rfl
theorem wo_X1 : Cond.methodLink RX1 3 Lib.objectInit ∈ LG := lg_mem 304 (by decide +kernel) rfl
theorem wo_X2 : Cond.methodLink RX2 3 Lib.objectInit ∈ LG := lg_mem 284 (by decide +kernel) rfl
theorem wkX2_9 : Cond.classLink RX2 9 RX4 ∈ LG := lg_mem 285 (by decide +kernel) rfl
theorem wj_4 : Cond.instantiable RX4 14 ∈ LG := lg_mem 167 (by decide +kernel) rfl
theorem wo_X6 : Cond.methodLink RX6 1 Lib.objectInit ∈ LG := lg_mem 67 (by decide +kernel) rfl
theorem wkX6_7 : Cond.classLink RX6 7 RX5 ∈ LG := lg_mem 70 (by decide +kernel) rfl
theorem wj_5 : Cond.instantiable RX5 7 ∈ LG := lg_mem 71 (by decide +kernel) rfl
theorem wkX6_16 : Cond.classLink RX6 16 RX3 ∈ LG := lg_mem 100 (by decide +kernel) rfl
theorem wj_3 : Cond.instantiable RX3 10 ∈ LG := lg_mem 101 (by decide +kernel) rfl
theorem wh_X6_18 : Cond.methodLink RX6 18 yX3_init ∈ LG := lg_mem 102 (by decide +kernel) rfl
theorem wkX6_26 : Cond.classLink RX6 26 RX4 ∈ LG := lg_mem 166 (by decide +kernel) rfl
theorem wkX6_36 : Cond.classLink RX6 36 RX2 ∈ LG := lg_mem 279 (by decide +kernel) rfl
theorem wj_2 : Cond.instantiable RX2 3 ∈ LG := lg_mem 280 (by decide +kernel) rfl
theorem wh_X6_38 : Cond.methodLink RX6 38 yX2_init ∈ LG := lg_mem 281 (by decide +kernel) rfl
theorem wa_z : Cond.arrayClass .boolean ∈ LG := lg_mem 316 (by decide +kernel) rfl
theorem wkX6_51 : Cond.classLink RX6 51 RX1 ∈ LG := lg_mem 299 (by decide +kernel) rfl
theorem wj_1 : Cond.instantiable RX1 3 ∈ LG := lg_mem 300 (by decide +kernel) rfl
theorem wo_X7 : Cond.methodLink RX7 1 Lib.objectInit ∈ LG := lg_mem 690 (by decide +kernel) rfl
abbrev shBand (b : Nat) : Prop := SH b = (0, 0) ∧ SH (b + 1) = (8, 32) ∧ SH (b + 2) = (8, 32) ∧ SH (b + 3) = (8, 32) ∧ SH (b + 4) = (8, 128) ∧ SH (b + 5) = (8, 4)
abbrev shPlan (b : Nat) : Prop := SH b = (3, 0) ∧ SH (b + 1) = (8, 4) ∧ SH (b + 2) = (8, 4) ∧ SH (b + 3) = (8, 8) ∧ SH (b + 4) = (8, 8)
abbrev shPress (b : Nat) : Prop := SH b = (4, 0) ∧ SH (b + 1) = (8, 4) ∧ SH (b + 2) = (8, 4) ∧ SH (b + 3) = (8, 4) ∧ SH (b + 4) = (8, 32) ∧ shBand (b + 5)
theorem shx_0 : SH 0 = (6, 0) := by decide +kernel
theorem shx_1 : SH 1 = (5, 0) := by decide +kernel
theorem shx_2 : SH 2 = (8, 120) := by decide +kernel
theorem shx_3 : SH 3 = (3, 0) := by decide +kernel
theorem shx_4 : SH 4 = (8, 4) := by decide +kernel
theorem shx_5 : SH 5 = (8, 4) := by decide +kernel
theorem shx_6 : SH 6 = (8, 8) := by decide +kernel
theorem shx_7 : SH 7 = (8, 8) := by decide +kernel
theorem shx_8 : SH 8 = (3, 0) := by decide +kernel
theorem shx_9 : SH 9 = (8, 4) := by decide +kernel
theorem shx_10 : SH 10 = (8, 4) := by decide +kernel
theorem shx_11 : SH 11 = (8, 8) := by decide +kernel
theorem shx_12 : SH 12 = (8, 8) := by decide +kernel
theorem shx_13 : SH 13 = (4, 0) := by decide +kernel
theorem shx_14 : SH 14 = (8, 4) := by decide +kernel
theorem shx_15 : SH 15 = (8, 4) := by decide +kernel
theorem shx_16 : SH 16 = (8, 4) := by decide +kernel
theorem shx_17 : SH 17 = (8, 32) := by decide +kernel
theorem shx_18 : SH 18 = (0, 0) := by decide +kernel
theorem shx_19 : SH 19 = (8, 32) := by decide +kernel
theorem shx_20 : SH 20 = (8, 32) := by decide +kernel
theorem shx_21 : SH 21 = (8, 32) := by decide +kernel
theorem shx_22 : SH 22 = (8, 128) := by decide +kernel
theorem shx_23 : SH 23 = (8, 4) := by decide +kernel
theorem shx_24 : SH 24 = (4, 0) := by decide +kernel
theorem shx_25 : SH 25 = (8, 4) := by decide +kernel
theorem shx_26 : SH 26 = (8, 4) := by decide +kernel
theorem shx_27 : SH 27 = (8, 4) := by decide +kernel
theorem shx_28 : SH 28 = (8, 32) := by decide +kernel
theorem shx_29 : SH 29 = (0, 0) := by decide +kernel
theorem shx_30 : SH 30 = (8, 32) := by decide +kernel
theorem shx_31 : SH 31 = (8, 32) := by decide +kernel
theorem shx_32 : SH 32 = (8, 32) := by decide +kernel
theorem shx_33 : SH 33 = (8, 128) := by decide +kernel
theorem shx_34 : SH 34 = (8, 4) := by decide +kernel
theorem shx_35 : SH 35 = (2, 0) := by decide +kernel
theorem shx_36 : SH 36 = (10, 6) := by decide +kernel
theorem shx_37 : SH 37 = (4, 0) := by decide +kernel
theorem shx_38 : SH 38 = (8, 4) := by decide +kernel
theorem shx_39 : SH 39 = (8, 4) := by decide +kernel
theorem shx_40 : SH 40 = (8, 4) := by decide +kernel
theorem shx_41 : SH 41 = (8, 32) := by decide +kernel
theorem shx_42 : SH 42 = (0, 0) := by decide +kernel
theorem shx_43 : SH 43 = (8, 32) := by decide +kernel
theorem shx_44 : SH 44 = (8, 32) := by decide +kernel
theorem shx_45 : SH 45 = (8, 32) := by decide +kernel
theorem shx_46 : SH 46 = (8, 128) := by decide +kernel
theorem shx_47 : SH 47 = (8, 4) := by decide +kernel
theorem shx_48 : SH 48 = (4, 0) := by decide +kernel
theorem shx_49 : SH 49 = (8, 4) := by decide +kernel
theorem shx_50 : SH 50 = (8, 4) := by decide +kernel
theorem shx_51 : SH 51 = (8, 4) := by decide +kernel
theorem shx_52 : SH 52 = (8, 32) := by decide +kernel
theorem shx_53 : SH 53 = (0, 0) := by decide +kernel
theorem shx_54 : SH 54 = (8, 32) := by decide +kernel
theorem shx_55 : SH 55 = (8, 32) := by decide +kernel
theorem shx_56 : SH 56 = (8, 32) := by decide +kernel
theorem shx_57 : SH 57 = (8, 128) := by decide +kernel
theorem shx_58 : SH 58 = (8, 4) := by decide +kernel
theorem shx_59 : SH 59 = (4, 0) := by decide +kernel
theorem shx_60 : SH 60 = (8, 4) := by decide +kernel
theorem shx_61 : SH 61 = (8, 4) := by decide +kernel
theorem shx_62 : SH 62 = (8, 4) := by decide +kernel
theorem shx_63 : SH 63 = (8, 32) := by decide +kernel
theorem shx_64 : SH 64 = (0, 0) := by decide +kernel
theorem shx_65 : SH 65 = (8, 32) := by decide +kernel
theorem shx_66 : SH 66 = (8, 32) := by decide +kernel
theorem shx_67 : SH 67 = (8, 32) := by decide +kernel
theorem shx_68 : SH 68 = (8, 128) := by decide +kernel
theorem shx_69 : SH 69 = (8, 4) := by decide +kernel
theorem shx_70 : SH 70 = (4, 0) := by decide +kernel
theorem shx_71 : SH 71 = (8, 4) := by decide +kernel
theorem shx_72 : SH 72 = (8, 4) := by decide +kernel
theorem shx_73 : SH 73 = (8, 4) := by decide +kernel
theorem shx_74 : SH 74 = (8, 32) := by decide +kernel
theorem shx_75 : SH 75 = (0, 0) := by decide +kernel
theorem shx_76 : SH 76 = (8, 32) := by decide +kernel
theorem shx_77 : SH 77 = (8, 32) := by decide +kernel
theorem shx_78 : SH 78 = (8, 32) := by decide +kernel
theorem shx_79 : SH 79 = (8, 128) := by decide +kernel
theorem shx_80 : SH 80 = (8, 4) := by decide +kernel
theorem shx_81 : SH 81 = (4, 0) := by decide +kernel
theorem shx_82 : SH 82 = (8, 4) := by decide +kernel
theorem shx_83 : SH 83 = (8, 4) := by decide +kernel
theorem shx_84 : SH 84 = (8, 4) := by decide +kernel
theorem shx_85 : SH 85 = (8, 32) := by decide +kernel
theorem shx_86 : SH 86 = (0, 0) := by decide +kernel
theorem shx_87 : SH 87 = (8, 32) := by decide +kernel
theorem shx_88 : SH 88 = (8, 32) := by decide +kernel
theorem shx_89 : SH 89 = (8, 32) := by decide +kernel
theorem shx_90 : SH 90 = (8, 128) := by decide +kernel
theorem shx_91 : SH 91 = (8, 4) := by decide +kernel
theorem shx_92 : SH 92 = (4, 0) := by decide +kernel
theorem shx_93 : SH 93 = (8, 4) := by decide +kernel
theorem shx_94 : SH 94 = (8, 4) := by decide +kernel
theorem shx_95 : SH 95 = (8, 4) := by decide +kernel
theorem shx_96 : SH 96 = (8, 32) := by decide +kernel
theorem shx_97 : SH 97 = (0, 0) := by decide +kernel
theorem shx_98 : SH 98 = (8, 32) := by decide +kernel
theorem shx_99 : SH 99 = (8, 32) := by decide +kernel
theorem shx_100 : SH 100 = (8, 32) := by decide +kernel
theorem shx_101 : SH 101 = (8, 128) := by decide +kernel
theorem shx_102 : SH 102 = (8, 4) := by decide +kernel
theorem shx_103 : SH 103 = (10, 2) := by decide +kernel
theorem shx_104 : SH 104 = (9, 2) := by decide +kernel
theorem shx_105 : SH 105 = (1, 0) := by decide +kernel
theorem shx_106 : SH 106 = (8, 6) := by decide +kernel
theorem shx_107 : SH 107 = (8, 6) := by decide +kernel
theorem shx_108 : SH 108 = (4, 0) := by decide +kernel
theorem shx_109 : SH 109 = (8, 4) := by decide +kernel
theorem shx_110 : SH 110 = (8, 4) := by decide +kernel
theorem shx_111 : SH 111 = (8, 4) := by decide +kernel
theorem shx_112 : SH 112 = (8, 32) := by decide +kernel
theorem shx_113 : SH 113 = (0, 0) := by decide +kernel
theorem shx_114 : SH 114 = (8, 32) := by decide +kernel
theorem shx_115 : SH 115 = (8, 32) := by decide +kernel
theorem shx_116 : SH 116 = (8, 32) := by decide +kernel
theorem shx_117 : SH 117 = (8, 128) := by decide +kernel
theorem shx_118 : SH 118 = (8, 4) := by decide +kernel
theorem shx_119 : SH 119 = (4, 0) := by decide +kernel
theorem shx_120 : SH 120 = (8, 4) := by decide +kernel
theorem shx_121 : SH 121 = (8, 4) := by decide +kernel
theorem shx_122 : SH 122 = (8, 4) := by decide +kernel
theorem shx_123 : SH 123 = (8, 32) := by decide +kernel
theorem shx_124 : SH 124 = (0, 0) := by decide +kernel
theorem shx_125 : SH 125 = (8, 32) := by decide +kernel
theorem shx_126 : SH 126 = (8, 32) := by decide +kernel
theorem shx_127 : SH 127 = (8, 32) := by decide +kernel
theorem shx_128 : SH 128 = (8, 128) := by decide +kernel
theorem shx_129 : SH 129 = (8, 4) := by decide +kernel
theorem shx_130 : SH 130 = (7, 0) := by decide +kernel
theorem shx_131 : SH 131 = (8, 349) := by decide +kernel
theorem shx_132 : SH 132 = (8, 349) := by decide +kernel
theorem shx_133 : SH 133 = (8, 2094) := by decide +kernel
theorem shx_134 : SH 134 = (8, 698) := by decide +kernel
theorem shx_135 : SH 135 = (9, 2) := by decide +kernel
theorem shx_136 : SH 136 = (8, 120) := by decide +kernel
theorem shx_137 : SH 137 = (8, 12) := by decide +kernel
theorem shx_138 : SH 138 = (8, 4) := by decide +kernel
theorem shx_139 : SH 139 = (8, 4) := by decide +kernel
theorem shx_140 : SH 140 = (8, 8) := by decide +kernel
theorem shx_141 : SH 141 = (8, 8) := by decide +kernel
theorem shx_142 : SH 142 = (8, 4) := by decide +kernel
theorem shx_143 : SH 143 = (8, 4) := by decide +kernel
theorem shx_144 : SH 144 = (8, 8) := by decide +kernel
theorem shx_145 : SH 145 = (8, 8) := by decide +kernel
theorem shx_146 : SH 146 = (8, 4) := by decide +kernel
theorem shx_147 : SH 147 = (9, 4) := by decide +kernel
abbrev rmX5_init : Room := { frames := 1, cells := 1, slots := 120, locals := 12 }
def wp_X5_init (M : Mem) (R : Rfs) (K : Mem → Rfs → Prop) : Prop := ZR M R 2 ∧ ((∀ R1 : Rfs, R1 = mr R 1 0 2 → K M R1))
set_option maxRecDepth 20000 in
set_option maxHeartbeats 4000000 in
theorem con_X5_init (l : Launch) (S : XS) (R : Rfs) (M : Mem) (K : Mem → Rfs → Prop) (h : wp_X5_init M R K) : CG l yX5_init cX5_init 1 rmX5_init S 2 R [.ref (XB S + 1)] M 3 1 120 (fun u => K u.1 u.2) := by
  refine conG (lv := [(0, .ref (XB S + 1))]) (by decide) (Nat.le_of_ble_eq_true rfl) rfl rfl ?_
  intro p e s m args below meth c C hr hin hn0
  replace C : Cx p m meth c s args cX5_init RX5 1 S := C
  refine v_aloadn C 0 rfl rfl dX5_init_0 ?_
  refine v_objinit C wo_X5 wo_i wo_c (Nat.le_of_ble_eq_true rfl) (Nat.le_of_ble_eq_true rfl) dX5_init_1 ?_
  refine v_aloadn C 0 rfl rfl dX5_init_4 ?_
  refine v_bipush C kb_120 dX5_init_5 ?_
  refine v_newi C lit_120 wa_i shx_2 h.1 (by omega) (Or.inl (Nat.le_of_ble_eq_true rfl)) (Nat.le_of_ble_eq_true rfl) (Nat.le_of_ble_eq_true rfl) (Nat.le_of_ble_eq_true rfl) dX5_init_7 ?_
  replace h := h.2
  refine v_putF C hin fr_X5_9 shx_1 (Nat.le_of_ble_eq_true rfl) cown_5 rfl rfl rfl dX5_init_9 (fun R1 e1 => ?_)
  replace h := h R1 e1
  exact v_vretG (K := fun u => K u.1 u.2) C hr dX5_init_12 h

abbrev rmX3_init : Room := { frames := 1, cells := 4, slots := 24, locals := 20 }
def wp_X3_init (o0 : Nat) (M : Mem) (R : Rfs) (K : Mem → Rfs → Prop) : Prop := ZR M R (o0 + 1) ∧ ((∀ R1 : Rfs, R1 = mr R o0 0 (o0 + 1) → ZR M R1 (o0 + 2) ∧ ((∀ R2 : Rfs, R2 = mr R1 o0 1 (o0 + 2) → ZR M R2 (o0 + 3) ∧ ((∀ R3 : Rfs, R3 = mr R2 o0 2 (o0 + 3) → ZR M R3 (o0 + 4) ∧ ((∀ R4 : Rfs, R4 = mr R3 o0 3 (o0 + 4) → isPlan (o0 + 5) R4 o0 ∧ (wp_X3_setAsAtFirst o0 M (fun M5 => K M5 R4))))))))))
set_option maxRecDepth 20000 in
set_option maxHeartbeats 4000000 in
theorem con_X3_init (l : Launch) (S : XS) (R : Rfs) (o0 : Nat) (hs : shPlan o0) (M : Mem) (K : Mem → Rfs → Prop) (h : wp_X3_init o0 M R K) : CG l yX3_init cX3_init 1 rmX3_init S (o0 + 1) R [.ref (XB S + o0)] M (o0 + 5) 4 24 (fun u => K u.1 u.2) := by
  refine conG (lv := [(0, .ref (XB S + o0))]) (by decide) (Nat.le_of_ble_eq_true rfl) rfl rfl ?_
  intro p e s m args below meth c C hr hin hn0
  replace C : Cx p m meth c s args cX3_init RX3 1 S := C
  refine v_aloadn C 0 rfl rfl dX3_init_0 ?_
  refine v_objinit C wo_X3 wo_i wo_c (Nat.le_of_ble_eq_true rfl) (Nat.le_of_ble_eq_true rfl) dX3_init_1 ?_
  refine v_aloadn C 0 rfl rfl dX3_init_4 ?_
  refine v_iconst C kc_4 dX3_init_5 ?_
  refine v_newi C lit_4 wa_i hs.2.1 h.1 (by omega) (Or.inl (by omega)) (Nat.le_of_ble_eq_true rfl) (Nat.le_of_ble_eq_true rfl) (Nat.le_of_ble_eq_true rfl) dX3_init_6 ?_
  replace h := h.2
  refine v_putF C hin fr_X3_9 hs.1 (by omega) cown_3 rfl rfl rfl dX3_init_8 (fun R1 e1 => ?_)
  replace h := h R1 e1
  refine v_aloadn C 0 rfl rfl dX3_init_11 ?_
  refine v_iconst C kc_4 dX3_init_12 ?_
  refine v_newi C lit_4 wa_i hs.2.2.1 h.1 (by omega) (Or.inl (by omega)) (Nat.le_of_ble_eq_true rfl) (Nat.le_of_ble_eq_true rfl) (Nat.le_of_ble_eq_true rfl) dX3_init_13 ?_
  replace h := h.2
  refine v_putF C hin fr_X3_15 hs.1 (by omega) cown_3 rfl rfl rfl dX3_init_15 (fun R2 e2 => ?_)
  replace h := h R2 e2
  refine v_aloadn C 0 rfl rfl dX3_init_18 ?_
  refine v_bipush C kb_8 dX3_init_19 ?_
  refine v_newi C lit_8 wa_i hs.2.2.2.1 h.1 (by omega) (Or.inl (by omega)) (Nat.le_of_ble_eq_true rfl) (Nat.le_of_ble_eq_true rfl) (Nat.le_of_ble_eq_true rfl) dX3_init_21 ?_
  replace h := h.2
  refine v_putF C hin fr_X3_18 hs.1 (by omega) cown_3 rfl rfl rfl dX3_init_23 (fun R3 e3 => ?_)
  replace h := h R3 e3
  refine v_aloadn C 0 rfl rfl dX3_init_26 ?_
  refine v_bipush C kb_8 dX3_init_27 ?_
  refine v_newi C lit_8 wa_i hs.2.2.2.2 h.1 (by omega) (Or.inl (by omega)) (Nat.le_of_ble_eq_true rfl) (Nat.le_of_ble_eq_true rfl) (Nat.le_of_ble_eq_true rfl) dX3_init_29 ?_
  replace h := h.2
  refine v_putF C hin fr_X3_21 hs.1 (by omega) cown_3 rfl rfl rfl dX3_init_31 (fun R4 e4 => ?_)
  replace h := h R4 e4
  refine v_aloadn C 0 rfl rfl dX3_init_34 ?_
  have hq5 := h.1
  replace h := h.2
  refine v_cvV (As := []) C mv_X3_24 (con_X3_setAsAtFirst l S (o0 + 5) R4 o0 hq5 _ _ h) hs.1 (by omega) rfl ⟨(Nat.le_of_ble_eq_true rfl), (Nat.le_of_ble_eq_true rfl)⟩ ⟨rfl, rfl, (Nat.le_of_ble_eq_true rfl), (Nat.le_of_ble_eq_true rfl)⟩ (Nat.le_of_ble_eq_true rfl) dX3_init_35 (fun M5 h => ?_)
  exact v_vretG (K := fun u => K u.1 u.2) C hr dX3_init_38 h

abbrev rmX0_init : Room := { frames := 1, cells := 5, slots := 228, locals := 12 }
def wp_X0_init (o0 : Nat) (M : Mem) (R : Rfs) (K : Mem → Rfs → Prop) : Prop := ZR M R (o0 + 1) ∧ ((∀ R1 : Rfs, R1 = mr R o0 0 (o0 + 1) → ZR M R1 (o0 + 2) ∧ ((∀ R2 : Rfs, R2 = mr R1 o0 1 (o0 + 2) → ZR M R2 (o0 + 3) ∧ ((∀ R3 : Rfs, R3 = mr R2 o0 2 (o0 + 3) → ZR M R3 (o0 + 4) ∧ ((∀ R4 : Rfs, R4 = mr R3 o0 3 (o0 + 4) → ZR M R4 (o0 + 5) ∧ ((∀ R5 : Rfs, R5 = mr R4 o0 10 (o0 + 5) → K M R5))))))))))
set_option maxRecDepth 20000 in
set_option maxHeartbeats 4000000 in
theorem con_X0_init (l : Launch) (S : XS) (R : Rfs) (o0 : Nat) (hs : shBand o0) (M : Mem) (K : Mem → Rfs → Prop) (h : wp_X0_init o0 M R K) : CG l yX0_init cX0_init 1 rmX0_init S (o0 + 1) R [.ref (XB S + o0)] M (o0 + 6) 5 228 (fun u => K u.1 u.2) := by
  refine conG (lv := [(0, .ref (XB S + o0))]) (by decide) (Nat.le_of_ble_eq_true rfl) rfl rfl ?_
  intro p e s m args below meth c C hr hin hn0
  replace C : Cx p m meth c s args cX0_init RX0 1 S := C
  refine v_aloadn C 0 rfl rfl dX0_init_0 ?_
  refine v_objinit C wo_X0 wo_i wo_c (Nat.le_of_ble_eq_true rfl) (Nat.le_of_ble_eq_true rfl) dX0_init_1 ?_
  refine v_aloadn C 0 rfl rfl dX0_init_4 ?_
  refine v_bipush C kb_32 dX0_init_5 ?_
  refine v_newi C lit_32 wa_i hs.2.1 h.1 (by omega) (Or.inl (by omega)) (Nat.le_of_ble_eq_true rfl) (Nat.le_of_ble_eq_true rfl) (Nat.le_of_ble_eq_true rfl) dX0_init_7 ?_
  replace h := h.2
  refine v_putF C hin fr_X0_11 hs.1 (by omega) cown_0 rfl rfl rfl dX0_init_9 (fun R1 e1 => ?_)
  replace h := h R1 e1
  refine v_aloadn C 0 rfl rfl dX0_init_12 ?_
  refine v_bipush C kb_32 dX0_init_13 ?_
  refine v_newi C lit_32 wa_i hs.2.2.1 h.1 (by omega) (Or.inl (by omega)) (Nat.le_of_ble_eq_true rfl) (Nat.le_of_ble_eq_true rfl) (Nat.le_of_ble_eq_true rfl) dX0_init_15 ?_
  replace h := h.2
  refine v_putF C hin fr_X0_15 hs.1 (by omega) cown_0 rfl rfl rfl dX0_init_17 (fun R2 e2 => ?_)
  replace h := h R2 e2
  refine v_aloadn C 0 rfl rfl dX0_init_20 ?_
  refine v_bipush C kb_32 dX0_init_21 ?_
  refine v_newi C lit_32 wa_i hs.2.2.2.1 h.1 (by omega) (Or.inl (by omega)) (Nat.le_of_ble_eq_true rfl) (Nat.le_of_ble_eq_true rfl) (Nat.le_of_ble_eq_true rfl) dX0_init_23 ?_
  replace h := h.2
  refine v_putF C hin fr_X0_18 hs.1 (by omega) cown_0 rfl rfl rfl dX0_init_25 (fun R3 e3 => ?_)
  replace h := h R3 e3
  refine v_aloadn C 0 rfl rfl dX0_init_28 ?_
  refine v_sipush C ks_128 dX0_init_29 ?_
  refine v_newi C lit_128 wa_i hs.2.2.2.2.1 h.1 (by omega) (Or.inl (by omega)) (Nat.le_of_ble_eq_true rfl) (Nat.le_of_ble_eq_true rfl) (Nat.le_of_ble_eq_true rfl) dX0_init_32 ?_
  replace h := h.2
  refine v_putF C hin fr_X0_21 hs.1 (by omega) cown_0 rfl rfl rfl dX0_init_34 (fun R4 e4 => ?_)
  replace h := h R4 e4
  refine v_aloadn C 0 rfl rfl dX0_init_37 ?_
  refine v_iconst C kc_4 dX0_init_38 ?_
  refine v_newi C lit_4 wa_i hs.2.2.2.2.2 h.1 (by omega) (Or.inl (by omega)) (Nat.le_of_ble_eq_true rfl) (Nat.le_of_ble_eq_true rfl) (Nat.le_of_ble_eq_true rfl) dX0_init_39 ?_
  replace h := h.2
  refine v_putF C hin fr_X0_24 hs.1 (by omega) cown_0 rfl rfl rfl dX0_init_41 (fun R5 e5 => ?_)
  replace h := h R5 e5
  exact v_vretG (K := fun u => K u.1 u.2) C hr dX0_init_44 h

abbrev rmX4_init : Room := { frames := 2, cells := 10, slots := 283, locals := 32 }
def wp_X4_init (o0 : Nat) (M : Mem) (R : Rfs) (K : Mem → Rfs → Prop) : Prop := ZR M R (o0 + 1) ∧ ((∀ R1 : Rfs, R1 = mr R o0 0 (o0 + 1) → ZR M R1 (o0 + 2) ∧ ((∀ R2 : Rfs, R2 = mr R1 o0 1 (o0 + 2) → ZR M R2 (o0 + 3) ∧ ((∀ R3 : Rfs, R3 = mr R2 o0 2 (o0 + 3) → ZR M R3 (o0 + 4) ∧ ((∀ R4 : Rfs, R4 = mr R3 o0 3 (o0 + 4) → ZR M R4 (o0 + 5) ∧ (wp_X0_init (o0 + 5) M R4 (fun M5 R5 => (∀ R6 : Rfs, R6 = mr R5 o0 4 (o0 + 5) → K M5 R6)))))))))))
set_option maxRecDepth 20000 in
set_option maxHeartbeats 4000000 in
theorem con_X4_init (l : Launch) (S : XS) (R : Rfs) (o0 : Nat) (hs : shPress o0) (M : Mem) (K : Mem → Rfs → Prop) (h : wp_X4_init o0 M R K) : CG l yX4_init cX4_init 1 rmX4_init S (o0 + 1) R [.ref (XB S + o0)] M (o0 + 11) 10 283 (fun u => K u.1 u.2) := by
  refine conG (lv := [(0, .ref (XB S + o0))]) (by decide) (Nat.le_of_ble_eq_true rfl) rfl rfl ?_
  intro p e s m args below meth c C hr hin hn0
  replace C : Cx p m meth c s args cX4_init RX4 1 S := C
  refine v_aloadn C 0 rfl rfl dX4_init_0 ?_
  refine v_objinit C wo_X4 wo_i wo_c (Nat.le_of_ble_eq_true rfl) (Nat.le_of_ble_eq_true rfl) dX4_init_1 ?_
  refine v_aloadn C 0 rfl rfl dX4_init_4 ?_
  refine v_iconst C kc_4 dX4_init_5 ?_
  refine v_newi C lit_4 wa_i hs.2.1 h.1 (by omega) (Or.inl (by omega)) (Nat.le_of_ble_eq_true rfl) (Nat.le_of_ble_eq_true rfl) (Nat.le_of_ble_eq_true rfl) dX4_init_6 ?_
  replace h := h.2
  refine v_putF C hin fr_X4_9 hs.1 (by omega) cown_4 rfl rfl rfl dX4_init_8 (fun R1 e1 => ?_)
  replace h := h R1 e1
  refine v_aloadn C 0 rfl rfl dX4_init_11 ?_
  refine v_iconst C kc_4 dX4_init_12 ?_
  refine v_newi C lit_4 wa_i hs.2.2.1 h.1 (by omega) (Or.inl (by omega)) (Nat.le_of_ble_eq_true rfl) (Nat.le_of_ble_eq_true rfl) (Nat.le_of_ble_eq_true rfl) dX4_init_13 ?_
  replace h := h.2
  refine v_putF C hin fr_X4_15 hs.1 (by omega) cown_4 rfl rfl rfl dX4_init_15 (fun R2 e2 => ?_)
  replace h := h R2 e2
  refine v_aloadn C 0 rfl rfl dX4_init_18 ?_
  refine v_iconst C kc_4 dX4_init_19 ?_
  refine v_newi C lit_4 wa_i hs.2.2.2.1 h.1 (by omega) (Or.inl (by omega)) (Nat.le_of_ble_eq_true rfl) (Nat.le_of_ble_eq_true rfl) (Nat.le_of_ble_eq_true rfl) dX4_init_20 ?_
  replace h := h.2
  refine v_putF C hin fr_X4_18 hs.1 (by omega) cown_4 rfl rfl rfl dX4_init_22 (fun R3 e3 => ?_)
  replace h := h R3 e3
  refine v_aloadn C 0 rfl rfl dX4_init_25 ?_
  refine v_bipush C kb_32 dX4_init_26 ?_
  refine v_newi C lit_32 wa_i hs.2.2.2.2.1 h.1 (by omega) (Or.inl (by omega)) (Nat.le_of_ble_eq_true rfl) (Nat.le_of_ble_eq_true rfl) (Nat.le_of_ble_eq_true rfl) dX4_init_28 ?_
  replace h := h.2
  refine v_putF C hin fr_X4_21 hs.1 (by omega) cown_4 rfl rfl rfl dX4_init_30 (fun R4 e4 => ?_)
  replace h := h R4 e4
  refine v_aloadn C 0 rfl rfl dX4_init_33 ?_
  refine v_new C cr_0 wkX4_24 wj_0 wi_X0 hs.2.2.2.2.2.1 h.1 (by omega) (Or.inl (by omega)) (Nat.le_of_ble_eq_true rfl) (Nat.le_of_ble_eq_true rfl) dX4_init_34 ?_
  replace h := h.2
  refine v_dup C rfl dX4_init_37 ?_
  refine v_ciN (As := []) C mi_X0_init C.2.1.2.2.2.1 (con_X0_init l S R4 (o0 + 5) hs.2.2.2.2.2 _ _ h) (by omega) (Or.inl (by omega)) rfl ⟨(Nat.le_of_ble_eq_true rfl), (Nat.le_of_ble_eq_true rfl)⟩ ⟨rfl, rfl, (Nat.le_of_ble_eq_true rfl), (Nat.le_of_ble_eq_true rfl)⟩ (Nat.le_of_ble_eq_true rfl) dX4_init_38 (fun M5 R5 h => ?_)
  refine v_putF C hin fr_X4_27 hs.1 (by omega) cown_4 rfl rfl rfl dX4_init_41 (fun R6 e6 => ?_)
  replace h := h R6 e6
  exact v_vretG (K := fun u => K u.1 u.2) C hr dX4_init_44 h

abbrev rmX1_init : Room := { frames := 1, cells := 2, slots := 12, locals := 12 }
def wp_X1_init (M : Mem) (R : Rfs) (K : Mem → Rfs → Prop) : Prop := ZR M R 106 ∧ ((∀ R1 : Rfs, R1 = mr R 105 0 106 → ZR M R1 107 ∧ ((∀ R2 : Rfs, R2 = mr R1 105 1 107 → K M R2))))
set_option maxRecDepth 20000 in
set_option maxHeartbeats 4000000 in
theorem con_X1_init (l : Launch) (S : XS) (R : Rfs) (M : Mem) (K : Mem → Rfs → Prop) (h : wp_X1_init M R K) : CG l yX1_init cX1_init 1 rmX1_init S 106 R [.ref (XB S + 105)] M 108 2 12 (fun u => K u.1 u.2) := by
  refine conG (lv := [(0, .ref (XB S + 105))]) (by decide) (Nat.le_of_ble_eq_true rfl) rfl rfl ?_
  intro p e s m args below meth c C hr hin hn0
  replace C : Cx p m meth c s args cX1_init RX1 1 S := C
  refine v_aloadn C 0 rfl rfl dX1_init_0 ?_
  refine v_objinit C wo_X1 wo_i wo_c (Nat.le_of_ble_eq_true rfl) (Nat.le_of_ble_eq_true rfl) dX1_init_1 ?_
  refine v_aloadn C 0 rfl rfl dX1_init_4 ?_
  refine v_bipush C kb_6 dX1_init_5 ?_
  refine v_newi C lit_6 wa_i shx_106 h.1 (by omega) (Or.inl (Nat.le_of_ble_eq_true rfl)) (Nat.le_of_ble_eq_true rfl) (Nat.le_of_ble_eq_true rfl) (Nat.le_of_ble_eq_true rfl) dX1_init_7 ?_
  replace h := h.2
  refine v_putF C hin fr_X1_9 shx_105 (Nat.le_of_ble_eq_true rfl) cown_1 rfl rfl rfl dX1_init_9 (fun R1 e1 => ?_)
  replace h := h R1 e1
  refine v_aloadn C 0 rfl rfl dX1_init_12 ?_
  refine v_bipush C kb_6 dX1_init_13 ?_
  refine v_newi C lit_6 wa_i shx_107 h.1 (by omega) (Or.inl (Nat.le_of_ble_eq_true rfl)) (Nat.le_of_ble_eq_true rfl) (Nat.le_of_ble_eq_true rfl) (Nat.le_of_ble_eq_true rfl) dX1_init_15 ?_
  replace h := h.2
  refine v_putF C hin fr_X1_15 shx_105 (Nat.le_of_ble_eq_true rfl) cown_1 rfl rfl rfl dX1_init_17 (fun R2 e2 => ?_)
  replace h := h R2 e2
  exact v_vretG (K := fun u => K u.1 u.2) C hr dX1_init_20 h

abbrev rmX2_init : Room := { frames := 3, cells := 67, slots := 1788, locals := 52 }
def wp_X2_init (M : Mem) (R : Rfs) (K : Mem → Rfs → Prop) : Prop := ZR M R 36 ∧ ((∀ R1 : Rfs, R1 = mr R 35 0 36 → R1 35 0 = some 36 ∧ (ZR M R1 37 ∧ (wp_X4_init 37 M R1 (fun M2 R2 => (∀ R3 : Rfs, R3 = mr R2 36 0 37 → R3 35 0 = some 36 ∧ (ZR M2 R3 48 ∧ (wp_X4_init 48 M2 R3 (fun M4 R4 => (∀ R5 : Rfs, R5 = mr R4 36 1 48 → R5 35 0 = some 36 ∧ (ZR M4 R5 59 ∧ (wp_X4_init 59 M4 R5 (fun M6 R6 => (∀ R7 : Rfs, R7 = mr R6 36 2 59 → R7 35 0 = some 36 ∧ (ZR M6 R7 70 ∧ (wp_X4_init 70 M6 R7 (fun M8 R8 => (∀ R9 : Rfs, R9 = mr R8 36 3 70 → R9 35 0 = some 36 ∧ (ZR M8 R9 81 ∧ (wp_X4_init 81 M8 R9 (fun M10 R10 => (∀ R11 : Rfs, R11 = mr R10 36 4 81 → R11 35 0 = some 36 ∧ (ZR M10 R11 92 ∧ (wp_X4_init 92 M10 R11 (fun M12 R12 => (∀ R13 : Rfs, R13 = mr R12 36 5 92 → K M12 R13))))))))))))))))))))))))))
set_option maxRecDepth 20000 in
set_option maxHeartbeats 4000000 in
theorem con_X2_init (l : Launch) (S : XS) (R : Rfs) (M : Mem) (K : Mem → Rfs → Prop) (h : wp_X2_init M R K) : CG l yX2_init cX2_init 2 rmX2_init S 36 R [.ref (XB S + 35)] M 103 67 1788 (fun u => K u.1 u.2) := by
  refine conG (lv := [(0, .ref (XB S + 35))]) (by decide) (Nat.le_of_ble_eq_true rfl) rfl rfl ?_
  intro p e s m args below meth c C hr hin hn0
  replace C : Cx p m meth c s args cX2_init RX2 2 S := C
  refine v_aloadn C 0 rfl rfl dX2_init_0 ?_
  refine v_objinit C wo_X2 wo_i wo_c (Nat.le_of_ble_eq_true rfl) (Nat.le_of_ble_eq_true rfl) dX2_init_1 ?_
  refine v_aloadn C 0 rfl rfl dX2_init_4 ?_
  refine v_bipush C kb_6 dX2_init_5 ?_
  refine v_newq C lit_6 wkX2_9 shx_36 h.1 (by omega) (Or.inl (Nat.le_of_ble_eq_true rfl)) (Nat.le_of_ble_eq_true rfl) (Nat.le_of_ble_eq_true rfl) (Nat.le_of_ble_eq_true rfl) dX2_init_7 ?_
  replace h := h.2
  refine v_putF C hin fr_X2_11 shx_35 (Nat.le_of_ble_eq_true rfl) cown_2 rfl rfl rfl dX2_init_10 (fun R1 e1 => ?_)
  replace h := h R1 e1
  refine v_iconst C kc_0 dX2_init_13 ?_
  refine v_istoren (lv' := [(1, .int (0 : Int32)), (0, .ref (XB S + 35))]) C rfl rfl (Nat.le_of_ble_eq_true rfl) dX2_init_14 ?_
  refine v_iloadn C 0 rfl rfl dX2_init_15 ?_
  refine v_bipush C kb_6 dX2_init_16 ?_
  refine v_icmp_ge C 40 (by decide) dX2_init_18 (fun q => absurd q (by decide)) (fun _ => ?_)
  refine v_aloadn C 1 rfl rfl dX2_init_21 ?_
  refine v_getr (o' := 36) C fr_X2_11 shx_35 (Nat.le_of_ble_eq_true rfl) rfl h.1 dX2_init_22 ?_
  replace h := h.2
  refine v_iloadn C 0 rfl rfl dX2_init_25 ?_
  refine v_new C cr_4 wkX2_9 wj_4 wi_X4 shx_37 h.1 (by omega) (Or.inl (Nat.le_of_ble_eq_true rfl)) (Nat.le_of_ble_eq_true rfl) (Nat.le_of_ble_eq_true rfl) dX2_init_26 ?_
  replace h := h.2
  refine v_dup C rfl dX2_init_29 ?_
  refine v_ciN (As := []) C mi_X4_init C.2.1.2.2.2.2.1 (con_X4_init l S R1 37 (by decide +kernel : shPress 37) _ _ h) (by omega) (Or.inl (Nat.le_of_ble_eq_true rfl)) rfl ⟨(Nat.le_of_ble_eq_true rfl), (Nat.le_of_ble_eq_true rfl)⟩ ⟨rfl, rfl, (Nat.le_of_ble_eq_true rfl), (Nat.le_of_ble_eq_true rfl)⟩ (Nat.le_of_ble_eq_true rfl) dX2_init_30 (fun M2 R2 h => ?_)
  refine v_qastk C shx_36 (Nat.le_of_ble_eq_true rfl) lit_0 (Nat.le_of_ble_eq_true rfl) shx_37 (Nat.le_of_ble_eq_true rfl) dX2_init_33 (fun R3 e3 => ?_)
  replace h := h R3 e3
  refine v_iinc (lv' := [(1, .int (1 : Int32)), (0, .ref (XB S + 35))]) C 0 rfl kc_1 (by decide) rfl (Nat.le_of_ble_eq_true rfl) dX2_init_34 ?_
  refine v_goto C 15 (by decide) dX2_init_37 ?_
  refine v_iloadn C 0 rfl rfl dX2_init_15 ?_
  refine v_bipush C kb_6 dX2_init_16 ?_
  refine v_icmp_ge C 40 (by decide) dX2_init_18 (fun q => absurd q (by decide)) (fun _ => ?_)
  refine v_aloadn C 1 rfl rfl dX2_init_21 ?_
  refine v_getr (o' := 36) C fr_X2_11 shx_35 (Nat.le_of_ble_eq_true rfl) rfl h.1 dX2_init_22 ?_
  replace h := h.2
  refine v_iloadn C 0 rfl rfl dX2_init_25 ?_
  refine v_new C cr_4 wkX2_9 wj_4 wi_X4 shx_48 h.1 (by omega) (Or.inl (Nat.le_of_ble_eq_true rfl)) (Nat.le_of_ble_eq_true rfl) (Nat.le_of_ble_eq_true rfl) dX2_init_26 ?_
  replace h := h.2
  refine v_dup C rfl dX2_init_29 ?_
  refine v_ciN (As := []) C mi_X4_init C.2.1.2.2.2.2.1 (con_X4_init l S R3 48 (by decide +kernel : shPress 48) _ _ h) (by omega) (Or.inl (Nat.le_of_ble_eq_true rfl)) rfl ⟨(Nat.le_of_ble_eq_true rfl), (Nat.le_of_ble_eq_true rfl)⟩ ⟨rfl, rfl, (Nat.le_of_ble_eq_true rfl), (Nat.le_of_ble_eq_true rfl)⟩ (Nat.le_of_ble_eq_true rfl) dX2_init_30 (fun M4 R4 h => ?_)
  refine v_qastk C shx_36 (Nat.le_of_ble_eq_true rfl) lit_1 (Nat.le_of_ble_eq_true rfl) shx_48 (Nat.le_of_ble_eq_true rfl) dX2_init_33 (fun R5 e5 => ?_)
  replace h := h R5 e5
  refine v_iinc (lv' := [(1, .int (2 : Int32)), (0, .ref (XB S + 35))]) C 0 rfl kc_1 (by decide) rfl (Nat.le_of_ble_eq_true rfl) dX2_init_34 ?_
  refine v_goto C 15 (by decide) dX2_init_37 ?_
  refine v_iloadn C 0 rfl rfl dX2_init_15 ?_
  refine v_bipush C kb_6 dX2_init_16 ?_
  refine v_icmp_ge C 40 (by decide) dX2_init_18 (fun q => absurd q (by decide)) (fun _ => ?_)
  refine v_aloadn C 1 rfl rfl dX2_init_21 ?_
  refine v_getr (o' := 36) C fr_X2_11 shx_35 (Nat.le_of_ble_eq_true rfl) rfl h.1 dX2_init_22 ?_
  replace h := h.2
  refine v_iloadn C 0 rfl rfl dX2_init_25 ?_
  refine v_new C cr_4 wkX2_9 wj_4 wi_X4 shx_59 h.1 (by omega) (Or.inl (Nat.le_of_ble_eq_true rfl)) (Nat.le_of_ble_eq_true rfl) (Nat.le_of_ble_eq_true rfl) dX2_init_26 ?_
  replace h := h.2
  refine v_dup C rfl dX2_init_29 ?_
  refine v_ciN (As := []) C mi_X4_init C.2.1.2.2.2.2.1 (con_X4_init l S R5 59 (by decide +kernel : shPress 59) _ _ h) (by omega) (Or.inl (Nat.le_of_ble_eq_true rfl)) rfl ⟨(Nat.le_of_ble_eq_true rfl), (Nat.le_of_ble_eq_true rfl)⟩ ⟨rfl, rfl, (Nat.le_of_ble_eq_true rfl), (Nat.le_of_ble_eq_true rfl)⟩ (Nat.le_of_ble_eq_true rfl) dX2_init_30 (fun M6 R6 h => ?_)
  refine v_qastk C shx_36 (Nat.le_of_ble_eq_true rfl) lit_2 (Nat.le_of_ble_eq_true rfl) shx_59 (Nat.le_of_ble_eq_true rfl) dX2_init_33 (fun R7 e7 => ?_)
  replace h := h R7 e7
  refine v_iinc (lv' := [(1, .int (3 : Int32)), (0, .ref (XB S + 35))]) C 0 rfl kc_1 (by decide) rfl (Nat.le_of_ble_eq_true rfl) dX2_init_34 ?_
  refine v_goto C 15 (by decide) dX2_init_37 ?_
  refine v_iloadn C 0 rfl rfl dX2_init_15 ?_
  refine v_bipush C kb_6 dX2_init_16 ?_
  refine v_icmp_ge C 40 (by decide) dX2_init_18 (fun q => absurd q (by decide)) (fun _ => ?_)
  refine v_aloadn C 1 rfl rfl dX2_init_21 ?_
  refine v_getr (o' := 36) C fr_X2_11 shx_35 (Nat.le_of_ble_eq_true rfl) rfl h.1 dX2_init_22 ?_
  replace h := h.2
  refine v_iloadn C 0 rfl rfl dX2_init_25 ?_
  refine v_new C cr_4 wkX2_9 wj_4 wi_X4 shx_70 h.1 (by omega) (Or.inl (Nat.le_of_ble_eq_true rfl)) (Nat.le_of_ble_eq_true rfl) (Nat.le_of_ble_eq_true rfl) dX2_init_26 ?_
  replace h := h.2
  refine v_dup C rfl dX2_init_29 ?_
  refine v_ciN (As := []) C mi_X4_init C.2.1.2.2.2.2.1 (con_X4_init l S R7 70 (by decide +kernel : shPress 70) _ _ h) (by omega) (Or.inl (Nat.le_of_ble_eq_true rfl)) rfl ⟨(Nat.le_of_ble_eq_true rfl), (Nat.le_of_ble_eq_true rfl)⟩ ⟨rfl, rfl, (Nat.le_of_ble_eq_true rfl), (Nat.le_of_ble_eq_true rfl)⟩ (Nat.le_of_ble_eq_true rfl) dX2_init_30 (fun M8 R8 h => ?_)
  refine v_qastk C shx_36 (Nat.le_of_ble_eq_true rfl) lit_3 (Nat.le_of_ble_eq_true rfl) shx_70 (Nat.le_of_ble_eq_true rfl) dX2_init_33 (fun R9 e9 => ?_)
  replace h := h R9 e9
  refine v_iinc (lv' := [(1, .int (4 : Int32)), (0, .ref (XB S + 35))]) C 0 rfl kc_1 (by decide) rfl (Nat.le_of_ble_eq_true rfl) dX2_init_34 ?_
  refine v_goto C 15 (by decide) dX2_init_37 ?_
  refine v_iloadn C 0 rfl rfl dX2_init_15 ?_
  refine v_bipush C kb_6 dX2_init_16 ?_
  refine v_icmp_ge C 40 (by decide) dX2_init_18 (fun q => absurd q (by decide)) (fun _ => ?_)
  refine v_aloadn C 1 rfl rfl dX2_init_21 ?_
  refine v_getr (o' := 36) C fr_X2_11 shx_35 (Nat.le_of_ble_eq_true rfl) rfl h.1 dX2_init_22 ?_
  replace h := h.2
  refine v_iloadn C 0 rfl rfl dX2_init_25 ?_
  refine v_new C cr_4 wkX2_9 wj_4 wi_X4 shx_81 h.1 (by omega) (Or.inl (Nat.le_of_ble_eq_true rfl)) (Nat.le_of_ble_eq_true rfl) (Nat.le_of_ble_eq_true rfl) dX2_init_26 ?_
  replace h := h.2
  refine v_dup C rfl dX2_init_29 ?_
  refine v_ciN (As := []) C mi_X4_init C.2.1.2.2.2.2.1 (con_X4_init l S R9 81 (by decide +kernel : shPress 81) _ _ h) (by omega) (Or.inl (Nat.le_of_ble_eq_true rfl)) rfl ⟨(Nat.le_of_ble_eq_true rfl), (Nat.le_of_ble_eq_true rfl)⟩ ⟨rfl, rfl, (Nat.le_of_ble_eq_true rfl), (Nat.le_of_ble_eq_true rfl)⟩ (Nat.le_of_ble_eq_true rfl) dX2_init_30 (fun M10 R10 h => ?_)
  refine v_qastk C shx_36 (Nat.le_of_ble_eq_true rfl) lit_4 (Nat.le_of_ble_eq_true rfl) shx_81 (Nat.le_of_ble_eq_true rfl) dX2_init_33 (fun R11 e11 => ?_)
  replace h := h R11 e11
  refine v_iinc (lv' := [(1, .int (5 : Int32)), (0, .ref (XB S + 35))]) C 0 rfl kc_1 (by decide) rfl (Nat.le_of_ble_eq_true rfl) dX2_init_34 ?_
  refine v_goto C 15 (by decide) dX2_init_37 ?_
  refine v_iloadn C 0 rfl rfl dX2_init_15 ?_
  refine v_bipush C kb_6 dX2_init_16 ?_
  refine v_icmp_ge C 40 (by decide) dX2_init_18 (fun q => absurd q (by decide)) (fun _ => ?_)
  refine v_aloadn C 1 rfl rfl dX2_init_21 ?_
  refine v_getr (o' := 36) C fr_X2_11 shx_35 (Nat.le_of_ble_eq_true rfl) rfl h.1 dX2_init_22 ?_
  replace h := h.2
  refine v_iloadn C 0 rfl rfl dX2_init_25 ?_
  refine v_new C cr_4 wkX2_9 wj_4 wi_X4 shx_92 h.1 (by omega) (Or.inl (Nat.le_of_ble_eq_true rfl)) (Nat.le_of_ble_eq_true rfl) (Nat.le_of_ble_eq_true rfl) dX2_init_26 ?_
  replace h := h.2
  refine v_dup C rfl dX2_init_29 ?_
  refine v_ciN (As := []) C mi_X4_init C.2.1.2.2.2.2.1 (con_X4_init l S R11 92 (by decide +kernel : shPress 92) _ _ h) (by omega) (Or.inl (Nat.le_of_ble_eq_true rfl)) rfl ⟨(Nat.le_of_ble_eq_true rfl), (Nat.le_of_ble_eq_true rfl)⟩ ⟨rfl, rfl, (Nat.le_of_ble_eq_true rfl), (Nat.le_of_ble_eq_true rfl)⟩ (Nat.le_of_ble_eq_true rfl) dX2_init_30 (fun M12 R12 h => ?_)
  refine v_qastk C shx_36 (Nat.le_of_ble_eq_true rfl) lit_5 (Nat.le_of_ble_eq_true rfl) shx_92 (Nat.le_of_ble_eq_true rfl) dX2_init_33 (fun R13 e13 => ?_)
  replace h := h R13 e13
  refine v_iinc (lv' := [(1, .int (6 : Int32)), (0, .ref (XB S + 35))]) C 0 rfl kc_1 (by decide) rfl (Nat.le_of_ble_eq_true rfl) dX2_init_34 ?_
  refine v_goto C 15 (by decide) dX2_init_37 ?_
  refine v_iloadn C 0 rfl rfl dX2_init_15 ?_
  refine v_bipush C kb_6 dX2_init_16 ?_
  refine v_icmp_ge C 40 (by decide) dX2_init_18 (fun _ => ?_) (fun q => absurd (by decide) q)
  exact v_vretG (K := fun u => K u.1 u.2) C hr dX2_init_40 h

abbrev rmX6_init : Room := { frames := 4, cells := 129, slots := 3193, locals := 73 }
def wp_X6_init (M : Mem) (R : Rfs) (K : Mem → Rfs → Prop) : Prop := ZR M R 1 ∧ (wp_X5_init M R (fun M1 R1 => (∀ R2 : Rfs, R2 = mr R1 0 0 1 → ZR M1 R2 3 ∧ (wp_X3_init 3 M1 R2 (fun M3 R3 => (∀ R4 : Rfs, R4 = mr R3 0 1 3 → ZR M3 R4 8 ∧ (wp_X3_init 8 M3 R4 (fun M5 R5 => (∀ R6 : Rfs, R6 = mr R5 0 2 8 → ZR M5 R6 13 ∧ (wp_X4_init 13 M5 R6 (fun M7 R7 => (∀ R8 : Rfs, R8 = mr R7 0 3 13 → ZR M7 R8 24 ∧ (wp_X4_init 24 M7 R8 (fun M9 R9 => (∀ R10 : Rfs, R10 = mr R9 0 4 24 → ZR M9 R10 35 ∧ (wp_X2_init M9 R10 (fun M11 R11 => (∀ R12 : Rfs, R12 = mr R11 0 5 35 → ZR M11 R12 103 ∧ ((∀ R13 : Rfs, R13 = mr R12 0 6 103 → ZR M11 R13 104 ∧ ((∀ R14 : Rfs, R14 = mr R13 0 7 104 → ZR M11 R14 105 ∧ (wp_X1_init M11 R14 (fun M15 R15 => (∀ R16 : Rfs, R16 = mr R15 0 8 105 → R16 0 6 = some 103 ∧ (ZR M15 R16 108 ∧ (wp_X4_init 108 M15 R16 (fun M17 R17 => (∀ R18 : Rfs, R18 = mr R17 103 0 108 → R18 0 6 = some 103 ∧ (ZR M17 R18 119 ∧ (wp_X4_init 119 M17 R18 (fun M19 R19 => (∀ R20 : Rfs, R20 = mr R19 103 1 119 → R20 0 3 = some 13 ∧ (R20 0 1 = some 3 ∧ ((isPress 130 R20 13 ∧ isPlan 130 R20 3) ∧ (wp_X4_setAsAtFirst 13 3 M19 (fun M21 => K M21 R20)))))))))))))))))))))))))))))))))))))
set_option maxRecDepth 20000 in
set_option maxHeartbeats 4000000 in
theorem con_X6_init (l : Launch) (S : XS) (R : Rfs) (M : Mem) (K : Mem → Rfs → Prop) (h : wp_X6_init M R K) : CG l yX6_init cX6_init 2 rmX6_init S 1 R [.ref (XB S + 0)] M 130 129 3193 (fun u => K u.1 u.2) := by
  refine conG (lv := [(0, .ref (XB S + 0))]) (by decide) (Nat.le_of_ble_eq_true rfl) rfl rfl ?_
  intro p e s m args below meth c C hr hin hn0
  replace C : Cx p m meth c s args cX6_init RX6 2 S := C
  refine v_aloadn C 0 rfl rfl dX6_init_0 ?_
  refine v_objinit C wo_X6 wo_i wo_c (Nat.le_of_ble_eq_true rfl) (Nat.le_of_ble_eq_true rfl) dX6_init_1 ?_
  refine v_aloadn C 0 rfl rfl dX6_init_4 ?_
  refine v_new C cr_5 wkX6_7 wj_5 wi_X5 shx_1 h.1 (by omega) (Or.inl (Nat.le_of_ble_eq_true rfl)) (Nat.le_of_ble_eq_true rfl) (Nat.le_of_ble_eq_true rfl) dX6_init_5 ?_
  replace h := h.2
  refine v_dup C rfl dX6_init_8 ?_
  refine v_ciN (As := []) C mi_X5_init C.2.1.2.1 (con_X5_init l S R _ _ h) (by omega) (Or.inl (Nat.le_of_ble_eq_true rfl)) rfl ⟨(Nat.le_of_ble_eq_true rfl), (Nat.le_of_ble_eq_true rfl)⟩ ⟨rfl, rfl, (Nat.le_of_ble_eq_true rfl), (Nat.le_of_ble_eq_true rfl)⟩ (Nat.le_of_ble_eq_true rfl) dX6_init_9 (fun M1 R1 h => ?_)
  refine v_putF C hin fr_X6_10 shx_0 (Nat.le_of_ble_eq_true rfl) cown_6 rfl rfl rfl dX6_init_12 (fun R2 e2 => ?_)
  replace h := h R2 e2
  refine v_aloadn C 0 rfl rfl dX6_init_15 ?_
  refine v_new C cr_3 wkX6_16 wj_3 wi_X3 shx_3 h.1 (by omega) (Or.inl (Nat.le_of_ble_eq_true rfl)) (Nat.le_of_ble_eq_true rfl) (Nat.le_of_ble_eq_true rfl) dX6_init_16 ?_
  replace h := h.2
  refine v_dup C rfl dX6_init_19 ?_
  refine v_ciG (As := []) C mi_X3_init wh_X6_18 (con_X3_init l S R2 3 (by decide +kernel : shPlan 3) _ _ h) (by omega) (Or.inl (Nat.le_of_ble_eq_true rfl)) rfl ⟨(Nat.le_of_ble_eq_true rfl), (Nat.le_of_ble_eq_true rfl)⟩ ⟨rfl, rfl, (Nat.le_of_ble_eq_true rfl), (Nat.le_of_ble_eq_true rfl)⟩ (Nat.le_of_ble_eq_true rfl) dX6_init_20 (fun M3 R3 h => ?_)
  refine v_putr C fr_X6_19 shx_0 (Nat.le_of_ble_eq_true rfl) rfl rfl rfl dX6_init_23 (fun R4 e4 => ?_)
  replace h := h R4 e4
  refine v_aloadn C 0 rfl rfl dX6_init_26 ?_
  refine v_new C cr_3 wkX6_16 wj_3 wi_X3 shx_8 h.1 (by omega) (Or.inl (Nat.le_of_ble_eq_true rfl)) (Nat.le_of_ble_eq_true rfl) (Nat.le_of_ble_eq_true rfl) dX6_init_27 ?_
  replace h := h.2
  refine v_dup C rfl dX6_init_30 ?_
  refine v_ciG (As := []) C mi_X3_init wh_X6_18 (con_X3_init l S R4 8 (by decide +kernel : shPlan 8) _ _ h) (by omega) (Or.inl (Nat.le_of_ble_eq_true rfl)) rfl ⟨(Nat.le_of_ble_eq_true rfl), (Nat.le_of_ble_eq_true rfl)⟩ ⟨rfl, rfl, (Nat.le_of_ble_eq_true rfl), (Nat.le_of_ble_eq_true rfl)⟩ (Nat.le_of_ble_eq_true rfl) dX6_init_31 (fun M5 R5 h => ?_)
  refine v_putr C fr_X6_23 shx_0 (Nat.le_of_ble_eq_true rfl) rfl rfl rfl dX6_init_34 (fun R6 e6 => ?_)
  replace h := h R6 e6
  refine v_aloadn C 0 rfl rfl dX6_init_37 ?_
  refine v_new C cr_4 wkX6_26 wj_4 wi_X4 shx_13 h.1 (by omega) (Or.inl (Nat.le_of_ble_eq_true rfl)) (Nat.le_of_ble_eq_true rfl) (Nat.le_of_ble_eq_true rfl) dX6_init_38 ?_
  replace h := h.2
  refine v_dup C rfl dX6_init_41 ?_
  refine v_ciN (As := []) C mi_X4_init C.2.1.2.2.1 (con_X4_init l S R6 13 (by decide +kernel : shPress 13) _ _ h) (by omega) (Or.inl (Nat.le_of_ble_eq_true rfl)) rfl ⟨(Nat.le_of_ble_eq_true rfl), (Nat.le_of_ble_eq_true rfl)⟩ ⟨rfl, rfl, (Nat.le_of_ble_eq_true rfl), (Nat.le_of_ble_eq_true rfl)⟩ (Nat.le_of_ble_eq_true rfl) dX6_init_42 (fun M7 R7 h => ?_)
  refine v_putF C hin fr_X6_29 shx_0 (Nat.le_of_ble_eq_true rfl) cown_6 rfl rfl rfl dX6_init_45 (fun R8 e8 => ?_)
  replace h := h R8 e8
  refine v_aloadn C 0 rfl rfl dX6_init_48 ?_
  refine v_new C cr_4 wkX6_26 wj_4 wi_X4 shx_24 h.1 (by omega) (Or.inl (Nat.le_of_ble_eq_true rfl)) (Nat.le_of_ble_eq_true rfl) (Nat.le_of_ble_eq_true rfl) dX6_init_49 ?_
  replace h := h.2
  refine v_dup C rfl dX6_init_52 ?_
  refine v_ciN (As := []) C mi_X4_init C.2.1.2.2.1 (con_X4_init l S R8 24 (by decide +kernel : shPress 24) _ _ h) (by omega) (Or.inl (Nat.le_of_ble_eq_true rfl)) rfl ⟨(Nat.le_of_ble_eq_true rfl), (Nat.le_of_ble_eq_true rfl)⟩ ⟨rfl, rfl, (Nat.le_of_ble_eq_true rfl), (Nat.le_of_ble_eq_true rfl)⟩ (Nat.le_of_ble_eq_true rfl) dX6_init_53 (fun M9 R9 h => ?_)
  refine v_putF C hin fr_X6_33 shx_0 (Nat.le_of_ble_eq_true rfl) cown_6 rfl rfl rfl dX6_init_56 (fun R10 e10 => ?_)
  replace h := h R10 e10
  refine v_aloadn C 0 rfl rfl dX6_init_59 ?_
  refine v_new C cr_2 wkX6_36 wj_2 wi_X2 shx_35 h.1 (by omega) (Or.inl (Nat.le_of_ble_eq_true rfl)) (Nat.le_of_ble_eq_true rfl) (Nat.le_of_ble_eq_true rfl) dX6_init_60 ?_
  replace h := h.2
  refine v_dup C rfl dX6_init_63 ?_
  refine v_ciG (As := []) C mi_X2_init wh_X6_38 (con_X2_init l S R10 _ _ h) (by omega) (Or.inl (Nat.le_of_ble_eq_true rfl)) rfl ⟨(Nat.le_of_ble_eq_true rfl), (Nat.le_of_ble_eq_true rfl)⟩ ⟨rfl, rfl, (Nat.le_of_ble_eq_true rfl), (Nat.le_of_ble_eq_true rfl)⟩ (Nat.le_of_ble_eq_true rfl) dX6_init_64 (fun M11 R11 h => ?_)
  refine v_putF C hin fr_X6_39 shx_0 (Nat.le_of_ble_eq_true rfl) cown_6 rfl rfl rfl dX6_init_67 (fun R12 e12 => ?_)
  replace h := h R12 e12
  refine v_aloadn C 0 rfl rfl dX6_init_70 ?_
  refine v_iconst C kc_2 dX6_init_71 ?_
  refine v_newq C lit_2 wkX6_26 shx_103 h.1 (by omega) (Or.inl (Nat.le_of_ble_eq_true rfl)) (Nat.le_of_ble_eq_true rfl) (Nat.le_of_ble_eq_true rfl) (Nat.le_of_ble_eq_true rfl) dX6_init_72 ?_
  replace h := h.2
  refine v_putF C hin fr_X6_43 shx_0 (Nat.le_of_ble_eq_true rfl) cown_6 rfl rfl rfl dX6_init_75 (fun R13 e13 => ?_)
  replace h := h R13 e13
  refine v_aloadn C 0 rfl rfl dX6_init_78 ?_
  refine v_iconst C kc_2 dX6_init_79 ?_
  refine v_newz C lit_2 wa_z shx_104 h.1 (by omega) (Or.inl (Nat.le_of_ble_eq_true rfl)) (Nat.le_of_ble_eq_true rfl) (Nat.le_of_ble_eq_true rfl) (Nat.le_of_ble_eq_true rfl) dX6_init_80 ?_
  replace h := h.2
  refine v_putF C hin fr_X6_47 shx_0 (Nat.le_of_ble_eq_true rfl) cown_6 rfl rfl rfl dX6_init_82 (fun R14 e14 => ?_)
  replace h := h R14 e14
  refine v_aloadn C 0 rfl rfl dX6_init_85 ?_
  refine v_new C cr_1 wkX6_51 wj_1 wi_X1 shx_105 h.1 (by omega) (Or.inl (Nat.le_of_ble_eq_true rfl)) (Nat.le_of_ble_eq_true rfl) (Nat.le_of_ble_eq_true rfl) dX6_init_86 ?_
  replace h := h.2
  refine v_dup C rfl dX6_init_89 ?_
  refine v_ciN (As := []) C mi_X1_init C.2.1.2.2.2.2.2.1 (con_X1_init l S R14 _ _ h) (by omega) (Or.inl (Nat.le_of_ble_eq_true rfl)) rfl ⟨(Nat.le_of_ble_eq_true rfl), (Nat.le_of_ble_eq_true rfl)⟩ ⟨rfl, rfl, (Nat.le_of_ble_eq_true rfl), (Nat.le_of_ble_eq_true rfl)⟩ (Nat.le_of_ble_eq_true rfl) dX6_init_90 (fun M15 R15 h => ?_)
  refine v_putF C hin fr_X6_54 shx_0 (Nat.le_of_ble_eq_true rfl) cown_6 rfl rfl rfl dX6_init_93 (fun R16 e16 => ?_)
  replace h := h R16 e16
  refine v_iconst C kc_0 dX6_init_96 ?_
  refine v_istoren (lv' := [(1, .int (0 : Int32)), (0, .ref (XB S + 0))]) C rfl rfl (Nat.le_of_ble_eq_true rfl) dX6_init_97 ?_
  refine v_iloadn C 0 rfl rfl dX6_init_98 ?_
  refine v_iconst C kc_2 dX6_init_99 ?_
  refine v_icmp_ge C 122 (by decide) dX6_init_100 (fun q => absurd q (by decide)) (fun _ => ?_)
  refine v_aloadn C 1 rfl rfl dX6_init_103 ?_
  refine v_getr (o' := 103) C fr_X6_43 shx_0 (Nat.le_of_ble_eq_true rfl) rfl h.1 dX6_init_104 ?_
  replace h := h.2
  refine v_iloadn C 0 rfl rfl dX6_init_107 ?_
  refine v_new C cr_4 wkX6_26 wj_4 wi_X4 shx_108 h.1 (by omega) (Or.inl (Nat.le_of_ble_eq_true rfl)) (Nat.le_of_ble_eq_true rfl) (Nat.le_of_ble_eq_true rfl) dX6_init_108 ?_
  replace h := h.2
  refine v_dup C rfl dX6_init_111 ?_
  refine v_ciN (As := []) C mi_X4_init C.2.1.2.2.1 (con_X4_init l S R16 108 (by decide +kernel : shPress 108) _ _ h) (by omega) (Or.inl (Nat.le_of_ble_eq_true rfl)) rfl ⟨(Nat.le_of_ble_eq_true rfl), (Nat.le_of_ble_eq_true rfl)⟩ ⟨rfl, rfl, (Nat.le_of_ble_eq_true rfl), (Nat.le_of_ble_eq_true rfl)⟩ (Nat.le_of_ble_eq_true rfl) dX6_init_112 (fun M17 R17 h => ?_)
  refine v_qastk C shx_103 (Nat.le_of_ble_eq_true rfl) lit_0 (Nat.le_of_ble_eq_true rfl) shx_108 (Nat.le_of_ble_eq_true rfl) dX6_init_115 (fun R18 e18 => ?_)
  replace h := h R18 e18
  refine v_iinc (lv' := [(1, .int (1 : Int32)), (0, .ref (XB S + 0))]) C 0 rfl kc_1 (by decide) rfl (Nat.le_of_ble_eq_true rfl) dX6_init_116 ?_
  refine v_goto C 98 (by decide) dX6_init_119 ?_
  refine v_iloadn C 0 rfl rfl dX6_init_98 ?_
  refine v_iconst C kc_2 dX6_init_99 ?_
  refine v_icmp_ge C 122 (by decide) dX6_init_100 (fun q => absurd q (by decide)) (fun _ => ?_)
  refine v_aloadn C 1 rfl rfl dX6_init_103 ?_
  refine v_getr (o' := 103) C fr_X6_43 shx_0 (Nat.le_of_ble_eq_true rfl) rfl h.1 dX6_init_104 ?_
  replace h := h.2
  refine v_iloadn C 0 rfl rfl dX6_init_107 ?_
  refine v_new C cr_4 wkX6_26 wj_4 wi_X4 shx_119 h.1 (by omega) (Or.inl (Nat.le_of_ble_eq_true rfl)) (Nat.le_of_ble_eq_true rfl) (Nat.le_of_ble_eq_true rfl) dX6_init_108 ?_
  replace h := h.2
  refine v_dup C rfl dX6_init_111 ?_
  refine v_ciN (As := []) C mi_X4_init C.2.1.2.2.1 (con_X4_init l S R18 119 (by decide +kernel : shPress 119) _ _ h) (by omega) (Or.inl (Nat.le_of_ble_eq_true rfl)) rfl ⟨(Nat.le_of_ble_eq_true rfl), (Nat.le_of_ble_eq_true rfl)⟩ ⟨rfl, rfl, (Nat.le_of_ble_eq_true rfl), (Nat.le_of_ble_eq_true rfl)⟩ (Nat.le_of_ble_eq_true rfl) dX6_init_112 (fun M19 R19 h => ?_)
  refine v_qastk C shx_103 (Nat.le_of_ble_eq_true rfl) lit_1 (Nat.le_of_ble_eq_true rfl) shx_119 (Nat.le_of_ble_eq_true rfl) dX6_init_115 (fun R20 e20 => ?_)
  replace h := h R20 e20
  refine v_iinc (lv' := [(1, .int (2 : Int32)), (0, .ref (XB S + 0))]) C 0 rfl kc_1 (by decide) rfl (Nat.le_of_ble_eq_true rfl) dX6_init_116 ?_
  refine v_goto C 98 (by decide) dX6_init_119 ?_
  refine v_iloadn C 0 rfl rfl dX6_init_98 ?_
  refine v_iconst C kc_2 dX6_init_99 ?_
  refine v_icmp_ge C 122 (by decide) dX6_init_100 (fun _ => ?_) (fun q => absurd (by decide) q)
  refine v_aloadn C 1 rfl rfl dX6_init_122 ?_
  refine v_getr (o' := 13) C fr_X6_29 shx_0 (Nat.le_of_ble_eq_true rfl) rfl h.1 dX6_init_123 ?_
  replace h := h.2
  refine v_aloadn C 1 rfl rfl dX6_init_126 ?_
  refine v_getr (o' := 3) C fr_X6_19 shx_0 (Nat.le_of_ble_eq_true rfl) rfl h.1 dX6_init_127 ?_
  replace h := h.2
  have hq21 := h.1
  replace h := h.2
  refine v_cvV (As := [.ref (XB S + 3)]) C mv_X6_58 (con_X4_setAsAtFirst l S 130 R20 13 3 hq21.1 hq21.2 _ _ h) shx_13 (Nat.le_of_ble_eq_true rfl) rfl ⟨(Nat.le_of_ble_eq_true rfl), (Nat.le_of_ble_eq_true rfl)⟩ ⟨rfl, rfl, (Nat.le_of_ble_eq_true rfl), (Nat.le_of_ble_eq_true rfl)⟩ (Nat.le_of_ble_eq_true rfl) dX6_init_130 (fun M21 h => ?_)
  exact v_vretG (K := fun u => K u.1 u.2) C hr dX6_init_133 h

abbrev rmX7_init : Room := { frames := 1, cells := 17, slots := 3680, locals := 21 }
def wp_X7_init (M : Mem) (R : Rfs) (K : Mem → Rfs → Prop) : Prop := ZR M R 131 ∧ ((∀ R1 : Rfs, R1 = mr R 130 0 131 → ZR M R1 132 ∧ ((∀ R2 : Rfs, R2 = mr R1 130 1 132 → ZR M R2 133 ∧ ((∀ R3 : Rfs, R3 = mr R2 130 2 133 → ZR M R3 134 ∧ ((∀ R4 : Rfs, R4 = mr R3 130 4 134 → ZR M R4 135 ∧ ((∀ R5 : Rfs, R5 = mr R4 130 5 135 → ZR M R5 136 ∧ ((∀ R6 : Rfs, R6 = mr R5 130 6 136 → ZR M R6 137 ∧ ((∀ R7 : Rfs, R7 = mr R6 130 8 137 → ZR M R7 138 ∧ ((∀ R8 : Rfs, R8 = mr R7 130 11 138 → ZR M R8 139 ∧ ((∀ R9 : Rfs, R9 = mr R8 130 12 139 → ZR M R9 140 ∧ ((∀ R10 : Rfs, R10 = mr R9 130 14 140 → ZR M R10 141 ∧ ((∀ R11 : Rfs, R11 = mr R10 130 15 141 → ZR M R11 142 ∧ ((∀ R12 : Rfs, R12 = mr R11 130 16 142 → ZR M R12 143 ∧ ((∀ R13 : Rfs, R13 = mr R12 130 19 143 → ZR M R13 144 ∧ ((∀ R14 : Rfs, R14 = mr R13 130 20 144 → ZR M R14 145 ∧ ((∀ R15 : Rfs, R15 = mr R14 130 21 145 → ZR M R15 146 ∧ ((∀ R16 : Rfs, R16 = mr R15 130 22 146 → ZR M R16 147 ∧ ((∀ R17 : Rfs, R17 = mr R16 130 23 147 → isMod R17 ∧ (wp_X7_begins M (fun M18 => isMod R17 ∧ (wp_X7_takes M18 (fun M19 => K M19 R17))))))))))))))))))))))))))))))))))))))
set_option maxRecDepth 20000 in
set_option maxHeartbeats 4000000 in
theorem con_X7_init (l : Launch) (S : XS) (R : Rfs) (M : Mem) (K : Mem → Rfs → Prop) (h : wp_X7_init M R K) : CG l yX7_init cX7_init 1 rmX7_init S 131 R [.ref (XB S + 130)] M 148 17 3680 (fun u => K u.1 u.2) := by
  refine conG (lv := [(0, .ref (XB S + 130))]) (by decide) (Nat.le_of_ble_eq_true rfl) rfl rfl ?_
  intro p e s m args below meth c C hr hin hn0
  replace C : Cx p m meth c s args cX7_init RX7 1 S := C
  refine v_aloadn C 0 rfl rfl dX7_init_0 ?_
  refine v_objinit C wo_X7 wo_i wo_c (Nat.le_of_ble_eq_true rfl) (Nat.le_of_ble_eq_true rfl) dX7_init_1 ?_
  refine v_aloadn C 0 rfl rfl dX7_init_4 ?_
  refine v_sipush C ks_349 dX7_init_5 ?_
  refine v_newi C lit_349 wa_i shx_131 h.1 (by omega) (Or.inl (Nat.le_of_ble_eq_true rfl)) (Nat.le_of_ble_eq_true rfl) (Nat.le_of_ble_eq_true rfl) (Nat.le_of_ble_eq_true rfl) dX7_init_8 ?_
  replace h := h.2
  refine v_putF C hin fr_X7_7 shx_130 (Nat.le_of_ble_eq_true rfl) cown_7 rfl rfl rfl dX7_init_10 (fun R1 e1 => ?_)
  replace h := h R1 e1
  refine v_aloadn C 0 rfl rfl dX7_init_13 ?_
  refine v_sipush C ks_349 dX7_init_14 ?_
  refine v_newi C lit_349 wa_i shx_132 h.1 (by omega) (Or.inl (Nat.le_of_ble_eq_true rfl)) (Nat.le_of_ble_eq_true rfl) (Nat.le_of_ble_eq_true rfl) (Nat.le_of_ble_eq_true rfl) dX7_init_17 ?_
  replace h := h.2
  refine v_putF C hin fr_X7_13 shx_130 (Nat.le_of_ble_eq_true rfl) cown_7 rfl rfl rfl dX7_init_19 (fun R2 e2 => ?_)
  replace h := h R2 e2
  refine v_aloadn C 0 rfl rfl dX7_init_22 ?_
  refine v_sipush C ks_2094 dX7_init_23 ?_
  refine v_newi C lit_2094 wa_i shx_133 h.1 (by omega) (Or.inl (Nat.le_of_ble_eq_true rfl)) (Nat.le_of_ble_eq_true rfl) (Nat.le_of_ble_eq_true rfl) (Nat.le_of_ble_eq_true rfl) dX7_init_26 ?_
  replace h := h.2
  refine v_putF C hin fr_X7_16 shx_130 (Nat.le_of_ble_eq_true rfl) cown_7 rfl rfl rfl dX7_init_28 (fun R3 e3 => ?_)
  replace h := h R3 e3
  refine v_aloadn C 0 rfl rfl dX7_init_31 ?_
  refine v_sipush C ks_698 dX7_init_32 ?_
  refine v_newi C lit_698 wa_i shx_134 h.1 (by omega) (Or.inl (Nat.le_of_ble_eq_true rfl)) (Nat.le_of_ble_eq_true rfl) (Nat.le_of_ble_eq_true rfl) (Nat.le_of_ble_eq_true rfl) dX7_init_35 ?_
  replace h := h.2
  refine v_putF C hin fr_X7_19 shx_130 (Nat.le_of_ble_eq_true rfl) cown_7 rfl rfl rfl dX7_init_37 (fun R4 e4 => ?_)
  replace h := h R4 e4
  refine v_aloadn C 0 rfl rfl dX7_init_40 ?_
  refine v_iconst C kc_2 dX7_init_41 ?_
  refine v_newz C lit_2 wa_z shx_135 h.1 (by omega) (Or.inl (Nat.le_of_ble_eq_true rfl)) (Nat.le_of_ble_eq_true rfl) (Nat.le_of_ble_eq_true rfl) (Nat.le_of_ble_eq_true rfl) dX7_init_42 ?_
  replace h := h.2
  refine v_putF C hin fr_X7_22 shx_130 (Nat.le_of_ble_eq_true rfl) cown_7 rfl rfl rfl dX7_init_44 (fun R5 e5 => ?_)
  replace h := h R5 e5
  refine v_aloadn C 0 rfl rfl dX7_init_47 ?_
  refine v_bipush C kb_120 dX7_init_48 ?_
  refine v_newi C lit_120 wa_i shx_136 h.1 (by omega) (Or.inl (Nat.le_of_ble_eq_true rfl)) (Nat.le_of_ble_eq_true rfl) (Nat.le_of_ble_eq_true rfl) (Nat.le_of_ble_eq_true rfl) dX7_init_50 ?_
  replace h := h.2
  refine v_putF C hin fr_X7_26 shx_130 (Nat.le_of_ble_eq_true rfl) cown_7 rfl rfl rfl dX7_init_52 (fun R6 e6 => ?_)
  replace h := h R6 e6
  refine v_aloadn C 0 rfl rfl dX7_init_55 ?_
  refine v_bipush C kb_12 dX7_init_56 ?_
  refine v_newi C lit_12 wa_i shx_137 h.1 (by omega) (Or.inl (Nat.le_of_ble_eq_true rfl)) (Nat.le_of_ble_eq_true rfl) (Nat.le_of_ble_eq_true rfl) (Nat.le_of_ble_eq_true rfl) dX7_init_58 ?_
  replace h := h.2
  refine v_putF C hin fr_X7_29 shx_130 (Nat.le_of_ble_eq_true rfl) cown_7 rfl rfl rfl dX7_init_60 (fun R7 e7 => ?_)
  replace h := h R7 e7
  refine v_aloadn C 0 rfl rfl dX7_init_63 ?_
  refine v_iconst C kc_4 dX7_init_64 ?_
  refine v_newi C lit_4 wa_i shx_138 h.1 (by omega) (Or.inl (Nat.le_of_ble_eq_true rfl)) (Nat.le_of_ble_eq_true rfl) (Nat.le_of_ble_eq_true rfl) (Nat.le_of_ble_eq_true rfl) dX7_init_65 ?_
  replace h := h.2
  refine v_putF C hin fr_X7_32 shx_130 (Nat.le_of_ble_eq_true rfl) cown_7 rfl rfl rfl dX7_init_67 (fun R8 e8 => ?_)
  replace h := h R8 e8
  refine v_aloadn C 0 rfl rfl dX7_init_70 ?_
  refine v_iconst C kc_4 dX7_init_71 ?_
  refine v_newi C lit_4 wa_i shx_139 h.1 (by omega) (Or.inl (Nat.le_of_ble_eq_true rfl)) (Nat.le_of_ble_eq_true rfl) (Nat.le_of_ble_eq_true rfl) (Nat.le_of_ble_eq_true rfl) dX7_init_72 ?_
  replace h := h.2
  refine v_putF C hin fr_X7_35 shx_130 (Nat.le_of_ble_eq_true rfl) cown_7 rfl rfl rfl dX7_init_74 (fun R9 e9 => ?_)
  replace h := h R9 e9
  refine v_aloadn C 0 rfl rfl dX7_init_77 ?_
  refine v_bipush C kb_8 dX7_init_78 ?_
  refine v_newi C lit_8 wa_i shx_140 h.1 (by omega) (Or.inl (Nat.le_of_ble_eq_true rfl)) (Nat.le_of_ble_eq_true rfl) (Nat.le_of_ble_eq_true rfl) (Nat.le_of_ble_eq_true rfl) dX7_init_80 ?_
  replace h := h.2
  refine v_putF C hin fr_X7_38 shx_130 (Nat.le_of_ble_eq_true rfl) cown_7 rfl rfl rfl dX7_init_82 (fun R10 e10 => ?_)
  replace h := h R10 e10
  refine v_aloadn C 0 rfl rfl dX7_init_85 ?_
  refine v_bipush C kb_8 dX7_init_86 ?_
  refine v_newi C lit_8 wa_i shx_141 h.1 (by omega) (Or.inl (Nat.le_of_ble_eq_true rfl)) (Nat.le_of_ble_eq_true rfl) (Nat.le_of_ble_eq_true rfl) (Nat.le_of_ble_eq_true rfl) dX7_init_88 ?_
  replace h := h.2
  refine v_putF C hin fr_X7_41 shx_130 (Nat.le_of_ble_eq_true rfl) cown_7 rfl rfl rfl dX7_init_90 (fun R11 e11 => ?_)
  replace h := h R11 e11
  refine v_aloadn C 0 rfl rfl dX7_init_93 ?_
  refine v_iconst C kc_4 dX7_init_94 ?_
  refine v_newi C lit_4 wa_i shx_142 h.1 (by omega) (Or.inl (Nat.le_of_ble_eq_true rfl)) (Nat.le_of_ble_eq_true rfl) (Nat.le_of_ble_eq_true rfl) (Nat.le_of_ble_eq_true rfl) dX7_init_95 ?_
  replace h := h.2
  refine v_putF C hin fr_X7_44 shx_130 (Nat.le_of_ble_eq_true rfl) cown_7 rfl rfl rfl dX7_init_97 (fun R12 e12 => ?_)
  replace h := h R12 e12
  refine v_aloadn C 0 rfl rfl dX7_init_100 ?_
  refine v_iconst C kc_4 dX7_init_101 ?_
  refine v_newi C lit_4 wa_i shx_143 h.1 (by omega) (Or.inl (Nat.le_of_ble_eq_true rfl)) (Nat.le_of_ble_eq_true rfl) (Nat.le_of_ble_eq_true rfl) (Nat.le_of_ble_eq_true rfl) dX7_init_102 ?_
  replace h := h.2
  refine v_putF C hin fr_X7_47 shx_130 (Nat.le_of_ble_eq_true rfl) cown_7 rfl rfl rfl dX7_init_104 (fun R13 e13 => ?_)
  replace h := h R13 e13
  refine v_aloadn C 0 rfl rfl dX7_init_107 ?_
  refine v_bipush C kb_8 dX7_init_108 ?_
  refine v_newi C lit_8 wa_i shx_144 h.1 (by omega) (Or.inl (Nat.le_of_ble_eq_true rfl)) (Nat.le_of_ble_eq_true rfl) (Nat.le_of_ble_eq_true rfl) (Nat.le_of_ble_eq_true rfl) dX7_init_110 ?_
  replace h := h.2
  refine v_putF C hin fr_X7_50 shx_130 (Nat.le_of_ble_eq_true rfl) cown_7 rfl rfl rfl dX7_init_112 (fun R14 e14 => ?_)
  replace h := h R14 e14
  refine v_aloadn C 0 rfl rfl dX7_init_115 ?_
  refine v_bipush C kb_8 dX7_init_116 ?_
  refine v_newi C lit_8 wa_i shx_145 h.1 (by omega) (Or.inl (Nat.le_of_ble_eq_true rfl)) (Nat.le_of_ble_eq_true rfl) (Nat.le_of_ble_eq_true rfl) (Nat.le_of_ble_eq_true rfl) dX7_init_118 ?_
  replace h := h.2
  refine v_putF C hin fr_X7_53 shx_130 (Nat.le_of_ble_eq_true rfl) cown_7 rfl rfl rfl dX7_init_120 (fun R15 e15 => ?_)
  replace h := h R15 e15
  refine v_aloadn C 0 rfl rfl dX7_init_123 ?_
  refine v_iconst C kc_4 dX7_init_124 ?_
  refine v_newi C lit_4 wa_i shx_146 h.1 (by omega) (Or.inl (Nat.le_of_ble_eq_true rfl)) (Nat.le_of_ble_eq_true rfl) (Nat.le_of_ble_eq_true rfl) (Nat.le_of_ble_eq_true rfl) dX7_init_125 ?_
  replace h := h.2
  refine v_putF C hin fr_X7_56 shx_130 (Nat.le_of_ble_eq_true rfl) cown_7 rfl rfl rfl dX7_init_127 (fun R16 e16 => ?_)
  replace h := h R16 e16
  refine v_aloadn C 0 rfl rfl dX7_init_130 ?_
  refine v_iconst C kc_4 dX7_init_131 ?_
  refine v_newz C lit_4 wa_z shx_147 h.1 (by omega) (Or.inl (Nat.le_of_ble_eq_true rfl)) (Nat.le_of_ble_eq_true rfl) (Nat.le_of_ble_eq_true rfl) (Nat.le_of_ble_eq_true rfl) dX7_init_132 ?_
  replace h := h.2
  refine v_putF C hin fr_X7_59 shx_130 (Nat.le_of_ble_eq_true rfl) cown_7 rfl rfl rfl dX7_init_134 (fun R17 e17 => ?_)
  replace h := h R17 e17
  refine v_aloadn C 0 rfl rfl dX7_init_137 ?_
  have hq18 := h.1
  replace h := h.2
  refine v_cvV (As := []) C mv_X7_62 (con_X7_begins l S R17 hq18 _ _ h) shx_130 (Nat.le_of_ble_eq_true rfl) rfl ⟨(Nat.le_of_ble_eq_true rfl), (Nat.le_of_ble_eq_true rfl)⟩ ⟨rfl, rfl, (Nat.le_of_ble_eq_true rfl), (Nat.le_of_ble_eq_true rfl)⟩ (Nat.le_of_ble_eq_true rfl) dX7_init_138 (fun M18 h => ?_)
  refine v_aloadn C 0 rfl rfl dX7_init_141 ?_
  have hq19 := h.1
  replace h := h.2
  refine v_cvV (As := []) C mv_X7_65 (con_X7_takes l S R17 hq19 _ _ h) shx_130 (Nat.le_of_ble_eq_true rfl) rfl ⟨(Nat.le_of_ble_eq_true rfl), (Nat.le_of_ble_eq_true rfl)⟩ ⟨rfl, rfl, (Nat.le_of_ble_eq_true rfl), (Nat.le_of_ble_eq_true rfl)⟩ (Nat.le_of_ble_eq_true rfl) dX7_init_142 (fun M19 h => ?_)
  exact v_vretG (K := fun u => K u.1 u.2) C hr dX7_init_145 h
