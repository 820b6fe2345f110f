/-- what each call of the law must do: both sides answer alike, and stay related -/
def LawOps (Rel : Mem → Nat → Nat → Prop) : Prop :=
  (∀ (M : Mem) (pl dr : Nat) (a1 : Int32), Rel M pl dr → wp_X6_type pl dr a1 M (fun r M1 => wp_X7_type a1 M1 (fun q M2 => r = q ∧ Rel M2 pl dr))) ∧
  (∀ (M : Mem) (pl dr : Nat), Rel M pl dr → wp_X6_clear pl dr  M (fun r M1 => wp_X7_clear  M1 (fun q M2 => r = q ∧ Rel M2 pl dr))) ∧
  (∀ (M : Mem) (pl dr : Nat), Rel M pl dr → wp_X6_tells pl dr M (fun r M1 b => wp_X7_tells M1 (fun q M2 => r = q ∧ Rel M2 (if b = true then dr else pl) (if b = true then pl else dr)))) ∧
  (∀ (M : Mem) (pl dr : Nat) (a1 : Int32), Rel M pl dr → wp_X6_ticks pl dr a1 M (fun r M1 => wp_X7_ticks a1 M1 (fun q M2 => r = q ∧ Rel M2 pl dr))) ∧
  (∀ (M : Mem) (pl dr : Nat) (a1 a2 : Int32), Rel M pl dr → wp_X6_drifts pl dr a1 a2 M (fun r M1 => wp_X7_drifts a1 a2 M1 (fun q M2 => r = q ∧ Rel M2 pl dr))) ∧
  (∀ (M : Mem) (pl dr : Nat) (a1 a2 : Int32), Rel M pl dr → wp_X6_corrects pl dr a1 a2 M (fun r M1 => wp_X7_corrects a1 a2 M1 (fun q M2 => r = q ∧ Rel M2 pl dr))) ∧
  (∀ (M : Mem) (pl dr : Nat), Rel M pl dr → wp_X6_spins pl dr  M (fun r M1 => wp_X7_spins  M1 (fun q M2 => r = q ∧ Rel M2 pl dr))) ∧
  (∀ (M : Mem) (pl dr : Nat), Rel M pl dr → wp_X6_starts pl dr  M (fun r M1 => wp_X7_starts  M1 (fun q M2 => r = q ∧ Rel M2 pl dr))) ∧
  (∀ (M : Mem) (pl dr : Nat) (a1 : Int32), Rel M pl dr → wp_X6_aheads pl dr a1 M (fun r M1 => wp_X7_aheads a1 M1 (fun q M2 => r = q ∧ Rel M2 pl dr))) ∧
  (∀ (M : Mem) (pl dr : Nat), Rel M pl dr → wp_X6_undo pl dr  M (fun r M1 => wp_X7_undo  M1 (fun q M2 => r = q ∧ Rel M2 pl dr))) ∧
  (∀ (M : Mem) (pl dr : Nat) (a1 a2 : Int32), Rel M pl dr → wp_X6_unit pl dr a1 a2 M (fun r M1 => wp_X7_unit a1 a2 M1 (fun q M2 => r = q ∧ Rel M2 pl dr))) ∧
  (∀ (M : Mem) (pl dr : Nat) (a1 a2 : Int32), Rel M pl dr → wp_X6_reel pl dr a1 a2 M (fun r M1 => wp_X7_reel a1 a2 M1 (fun q M2 => r = q ∧ Rel M2 pl dr))) ∧
  (∀ (M : Mem) (pl dr : Nat) (a1 : Int32), Rel M pl dr → wp_X6_last pl dr a1 M (fun r M1 => wp_X7_last a1 M1 (fun q M2 => r = q ∧ Rel M2 pl dr))) ∧
  (∀ (M : Mem) (pl dr : Nat) (a1 a2 : Int32), Rel M pl dr → wp_X6_error pl dr a1 a2 M (fun r M1 => wp_X7_error a1 a2 M1 (fun q M2 => r = q ∧ Rel M2 pl dr))) ∧
  (∀ (M : Mem) (pl dr : Nat), Rel M pl dr → wp_X6_steady pl dr  M (fun r M1 => wp_X7_steady  M1 (fun q M2 => r = q ∧ Rel M2 pl dr))) ∧
  (∀ (M : Mem) (pl dr : Nat), Rel M pl dr → wp_X6_cost pl dr  M (fun r M1 => wp_X7_cost  M1 (fun q M2 => r = q ∧ Rel M2 pl dr))) ∧
  (∀ (M : Mem) (pl dr : Nat) (a1 a2 : Int32), Rel M pl dr → wp_X6_sees pl dr a1 a2 M (fun r M1 => wp_X7_sees a1 a2 M1 (fun q M2 => r = q ∧ Rel M2 pl dr))) ∧
  (∀ (M : Mem) (pl dr : Nat), Rel M pl dr → wp_X6_forget pl dr  M (fun r M1 => wp_X7_forget  M1 (fun q M2 => r = q ∧ Rel M2 pl dr))) ∧
  (∀ (M : Mem) (pl dr : Nat), Rel M pl dr → wp_X6_which pl dr  M (fun r M1 => wp_X7_which  M1 (fun q M2 => r = q ∧ Rel M2 pl dr))) ∧
  (∀ (M : Mem) (pl dr : Nat), Rel M pl dr → wp_X6_look pl dr  M (fun r M1 => wp_X7_look  M1 (fun q M2 => r = q ∧ Rel M2 pl dr))) ∧
  (∀ (M : Mem) (pl dr : Nat) (a1 : Int32), Rel M pl dr → wp_X6_keep pl dr a1 M (fun r M1 => wp_X7_keep a1 M1 (fun q M2 => r = q ∧ Rel M2 pl dr))) ∧
  (∀ (M : Mem) (pl dr : Nat) (a1 : Int32), Rel M pl dr → wp_X6_back pl dr a1 M (fun r M1 => wp_X7_back a1 M1 (fun q M2 => r = q ∧ Rel M2 pl dr))) ∧
  (∀ (M : Mem) (pl dr : Nat) (a1 : Int32), Rel M pl dr → wp_X6_count pl dr a1 M (fun r M1 => wp_X7_count a1 M1 (fun q M2 => r = q ∧ Rel M2 pl dr)))
def LawInit (Rel : Mem → Nat → Nat → Prop) : Prop := wp_X6_init (fun _ _ => 0) (fun _ _ => none) (fun M1 R1 => ZR M1 R1 130 ∧ wp_X7_init M1 R1 (fun M2 R2 => ∃ pl dr, isSW R2 pl dr ∧ isMod R2 ∧ Rel M2 pl dr))
section VL
variable {p : Program} {l : Launch} {e : Env} {Rm : Room} {s : State} {m : MethodId} {args : Array Value} {below : List Frame} {meth : Method} {c : Code} {Q : State → Prop}
variable {cc : ByteArray} {own : String} {nL cells slots n pc : Nat} {S : XS} {M : Mem} {R : Rfs} {lv lv' : List (Nat × Value)} {st : List Value}
theorem v_sld (C : Cx p m meth c s args cc own nL S) {b L : Nat} {xs : Nat → Int32} (hX : va_X b L xs s s.heap) (hbl : b < s.heap.size) (hbB : b < XB S) {i : Int32} (hin : vp_in i L) (hd : decode cc pc = .ok (.iaload, 1)) (kk : V p l e Rm s m args below meth c Q S nL cells slots n M R (pc + 1) lv (.int (xs (ix i)) :: st)) : V p l e Rm s m args below meth c Q S nL cells slots n M R pc lv (.int i :: .ref b :: st) :=
  fun H locs ls hP hS h => va_sld C.1.1 C.1.2.1 hX hbl (A := XA S) (Nat.not_le.mpr hbB) hS hin hd (kk H locs ls hP hS h)
theorem v_slen (C : Cx p m meth c s args cc own nL S) {b L : Nat} {xs : Nat → Int32} (hX : va_X b L xs s s.heap) (hbl : b < s.heap.size) (hbB : b < XB S) (hd : decode cc pc = .ok (.arraylength, 1)) (kk : V p l e Rm s m args below meth c Q S nL cells slots n M R (pc + 1) lv (.int (nI L) :: st)) : V p l e Rm s m args below meth c Q S nL cells slots n M R pc lv (.ref b :: st) :=
  fun H locs ls hP hS h => va_slen C.1.1 C.1.2.1 hX hbl (A := XA S) (Nat.not_le.mpr hbB) hS hd (kk H locs ls hP hS h)
theorem v_cvR (C : Cx p m meth c s args cc own nL S) {y : MethodName} {cd : ByteArray} {mL na idx ci z o : Nat} {rt : Option FieldType} {rm : Room} {As : List Value} {K : Int32 → Mem × Rfs → Prop} (row : MV own idx ci y cd mL rt na) (hM : CR l y cd mL rt rm S n R (.ref (XB S + o) :: As) M K) (hs : SH o = (ci, z)) (ho : o < n) (hn : As.length = na) (hfr : rm.frames + 1 ≤ Rm.frames ∧ 8 + (mL + 11) + rm.locals ≤ Rm.locals) (hcs : rm.cells = 0 ∧ rm.slots = 0 ∧ cells ≤ Rm.cells ∧ slots ≤ Rm.slots) (hW : (st.map fun v => v.category).sum ≤ 8) (hd : decode cc pc = .ok (.invokevirtual idx, 3)) (kk : ∀ r M' R', K r (M', R') → V p l e Rm s m args below meth c Q S nL cells slots n M' R' (pc + 3) lv (.int r :: st)) : V p l e Rm s m args below meth c Q S nL cells slots n M R pc lv (As.reverse ++ .ref (XB S + o) :: st) := by
  obtain ⟨⟨T, N, h1⟩, h2, hlk, hin, hse, hini, hco, hd1, hd2, hd3⟩ := row
  intro H locs ls hP hS h
  have hcw : CallW Rm s args own y.cls idx y cd mL rt (Cond.code y cd mL rt :: LG) rm 0 0 na := ⟨callB_of na C.1.2.2.2.2 (lg_good hco) rfl hcs.1 hcs.2.1 (C.1.2.2.2.2 _ hini) (C.1.2.2.2.2 _ hlk) ⟨hd1, hd2, hd3⟩ hfr, C.1.2.2.2.2 _ hin, C.1.2.2.2.2 _ hse⟩
  refine va_calli (va_runV (As := As) (rest := st) C.1 hM hcw ⟨xpre_blind, va_recv C.2.1.1 hP h1 (xw_obj ho hs h2), fun U hU hW => ⟨rfl, by rw [hU]; exact hP, C.2.1.warm hW⟩⟩ rfl hn h.1 rfl (lv_room hW) hd ⟨hcs.2.2.1, hcs.2.2.2⟩) hS (fun q _ h => h) (fun q h => h) ?_
  intro r u t H1 locs1 ht hvm hw hB hz1 hk1 hS1
  exact kk r u.1 u.2 hw H1 locs1 ls (by rw [← ht]; exact hB) hS1 h
end VL
theorem law_sw {R R1 : Rfs} {pl dr : Nat} {b : Bool} (hw : isSW R pl dr) (hm : isMod R) (e : R1 = (if b = true then swp R pl dr else R)) : isSW R1 (if b = true then dr else pl) (if b = true then pl else dr) ∧ isMod R1 := by
  cases b with
  | false => simp at e; subst e; exact ⟨hw, hm⟩
  | true =>
    simp at e
    refine ⟨isSW_swap hw rfl e, ?_⟩
    have f : ∀ j, R1 130 j = R 130 j := fun j => by rw [e]; simp [swp, mr]
    unfold isMod at *
    simp only [f]; exact hm
theorem vin_of {x : Int32} {k L : Nat} (e : x = nI k) (h : k < L) (hL : L < 2 ^ 31) : vp_in x L := by rw [e]; exact vp_in_nI h hL
theorem law_lt {i L : Nat} {x3 : Int32} (hx : x3 = nI i) (hL : L ≤ 1536) (hi : i ≤ L + 3) (c : ¬ nI L - (3 : Int32) < x3) : i + 2 < L := by
  have e3 : (3 : Int32).toInt = 3 := by decide +kernel
  have e1 : (nI L).toInt = (L : Int) := nI_toInt (Nat.lt_of_le_of_lt hL (by decide))
  have e2 : (nI i).toInt = (i : Int) := nI_toInt (by omega)
  have h3 : (nI L - (3 : Int32)).toInt = (L : Int) - 3 := by
    rw [show (3 : Int32) = nI 3 from by decide +kernel, pk_sub_toInt (by omega) (by decide)]; rfl
  rw [hx, Int32.lt_iff_toInt_lt, h3, e2] at c
  omega
set_option maxHeartbeats 4000000 in
set_option maxRecDepth 20000 in
theorem law_loop {p : Program} {e : Env} {s : State} {m : MethodId} {below : List Frame} {meth : Method} {c : Code} (l : Launch) (S : XS) {b L : Nat} {xs : Nat → Int32} {Q : State → Prop} (Rel : Mem → Nat → Nat → Prop) (H : LawOps Rel) (C : Cx p m meth c s #[Value.ref b] cL_law RL 4 S) (hX : va_X b L xs s s.heap) (hbl : b < s.heap.size) (hbB : b < XB S) (hL : L ≤ 1536) (hend : ∀ M R lv, V p l e room_1 s m #[Value.ref b] below meth c Q S 4 148 6909 148 M R 635 lv []) (k : Nat) : ∀ (i : Nat) (x3 : Int32), L + 4 ≤ k + i → x3 = nI i → ∀ (M : Mem) (R : Rfs) (pl dr : Nat), i ≤ L + 3 → isSW R pl dr → isMod R → Rel M pl dr → V p l e room_1 s m #[Value.ref b] below meth c Q S 4 148 6909 148 M R 18 [(0, .ref b), (1, .ref (XB S + 0)), (2, .ref (XB S + 130)), (3, .int x3)] [] := by
  induction k with
  | zero => intro i x3 hi hx M R pl dr hi4; omega
  | succ k ih =>
    intro i x3 hi hx M R pl dr hi4 hw hm hrel
    replace ih : ∀ (i : Nat) (x3 : Int32), L + 4 ≤ k + i ∧ i ≤ L + 3 → x3 = nI i → ∀ (M : Mem) (R : Rfs) (pl dr : Nat), isSW R pl dr → isMod R → Rel M pl dr → V p l e room_1 s m #[Value.ref b] below meth c Q S 4 148 6909 148 M R 18 [(0, .ref b), (1, .ref (XB S + 0)), (2, .ref (XB S + 130)), (3, .int x3)] [] := fun i x3 a b M R pl dr => ih i x3 a.1 b M R pl dr a.2
    have hbig : L < 2 ^ 31 := Nat.lt_of_le_of_lt hL (by decide)
    refine v_iloadn C 3 rfl rfl dL_law_18 ?_
    refine v_aloadn C 0 rfl rfl dL_law_19 ?_
    refine v_slen C hX hbl hbB dL_law_20 ?_
    refine v_iconst C kc_3 dL_law_21 ?_
    refine v_isub C dL_law_22 ?_
    refine v_icmp_gt C 635 (by decide) dL_law_23 (fun _ => hend _ _ _) (fun c1 => ?_)
    have hlt : i + 2 < L := law_lt hx hL hi4 c1
    have hin0 : vp_in x3 L := vin_of hx (by omega) hbig
    have hin1 : vp_in (x3 + (1 : Int32)) L := vin_of (k := i + 1) (by rw [hx]; exact nI_1 i) (by omega) hbig
    have hin2 : vp_in (x3 + (2 : Int32)) L := vin_of (k := i + 2) (by rw [hx, show (2 : Int32) = nI 2 from by decide +kernel]; exact nI_add i 2) (by omega) hbig
    have hx3 : x3 + (3 : Int32) = nI (i + 3) := by rw [hx, show (3 : Int32) = nI 3 from by decide +kernel]; exact nI_add i 3
    have hi3 : L + 4 ≤ k + (i + 3) ∧ i + 3 ≤ L + 3 := by omega
    refine v_aloadn C 0 rfl rfl dL_law_26 ?_
    refine v_iloadn C 3 rfl rfl dL_law_27 ?_
    refine v_sld C hX hbl hbB hin0 dL_law_28 ?_
    refine v_bipush C kb_31 dL_law_29 ?_
    refine v_iand C dL_law_31 ?_
    by_cases s_0 : xs (ix x3) &&& (31 : Int32) = (0 : Int32)
    · refine v_tin (off := 108) C 140 0 (by rw [s_0]; decide) (by decide) (by decide) (by decide) (by decide) dL_law_32 ?_
      have h := H.1 M pl dr (xs (ix (x3 + (1 : Int32)))) hrel
      refine v_aloadn C 1 rfl rfl dL_law_140 ?_
      refine v_aloadn C 0 rfl rfl dL_law_141 ?_
      refine v_iloadn C 3 rfl rfl dL_law_142 ?_
      refine v_iconst C kc_1 dL_law_143 ?_
      refine v_iadd C dL_law_144 ?_
      refine v_sld C hX hbl hbB hin1 dL_law_145 ?_
      refine v_cvI (As := [.int (xs (ix (x3 + (1 : Int32))))]) C mv_L_13 (con_X6_type l S R pl dr (xs (ix (x3 + (1 : Int32)))) hw _ _ h) sh_0 (Nat.le_of_ble_eq_true rfl) rfl ⟨(Nat.le_of_ble_eq_true rfl), (Nat.le_of_ble_eq_true rfl)⟩ ⟨rfl, rfl, (Nat.le_of_ble_eq_true rfl), (Nat.le_of_ble_eq_true rfl)⟩ (Nat.le_of_ble_eq_true rfl) dL_law_146 (fun r M1 h => ?_)
      refine v_aloadn C 2 rfl rfl dL_law_149 ?_
      refine v_aloadn C 0 rfl rfl dL_law_150 ?_
      refine v_iloadn C 3 rfl rfl dL_law_151 ?_
      refine v_iconst C kc_1 dL_law_152 ?_
      refine v_iadd C dL_law_153 ?_
      refine v_sld C hX hbl hbB hin1 dL_law_154 ?_
      refine v_cvI (As := [.int (xs (ix (x3 + (1 : Int32))))]) C mv_L_17 (con_X7_type l S R (xs (ix (x3 + (1 : Int32)))) hm _ _ h) sh_130 (Nat.le_of_ble_eq_true rfl) rfl ⟨(Nat.le_of_ble_eq_true rfl), (Nat.le_of_ble_eq_true rfl)⟩ ⟨rfl, rfl, (Nat.le_of_ble_eq_true rfl), (Nat.le_of_ble_eq_true rfl)⟩ (Nat.le_of_ble_eq_true rfl) dL_law_155 (fun q M2 h => ?_)
      refine v_icmp_eq C 629 (by decide) dL_law_158 (fun _ => ?_) (fun q => absurd h.1 q)
      refine v_iinc (lv' := [(3, .int (x3 + (3 : Int32))), (0, .ref b), (1, .ref (XB S + 0)), (2, .ref (XB S + 130))]) C 3 rfl kc_3 rfl rfl (Nat.le_of_ble_eq_true rfl) dL_law_629 ?_
      refine v_goto C 18 (by decide) dL_law_632 ?_
      refine v_loc [1, 2, 3, 0] rfl ?_
      exact ih (i + 3) _ hi3 hx3 M2 R pl dr hw hm h.2
    by_cases s_1 : xs (ix x3) &&& (31 : Int32) = (1 : Int32)
    · refine v_tin (off := 131) C 163 1 (by rw [s_1]; decide) (by decide) (by decide) (by decide) (by decide) dL_law_32 ?_
      have h := H.2.1 M pl dr hrel
      refine v_aloadn C 1 rfl rfl dL_law_163 ?_
      refine v_cvI (As := []) C mv_L_18 (con_X6_clear l S R pl dr  hw _ _ h) sh_0 (Nat.le_of_ble_eq_true rfl) rfl ⟨(Nat.le_of_ble_eq_true rfl), (Nat.le_of_ble_eq_true rfl)⟩ ⟨rfl, rfl, (Nat.le_of_ble_eq_true rfl), (Nat.le_of_ble_eq_true rfl)⟩ (Nat.le_of_ble_eq_true rfl) dL_law_164 (fun r M1 h => ?_)
      refine v_aloadn C 2 rfl rfl dL_law_167 ?_
      refine v_cvI (As := []) C mv_L_22 (con_X7_clear l S R  hm _ _ h) sh_130 (Nat.le_of_ble_eq_true rfl) rfl ⟨(Nat.le_of_ble_eq_true rfl), (Nat.le_of_ble_eq_true rfl)⟩ ⟨rfl, rfl, (Nat.le_of_ble_eq_true rfl), (Nat.le_of_ble_eq_true rfl)⟩ (Nat.le_of_ble_eq_true rfl) dL_law_168 (fun q M2 h => ?_)
      refine v_icmp_eq C 629 (by decide) dL_law_171 (fun _ => ?_) (fun q => absurd h.1 q)
      refine v_iinc (lv' := [(3, .int (x3 + (3 : Int32))), (0, .ref b), (1, .ref (XB S + 0)), (2, .ref (XB S + 130))]) C 3 rfl kc_3 rfl rfl (Nat.le_of_ble_eq_true rfl) dL_law_629 ?_
      refine v_goto C 18 (by decide) dL_law_632 ?_
      refine v_loc [1, 2, 3, 0] rfl ?_
      exact ih (i + 3) _ hi3 hx3 M2 R pl dr hw hm h.2
    by_cases s_2 : xs (ix x3) &&& (31 : Int32) = (2 : Int32)
    · refine v_tin (off := 144) C 176 2 (by rw [s_2]; decide) (by decide) (by decide) (by decide) (by decide) dL_law_32 ?_
      have h := H.2.2.1 M pl dr hrel
      refine v_aloadn C 1 rfl rfl dL_law_176 ?_
      refine v_cvR (As := []) C mv_L_23 (con_X6_tells l S R pl dr hw _ _ h) sh_0 (Nat.le_of_ble_eq_true rfl) rfl ⟨(Nat.le_of_ble_eq_true rfl), (Nat.le_of_ble_eq_true rfl)⟩ ⟨rfl, rfl, (Nat.le_of_ble_eq_true rfl), (Nat.le_of_ble_eq_true rfl)⟩ (Nat.le_of_ble_eq_true rfl) dL_law_177 (fun r M1 R1 h => ?_)
      obtain ⟨b1, h, e1⟩ := h
      obtain ⟨hw, hm⟩ := law_sw (b := b1) hw hm e1
      refine v_aloadn C 2 rfl rfl dL_law_180 ?_
      refine v_cvI (As := []) C mv_L_26 (con_X7_tells l S R1  hm _ _ h) sh_130 (Nat.le_of_ble_eq_true rfl) rfl ⟨(Nat.le_of_ble_eq_true rfl), (Nat.le_of_ble_eq_true rfl)⟩ ⟨rfl, rfl, (Nat.le_of_ble_eq_true rfl), (Nat.le_of_ble_eq_true rfl)⟩ (Nat.le_of_ble_eq_true rfl) dL_law_181 (fun q M2 h => ?_)
      refine v_icmp_eq C 629 (by decide) dL_law_184 (fun _ => ?_) (fun q => absurd h.1 q)
      refine v_iinc (lv' := [(3, .int (x3 + (3 : Int32))), (0, .ref b), (1, .ref (XB S + 0)), (2, .ref (XB S + 130))]) C 3 rfl kc_3 rfl rfl (Nat.le_of_ble_eq_true rfl) dL_law_629 ?_
      refine v_goto C 18 (by decide) dL_law_632 ?_
      refine v_loc [1, 2, 3, 0] rfl ?_
      exact ih (i + 3) _ hi3 hx3 M2 R1 _ _ hw hm h.2
    by_cases s_3 : xs (ix x3) &&& (31 : Int32) = (3 : Int32)
    · refine v_tin (off := 157) C 189 3 (by rw [s_3]; decide) (by decide) (by decide) (by decide) (by decide) dL_law_32 ?_
      have h := H.2.2.2.1 M pl dr (xs (ix (x3 + (1 : Int32)))) hrel
      refine v_aloadn C 1 rfl rfl dL_law_189 ?_
      refine v_aloadn C 0 rfl rfl dL_law_190 ?_
      refine v_iloadn C 3 rfl rfl dL_law_191 ?_
      refine v_iconst C kc_1 dL_law_192 ?_
      refine v_iadd C dL_law_193 ?_
      refine v_sld C hX hbl hbB hin1 dL_law_194 ?_
      refine v_cvI (As := [.int (xs (ix (x3 + (1 : Int32))))]) C mv_L_27 (con_X6_ticks l S R pl dr (xs (ix (x3 + (1 : Int32)))) hw _ _ h) sh_0 (Nat.le_of_ble_eq_true rfl) rfl ⟨(Nat.le_of_ble_eq_true rfl), (Nat.le_of_ble_eq_true rfl)⟩ ⟨rfl, rfl, (Nat.le_of_ble_eq_true rfl), (Nat.le_of_ble_eq_true rfl)⟩ (Nat.le_of_ble_eq_true rfl) dL_law_195 (fun r M1 h => ?_)
      refine v_aloadn C 2 rfl rfl dL_law_198 ?_
      refine v_aloadn C 0 rfl rfl dL_law_199 ?_
      refine v_iloadn C 3 rfl rfl dL_law_200 ?_
      refine v_iconst C kc_1 dL_law_201 ?_
      refine v_iadd C dL_law_202 ?_
      refine v_sld C hX hbl hbB hin1 dL_law_203 ?_
      refine v_cvI (As := [.int (xs (ix (x3 + (1 : Int32))))]) C mv_L_30 (con_X7_ticks l S R (xs (ix (x3 + (1 : Int32)))) hm _ _ h) sh_130 (Nat.le_of_ble_eq_true rfl) rfl ⟨(Nat.le_of_ble_eq_true rfl), (Nat.le_of_ble_eq_true rfl)⟩ ⟨rfl, rfl, (Nat.le_of_ble_eq_true rfl), (Nat.le_of_ble_eq_true rfl)⟩ (Nat.le_of_ble_eq_true rfl) dL_law_204 (fun q M2 h => ?_)
      refine v_icmp_eq C 629 (by decide) dL_law_207 (fun _ => ?_) (fun q => absurd h.1 q)
      refine v_iinc (lv' := [(3, .int (x3 + (3 : Int32))), (0, .ref b), (1, .ref (XB S + 0)), (2, .ref (XB S + 130))]) C 3 rfl kc_3 rfl rfl (Nat.le_of_ble_eq_true rfl) dL_law_629 ?_
      refine v_goto C 18 (by decide) dL_law_632 ?_
      refine v_loc [1, 2, 3, 0] rfl ?_
      exact ih (i + 3) _ hi3 hx3 M2 R pl dr hw hm h.2
    by_cases s_4 : xs (ix x3) &&& (31 : Int32) = (4 : Int32)
    · refine v_tin (off := 180) C 212 4 (by rw [s_4]; decide) (by decide) (by decide) (by decide) (by decide) dL_law_32 ?_
      have h := H.2.2.2.2.1 M pl dr (xs (ix (x3 + (1 : Int32)))) (xs (ix (x3 + (2 : Int32)))) hrel
      refine v_aloadn C 1 rfl rfl dL_law_212 ?_
      refine v_aloadn C 0 rfl rfl dL_law_213 ?_
      refine v_iloadn C 3 rfl rfl dL_law_214 ?_
      refine v_iconst C kc_1 dL_law_215 ?_
      refine v_iadd C dL_law_216 ?_
      refine v_sld C hX hbl hbB hin1 dL_law_217 ?_
      refine v_aloadn C 0 rfl rfl dL_law_218 ?_
      refine v_iloadn C 3 rfl rfl dL_law_219 ?_
      refine v_iconst C kc_2 dL_law_220 ?_
      refine v_iadd C dL_law_221 ?_
      refine v_sld C hX hbl hbB hin2 dL_law_222 ?_
      refine v_cvI (As := [.int (xs (ix (x3 + (1 : Int32)))), .int (xs (ix (x3 + (2 : Int32))))]) C mv_L_31 (con_X6_drifts l S R pl dr (xs (ix (x3 + (1 : Int32)))) (xs (ix (x3 + (2 : Int32)))) hw _ _ h) sh_0 (Nat.le_of_ble_eq_true rfl) rfl ⟨(Nat.le_of_ble_eq_true rfl), (Nat.le_of_ble_eq_true rfl)⟩ ⟨rfl, rfl, (Nat.le_of_ble_eq_true rfl), (Nat.le_of_ble_eq_true rfl)⟩ (Nat.le_of_ble_eq_true rfl) dL_law_223 (fun r M1 h => ?_)
      refine v_aloadn C 2 rfl rfl dL_law_226 ?_
      refine v_aloadn C 0 rfl rfl dL_law_227 ?_
      refine v_iloadn C 3 rfl rfl dL_law_228 ?_
      refine v_iconst C kc_1 dL_law_229 ?_
      refine v_iadd C dL_law_230 ?_
      refine v_sld C hX hbl hbB hin1 dL_law_231 ?_
      refine v_aloadn C 0 rfl rfl dL_law_232 ?_
      refine v_iloadn C 3 rfl rfl dL_law_233 ?_
      refine v_iconst C kc_2 dL_law_234 ?_
      refine v_iadd C dL_law_235 ?_
      refine v_sld C hX hbl hbB hin2 dL_law_236 ?_
      refine v_cvI (As := [.int (xs (ix (x3 + (1 : Int32)))), .int (xs (ix (x3 + (2 : Int32))))]) C mv_L_35 (con_X7_drifts l S R (xs (ix (x3 + (1 : Int32)))) (xs (ix (x3 + (2 : Int32)))) hm _ _ h) sh_130 (Nat.le_of_ble_eq_true rfl) rfl ⟨(Nat.le_of_ble_eq_true rfl), (Nat.le_of_ble_eq_true rfl)⟩ ⟨rfl, rfl, (Nat.le_of_ble_eq_true rfl), (Nat.le_of_ble_eq_true rfl)⟩ (Nat.le_of_ble_eq_true rfl) dL_law_237 (fun q M2 h => ?_)
      refine v_icmp_eq C 629 (by decide) dL_law_240 (fun _ => ?_) (fun q => absurd h.1 q)
      refine v_iinc (lv' := [(3, .int (x3 + (3 : Int32))), (0, .ref b), (1, .ref (XB S + 0)), (2, .ref (XB S + 130))]) C 3 rfl kc_3 rfl rfl (Nat.le_of_ble_eq_true rfl) dL_law_629 ?_
      refine v_goto C 18 (by decide) dL_law_632 ?_
      refine v_loc [1, 2, 3, 0] rfl ?_
      exact ih (i + 3) _ hi3 hx3 M2 R pl dr hw hm h.2
    by_cases s_5 : xs (ix x3) &&& (31 : Int32) = (5 : Int32)
    · refine v_tin (off := 213) C 245 5 (by rw [s_5]; decide) (by decide) (by decide) (by decide) (by decide) dL_law_32 ?_
      have h := H.2.2.2.2.2.1 M pl dr (xs (ix (x3 + (1 : Int32)))) (xs (ix (x3 + (2 : Int32)))) hrel
      refine v_aloadn C 1 rfl rfl dL_law_245 ?_
      refine v_aloadn C 0 rfl rfl dL_law_246 ?_
      refine v_iloadn C 3 rfl rfl dL_law_247 ?_
      refine v_iconst C kc_1 dL_law_248 ?_
      refine v_iadd C dL_law_249 ?_
      refine v_sld C hX hbl hbB hin1 dL_law_250 ?_
      refine v_aloadn C 0 rfl rfl dL_law_251 ?_
      refine v_iloadn C 3 rfl rfl dL_law_252 ?_
      refine v_iconst C kc_2 dL_law_253 ?_
      refine v_iadd C dL_law_254 ?_
      refine v_sld C hX hbl hbB hin2 dL_law_255 ?_
      refine v_cvI (As := [.int (xs (ix (x3 + (1 : Int32)))), .int (xs (ix (x3 + (2 : Int32))))]) C mv_L_36 (con_X6_corrects l S R pl dr (xs (ix (x3 + (1 : Int32)))) (xs (ix (x3 + (2 : Int32)))) hw _ _ h) sh_0 (Nat.le_of_ble_eq_true rfl) rfl ⟨(Nat.le_of_ble_eq_true rfl), (Nat.le_of_ble_eq_true rfl)⟩ ⟨rfl, rfl, (Nat.le_of_ble_eq_true rfl), (Nat.le_of_ble_eq_true rfl)⟩ (Nat.le_of_ble_eq_true rfl) dL_law_256 (fun r M1 h => ?_)
      refine v_aloadn C 2 rfl rfl dL_law_259 ?_
      refine v_aloadn C 0 rfl rfl dL_law_260 ?_
      refine v_iloadn C 3 rfl rfl dL_law_261 ?_
      refine v_iconst C kc_1 dL_law_262 ?_
      refine v_iadd C dL_law_263 ?_
      refine v_sld C hX hbl hbB hin1 dL_law_264 ?_
      refine v_aloadn C 0 rfl rfl dL_law_265 ?_
      refine v_iloadn C 3 rfl rfl dL_law_266 ?_
      refine v_iconst C kc_2 dL_law_267 ?_
      refine v_iadd C dL_law_268 ?_
      refine v_sld C hX hbl hbB hin2 dL_law_269 ?_
      refine v_cvI (As := [.int (xs (ix (x3 + (1 : Int32)))), .int (xs (ix (x3 + (2 : Int32))))]) C mv_L_39 (con_X7_corrects l S R (xs (ix (x3 + (1 : Int32)))) (xs (ix (x3 + (2 : Int32)))) hm _ _ h) sh_130 (Nat.le_of_ble_eq_true rfl) rfl ⟨(Nat.le_of_ble_eq_true rfl), (Nat.le_of_ble_eq_true rfl)⟩ ⟨rfl, rfl, (Nat.le_of_ble_eq_true rfl), (Nat.le_of_ble_eq_true rfl)⟩ (Nat.le_of_ble_eq_true rfl) dL_law_270 (fun q M2 h => ?_)
      refine v_icmp_eq C 629 (by decide) dL_law_273 (fun _ => ?_) (fun q => absurd h.1 q)
      refine v_iinc (lv' := [(3, .int (x3 + (3 : Int32))), (0, .ref b), (1, .ref (XB S + 0)), (2, .ref (XB S + 130))]) C 3 rfl kc_3 rfl rfl (Nat.le_of_ble_eq_true rfl) dL_law_629 ?_
      refine v_goto C 18 (by decide) dL_law_632 ?_
      refine v_loc [1, 2, 3, 0] rfl ?_
      exact ih (i + 3) _ hi3 hx3 M2 R pl dr hw hm h.2
    by_cases s_6 : xs (ix x3) &&& (31 : Int32) = (6 : Int32)
    · refine v_tin (off := 246) C 278 6 (by rw [s_6]; decide) (by decide) (by decide) (by decide) (by decide) dL_law_32 ?_
      have h := H.2.2.2.2.2.2.1 M pl dr hrel
      refine v_aloadn C 1 rfl rfl dL_law_278 ?_
      refine v_cvI (As := []) C mv_L_40 (con_X6_spins l S R pl dr  hw _ _ h) sh_0 (Nat.le_of_ble_eq_true rfl) rfl ⟨(Nat.le_of_ble_eq_true rfl), (Nat.le_of_ble_eq_true rfl)⟩ ⟨rfl, rfl, (Nat.le_of_ble_eq_true rfl), (Nat.le_of_ble_eq_true rfl)⟩ (Nat.le_of_ble_eq_true rfl) dL_law_279 (fun r M1 h => ?_)
      refine v_aloadn C 2 rfl rfl dL_law_282 ?_
      refine v_cvI (As := []) C mv_L_43 (con_X7_spins l S R  hm _ _ h) sh_130 (Nat.le_of_ble_eq_true rfl) rfl ⟨(Nat.le_of_ble_eq_true rfl), (Nat.le_of_ble_eq_true rfl)⟩ ⟨rfl, rfl, (Nat.le_of_ble_eq_true rfl), (Nat.le_of_ble_eq_true rfl)⟩ (Nat.le_of_ble_eq_true rfl) dL_law_283 (fun q M2 h => ?_)
      refine v_icmp_eq C 629 (by decide) dL_law_286 (fun _ => ?_) (fun q => absurd h.1 q)
      refine v_iinc (lv' := [(3, .int (x3 + (3 : Int32))), (0, .ref b), (1, .ref (XB S + 0)), (2, .ref (XB S + 130))]) C 3 rfl kc_3 rfl rfl (Nat.le_of_ble_eq_true rfl) dL_law_629 ?_
      refine v_goto C 18 (by decide) dL_law_632 ?_
      refine v_loc [1, 2, 3, 0] rfl ?_
      exact ih (i + 3) _ hi3 hx3 M2 R pl dr hw hm h.2
    by_cases s_7 : xs (ix x3) &&& (31 : Int32) = (7 : Int32)
    · refine v_tin (off := 259) C 291 7 (by rw [s_7]; decide) (by decide) (by decide) (by decide) (by decide) dL_law_32 ?_
      have h := H.2.2.2.2.2.2.2.1 M pl dr hrel
      refine v_aloadn C 1 rfl rfl dL_law_291 ?_
      refine v_cvI (As := []) C mv_L_44 (con_X6_starts l S R pl dr  hw _ _ h) sh_0 (Nat.le_of_ble_eq_true rfl) rfl ⟨(Nat.le_of_ble_eq_true rfl), (Nat.le_of_ble_eq_true rfl)⟩ ⟨rfl, rfl, (Nat.le_of_ble_eq_true rfl), (Nat.le_of_ble_eq_true rfl)⟩ (Nat.le_of_ble_eq_true rfl) dL_law_292 (fun r M1 h => ?_)
      refine v_aloadn C 2 rfl rfl dL_law_295 ?_
      refine v_cvI (As := []) C mv_L_47 (con_X7_starts l S R  hm _ _ h) sh_130 (Nat.le_of_ble_eq_true rfl) rfl ⟨(Nat.le_of_ble_eq_true rfl), (Nat.le_of_ble_eq_true rfl)⟩ ⟨rfl, rfl, (Nat.le_of_ble_eq_true rfl), (Nat.le_of_ble_eq_true rfl)⟩ (Nat.le_of_ble_eq_true rfl) dL_law_296 (fun q M2 h => ?_)
      refine v_icmp_eq C 629 (by decide) dL_law_299 (fun _ => ?_) (fun q => absurd h.1 q)
      refine v_iinc (lv' := [(3, .int (x3 + (3 : Int32))), (0, .ref b), (1, .ref (XB S + 0)), (2, .ref (XB S + 130))]) C 3 rfl kc_3 rfl rfl (Nat.le_of_ble_eq_true rfl) dL_law_629 ?_
      refine v_goto C 18 (by decide) dL_law_632 ?_
      refine v_loc [1, 2, 3, 0] rfl ?_
      exact ih (i + 3) _ hi3 hx3 M2 R pl dr hw hm h.2
    by_cases s_8 : xs (ix x3) &&& (31 : Int32) = (8 : Int32)
    · refine v_tin (off := 272) C 304 8 (by rw [s_8]; decide) (by decide) (by decide) (by decide) (by decide) dL_law_32 ?_
      have h := H.2.2.2.2.2.2.2.2.1 M pl dr (xs (ix (x3 + (1 : Int32)))) hrel
      refine v_aloadn C 1 rfl rfl dL_law_304 ?_
      refine v_aloadn C 0 rfl rfl dL_law_305 ?_
      refine v_iloadn C 3 rfl rfl dL_law_306 ?_
      refine v_iconst C kc_1 dL_law_307 ?_
      refine v_iadd C dL_law_308 ?_
      refine v_sld C hX hbl hbB hin1 dL_law_309 ?_
      refine v_cvI (As := [.int (xs (ix (x3 + (1 : Int32))))]) C mv_L_48 (con_X6_aheads l S R pl dr (xs (ix (x3 + (1 : Int32)))) hw _ _ h) sh_0 (Nat.le_of_ble_eq_true rfl) rfl ⟨(Nat.le_of_ble_eq_true rfl), (Nat.le_of_ble_eq_true rfl)⟩ ⟨rfl, rfl, (Nat.le_of_ble_eq_true rfl), (Nat.le_of_ble_eq_true rfl)⟩ (Nat.le_of_ble_eq_true rfl) dL_law_310 (fun r M1 h => ?_)
      refine v_aloadn C 2 rfl rfl dL_law_313 ?_
      refine v_aloadn C 0 rfl rfl dL_law_314 ?_
      refine v_iloadn C 3 rfl rfl dL_law_315 ?_
      refine v_iconst C kc_1 dL_law_316 ?_
      refine v_iadd C dL_law_317 ?_
      refine v_sld C hX hbl hbB hin1 dL_law_318 ?_
      refine v_cvI (As := [.int (xs (ix (x3 + (1 : Int32))))]) C mv_L_51 (con_X7_aheads l S R (xs (ix (x3 + (1 : Int32)))) hm _ _ h) sh_130 (Nat.le_of_ble_eq_true rfl) rfl ⟨(Nat.le_of_ble_eq_true rfl), (Nat.le_of_ble_eq_true rfl)⟩ ⟨rfl, rfl, (Nat.le_of_ble_eq_true rfl), (Nat.le_of_ble_eq_true rfl)⟩ (Nat.le_of_ble_eq_true rfl) dL_law_319 (fun q M2 h => ?_)
      refine v_icmp_eq C 629 (by decide) dL_law_322 (fun _ => ?_) (fun q => absurd h.1 q)
      refine v_iinc (lv' := [(3, .int (x3 + (3 : Int32))), (0, .ref b), (1, .ref (XB S + 0)), (2, .ref (XB S + 130))]) C 3 rfl kc_3 rfl rfl (Nat.le_of_ble_eq_true rfl) dL_law_629 ?_
      refine v_goto C 18 (by decide) dL_law_632 ?_
      refine v_loc [1, 2, 3, 0] rfl ?_
      exact ih (i + 3) _ hi3 hx3 M2 R pl dr hw hm h.2
    by_cases s_9 : xs (ix x3) &&& (31 : Int32) = (9 : Int32)
    · refine v_tin (off := 295) C 327 9 (by rw [s_9]; decide) (by decide) (by decide) (by decide) (by decide) dL_law_32 ?_
      have h := H.2.2.2.2.2.2.2.2.2.1 M pl dr hrel
      refine v_aloadn C 1 rfl rfl dL_law_327 ?_
      refine v_cvI (As := []) C mv_L_52 (con_X6_undo l S R pl dr  hw _ _ h) sh_0 (Nat.le_of_ble_eq_true rfl) rfl ⟨(Nat.le_of_ble_eq_true rfl), (Nat.le_of_ble_eq_true rfl)⟩ ⟨rfl, rfl, (Nat.le_of_ble_eq_true rfl), (Nat.le_of_ble_eq_true rfl)⟩ (Nat.le_of_ble_eq_true rfl) dL_law_328 (fun r M1 h => ?_)
      refine v_aloadn C 2 rfl rfl dL_law_331 ?_
      refine v_cvI (As := []) C mv_L_55 (con_X7_undo l S R  hm _ _ h) sh_130 (Nat.le_of_ble_eq_true rfl) rfl ⟨(Nat.le_of_ble_eq_true rfl), (Nat.le_of_ble_eq_true rfl)⟩ ⟨rfl, rfl, (Nat.le_of_ble_eq_true rfl), (Nat.le_of_ble_eq_true rfl)⟩ (Nat.le_of_ble_eq_true rfl) dL_law_332 (fun q M2 h => ?_)
      refine v_icmp_eq C 629 (by decide) dL_law_335 (fun _ => ?_) (fun q => absurd h.1 q)
      refine v_iinc (lv' := [(3, .int (x3 + (3 : Int32))), (0, .ref b), (1, .ref (XB S + 0)), (2, .ref (XB S + 130))]) C 3 rfl kc_3 rfl rfl (Nat.le_of_ble_eq_true rfl) dL_law_629 ?_
      refine v_goto C 18 (by decide) dL_law_632 ?_
      refine v_loc [1, 2, 3, 0] rfl ?_
      exact ih (i + 3) _ hi3 hx3 M2 R pl dr hw hm h.2
    by_cases s_10 : xs (ix x3) &&& (31 : Int32) = (10 : Int32)
    · refine v_tin (off := 308) C 340 10 (by rw [s_10]; decide) (by decide) (by decide) (by decide) (by decide) dL_law_32 ?_
      have h := H.2.2.2.2.2.2.2.2.2.2.1 M pl dr (xs (ix (x3 + (1 : Int32)))) (xs (ix (x3 + (2 : Int32)))) hrel
      refine v_aloadn C 1 rfl rfl dL_law_340 ?_
      refine v_aloadn C 0 rfl rfl dL_law_341 ?_
      refine v_iloadn C 3 rfl rfl dL_law_342 ?_
      refine v_iconst C kc_1 dL_law_343 ?_
      refine v_iadd C dL_law_344 ?_
      refine v_sld C hX hbl hbB hin1 dL_law_345 ?_
      refine v_aloadn C 0 rfl rfl dL_law_346 ?_
      refine v_iloadn C 3 rfl rfl dL_law_347 ?_
      refine v_iconst C kc_2 dL_law_348 ?_
      refine v_iadd C dL_law_349 ?_
      refine v_sld C hX hbl hbB hin2 dL_law_350 ?_
      refine v_cvI (As := [.int (xs (ix (x3 + (1 : Int32)))), .int (xs (ix (x3 + (2 : Int32))))]) C mv_L_56 (con_X6_unit l S R pl dr (xs (ix (x3 + (1 : Int32)))) (xs (ix (x3 + (2 : Int32)))) hw _ _ h) sh_0 (Nat.le_of_ble_eq_true rfl) rfl ⟨(Nat.le_of_ble_eq_true rfl), (Nat.le_of_ble_eq_true rfl)⟩ ⟨rfl, rfl, (Nat.le_of_ble_eq_true rfl), (Nat.le_of_ble_eq_true rfl)⟩ (Nat.le_of_ble_eq_true rfl) dL_law_351 (fun r M1 h => ?_)
      refine v_aloadn C 2 rfl rfl dL_law_354 ?_
      refine v_aloadn C 0 rfl rfl dL_law_355 ?_
      refine v_iloadn C 3 rfl rfl dL_law_356 ?_
      refine v_iconst C kc_1 dL_law_357 ?_
      refine v_iadd C dL_law_358 ?_
      refine v_sld C hX hbl hbB hin1 dL_law_359 ?_
      refine v_aloadn C 0 rfl rfl dL_law_360 ?_
      refine v_iloadn C 3 rfl rfl dL_law_361 ?_
      refine v_iconst C kc_2 dL_law_362 ?_
      refine v_iadd C dL_law_363 ?_
      refine v_sld C hX hbl hbB hin2 dL_law_364 ?_
      refine v_cvI (As := [.int (xs (ix (x3 + (1 : Int32)))), .int (xs (ix (x3 + (2 : Int32))))]) C mv_L_59 (con_X7_unit l S R (xs (ix (x3 + (1 : Int32)))) (xs (ix (x3 + (2 : Int32)))) hm _ _ h) sh_130 (Nat.le_of_ble_eq_true rfl) rfl ⟨(Nat.le_of_ble_eq_true rfl), (Nat.le_of_ble_eq_true rfl)⟩ ⟨rfl, rfl, (Nat.le_of_ble_eq_true rfl), (Nat.le_of_ble_eq_true rfl)⟩ (Nat.le_of_ble_eq_true rfl) dL_law_365 (fun q M2 h => ?_)
      refine v_icmp_eq C 629 (by decide) dL_law_368 (fun _ => ?_) (fun q => absurd h.1 q)
      refine v_iinc (lv' := [(3, .int (x3 + (3 : Int32))), (0, .ref b), (1, .ref (XB S + 0)), (2, .ref (XB S + 130))]) C 3 rfl kc_3 rfl rfl (Nat.le_of_ble_eq_true rfl) dL_law_629 ?_
      refine v_goto C 18 (by decide) dL_law_632 ?_
      refine v_loc [1, 2, 3, 0] rfl ?_
      exact ih (i + 3) _ hi3 hx3 M2 R pl dr hw hm h.2
    by_cases s_11 : xs (ix x3) &&& (31 : Int32) = (11 : Int32)
    · refine v_tin (off := 341) C 373 11 (by rw [s_11]; decide) (by decide) (by decide) (by decide) (by decide) dL_law_32 ?_
      have h := H.2.2.2.2.2.2.2.2.2.2.2.1 M pl dr (xs (ix (x3 + (1 : Int32)))) (xs (ix (x3 + (2 : Int32)))) hrel
      refine v_aloadn C 1 rfl rfl dL_law_373 ?_
      refine v_aloadn C 0 rfl rfl dL_law_374 ?_
      refine v_iloadn C 3 rfl rfl dL_law_375 ?_
      refine v_iconst C kc_1 dL_law_376 ?_
      refine v_iadd C dL_law_377 ?_
      refine v_sld C hX hbl hbB hin1 dL_law_378 ?_
      refine v_aloadn C 0 rfl rfl dL_law_379 ?_
      refine v_iloadn C 3 rfl rfl dL_law_380 ?_
      refine v_iconst C kc_2 dL_law_381 ?_
      refine v_iadd C dL_law_382 ?_
      refine v_sld C hX hbl hbB hin2 dL_law_383 ?_
      refine v_cvI (As := [.int (xs (ix (x3 + (1 : Int32)))), .int (xs (ix (x3 + (2 : Int32))))]) C mv_L_60 (con_X6_reel l S R pl dr (xs (ix (x3 + (1 : Int32)))) (xs (ix (x3 + (2 : Int32)))) hw _ _ h) sh_0 (Nat.le_of_ble_eq_true rfl) rfl ⟨(Nat.le_of_ble_eq_true rfl), (Nat.le_of_ble_eq_true rfl)⟩ ⟨rfl, rfl, (Nat.le_of_ble_eq_true rfl), (Nat.le_of_ble_eq_true rfl)⟩ (Nat.le_of_ble_eq_true rfl) dL_law_384 (fun r M1 h => ?_)
      refine v_aloadn C 2 rfl rfl dL_law_387 ?_
      refine v_aloadn C 0 rfl rfl dL_law_388 ?_
      refine v_iloadn C 3 rfl rfl dL_law_389 ?_
      refine v_iconst C kc_1 dL_law_390 ?_
      refine v_iadd C dL_law_391 ?_
      refine v_sld C hX hbl hbB hin1 dL_law_392 ?_
      refine v_aloadn C 0 rfl rfl dL_law_393 ?_
      refine v_iloadn C 3 rfl rfl dL_law_394 ?_
      refine v_iconst C kc_2 dL_law_395 ?_
      refine v_iadd C dL_law_396 ?_
      refine v_sld C hX hbl hbB hin2 dL_law_397 ?_
      refine v_cvI (As := [.int (xs (ix (x3 + (1 : Int32)))), .int (xs (ix (x3 + (2 : Int32))))]) C mv_L_63 (con_X7_reel l S R (xs (ix (x3 + (1 : Int32)))) (xs (ix (x3 + (2 : Int32)))) hm _ _ h) sh_130 (Nat.le_of_ble_eq_true rfl) rfl ⟨(Nat.le_of_ble_eq_true rfl), (Nat.le_of_ble_eq_true rfl)⟩ ⟨rfl, rfl, (Nat.le_of_ble_eq_true rfl), (Nat.le_of_ble_eq_true rfl)⟩ (Nat.le_of_ble_eq_true rfl) dL_law_398 (fun q M2 h => ?_)
      refine v_icmp_eq C 629 (by decide) dL_law_401 (fun _ => ?_) (fun q => absurd h.1 q)
      refine v_iinc (lv' := [(3, .int (x3 + (3 : Int32))), (0, .ref b), (1, .ref (XB S + 0)), (2, .ref (XB S + 130))]) C 3 rfl kc_3 rfl rfl (Nat.le_of_ble_eq_true rfl) dL_law_629 ?_
      refine v_goto C 18 (by decide) dL_law_632 ?_
      refine v_loc [1, 2, 3, 0] rfl ?_
      exact ih (i + 3) _ hi3 hx3 M2 R pl dr hw hm h.2
    by_cases s_12 : xs (ix x3) &&& (31 : Int32) = (12 : Int32)
    · refine v_tin (off := 374) C 406 12 (by rw [s_12]; decide) (by decide) (by decide) (by decide) (by decide) dL_law_32 ?_
      have h := H.2.2.2.2.2.2.2.2.2.2.2.2.1 M pl dr (xs (ix (x3 + (1 : Int32)))) hrel
      refine v_aloadn C 1 rfl rfl dL_law_406 ?_
      refine v_aloadn C 0 rfl rfl dL_law_407 ?_
      refine v_iloadn C 3 rfl rfl dL_law_408 ?_
      refine v_iconst C kc_1 dL_law_409 ?_
      refine v_iadd C dL_law_410 ?_
      refine v_sld C hX hbl hbB hin1 dL_law_411 ?_
      refine v_cvI (As := [.int (xs (ix (x3 + (1 : Int32))))]) C mv_L_64 (con_X6_last l S R pl dr (xs (ix (x3 + (1 : Int32)))) hw _ _ h) sh_0 (Nat.le_of_ble_eq_true rfl) rfl ⟨(Nat.le_of_ble_eq_true rfl), (Nat.le_of_ble_eq_true rfl)⟩ ⟨rfl, rfl, (Nat.le_of_ble_eq_true rfl), (Nat.le_of_ble_eq_true rfl)⟩ (Nat.le_of_ble_eq_true rfl) dL_law_412 (fun r M1 h => ?_)
      refine v_aloadn C 2 rfl rfl dL_law_415 ?_
      refine v_aloadn C 0 rfl rfl dL_law_416 ?_
      refine v_iloadn C 3 rfl rfl dL_law_417 ?_
      refine v_iconst C kc_1 dL_law_418 ?_
      refine v_iadd C dL_law_419 ?_
      refine v_sld C hX hbl hbB hin1 dL_law_420 ?_
      refine v_cvI (As := [.int (xs (ix (x3 + (1 : Int32))))]) C mv_L_67 (con_X7_last l S R (xs (ix (x3 + (1 : Int32)))) hm _ _ h) sh_130 (Nat.le_of_ble_eq_true rfl) rfl ⟨(Nat.le_of_ble_eq_true rfl), (Nat.le_of_ble_eq_true rfl)⟩ ⟨rfl, rfl, (Nat.le_of_ble_eq_true rfl), (Nat.le_of_ble_eq_true rfl)⟩ (Nat.le_of_ble_eq_true rfl) dL_law_421 (fun q M2 h => ?_)
      refine v_icmp_eq C 629 (by decide) dL_law_424 (fun _ => ?_) (fun q => absurd h.1 q)
      refine v_iinc (lv' := [(3, .int (x3 + (3 : Int32))), (0, .ref b), (1, .ref (XB S + 0)), (2, .ref (XB S + 130))]) C 3 rfl kc_3 rfl rfl (Nat.le_of_ble_eq_true rfl) dL_law_629 ?_
      refine v_goto C 18 (by decide) dL_law_632 ?_
      refine v_loc [1, 2, 3, 0] rfl ?_
      exact ih (i + 3) _ hi3 hx3 M2 R pl dr hw hm h.2
    by_cases s_13 : xs (ix x3) &&& (31 : Int32) = (13 : Int32)
    · refine v_tin (off := 397) C 429 13 (by rw [s_13]; decide) (by decide) (by decide) (by decide) (by decide) dL_law_32 ?_
      have h := H.2.2.2.2.2.2.2.2.2.2.2.2.2.1 M pl dr (xs (ix (x3 + (1 : Int32)))) (xs (ix (x3 + (2 : Int32)))) hrel
      refine v_aloadn C 1 rfl rfl dL_law_429 ?_
      refine v_aloadn C 0 rfl rfl dL_law_430 ?_
      refine v_iloadn C 3 rfl rfl dL_law_431 ?_
      refine v_iconst C kc_1 dL_law_432 ?_
      refine v_iadd C dL_law_433 ?_
      refine v_sld C hX hbl hbB hin1 dL_law_434 ?_
      refine v_aloadn C 0 rfl rfl dL_law_435 ?_
      refine v_iloadn C 3 rfl rfl dL_law_436 ?_
      refine v_iconst C kc_2 dL_law_437 ?_
      refine v_iadd C dL_law_438 ?_
      refine v_sld C hX hbl hbB hin2 dL_law_439 ?_
      refine v_cvI (As := [.int (xs (ix (x3 + (1 : Int32)))), .int (xs (ix (x3 + (2 : Int32))))]) C mv_L_68 (con_X6_error l S R pl dr (xs (ix (x3 + (1 : Int32)))) (xs (ix (x3 + (2 : Int32)))) hw _ _ h) sh_0 (Nat.le_of_ble_eq_true rfl) rfl ⟨(Nat.le_of_ble_eq_true rfl), (Nat.le_of_ble_eq_true rfl)⟩ ⟨rfl, rfl, (Nat.le_of_ble_eq_true rfl), (Nat.le_of_ble_eq_true rfl)⟩ (Nat.le_of_ble_eq_true rfl) dL_law_440 (fun r M1 h => ?_)
      refine v_aloadn C 2 rfl rfl dL_law_443 ?_
      refine v_aloadn C 0 rfl rfl dL_law_444 ?_
      refine v_iloadn C 3 rfl rfl dL_law_445 ?_
      refine v_iconst C kc_1 dL_law_446 ?_
      refine v_iadd C dL_law_447 ?_
      refine v_sld C hX hbl hbB hin1 dL_law_448 ?_
      refine v_aloadn C 0 rfl rfl dL_law_449 ?_
      refine v_iloadn C 3 rfl rfl dL_law_450 ?_
      refine v_iconst C kc_2 dL_law_451 ?_
      refine v_iadd C dL_law_452 ?_
      refine v_sld C hX hbl hbB hin2 dL_law_453 ?_
      refine v_cvI (As := [.int (xs (ix (x3 + (1 : Int32)))), .int (xs (ix (x3 + (2 : Int32))))]) C mv_L_71 (con_X7_error l S R (xs (ix (x3 + (1 : Int32)))) (xs (ix (x3 + (2 : Int32)))) hm _ _ h) sh_130 (Nat.le_of_ble_eq_true rfl) rfl ⟨(Nat.le_of_ble_eq_true rfl), (Nat.le_of_ble_eq_true rfl)⟩ ⟨rfl, rfl, (Nat.le_of_ble_eq_true rfl), (Nat.le_of_ble_eq_true rfl)⟩ (Nat.le_of_ble_eq_true rfl) dL_law_454 (fun q M2 h => ?_)
      refine v_icmp_eq C 629 (by decide) dL_law_457 (fun _ => ?_) (fun q => absurd h.1 q)
      refine v_iinc (lv' := [(3, .int (x3 + (3 : Int32))), (0, .ref b), (1, .ref (XB S + 0)), (2, .ref (XB S + 130))]) C 3 rfl kc_3 rfl rfl (Nat.le_of_ble_eq_true rfl) dL_law_629 ?_
      refine v_goto C 18 (by decide) dL_law_632 ?_
      refine v_loc [1, 2, 3, 0] rfl ?_
      exact ih (i + 3) _ hi3 hx3 M2 R pl dr hw hm h.2
    by_cases s_14 : xs (ix x3) &&& (31 : Int32) = (14 : Int32)
    · refine v_tin (off := 430) C 462 14 (by rw [s_14]; decide) (by decide) (by decide) (by decide) (by decide) dL_law_32 ?_
      have h := H.2.2.2.2.2.2.2.2.2.2.2.2.2.2.1 M pl dr hrel
      refine v_aloadn C 1 rfl rfl dL_law_462 ?_
      refine v_cvI (As := []) C mv_L_72 (con_X6_steady l S R pl dr  hw _ _ h) sh_0 (Nat.le_of_ble_eq_true rfl) rfl ⟨(Nat.le_of_ble_eq_true rfl), (Nat.le_of_ble_eq_true rfl)⟩ ⟨rfl, rfl, (Nat.le_of_ble_eq_true rfl), (Nat.le_of_ble_eq_true rfl)⟩ (Nat.le_of_ble_eq_true rfl) dL_law_463 (fun r M1 h => ?_)
      refine v_aloadn C 2 rfl rfl dL_law_466 ?_
      refine v_cvI (As := []) C mv_L_75 (con_X7_steady l S R  hm _ _ h) sh_130 (Nat.le_of_ble_eq_true rfl) rfl ⟨(Nat.le_of_ble_eq_true rfl), (Nat.le_of_ble_eq_true rfl)⟩ ⟨rfl, rfl, (Nat.le_of_ble_eq_true rfl), (Nat.le_of_ble_eq_true rfl)⟩ (Nat.le_of_ble_eq_true rfl) dL_law_467 (fun q M2 h => ?_)
      refine v_icmp_eq C 629 (by decide) dL_law_470 (fun _ => ?_) (fun q => absurd h.1 q)
      refine v_iinc (lv' := [(3, .int (x3 + (3 : Int32))), (0, .ref b), (1, .ref (XB S + 0)), (2, .ref (XB S + 130))]) C 3 rfl kc_3 rfl rfl (Nat.le_of_ble_eq_true rfl) dL_law_629 ?_
      refine v_goto C 18 (by decide) dL_law_632 ?_
      refine v_loc [1, 2, 3, 0] rfl ?_
      exact ih (i + 3) _ hi3 hx3 M2 R pl dr hw hm h.2
    by_cases s_15 : xs (ix x3) &&& (31 : Int32) = (15 : Int32)
    · refine v_tin (off := 443) C 475 15 (by rw [s_15]; decide) (by decide) (by decide) (by decide) (by decide) dL_law_32 ?_
      have h := H.2.2.2.2.2.2.2.2.2.2.2.2.2.2.2.1 M pl dr hrel
      refine v_aloadn C 1 rfl rfl dL_law_475 ?_
      refine v_cvI (As := []) C mv_L_76 (con_X6_cost l S R pl dr  hw _ _ h) sh_0 (Nat.le_of_ble_eq_true rfl) rfl ⟨(Nat.le_of_ble_eq_true rfl), (Nat.le_of_ble_eq_true rfl)⟩ ⟨rfl, rfl, (Nat.le_of_ble_eq_true rfl), (Nat.le_of_ble_eq_true rfl)⟩ (Nat.le_of_ble_eq_true rfl) dL_law_476 (fun r M1 h => ?_)
      refine v_aloadn C 2 rfl rfl dL_law_479 ?_
      refine v_cvI (As := []) C mv_L_79 (con_X7_cost l S R  hm _ _ h) sh_130 (Nat.le_of_ble_eq_true rfl) rfl ⟨(Nat.le_of_ble_eq_true rfl), (Nat.le_of_ble_eq_true rfl)⟩ ⟨rfl, rfl, (Nat.le_of_ble_eq_true rfl), (Nat.le_of_ble_eq_true rfl)⟩ (Nat.le_of_ble_eq_true rfl) dL_law_480 (fun q M2 h => ?_)
      refine v_icmp_eq C 629 (by decide) dL_law_483 (fun _ => ?_) (fun q => absurd h.1 q)
      refine v_iinc (lv' := [(3, .int (x3 + (3 : Int32))), (0, .ref b), (1, .ref (XB S + 0)), (2, .ref (XB S + 130))]) C 3 rfl kc_3 rfl rfl (Nat.le_of_ble_eq_true rfl) dL_law_629 ?_
      refine v_goto C 18 (by decide) dL_law_632 ?_
      refine v_loc [1, 2, 3, 0] rfl ?_
      exact ih (i + 3) _ hi3 hx3 M2 R pl dr hw hm h.2
    by_cases s_16 : xs (ix x3) &&& (31 : Int32) = (16 : Int32)
    · refine v_tin (off := 456) C 488 16 (by rw [s_16]; decide) (by decide) (by decide) (by decide) (by decide) dL_law_32 ?_
      have h := H.2.2.2.2.2.2.2.2.2.2.2.2.2.2.2.2.1 M pl dr (xs (ix (x3 + (1 : Int32)))) (xs (ix (x3 + (2 : Int32)))) hrel
      refine v_aloadn C 1 rfl rfl dL_law_488 ?_
      refine v_aloadn C 0 rfl rfl dL_law_489 ?_
      refine v_iloadn C 3 rfl rfl dL_law_490 ?_
      refine v_iconst C kc_1 dL_law_491 ?_
      refine v_iadd C dL_law_492 ?_
      refine v_sld C hX hbl hbB hin1 dL_law_493 ?_
      refine v_aloadn C 0 rfl rfl dL_law_494 ?_
      refine v_iloadn C 3 rfl rfl dL_law_495 ?_
      refine v_iconst C kc_2 dL_law_496 ?_
      refine v_iadd C dL_law_497 ?_
      refine v_sld C hX hbl hbB hin2 dL_law_498 ?_
      refine v_cvI (As := [.int (xs (ix (x3 + (1 : Int32)))), .int (xs (ix (x3 + (2 : Int32))))]) C mv_L_80 (con_X6_sees l S R pl dr (xs (ix (x3 + (1 : Int32)))) (xs (ix (x3 + (2 : Int32)))) hw _ _ h) sh_0 (Nat.le_of_ble_eq_true rfl) rfl ⟨(Nat.le_of_ble_eq_true rfl), (Nat.le_of_ble_eq_true rfl)⟩ ⟨rfl, rfl, (Nat.le_of_ble_eq_true rfl), (Nat.le_of_ble_eq_true rfl)⟩ (Nat.le_of_ble_eq_true rfl) dL_law_499 (fun r M1 h => ?_)
      refine v_aloadn C 2 rfl rfl dL_law_502 ?_
      refine v_aloadn C 0 rfl rfl dL_law_503 ?_
      refine v_iloadn C 3 rfl rfl dL_law_504 ?_
      refine v_iconst C kc_1 dL_law_505 ?_
      refine v_iadd C dL_law_506 ?_
      refine v_sld C hX hbl hbB hin1 dL_law_507 ?_
      refine v_aloadn C 0 rfl rfl dL_law_508 ?_
      refine v_iloadn C 3 rfl rfl dL_law_509 ?_
      refine v_iconst C kc_2 dL_law_510 ?_
      refine v_iadd C dL_law_511 ?_
      refine v_sld C hX hbl hbB hin2 dL_law_512 ?_
      refine v_cvI (As := [.int (xs (ix (x3 + (1 : Int32)))), .int (xs (ix (x3 + (2 : Int32))))]) C mv_L_83 (con_X7_sees l S R (xs (ix (x3 + (1 : Int32)))) (xs (ix (x3 + (2 : Int32)))) hm _ _ h) sh_130 (Nat.le_of_ble_eq_true rfl) rfl ⟨(Nat.le_of_ble_eq_true rfl), (Nat.le_of_ble_eq_true rfl)⟩ ⟨rfl, rfl, (Nat.le_of_ble_eq_true rfl), (Nat.le_of_ble_eq_true rfl)⟩ (Nat.le_of_ble_eq_true rfl) dL_law_513 (fun q M2 h => ?_)
      refine v_icmp_eq C 629 (by decide) dL_law_516 (fun _ => ?_) (fun q => absurd h.1 q)
      refine v_iinc (lv' := [(3, .int (x3 + (3 : Int32))), (0, .ref b), (1, .ref (XB S + 0)), (2, .ref (XB S + 130))]) C 3 rfl kc_3 rfl rfl (Nat.le_of_ble_eq_true rfl) dL_law_629 ?_
      refine v_goto C 18 (by decide) dL_law_632 ?_
      refine v_loc [1, 2, 3, 0] rfl ?_
      exact ih (i + 3) _ hi3 hx3 M2 R pl dr hw hm h.2
    by_cases s_17 : xs (ix x3) &&& (31 : Int32) = (17 : Int32)
    · refine v_tin (off := 489) C 521 17 (by rw [s_17]; decide) (by decide) (by decide) (by decide) (by decide) dL_law_32 ?_
      have h := H.2.2.2.2.2.2.2.2.2.2.2.2.2.2.2.2.2.1 M pl dr hrel
      refine v_aloadn C 1 rfl rfl dL_law_521 ?_
      refine v_cvI (As := []) C mv_L_84 (con_X6_forget l S R pl dr  hw _ _ h) sh_0 (Nat.le_of_ble_eq_true rfl) rfl ⟨(Nat.le_of_ble_eq_true rfl), (Nat.le_of_ble_eq_true rfl)⟩ ⟨rfl, rfl, (Nat.le_of_ble_eq_true rfl), (Nat.le_of_ble_eq_true rfl)⟩ (Nat.le_of_ble_eq_true rfl) dL_law_522 (fun r M1 h => ?_)
      refine v_aloadn C 2 rfl rfl dL_law_525 ?_
      refine v_cvI (As := []) C mv_L_87 (con_X7_forget l S R  hm _ _ h) sh_130 (Nat.le_of_ble_eq_true rfl) rfl ⟨(Nat.le_of_ble_eq_true rfl), (Nat.le_of_ble_eq_true rfl)⟩ ⟨rfl, rfl, (Nat.le_of_ble_eq_true rfl), (Nat.le_of_ble_eq_true rfl)⟩ (Nat.le_of_ble_eq_true rfl) dL_law_526 (fun q M2 h => ?_)
      refine v_icmp_eq C 629 (by decide) dL_law_529 (fun _ => ?_) (fun q => absurd h.1 q)
      refine v_iinc (lv' := [(3, .int (x3 + (3 : Int32))), (0, .ref b), (1, .ref (XB S + 0)), (2, .ref (XB S + 130))]) C 3 rfl kc_3 rfl rfl (Nat.le_of_ble_eq_true rfl) dL_law_629 ?_
      refine v_goto C 18 (by decide) dL_law_632 ?_
      refine v_loc [1, 2, 3, 0] rfl ?_
      exact ih (i + 3) _ hi3 hx3 M2 R pl dr hw hm h.2
    by_cases s_18 : xs (ix x3) &&& (31 : Int32) = (18 : Int32)
    · refine v_tin (off := 502) C 534 18 (by rw [s_18]; decide) (by decide) (by decide) (by decide) (by decide) dL_law_32 ?_
      have h := H.2.2.2.2.2.2.2.2.2.2.2.2.2.2.2.2.2.2.1 M pl dr hrel
      refine v_aloadn C 1 rfl rfl dL_law_534 ?_
      refine v_cvI (As := []) C mv_L_88 (con_X6_which l S R pl dr  hw _ _ h) sh_0 (Nat.le_of_ble_eq_true rfl) rfl ⟨(Nat.le_of_ble_eq_true rfl), (Nat.le_of_ble_eq_true rfl)⟩ ⟨rfl, rfl, (Nat.le_of_ble_eq_true rfl), (Nat.le_of_ble_eq_true rfl)⟩ (Nat.le_of_ble_eq_true rfl) dL_law_535 (fun r M1 h => ?_)
      refine v_aloadn C 2 rfl rfl dL_law_538 ?_
      refine v_cvI (As := []) C mv_L_91 (con_X7_which l S R  hm _ _ h) sh_130 (Nat.le_of_ble_eq_true rfl) rfl ⟨(Nat.le_of_ble_eq_true rfl), (Nat.le_of_ble_eq_true rfl)⟩ ⟨rfl, rfl, (Nat.le_of_ble_eq_true rfl), (Nat.le_of_ble_eq_true rfl)⟩ (Nat.le_of_ble_eq_true rfl) dL_law_539 (fun q M2 h => ?_)
      refine v_icmp_eq C 629 (by decide) dL_law_542 (fun _ => ?_) (fun q => absurd h.1 q)
      refine v_iinc (lv' := [(3, .int (x3 + (3 : Int32))), (0, .ref b), (1, .ref (XB S + 0)), (2, .ref (XB S + 130))]) C 3 rfl kc_3 rfl rfl (Nat.le_of_ble_eq_true rfl) dL_law_629 ?_
      refine v_goto C 18 (by decide) dL_law_632 ?_
      refine v_loc [1, 2, 3, 0] rfl ?_
      exact ih (i + 3) _ hi3 hx3 M2 R pl dr hw hm h.2
    by_cases s_19 : xs (ix x3) &&& (31 : Int32) = (19 : Int32)
    · refine v_tin (off := 515) C 547 19 (by rw [s_19]; decide) (by decide) (by decide) (by decide) (by decide) dL_law_32 ?_
      have h := H.2.2.2.2.2.2.2.2.2.2.2.2.2.2.2.2.2.2.2.1 M pl dr hrel
      refine v_aloadn C 1 rfl rfl dL_law_547 ?_
      refine v_cvI (As := []) C mv_L_92 (con_X6_look l S R pl dr  hw _ _ h) sh_0 (Nat.le_of_ble_eq_true rfl) rfl ⟨(Nat.le_of_ble_eq_true rfl), (Nat.le_of_ble_eq_true rfl)⟩ ⟨rfl, rfl, (Nat.le_of_ble_eq_true rfl), (Nat.le_of_ble_eq_true rfl)⟩ (Nat.le_of_ble_eq_true rfl) dL_law_548 (fun r M1 h => ?_)
      refine v_aloadn C 2 rfl rfl dL_law_551 ?_
      refine v_cvI (As := []) C mv_L_95 (con_X7_look l S R  hm _ _ h) sh_130 (Nat.le_of_ble_eq_true rfl) rfl ⟨(Nat.le_of_ble_eq_true rfl), (Nat.le_of_ble_eq_true rfl)⟩ ⟨rfl, rfl, (Nat.le_of_ble_eq_true rfl), (Nat.le_of_ble_eq_true rfl)⟩ (Nat.le_of_ble_eq_true rfl) dL_law_552 (fun q M2 h => ?_)
      refine v_icmp_eq C 629 (by decide) dL_law_555 (fun _ => ?_) (fun q => absurd h.1 q)
      refine v_iinc (lv' := [(3, .int (x3 + (3 : Int32))), (0, .ref b), (1, .ref (XB S + 0)), (2, .ref (XB S + 130))]) C 3 rfl kc_3 rfl rfl (Nat.le_of_ble_eq_true rfl) dL_law_629 ?_
      refine v_goto C 18 (by decide) dL_law_632 ?_
      refine v_loc [1, 2, 3, 0] rfl ?_
      exact ih (i + 3) _ hi3 hx3 M2 R pl dr hw hm h.2
    by_cases s_20 : xs (ix x3) &&& (31 : Int32) = (20 : Int32)
    · refine v_tin (off := 528) C 560 20 (by rw [s_20]; decide) (by decide) (by decide) (by decide) (by decide) dL_law_32 ?_
      have h := H.2.2.2.2.2.2.2.2.2.2.2.2.2.2.2.2.2.2.2.2.1 M pl dr (xs (ix (x3 + (1 : Int32)))) hrel
      refine v_aloadn C 1 rfl rfl dL_law_560 ?_
      refine v_aloadn C 0 rfl rfl dL_law_561 ?_
      refine v_iloadn C 3 rfl rfl dL_law_562 ?_
      refine v_iconst C kc_1 dL_law_563 ?_
      refine v_iadd C dL_law_564 ?_
      refine v_sld C hX hbl hbB hin1 dL_law_565 ?_
      refine v_cvI (As := [.int (xs (ix (x3 + (1 : Int32))))]) C mv_L_96 (con_X6_keep l S R pl dr (xs (ix (x3 + (1 : Int32)))) hw _ _ h) sh_0 (Nat.le_of_ble_eq_true rfl) rfl ⟨(Nat.le_of_ble_eq_true rfl), (Nat.le_of_ble_eq_true rfl)⟩ ⟨rfl, rfl, (Nat.le_of_ble_eq_true rfl), (Nat.le_of_ble_eq_true rfl)⟩ (Nat.le_of_ble_eq_true rfl) dL_law_566 (fun r M1 h => ?_)
      refine v_aloadn C 2 rfl rfl dL_law_569 ?_
      refine v_aloadn C 0 rfl rfl dL_law_570 ?_
      refine v_iloadn C 3 rfl rfl dL_law_571 ?_
      refine v_iconst C kc_1 dL_law_572 ?_
      refine v_iadd C dL_law_573 ?_
      refine v_sld C hX hbl hbB hin1 dL_law_574 ?_
      refine v_cvI (As := [.int (xs (ix (x3 + (1 : Int32))))]) C mv_L_99 (con_X7_keep l S R (xs (ix (x3 + (1 : Int32)))) hm _ _ h) sh_130 (Nat.le_of_ble_eq_true rfl) rfl ⟨(Nat.le_of_ble_eq_true rfl), (Nat.le_of_ble_eq_true rfl)⟩ ⟨rfl, rfl, (Nat.le_of_ble_eq_true rfl), (Nat.le_of_ble_eq_true rfl)⟩ (Nat.le_of_ble_eq_true rfl) dL_law_575 (fun q M2 h => ?_)
      refine v_icmp_eq C 629 (by decide) dL_law_578 (fun _ => ?_) (fun q => absurd h.1 q)
      refine v_iinc (lv' := [(3, .int (x3 + (3 : Int32))), (0, .ref b), (1, .ref (XB S + 0)), (2, .ref (XB S + 130))]) C 3 rfl kc_3 rfl rfl (Nat.le_of_ble_eq_true rfl) dL_law_629 ?_
      refine v_goto C 18 (by decide) dL_law_632 ?_
      refine v_loc [1, 2, 3, 0] rfl ?_
      exact ih (i + 3) _ hi3 hx3 M2 R pl dr hw hm h.2
    by_cases s_21 : xs (ix x3) &&& (31 : Int32) = (21 : Int32)
    · refine v_tin (off := 551) C 583 21 (by rw [s_21]; decide) (by decide) (by decide) (by decide) (by decide) dL_law_32 ?_
      have h := H.2.2.2.2.2.2.2.2.2.2.2.2.2.2.2.2.2.2.2.2.2.1 M pl dr (xs (ix (x3 + (1 : Int32)))) hrel
      refine v_aloadn C 1 rfl rfl dL_law_583 ?_
      refine v_aloadn C 0 rfl rfl dL_law_584 ?_
      refine v_iloadn C 3 rfl rfl dL_law_585 ?_
      refine v_iconst C kc_1 dL_law_586 ?_
      refine v_iadd C dL_law_587 ?_
      refine v_sld C hX hbl hbB hin1 dL_law_588 ?_
      refine v_cvI (As := [.int (xs (ix (x3 + (1 : Int32))))]) C mv_L_100 (con_X6_back l S R pl dr (xs (ix (x3 + (1 : Int32)))) hw _ _ h) sh_0 (Nat.le_of_ble_eq_true rfl) rfl ⟨(Nat.le_of_ble_eq_true rfl), (Nat.le_of_ble_eq_true rfl)⟩ ⟨rfl, rfl, (Nat.le_of_ble_eq_true rfl), (Nat.le_of_ble_eq_true rfl)⟩ (Nat.le_of_ble_eq_true rfl) dL_law_589 (fun r M1 h => ?_)
      refine v_aloadn C 2 rfl rfl dL_law_592 ?_
      refine v_aloadn C 0 rfl rfl dL_law_593 ?_
      refine v_iloadn C 3 rfl rfl dL_law_594 ?_
      refine v_iconst C kc_1 dL_law_595 ?_
      refine v_iadd C dL_law_596 ?_
      refine v_sld C hX hbl hbB hin1 dL_law_597 ?_
      refine v_cvI (As := [.int (xs (ix (x3 + (1 : Int32))))]) C mv_L_103 (con_X7_back l S R (xs (ix (x3 + (1 : Int32)))) hm _ _ h) sh_130 (Nat.le_of_ble_eq_true rfl) rfl ⟨(Nat.le_of_ble_eq_true rfl), (Nat.le_of_ble_eq_true rfl)⟩ ⟨rfl, rfl, (Nat.le_of_ble_eq_true rfl), (Nat.le_of_ble_eq_true rfl)⟩ (Nat.le_of_ble_eq_true rfl) dL_law_598 (fun q M2 h => ?_)
      refine v_icmp_eq C 629 (by decide) dL_law_601 (fun _ => ?_) (fun q => absurd h.1 q)
      refine v_iinc (lv' := [(3, .int (x3 + (3 : Int32))), (0, .ref b), (1, .ref (XB S + 0)), (2, .ref (XB S + 130))]) C 3 rfl kc_3 rfl rfl (Nat.le_of_ble_eq_true rfl) dL_law_629 ?_
      refine v_goto C 18 (by decide) dL_law_632 ?_
      refine v_loc [1, 2, 3, 0] rfl ?_
      exact ih (i + 3) _ hi3 hx3 M2 R pl dr hw hm h.2
    by_cases s_22 : xs (ix x3) &&& (31 : Int32) = (22 : Int32)
    · refine v_tin (off := 574) C 606 22 (by rw [s_22]; decide) (by decide) (by decide) (by decide) (by decide) dL_law_32 ?_
      have h := H.2.2.2.2.2.2.2.2.2.2.2.2.2.2.2.2.2.2.2.2.2.2 M pl dr (xs (ix (x3 + (1 : Int32)))) hrel
      refine v_aloadn C 1 rfl rfl dL_law_606 ?_
      refine v_aloadn C 0 rfl rfl dL_law_607 ?_
      refine v_iloadn C 3 rfl rfl dL_law_608 ?_
      refine v_iconst C kc_1 dL_law_609 ?_
      refine v_iadd C dL_law_610 ?_
      refine v_sld C hX hbl hbB hin1 dL_law_611 ?_
      refine v_cvI (As := [.int (xs (ix (x3 + (1 : Int32))))]) C mv_L_104 (con_X6_count l S R pl dr (xs (ix (x3 + (1 : Int32)))) hw _ _ h) sh_0 (Nat.le_of_ble_eq_true rfl) rfl ⟨(Nat.le_of_ble_eq_true rfl), (Nat.le_of_ble_eq_true rfl)⟩ ⟨rfl, rfl, (Nat.le_of_ble_eq_true rfl), (Nat.le_of_ble_eq_true rfl)⟩ (Nat.le_of_ble_eq_true rfl) dL_law_612 (fun r M1 h => ?_)
      refine v_aloadn C 2 rfl rfl dL_law_615 ?_
      refine v_aloadn C 0 rfl rfl dL_law_616 ?_
      refine v_iloadn C 3 rfl rfl dL_law_617 ?_
      refine v_iconst C kc_1 dL_law_618 ?_
      refine v_iadd C dL_law_619 ?_
      refine v_sld C hX hbl hbB hin1 dL_law_620 ?_
      refine v_cvI (As := [.int (xs (ix (x3 + (1 : Int32))))]) C mv_L_107 (con_X7_count l S R (xs (ix (x3 + (1 : Int32)))) hm _ _ h) sh_130 (Nat.le_of_ble_eq_true rfl) rfl ⟨(Nat.le_of_ble_eq_true rfl), (Nat.le_of_ble_eq_true rfl)⟩ ⟨rfl, rfl, (Nat.le_of_ble_eq_true rfl), (Nat.le_of_ble_eq_true rfl)⟩ (Nat.le_of_ble_eq_true rfl) dL_law_621 (fun q M2 h => ?_)
      refine v_icmp_eq C 629 (by decide) dL_law_624 (fun _ => ?_) (fun q => absurd h.1 q)
      refine v_iinc (lv' := [(3, .int (x3 + (3 : Int32))), (0, .ref b), (1, .ref (XB S + 0)), (2, .ref (XB S + 130))]) C 3 rfl kc_3 rfl rfl (Nat.le_of_ble_eq_true rfl) dL_law_629 ?_
      refine v_goto C 18 (by decide) dL_law_632 ?_
      refine v_loc [1, 2, 3, 0] rfl ?_
      exact ih (i + 3) _ hi3 hx3 M2 R pl dr hw hm h.2
    have t_0 := ne_ti 0 0 (by decide) s_0
    have t_1 := ne_ti 1 1 (by decide) s_1
    have t_2 := ne_ti 2 2 (by decide) s_2
    have t_3 := ne_ti 3 3 (by decide) s_3
    have t_4 := ne_ti 4 4 (by decide) s_4
    have t_5 := ne_ti 5 5 (by decide) s_5
    have t_6 := ne_ti 6 6 (by decide) s_6
    have t_7 := ne_ti 7 7 (by decide) s_7
    have t_8 := ne_ti 8 8 (by decide) s_8
    have t_9 := ne_ti 9 9 (by decide) s_9
    have t_10 := ne_ti 10 10 (by decide) s_10
    have t_11 := ne_ti 11 11 (by decide) s_11
    have t_12 := ne_ti 12 12 (by decide) s_12
    have t_13 := ne_ti 13 13 (by decide) s_13
    have t_14 := ne_ti 14 14 (by decide) s_14
    have t_15 := ne_ti 15 15 (by decide) s_15
    have t_16 := ne_ti 16 16 (by decide) s_16
    have t_17 := ne_ti 17 17 (by decide) s_17
    have t_18 := ne_ti 18 18 (by decide) s_18
    have t_19 := ne_ti 19 19 (by decide) s_19
    have t_20 := ne_ti 20 20 (by decide) s_20
    have t_21 := ne_ti 21 21 (by decide) s_21
    have t_22 := ne_ti 22 22 (by decide) s_22
    refine v_tout C 629 (by omega) (by decide) dL_law_32 ?_
    refine v_iinc (lv' := [(3, .int (x3 + (3 : Int32))), (0, .ref b), (1, .ref (XB S + 0)), (2, .ref (XB S + 130))]) C 3 rfl kc_3 rfl rfl (Nat.le_of_ble_eq_true rfl) dL_law_629 ?_
    refine v_goto C 18 (by decide) dL_law_632 ?_
    refine v_loc [1, 2, 3, 0] rfl ?_
    exact ih (i + 3) _ hi3 hx3 M R pl dr hw hm hrel
