theorem vin_lt {i : Int32} {z : Nat} (h : vp_in i z) : ix i < z := Nat.not_le.mp fun q => h (Or.inr q)
theorem ne_ti {x : Int32} (v : Int32) (k : Int) (hv : v.toInt = k) (h : ¬ x = v) : x.toInt ≠ k := fun q => h (Int32.toInt_inj.mp (q.trans hv.symm))
def swp (R : Rfs) (pl dr : Nat) : Rfs := mr (mr R 0 1 dr) 0 2 pl
section V3
variable {p : Program} {l : Launch} {e : Env} {Rm : Room} {s : State} {m : MethodId} {args : Array Value} {below : List Frame} {meth : Method} {c : Code} {Q : State → Prop}
variable {cc : ByteArray} {own : String} {nL cells slots n pc : Nat} {S : XS} {M : Mem} {R : Rfs} {lv lv' : List (Nat × Value)} {st : List Value}
theorem v_tin (C : Cx p m meth c s args cc own nL S) {dflt lo hi : Int} {offs : Array Int} {len : Nat} {x : Int32} {off : Int} (tgt : Nat) (k : Int) (hx : x.toInt = k) (h1 : ¬ k < lo) (h2 : ¬ hi < k) (ho : offs[(k - lo).toNat]? = some off) (ht : (pc : Int) + off = (tgt : Int)) (hd : decode cc pc = .ok (.tableswitch dflt lo hi offs, len)) (kk : V p l e Rm s m args below meth c Q S nL cells slots n M R tgt lv st) : V p l e Rm s m args below meth c Q S nL cells slots n M R pc lv (.int x :: st) :=
  fun H locs ls hP hS h => lv_tableIn C.1.1 C.1.2.1 hd (by rw [hx]; exact h1) (by rw [hx]; exact h2) (by rw [hx]; exact ho) ht (kk H locs ls hP hS h)
theorem v_tout (C : Cx p m meth c s args cc own nL S) {dflt lo hi : Int} {offs : Array Int} {len : Nat} {x : Int32} (tgt : Nat) (hx : x.toInt < lo ∨ hi < x.toInt) (ht : (pc : Int) + dflt = (tgt : Int)) (hd : decode cc pc = .ok (.tableswitch dflt lo hi offs, len)) (kk : V p l e Rm s m args below meth c Q S nL cells slots n M R tgt lv st) : V p l e Rm s m args below meth c Q S nL cells slots n M R pc lv (.int x :: st) :=
  fun H locs ls hP hS h => lv_tableOut C.1.1 C.1.2.1 hd hx ht (kk H locs ls hP hS h)
theorem v_lkup (C : Cx p m meth c s args cc own nL S) {dflt : Int} {ps : Array (Int × Int)} {len : Nat} {x : Int32} {off : Int} (tgt : Nat) (hp : (ps.toList.zip (ps.toList.drop 1)).all (fun (a, next) => a.1 < next.1) = true) (ho : Op.lookupswitch.offset ps.toList dflt x.toInt = off) (ht : (pc : Int) + off = (tgt : Int)) (hd : decode cc pc = .ok (.lookupswitch dflt ps, len)) (kk : V p l e Rm s m args below meth c Q S nL cells slots n M R tgt lv st) : V p l e Rm s m args below meth c Q S nL cells slots n M R pc lv (.int x :: st) :=
  fun H locs ls hP hS h => lv_lookup C.1.1 C.1.2.1 hd hp ho ht (kk H locs ls hP hS h)
theorem v_mabs (C : Cx p m meth c s args cc own nL S) {idx : Nat} {x : Int32} (row : Cond.methodLink own idx Lib.Math.abs.name ∈ LG ∧ Cond.static Lib.Math.abs.name ∈ LG ∧ Cond.initialized "java/lang/Math" ∈ LG ∧ Cond.code Lib.Math.abs.name Lib.Math.abs.code 1 (some .int) ∈ LG) (hfr : 1 ≤ Rm.frames) (hlo : (st.map fun v => v.category).sum + 13 ≤ Rm.locals) (hc : cells ≤ Rm.cells) (hsl : slots ≤ Rm.slots) (hd : decode cc pc = .ok (.invokestatic idx, 3)) (kk : V p l e Rm s m args below meth c Q S nL cells slots n M R (pc + 3) lv (.int (if 0 ≤ x then x else 0 - x) :: st)) : V p l e Rm s m args below meth c Q S nL cells slots n M R pc lv (.int x :: st) :=
  fun H locs ls hP hS h => va_mabs C.1.1 C.1.2.1 (C.1.2.2.1.trans h.1.symm) C.1.2.2.2.1 (C.1.2.2.2.2 _ row.1) (C.1.2.2.2.2 _ row.2.1) (C.1.2.2.2.2 _ row.2.2.1) (C.1.2.2.2.2 _ row.2.2.2) hfr hlo hc hsl hd (kk H locs ls hP hS h)
theorem v_mmax (C : Cx p m meth c s args cc own nL S) {idx : Nat} {x y : Int32} (row : Cond.methodLink own idx Lib.Math.max.name ∈ LG ∧ Cond.static Lib.Math.max.name ∈ LG ∧ Cond.initialized "java/lang/Math" ∈ LG ∧ Cond.code Lib.Math.max.name Lib.Math.max.code 2 (some .int) ∈ LG) (hfr : 1 ≤ Rm.frames) (hlo : (st.map fun v => v.category).sum + 13 ≤ Rm.locals) (hc : cells ≤ Rm.cells) (hsl : slots ≤ Rm.slots) (hd : decode cc pc = .ok (.invokestatic idx, 3)) (kk : V p l e Rm s m args below meth c Q S nL cells slots n M R (pc + 3) lv (.int (if x < y then y else x) :: st)) : V p l e Rm s m args below meth c Q S nL cells slots n M R pc lv (.int y :: .int x :: st) :=
  fun H locs ls hP hS h => va_mmax C.1.1 C.1.2.1 (C.1.2.2.1.trans h.1.symm) C.1.2.2.2.1 (C.1.2.2.2.2 _ row.1) (C.1.2.2.2.2 _ row.2.1) (C.1.2.2.2.2 _ row.2.2.1) (C.1.2.2.2.2 _ row.2.2.2) hfr hlo hc hsl hd (kk H locs ls hP hS h)
theorem v_mmin (C : Cx p m meth c s args cc own nL S) {idx : Nat} {x y : Int32} (row : Cond.methodLink own idx Lib.Math.min.name ∈ LG ∧ Cond.static Lib.Math.min.name ∈ LG ∧ Cond.initialized "java/lang/Math" ∈ LG ∧ Cond.code Lib.Math.min.name Lib.Math.min.code 2 (some .int) ∈ LG) (hfr : 1 ≤ Rm.frames) (hlo : (st.map fun v => v.category).sum + 13 ≤ Rm.locals) (hc : cells ≤ Rm.cells) (hsl : slots ≤ Rm.slots) (hd : decode cc pc = .ok (.invokestatic idx, 3)) (kk : V p l e Rm s m args below meth c Q S nL cells slots n M R (pc + 3) lv (.int (if y < x then y else x) :: st)) : V p l e Rm s m args below meth c Q S nL cells slots n M R pc lv (.int y :: .int x :: st) :=
  fun H locs ls hP hS h => va_mmin C.1.1 C.1.2.1 (C.1.2.2.1.trans h.1.symm) C.1.2.2.2.1 (C.1.2.2.2.2 _ row.1) (C.1.2.2.2.2 _ row.2.1) (C.1.2.2.2.2 _ row.2.2.1) (C.1.2.2.2.2 _ row.2.2.2) hfr hlo hc hsl hd (kk H locs ls hP hS h)
end V3
theorem isBand_mr {n b k v : Nat} {R : Rfs} (h : isBand n R b) (hb : 0 < b) : isBand n (mr R 0 k v) b := by
  have e : ∀ j, mr R 0 k v b j = R b j := fun j => congrFun (mr_ne (by omega)) j
  unfold isBand at *
  simp only [e]; exact h
theorem isClues_mr {n b k v : Nat} {R : Rfs} (h : isClues n R b) (hb : 0 < b) : isClues n (mr R 0 k v) b := by
  have e : ∀ j, mr R 0 k v b j = R b j := fun j => congrFun (mr_ne (by omega)) j
  unfold isClues at *
  simp only [e]; exact h
theorem isPlan_mr {n b k v : Nat} {R : Rfs} (h : isPlan n R b) (hb : 0 < b) : isPlan n (mr R 0 k v) b := by
  have e : ∀ j, mr R 0 k v b j = R b j := fun j => congrFun (mr_ne (by omega)) j
  unfold isPlan at *
  simp only [e]; exact h
theorem isText_mr {n b k v : Nat} {R : Rfs} (h : isText n R b) (hb : 0 < b) : isText n (mr R 0 k v) b := by
  have e : ∀ j, mr R 0 k v b j = R b j := fun j => congrFun (mr_ne (by omega)) j
  unfold isText at *
  simp only [e]; exact h
theorem isPress_mr {n b k v : Nat} {R : Rfs} (h : isPress n R b) (hb : 0 < b) : isPress n (mr R 0 k v) b := by
  have e : ∀ j, mr R 0 k v b j = R b j := fun j => congrFun (mr_ne (by omega)) j
  have hx := isBand_mr (k := k) (v := v) (iPress_x h) (by omega)
  unfold isPress at *
  simp only [e]
  obtain ⟨a1, a2, a3, a4, a5, a6, a7, a8, a9, a10, a11, -⟩ := h
  exact ⟨a1, a2, a3, a4, a5, a6, a7, a8, a9, a10, a11, hx⟩
theorem isHist_mr {n b k v : Nat} {R : Rfs} (h : isHist n R b) (hb : 0 < b) : isHist n (mr R 0 k v) b := by
  have e : ∀ j, mr R 0 k v b j = R b j := fun j => congrFun (mr_ne (by omega)) j
  have e1 : ∀ j, mr R 0 k v (b + 1) j = R (b + 1) j := fun j => congrFun (mr_ne (by omega)) j
  unfold isHist at *
  simp only [e, e1]
  obtain ⟨a1, a2, a3, a4, a5⟩ := h
  exact ⟨a1, a2, a3, a4, fun i hi => ⟨(a5 i hi).1, isPress_mr (a5 i hi).2 (by omega)⟩⟩
theorem isPlan_pos {R : Rfs} {b : Nat} (h : isPlan 148 R b) : 0 < b := by
  rcases Nat.eq_zero_or_pos b with rfl | h1
  · exact absurd ((iPlan_s0 h).symm.trans sh_0) (by decide)
  · exact h1
theorem isSW_swap {R R1 R2 : Rfs} {pl dr : Nat} (h : isSW R pl dr) (e1 : R1 = mr R 0 1 dr) (e2 : R2 = mr R1 0 2 pl) : isSW R2 dr pl := by
  subst e1; subst e2
  have f : ∀ c j, c ≠ 0 → mr (mr R 0 1 dr) 0 2 pl c j = R c j := fun c j hc => by rw [mr_ne hc, mr_ne hc]
  have g : ∀ j, j ≠ 1 → j ≠ 2 → mr (mr R 0 1 dr) 0 2 pl 0 j = R 0 j := fun j h1 h2 => by simp [mr, h1, h2]
  have hp := isPlan_pos (iSW_plan h)
  have hd := isPlan_pos (iSW_draft h)
  refine ⟨by rw [g 0 (by decide) (by decide)]; exact iSW_r0 h, by simp [mr], by simp [mr], by rw [g 3 (by decide) (by decide)]; exact iSW_r3 h, by rw [g 4 (by decide) (by decide)]; exact iSW_r4 h, by rw [g 5 (by decide) (by decide)]; exact iSW_r5 h, by rw [g 6 (by decide) (by decide)]; exact iSW_r6 h, by rw [g 7 (by decide) (by decide)]; exact iSW_r7 h, by rw [g 8 (by decide) (by decide)]; exact iSW_r8 h, ?_, ?_, ?_, ?_, ?_, ?_, ?_, ?_⟩
  · exact isText_mr (isText_mr (iSW_text h) (by decide)) (by decide)
  · exact isPlan_mr (isPlan_mr (iSW_draft h) hd) hd
  · exact isPlan_mr (isPlan_mr (iSW_plan h) hp) hp
  · exact isPress_mr (isPress_mr (iSW_press h) (by decide)) (by decide)
  · exact isPress_mr (isPress_mr (iSW_trial h) (by decide)) (by decide)
  · exact isHist_mr (isHist_mr (iSW_hist h) (by decide)) (by decide)
  · exact isClues_mr (isClues_mr (iSW_clues h) (by decide)) (by decide)
  · intro i hi
    rw [f 103 i (by decide)]
    exact ⟨(iSW_img h i hi).1, isPress_mr (isPress_mr (iSW_img h i hi).2 (by omega)) (by omega)⟩
