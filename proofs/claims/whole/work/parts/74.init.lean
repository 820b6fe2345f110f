/-! at first -/
section IN
variable {M : Mem} {R : Rfs} {o n a k v : Nat}
def FZr (R : Rfs) (n : Nat) : Prop := ∀ c, n ≤ c → ∀ j, R c j = none
def FZm (M : Mem) (n : Nat) : Prop := ∀ c, n ≤ c → ∀ j, M c j = 0
theorem FZr.mr (h : FZr R n) (ha : a < n) : FZr (mr R a k v) n := fun c hc j => by rw [mr_ne (by omega)]; exact h c hc j
theorem FZr.mono (h : FZr R n) {n' : Nat} (hn : n ≤ n') : FZr R n' := fun c hc j => h c (by omega) j
theorem FZm.mono (h : FZm M n) {n' : Nat} (hn : n ≤ n') : FZm M n' := fun c hc j => h c (by omega) j
theorem zr_of (hm : FZm M n) (hr : FZr R n) {c : Nat} (h : n ≤ c) : ZR M R c := fun j => ⟨hm c h j, hr c h j⟩
def RPl (R : Rfs) (o : Nat) : Rfs := mr (mr (mr (mr R o 0 (o + 1)) o 1 (o + 2)) o 2 (o + 3)) o 3 (o + 4)
def RBd (R : Rfs) (b : Nat) : Rfs := mr (mr (mr (mr (mr R b 0 (b + 1)) b 1 (b + 2)) b 2 (b + 3)) b 3 (b + 4)) b 10 (b + 5)
def RPr (R : Rfs) (o : Nat) : Rfs := mr (RBd (RPl R o) (o + 5)) o 4 (o + 5)
theorem RPl_z (h : FZr R o) (hn : o < n) : FZr (RPl R o) n := ((((h.mono (by omega)).mr hn).mr hn).mr hn).mr hn
theorem RBd_z (h : FZr R o) (hn : o < n) : FZr (RBd R o) n := (((((h.mono (by omega)).mr hn).mr hn).mr hn).mr hn).mr hn
theorem RPr_z (h : FZr R o) (hn : o + 11 ≤ n) : FZr (RPr R o) n := (RBd_z (n := n) ((RPl_z h (show o < o + 5 by omega))) (by omega)).mr (by omega)
theorem RPl_ne {c : Nat} (h : c ≠ o) : RPl R o c = R c := by unfold RPl; rw [mr_ne h, mr_ne h, mr_ne h, mr_ne h]
theorem RPr_ne {c : Nat} (h : c ≠ o) (h2 : c ≠ o + 5) : RPr R o c = R c := by unfold RPr RBd; rw [mr_ne h, mr_ne h2, mr_ne h2, mr_ne h2, mr_ne h2, mr_ne h2, RPl_ne h]
theorem i_press {K : Mem → Rfs → Prop} (hm : FZm M o) (hr : FZr R o) (hK : K M (RPr R o)) : wp_X4_init o M R K := by
  have hm1 : FZm M (o + 1) := hm.mono (by omega)
  have r0 : FZr R (o + 1) := hr.mono (by omega)
  refine ⟨zr_of hm1 r0 (by omega), ?_⟩
  rintro R1 rfl
  have r1 := r0.mr (a := o) (k := 0) (v := o + 1) (by omega)
  refine ⟨zr_of hm1 r1 (by omega), ?_⟩
  rintro R2 rfl
  have r2 := r1.mr (a := o) (k := 1) (v := o + 2) (by omega)
  refine ⟨zr_of hm1 r2 (by omega), ?_⟩
  rintro R3 rfl
  have r3 := r2.mr (a := o) (k := 2) (v := o + 3) (by omega)
  refine ⟨zr_of hm1 r3 (by omega), ?_⟩
  rintro R4 rfl
  have r4 := r3.mr (a := o) (k := 3) (v := o + 4) (by omega)
  refine ⟨zr_of hm1 r4 (by omega), ?_⟩
  have m6 : FZm M (o + 6) := hm.mono (by omega)
  have s0 := r4.mono (show o + 1 ≤ o + 6 by omega)
  refine ⟨zr_of m6 s0 (by omega), ?_⟩
  rintro S1 rfl
  have s1 := s0.mr (a := o + 5) (k := 0) (v := o + 5 + 1) (by omega)
  refine ⟨zr_of m6 s1 (by omega), ?_⟩
  rintro S2 rfl
  have s2 := s1.mr (a := o + 5) (k := 1) (v := o + 5 + 2) (by omega)
  refine ⟨zr_of m6 s2 (by omega), ?_⟩
  rintro S3 rfl
  have s3 := s2.mr (a := o + 5) (k := 2) (v := o + 5 + 3) (by omega)
  refine ⟨zr_of m6 s3 (by omega), ?_⟩
  rintro S4 rfl
  have s4 := s3.mr (a := o + 5) (k := 3) (v := o + 5 + 4) (by omega)
  refine ⟨zr_of m6 s4 (by omega), ?_⟩
  rintro S5 rfl
  rintro S6 rfl
  exact hK
def MPl (M : Mem) (o : Nat) : Mem := mw (mw (mw (mw (mw (mw M o 4 1) o 5 0) o 6 3) o 7 3) o 8 1) o 9 5
theorem MPl_ne {c : Nat} (h : c ≠ o) : MPl M o c = M c := by unfold MPl; rw [mw_ne h, mw_ne h, mw_ne h, mw_ne h, mw_ne h, mw_ne h]
theorem i_plan {K : Mem → Rfs → Prop} (hm : FZm M (o + 1)) (hr : FZr R (o + 1)) (hp : isPlan (o + 5) (RPl R o) o) (hK : K (MPl M o) (RPl R o)) : wp_X3_init o M R K := by
  refine ⟨zr_of hm hr (by omega), ?_⟩
  rintro R1 rfl
  have r1 := hr.mr (a := o) (k := 0) (v := o + 1) (by omega)
  refine ⟨zr_of hm r1 (by omega), ?_⟩
  rintro R2 rfl
  have r2 := r1.mr (a := o) (k := 1) (v := o + 2) (by omega)
  refine ⟨zr_of hm r2 (by omega), ?_⟩
  rintro R3 rfl
  have r3 := r2.mr (a := o) (k := 2) (v := o + 3) (by omega)
  refine ⟨zr_of hm r3 (by omega), ?_⟩
  rintro R4 rfl
  refine ⟨hp, ?_⟩
  rintro M1 rfl
  rintro M2 rfl
  rintro M3 rfl
  rintro M4 rfl
  rintro M5 rfl
  rintro M6 rfl
  exact hK
theorem RPl_at : RPl R o o 0 = some (o + 1) ∧ RPl R o o 1 = some (o + 2) ∧ RPl R o o 2 = some (o + 3) ∧ RPl R o o 3 = some (o + 4) := by
  unfold RPl; simp [mr]
def RHs (R : Rfs) : Rfs := mr (RPr (mr (RPr (mr (RPr (mr (RPr (mr (RPr (mr (RPr (mr R 35 0 36) 37) 36 0 37) 48) 36 1 48) 59) 36 2 59) 70) 36 3 70) 81) 36 4 81) 92) 36 5 92
theorem i_hist {K : Mem → Rfs → Prop} (hm : FZm M 36) (hr : FZr R 36) (hK : K M (RHs R)) (hz : FZr (RHs R) 103 → True) : wp_X2_init M R K := by
  refine ⟨zr_of hm hr (by omega), ?_⟩
  rintro R1 rfl
  have e35 : mr R 35 0 36 35 0 = some 36 := by simp [mr]
  have z1 : FZr (mr R 35 0 36) 37 := (hr.mr (by omega)).mono (by omega)
  refine ⟨e35, zr_of (hm.mono (by omega)) z1 (by omega), i_press (hm.mono (by omega)) z1 ?_⟩
  rintro R3 rfl
  have z3 : FZr (mr (RPr (mr R 35 0 36) 37) 36 0 37) 48 := (RPr_z z1 (by omega)).mr (by omega)
  have q3 : mr (RPr (mr R 35 0 36) 37) 36 0 37 35 0 = some 36 := by rw [mr_ne (by decide), RPr_ne (by decide) (by decide)]; exact e35
  refine ⟨q3, zr_of (hm.mono (by omega)) z3 (by omega), i_press (hm.mono (by omega)) z3 ?_⟩
  rintro R5 rfl
  have z5 := (RPr_z (n := 59) z3 (by omega)).mr (a := 36) (k := 1) (v := 48) (by omega)
  have q5 : mr (RPr (mr (RPr (mr R 35 0 36) 37) 36 0 37) 48) 36 1 48 35 0 = some 36 := by rw [mr_ne (by decide), RPr_ne (by decide) (by decide)]; exact q3
  refine ⟨q5, zr_of (hm.mono (by omega)) z5 (by omega), i_press (hm.mono (by omega)) z5 ?_⟩
  rintro R7 rfl
  have z7 := (RPr_z (n := 70) z5 (by omega)).mr (a := 36) (k := 2) (v := 59) (by omega)
  have q7 : mr (RPr (mr (RPr (mr (RPr (mr R 35 0 36) 37) 36 0 37) 48) 36 1 48) 59) 36 2 59 35 0 = some 36 := by rw [mr_ne (by decide), RPr_ne (by decide) (by decide)]; exact q5
  refine ⟨q7, zr_of (hm.mono (by omega)) z7 (by omega), i_press (hm.mono (by omega)) z7 ?_⟩
  rintro R9 rfl
  have z9 := (RPr_z (n := 81) z7 (by omega)).mr (a := 36) (k := 3) (v := 70) (by omega)
  have q9 : mr (RPr (mr (RPr (mr (RPr (mr (RPr (mr R 35 0 36) 37) 36 0 37) 48) 36 1 48) 59) 36 2 59) 70) 36 3 70 35 0 = some 36 := by rw [mr_ne (by decide), RPr_ne (by decide) (by decide)]; exact q7
  refine ⟨q9, zr_of (hm.mono (by omega)) z9 (by omega), i_press (hm.mono (by omega)) z9 ?_⟩
  rintro R11 rfl
  have z11 := (RPr_z (n := 92) z9 (by omega)).mr (a := 36) (k := 4) (v := 81) (by omega)
  have q11 : mr (RPr (mr (RPr (mr (RPr (mr (RPr (mr (RPr (mr R 35 0 36) 37) 36 0 37) 48) 36 1 48) 59) 36 2 59) 70) 36 3 70) 81) 36 4 81 35 0 = some 36 := by rw [mr_ne (by decide), RPr_ne (by decide) (by decide)]; exact q9
  refine ⟨q11, zr_of (hm.mono (by omega)) z11 (by omega), i_press (hm.mono (by omega)) z11 ?_⟩
  rintro R13 rfl
  exact hK
theorem RHs_z (hr : FZr R 36) : FZr (RHs R) 103 := by
  have z1 : FZr (mr R 35 0 36) 37 := (hr.mr (by omega)).mono (by omega)
  have z3 := (RPr_z (n := 48) z1 (by omega)).mr (a := 36) (k := 0) (v := 37) (by omega)
  have z5 := (RPr_z (n := 59) z3 (by omega)).mr (a := 36) (k := 1) (v := 48) (by omega)
  have z7 := (RPr_z (n := 70) z5 (by omega)).mr (a := 36) (k := 2) (v := 59) (by omega)
  have z9 := (RPr_z (n := 81) z7 (by omega)).mr (a := 36) (k := 3) (v := 70) (by omega)
  have z11 := (RPr_z (n := 92) z9 (by omega)).mr (a := 36) (k := 4) (v := 81) (by omega)
  exact (RPr_z (n := 103) z11 (by omega)).mr (a := 36) (k := 5) (v := 92) (by omega)
theorem RHs_ne {c : Nat} (h : c < 35) : RHs R c = R c := by
  unfold RHs
  rw [mr_ne (by omega), RPr_ne (by omega) (by omega), mr_ne (by omega), RPr_ne (by omega) (by omega), mr_ne (by omega), RPr_ne (by omega) (by omega), mr_ne (by omega), RPr_ne (by omega) (by omega), mr_ne (by omega), RPr_ne (by omega) (by omega), mr_ne (by omega), RPr_ne (by omega) (by omega), mr_ne (by omega)]
def R00 : Rfs := fun _ _ => none
def M00 : Mem := fun _ _ => 0
def Ra : Rfs := mr (mr R00 1 0 2) 0 0 1
def Rb : Rfs := mr (RPl Ra 3) 0 1 3
def Rc : Rfs := mr (RPl Rb 8) 0 2 8
def Rd : Rfs := mr (RPr Rc 13) 0 3 13
def Re : Rfs := mr (RPr Rd 24) 0 4 24
def Rf : Rfs := mr (RHs Re) 0 5 35
def Rg : Rfs := mr (mr (mr (mr (mr Rf 0 6 103) 0 7 104) 105 0 106) 105 1 107) 0 8 105
def Rh : Rfs := mr (RPr Rg 108) 103 0 108
def Ri : Rfs := mr (RPr Rh 119) 103 1 119
def Mb : Mem := MPl (MPl M00 3) 8
theorem za : FZr Ra 3 := ((show FZr R00 3 from fun _ _ _ => rfl).mr (by omega)).mr (by omega)
theorem zb : FZr Rb 8 := (RPl_z (n := 8) za (by omega)).mr (by omega)
theorem zc : FZr Rc 13 := (RPl_z (n := 13) zb (by omega)).mr (by omega)
theorem zd : FZr Rd 24 := (RPr_z (n := 24) zc (by omega)).mr (by omega)
theorem ze : FZr Re 35 := (RPr_z (n := 35) zd (by omega)).mr (by omega)
theorem zf : FZr Rf 103 := (RHs_z (ze.mono (by omega))).mr (by omega)
theorem zg : FZr Rg 106 := ((((((zf.mono (show 103 ≤ 106 by omega)).mr (by omega)).mr (by omega)).mr (by omega)).mr (by omega)).mr (by omega))
theorem zh : FZr Rh 119 := (RPr_z (n := 119) (zg.mono (by omega)) (by omega)).mr (by omega)
theorem zi : FZr Ri 130 := (RPr_z (n := 130) zh (by omega)).mr (by omega)
theorem Mb_z : ∀ c, c ≠ 3 → c ≠ 8 → ∀ j, Mb c j = 0 := fun c c1 c2 j => by unfold Mb; rw [MPl_ne c2, MPl_ne c1]; rfl
/-- the places of the class, at the end -/
def Rm : Rfs := mr (mr (mr (mr (mr (mr (mr (mr (mr (mr (mr (mr (mr (mr (mr (mr (mr Ri 130 0 131) 130 1 132) 130 2 133) 130 4 134) 130 5 135) 130 6 136) 130 8 137) 130 11 138) 130 12 139) 130 14 140) 130 15 141) 130 16 142) 130 19 143) 130 20 144) 130 21 145) 130 22 146) 130 23 147
theorem Ri_0 : Ri 0 3 = some 13 ∧ Ri 0 1 = some 3 := by decide +kernel
theorem Rm_p13 : isPress 148 Rm 13 := by unfold isPress isBand; decide +kernel
theorem Rm_p24 : isPress 148 Rm 24 := by unfold isPress isBand; decide +kernel
theorem Rm_p37 : isPress 148 Rm 37 := by unfold isPress isBand; decide +kernel
theorem Rm_p48 : isPress 148 Rm 48 := by unfold isPress isBand; decide +kernel
theorem Rm_p59 : isPress 148 Rm 59 := by unfold isPress isBand; decide +kernel
theorem Rm_p70 : isPress 148 Rm 70 := by unfold isPress isBand; decide +kernel
theorem Rm_p81 : isPress 148 Rm 81 := by unfold isPress isBand; decide +kernel
theorem Rm_p92 : isPress 148 Rm 92 := by unfold isPress isBand; decide +kernel
theorem Rm_p108 : isPress 148 Rm 108 := by unfold isPress isBand; decide +kernel
theorem Rm_p119 : isPress 148 Rm 119 := by unfold isPress isBand; decide +kernel
theorem Rm_t : isText 148 Rm 1 := by unfold isText; decide +kernel
theorem Rm_pl3 : isPlan 148 Rm 3 := by unfold isPlan; decide +kernel
theorem Rm_pl8 : isPlan 148 Rm 8 := by unfold isPlan; decide +kernel
theorem Rm_cl : isClues 148 Rm 105 := by unfold isClues; decide +kernel
theorem Rm_36 : ∀ i, i < 6 → Rm 36 i = some (37 + 11 * i) := by decide +kernel
theorem Rm_103 : ∀ i, i < 2 → Rm 103 i = some (108 + 11 * i) := by decide +kernel
theorem Rm_h : isHist 148 Rm 35 := by
  refine ⟨by decide, by decide +kernel, by decide +kernel, by decide +kernel, fun i hi => ⟨Rm_36 i hi, ?_⟩⟩
  have : i = 0 ∨ i = 1 ∨ i = 2 ∨ i = 3 ∨ i = 4 ∨ i = 5 := by omega
  rcases this with rfl | rfl | rfl | rfl | rfl | rfl
  · exact Rm_p37
  · exact Rm_p48
  · exact Rm_p59
  · exact Rm_p70
  · exact Rm_p81
  · exact Rm_p92
theorem Rm_sw : isSW Rm 3 8 := by
  refine ⟨by decide +kernel, by decide +kernel, by decide +kernel, by decide +kernel, by decide +kernel, by decide +kernel, by decide +kernel, by decide +kernel, by decide +kernel, Rm_t, Rm_pl3, Rm_pl8, Rm_p13, Rm_p24, Rm_h, Rm_cl, fun i hi => ⟨Rm_103 i hi, ?_⟩⟩
  have : i = 0 ∨ i = 1 := by omega
  rcases this with rfl | rfl
  · exact Rm_p108
  · exact Rm_p119
theorem Rm_mod : isMod Rm := by unfold isMod; decide +kernel
theorem Ri_pr : isPress 130 Ri 13 ∧ isPlan 130 Ri 3 := by unfold isPlan isPress isBand; decide +kernel
theorem Ra_pl : isPlan (3 + 5) (RPl Ra 3) 3 := by unfold isPlan; decide +kernel
theorem Rb_pl : isPlan (8 + 5) (RPl Rb 8) 8 := by unfold isPlan; decide +kernel
theorem Rg_0 : Rg 0 6 = some 103 ∧ Rh 0 6 = some 103 := by decide +kernel
theorem Mb_3 : Mb 3 4 = 1 ∧ Mb 3 5 = 0 ∧ Mb 3 6 = 3 ∧ Mb 3 7 = 3 ∧ Mb 3 8 = 1 ∧ Mb 3 9 = 5 := by decide +kernel
def P00 : PlanT := (1, 0, fun _ => 0, fun _ => 0, fun _ => 0, fun _ => 0, 3, 3, 1, 5)
theorem P00_v : PV P00 := ⟨by decide, by decide, by decide, rfl, fun k hk => ⟨Nat.le_refl _, by show 0 ≤ 6; omega⟩, by decide, by decide, by decide, by decide, by decide, by decide⟩
theorem law_init : LawInit Rel := by
  have z0 : FZm M00 0 := fun _ _ _ => rfl
  have r0 : FZr R00 0 := fun _ _ _ => rfl
  refine ⟨zr_of z0 r0 (by omega), zr_of z0 r0 (by omega), ?_⟩
  rintro R1 rfl
  rintro R2 rfl
  refine ⟨zr_of (z0.mono (Nat.zero_le 3)) za (by omega), i_plan (z0.mono (by omega)) (za.mono (by omega)) Ra_pl ?_⟩
  rintro R4 rfl
  have z1 : FZm (MPl M00 3) 4 := fun c hc j => by rw [MPl_ne (by omega)]; rfl
  refine ⟨zr_of (z1.mono (show 4 ≤ 8 by omega)) zb (by omega), i_plan (z1.mono (by omega)) (zb.mono (by omega)) Rb_pl ?_⟩
  rintro R6 rfl
  have z2 : FZm Mb 9 := fun c hc j => Mb_z c (by omega) (by omega) j
  refine ⟨zr_of (z2.mono (show 9 ≤ 13 by omega)) zc (by omega), i_press (z2.mono (by omega)) zc ?_⟩
  rintro R8 rfl
  refine ⟨zr_of (z2.mono (show 9 ≤ 24 by omega)) zd (by omega), i_press (z2.mono (by omega)) zd ?_⟩
  rintro R10 rfl
  refine ⟨zr_of (z2.mono (show 9 ≤ 35 by omega)) ze (by omega), i_hist (z2.mono (by omega)) (ze.mono (by omega)) ?_ (fun _ => trivial)⟩
  rintro R12 rfl
  refine ⟨zr_of (z2.mono (show 9 ≤ 103 by omega)) zf (by omega), ?_⟩
  rintro R13 rfl
  have zf1 := (zf.mono (show 103 ≤ 104 by omega)).mr (a := 0) (k := 6) (v := 103) (by omega)
  refine ⟨zr_of (z2.mono (show 9 ≤ 104 by omega)) zf1 (by omega), ?_⟩
  rintro R14 rfl
  have zf2 := (zf1.mono (show 104 ≤ 105 by omega)).mr (a := 0) (k := 7) (v := 104) (by omega)
  refine ⟨zr_of (z2.mono (show 9 ≤ 105 by omega)) zf2 (by omega), zr_of (z2.mono (show 9 ≤ 105 by omega)) zf2 (by omega), ?_⟩
  rintro R15 rfl
  have zf3 := (zf2.mono (show 105 ≤ 106 by omega)).mr (a := 105) (k := 0) (v := 106) (by omega)
  refine ⟨zr_of (z2.mono (show 9 ≤ 106 by omega)) zf3 (by omega), ?_⟩
  rintro R16 rfl
  rintro R17 rfl
  refine ⟨Rg_0.1, zr_of (z2.mono (show 9 ≤ 106 by omega)) zg (by omega), i_press (z2.mono (by omega)) (zg.mono (by omega)) ?_⟩
  rintro R18 rfl
  refine ⟨Rg_0.2, zr_of (z2.mono (show 9 ≤ 119 by omega)) zh (by omega), i_press (z2.mono (by omega)) zh ?_⟩
  rintro R20 rfl
  refine ⟨Ri_0.1, Ri_0.2, Ri_pr, c_first (by omega) ?_⟩
  intro M21 f21 c21
  have z21 : FZm M21 24 := fun c hc j => by rw [f21 c (by omega)]; exact Mb_z c (by omega) (by omega) j
  have m130 : FZm M21 130 := z21.mono (by omega)
  refine ⟨zr_of m130 zi (by omega), ?_⟩
  have w0 : FZr Ri 131 := zi.mono (by omega)
  have m131 : FZm M21 131 := z21.mono (by omega)
  refine ⟨zr_of m131 w0 (by omega), ?_⟩
  rintro R1 rfl
  have w1 := w0.mr (a := 130) (k := 0) (v := 131) (by omega)
  refine ⟨zr_of m131 w1 (by omega), ?_⟩
  rintro R2 rfl
  have w2 := w1.mr (a := 130) (k := 1) (v := 132) (by omega)
  refine ⟨zr_of m131 w2 (by omega), ?_⟩
  rintro R3 rfl
  have w3 := w2.mr (a := 130) (k := 2) (v := 133) (by omega)
  refine ⟨zr_of m131 w3 (by omega), ?_⟩
  rintro R4 rfl
  have w4 := w3.mr (a := 130) (k := 4) (v := 134) (by omega)
  refine ⟨zr_of m131 w4 (by omega), ?_⟩
  rintro R5 rfl
  have w5 := w4.mr (a := 130) (k := 5) (v := 135) (by omega)
  refine ⟨zr_of m131 w5 (by omega), ?_⟩
  rintro R6 rfl
  have w6 := w5.mr (a := 130) (k := 6) (v := 136) (by omega)
  refine ⟨zr_of m131 w6 (by omega), ?_⟩
  rintro R7 rfl
  have w7 := w6.mr (a := 130) (k := 8) (v := 137) (by omega)
  refine ⟨zr_of m131 w7 (by omega), ?_⟩
  rintro R8 rfl
  have w8 := w7.mr (a := 130) (k := 11) (v := 138) (by omega)
  refine ⟨zr_of m131 w8 (by omega), ?_⟩
  rintro R9 rfl
  have w9 := w8.mr (a := 130) (k := 12) (v := 139) (by omega)
  refine ⟨zr_of m131 w9 (by omega), ?_⟩
  rintro R10 rfl
  have w10 := w9.mr (a := 130) (k := 14) (v := 140) (by omega)
  refine ⟨zr_of m131 w10 (by omega), ?_⟩
  rintro R11 rfl
  have w11 := w10.mr (a := 130) (k := 15) (v := 141) (by omega)
  refine ⟨zr_of m131 w11 (by omega), ?_⟩
  rintro R12 rfl
  have w12 := w11.mr (a := 130) (k := 16) (v := 142) (by omega)
  refine ⟨zr_of m131 w12 (by omega), ?_⟩
  rintro R13 rfl
  have w13 := w12.mr (a := 130) (k := 19) (v := 143) (by omega)
  refine ⟨zr_of m131 w13 (by omega), ?_⟩
  rintro R14 rfl
  have w14 := w13.mr (a := 130) (k := 20) (v := 144) (by omega)
  refine ⟨zr_of m131 w14 (by omega), ?_⟩
  rintro R15 rfl
  have w15 := w14.mr (a := 130) (k := 21) (v := 145) (by omega)
  refine ⟨zr_of m131 w15 (by omega), ?_⟩
  rintro R16 rfl
  have w16 := w15.mr (a := 130) (k := 22) (v := 146) (by omega)
  refine ⟨zr_of m131 w16 (by omega), ?_⟩
  rintro R17 rfl
  refine ⟨Rm_mod, m_begin ⟨Rm_mod, ?_⟩⟩
  have e17 : Nbg M21 130 17 = nI 1 := by
    unfold Nbg N6
    rw [if_neg (by omega), mw_ne (by decide), mw_ne (by decide), mw_ne (by decide), mw_ne (by decide), mw_k (by decide), mw_at]; rfl
  have e18 : Nbg M21 130 18 = nI 0 := by
    unfold Nbg N6
    rw [if_neg (by omega), mw_ne (by decide), mw_ne (by decide), mw_ne (by decide), mw_ne (by decide), mw_at]; rfl
  have n146 : ∀ i, Nbg M21 146 i = if i = 3 then 5 else if i = 2 then 1 else if i = 1 then 3 else if i = 0 then 3 else M21 146 i := fun i => by
    unfold Nbg N6
    rw [if_neg (by omega)]
    simp [mw]
  refine m_takes (u := 1) (r := 0) (by omega) e17 e18 ?_
  intro Z tk e130
  obtain ⟨t1, t2, t3, t4, t5, t6⟩ := tk
  have lo : ∀ c, c < 130 → Z c = M21 c := fun c hc => by rw [t1 c (by omega) (by omega) (by omega) (by omega), Nbg_low hc]
  have lz : ∀ c, c < 130 → c ≠ 3 → c ≠ 8 → (c < 13 ∨ 24 ≤ c) → ∀ j, Z c j = 0 := fun c c1 c2 c3 c4 j => by rw [lo c c1, f21 c (by omega)]; exact Mb_z c c2 c3 j
  refine ⟨3, 8, Rm_sw, Rm_mod, P00, P00_v, ?_, ?_, Or.inl ⟨rfl, rfl⟩, ?_, ?_, ?_, ?_, ?_, ?_⟩
  · refine ⟨t2.1, t2.2.1, fun k hk => ?_, fun k hk => absurd hk (Nat.not_lt_zero k), ?_, ?_, ?_, ?_⟩
    · have hk : k < 1 := hk
      have : k = 0 := by omega
      subst this
      exact ⟨(t4 0 (by omega)).1, (t4 0 (by omega)).2.1⟩
    · rw [(t4 0 (by omega)).2.2, n146]; rfl
    · rw [(t4 1 (by omega)).2.2, n146]; rfl
    · rw [(t4 2 (by omega)).2.2, n146]; rfl
    · rw [(t4 3 (by omega)).2.2, n146]; rfl
  · have c3 : Z 3 = Mb 3 := by rw [lo 3 (by omega), f21 3 (by omega)]; rfl
    obtain ⟨p1, p2, p3, p4, p5, p6⟩ := Mb_3
    refine ⟨by rw [c3]; exact p1, by rw [c3]; exact p2, by rw [c3]; exact p3, by rw [c3]; exact p4, by rw [c3]; exact p5, by rw [c3]; exact p6, fun k hk => ?_, fun k hk => absurd hk (Nat.not_lt_zero k)⟩
    exact ⟨lz 4 (by omega) (by omega) (by omega) (by omega) k, lz 5 (by omega) (by omega) (by omega) (by omega) k⟩
  · have hw1 : W1 P00 (Z 131) := ⟨t6.1, t6.2.1, t6.2.2.1, fun z => absurd rfl z, t6.2.2.2.2⟩
    refine PT_cells (PT_first P00_v hw1 c21 Mb_3.2.1 (fun z => absurd rfl z) (Or.inl (Mb_z 18 (by omega) (by omega) 8)) (Or.inl (Mb_z 18 (by omega) (by omega) 9))) (fun j hj => lo _ (by omega))
  · exact ⟨0, 0, by omega, by omega, lz 35 (by omega) (by omega) (by omega) (by omega) 1, lz 35 (by omega) (by omega) (by omega) (by omega) 2, t2.2.2.1, fun i hi => by omega⟩
  · intro j hj
    have e1 : Z 104 j = 0 := lz 104 (by omega) (by omega) (by omega) (by omega) j
    have e2 : Z 135 j = 0 := by
      have : j = 0 ∨ j = 1 := by omega
      rcases this with rfl | rfl
      · exact t3.1
      · exact t3.2
    rw [e1, e2]
    exact ⟨rfl, isB0, fun z => absurd z (by decide)⟩
  · refine ⟨0, by omega, lz 1 (by omega) (by omega) (by omega) (by omega) 1, ?_, fun j hj => by omega⟩
    rw [e130 7 (by decide) (by decide) (by decide) (by decide), FN_bg.2 7 (by decide) (by decide)]
    exact z21 130 (by omega) 7
  · exact ⟨0, by omega, lz 105 (by omega) (by omega) (by omega) (by omega) 2, t2.2.2.2, fun j hj => by omega⟩
  · exact ⟨lz 4 (by omega) (by omega) (by omega) (by omega) 0, lz 5 (by omega) (by omega) (by omega) (by omega) 0, lz 9 (by omega) (by omega) (by omega) (by omega) 0, lz 10 (by omega) (by omega) (by omega) (by omega) 0⟩
end IN
