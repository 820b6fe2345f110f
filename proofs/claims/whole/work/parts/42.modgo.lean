section MG
variable {P : PlanT} {M : Mem} {w : Row} {t k : Nat}
theorem gPrint_5 (hk : k < 4) : gPrint P t k w 5 = w 5 := by
  have b1 := ppl_ge k t
  have b2 := cpl_ge (t - Pwy P k)
  have e : gShift t k w 5 = w 5 := by unfold gShift; rw [upd_ne (by omega), upd_ne (by omega)]
  unfold gPrint
  split
  · unfold gErr; rw [upd_ne (by omega), upd_ne (by omega)]; exact e
  · exact e
theorem m_begins {K : Mem → Prop} {b o : Nat} (hP : MP P M) (hv : PV P) (ht : w 5 = nI t) (htb : t < 2 ^ 30) (ho : w 1 = nI o) (hol : o < Prl P) (hb : b ≤ 1) (h : K (sr M (gBegin P t (nI b) w))) : wp_X7_copyBegins (nI b) (sr M w) K := by
  obtain ⟨v1, v2, v3, -⟩ := hv
  have b1 := cpl_lt t
  have b2 := cpl_ge t
  have hsx := (hP.2.2.2.1 o hol).2
  unfold gBegin at h
  unfold wp_X7_copyBegins
  rw [sr_131, ht]
  refine m_copyPlace (by omega) ?_
  rw [ho, ix_nI (by omega)] at h
  generalize hq : cpl t = q at *
  have j0 := ixb (c := 0) 0 (k := q) (z := 349) rfl (by omega) (by decide)
  have j1 := ixb (c := 1) 1 (k := q) (z := 349) rfl (by omega) (by decide)
  have j2 := ixb (c := 2) 2 (k := q) (z := 349) rfl (by omega) (by decide)
  have j3 := ixb (c := 3) 3 (k := q) (z := 349) rfl (by omega) (by decide)
  have j4 := ixb (c := 4) 4 (k := q) (z := 349) rfl (by omega) (by decide)
  refine ⟨j0.1, ?_⟩
  rintro M2 rfl
  refine ⟨j1.1, ?_⟩
  rintro M3 rfl
  simp only [sr_131, mw_sr, j0.2, j1.2]
  have e6 : upd w (q + 0) 1 6 = w 6 := upd_ne (by omega)
  have e1 : upd (upd w (q + 0) 1) (q + 1) (w 6) 1 = nI o := by rw [upd_ne (by omega), upd_ne (by omega)]; exact ho
  simp only [e6, e1]
  refine ⟨vin (by omega) (by decide), j2.1, ?_⟩
  rintro M4 rfl
  simp only [mw_sr, j2.2, sr_ne (c := 141) (by decide), ix_nI (show o < 2 ^ 31 by omega), hsx]
  have tail : ∀ (bb : Int32), bb = nI b → wp_X7_copyBegins_69 K (nI q) bb (nI q + 3) (sr M (upd (upd (upd w (q + 0) 1) (q + 1) (w 6)) (q + 2) (Psx P o))) := by
    intro bb ebb
    refine ⟨j3.1, ?_⟩
    rintro M6 rfl
    refine ⟨j4.1, ?_⟩
    rintro M7 rfl
    simp only [mw_sr, j3.2, j4.2]
    have step : ∀ (k x : Nat) (w2 : Row), x < 4 → (L_X7_copyBegins_81 K k (nI q) (nI (x + 1)) (sr M (upd w2 (q + 5 + x) 0))) → L_X7_copyBegins_81 K (k + 1) (nI q) (nI x) (sr M w2) := by
      intro k x w2 hx hh
      have i5 := ixc (c := 5) 5 (k := q) (i := x) (z := 349) rfl (by omega) (by decide)
      refine ⟨fun c => ?_, fun c => ⟨i5.1, ?_⟩⟩
      · rw [lleN (by decide) (by omega)] at c
        have : 4 ≤ x := c
        omega
      · rintro M11 rfl
        rw [mw_sr, i5.2, nI_1]
        exact hh
    refine ⟨5, ?_⟩
    refine step 4 0 _ (by decide) (step 3 1 _ (by decide) (step 2 2 _ (by decide) (step 1 3 _ (by decide) ?_)))
    refine ⟨fun c => ?_, fun c => absurd (Int32.le_refl _) c⟩
    rintro M10 rfl
    rw [sr_131, mw_sr]
    have e7 : upd (upd (upd (upd (upd (upd (upd (upd (upd w (q + 0) 1) (q + 1) (w 6)) (q + 2) (Psx P o)) (q + 3) bb) (q + 4) 0) (q + 5 + 0) 0) (q + 5 + 1) 0) (q + 5 + 2) 0) (q + 5 + 3) 0 6 = w 6 := by
      rw [upd_ne (by omega), upd_ne (by omega), upd_ne (by omega), upd_ne (by omega), upd_ne (by omega), upd_ne (by omega), upd_ne (by omega), upd_ne (by omega), upd_ne (by omega)]
    rw [e7, ebb]
    exact h
  refine ⟨fun c => tail 0 ?_, fun c => tail 1 ?_⟩
  · rw [eq_z (by omega)] at c; subst c; rfl
  · rw [eq_z (by omega)] at c; rw [show b = 1 by omega]; rfl
theorem m_nextReel {K : Int32 → Mem → Prop} (hP : MP P M) (h : K (gNext P w) (sr M w)) : wp_X7_nextReel (sr M w) K := by
  unfold gNext at h
  unfold wp_X7_nextReel
  rw [sr_131, sr_ne (c := 130) (by decide), hP.2.1]
  refine ⟨fun c => ?_, fun c => ?_⟩
  · rw [if_pos c] at h; exact h
  · rw [if_neg c] at h; exact h
theorem m_goesOnReel {K : Mem → Prop} {o : Nat} (hP : MP P M) (hv : PV P) (ho : w 1 + 1 = nI o) (hol : o < Prl P) (h : K (sr M (gMount P w))) : wp_X7_goesOnReel (sr M w) K := by
  obtain ⟨v1, v2, v3, -⟩ := hv
  have hc := (hP.2.2.2.1 o hol).1
  unfold gMount at h
  unfold wp_X7_goesOnReel
  rw [ho, ix_nI (by omega)] at h
  rw [sr_131, ho]
  rintro M1 rfl
  simp only [mw_sr, sr_131, upd_at]
  refine ⟨vin (by omega) (by decide), ?_⟩
  rintro M2 rfl
  rintro M3 rfl
  simp only [mw_sr, sr_ne (c := 140) (by decide), ix_nI (show o < 2 ^ 31 by omega), hc]
  exact h
theorem m_waitOf {K : Int32 → Mem → Prop} (hP : MP P M) (hv : PV P) (hk : k < Pu P) (h : K (nI (Pwy P (Pu P - 1) - Pwy P k + Pey P)) (sr M w)) : wp_X7_waitOf (nI k) (sr M w) K := by
  obtain ⟨v1, v2, v3, v4, v5, v6, v7, v8, -⟩ := hv
  have h1 := (hP.2.2.1 k hk).2
  have h2 := (hP.2.2.1 (Pu P - 1) (by omega)).2
  have h3 := (v5 k hk).1
  unfold wp_X7_waitOf
  rw [sr_ne (c := 130) (by decide), sr_ne (c := 139) (by decide), sr_ne (c := 142) (by decide), hP.1, show nI (Pu P) - 1 = nI (Pu P - 1) from pk_sub v1, ix_nI (by omega), ix_nI (by omega), h1, h2, hP.2.2.2.2.1, pk_sub h3, nI_add]
  exact ⟨vin (by omega) (by decide), vin (by omega) (by decide), h⟩
theorem m_corr {K : Mem → Prop} {c : Int32} (hP : MP P M) (hv : PV P) (hk : k < Pu P) (ht : w 5 = nI t) (htb : t < 2 ^ 29) (h : K (sr M (gCorr P t k c w))) : wp_X7_correctedBy (nI k) c (sr M w) K := by
  have hv0 := hv
  obtain ⟨v1, v2, v3, v4, v5, v6, v7, v8, -⟩ := hv
  have i1 := ixa (c := 14) 14 (k := k) (z := 349) rfl (by omega) (by decide)
  have i2 := ixa (c := 18) 18 (k := k) (z := 349) rfl (by omega) (by decide)
  unfold wp_X7_correctedBy
  refine ⟨i1.1, i1.1, ?_⟩
  rintro M1 rfl
  simp only [mw_sr, sr_131, i1.2]
  refine m_waitOf hP hv0 hk ⟨i2.1, ?_⟩
  rintro M3 rfl
  simp only [mw_sr, sr_131, i2.2, sr_ne (c := 130) (show 130 ≠ 131 by decide), sr_ne (c := 138) (show 138 ≠ 131 by decide), hP.1]
  have e0 : upd (upd w (14 + k) (w (14 + k) + c)) (18 + k) (nI (Pwy P (Pu P - 1) - Pwy P k + Pey P)) = gCorr0 P k c w := rfl
  have e4 : gCorr0 P k c w 4 = w 4 := by unfold gCorr0; rw [upd_ne (by omega), upd_ne (by omega)]
  have e5 : gCorr0 P k c w 5 = nI t := by unfold gCorr0; rw [upd_ne (by omega), upd_ne (by omega)]; exact ht
  rw [e0, e4, e5]
  unfold gCorr at h
  refine ⟨fun c1 => ?_, fun c1 => ⟨fun c2 => ?_, fun c2 => ?_⟩⟩
  · rw [if_neg (fun z => c1 z.1)] at h; exact h
  · rw [nI_1, le_nI (by omega) (by omega)] at c2
    rw [if_neg (fun z => by omega)] at h; exact h
  · rw [nI_1, le_nI (by omega) (by omega)] at c2
    rw [if_pos ⟨c1, by omega⟩] at h
    have hk1 : k + 1 < Pu P := by omega
    have g1 := (hP.2.2.1 (k + 1) hk1).1
    have g2 := (v5 (k + 1) hk1).2
    have b1 := ppl_lt (x := k + 1) (y := t + 1 + Pgp P (k + 1)) (by omega)
    rw [nI_1, nI_1, ix_nI (by omega), g1, nI_add]
    refine ⟨vin (by omega) (by decide), m_passedPlace (by omega) ?_⟩
    have i6 := ixn (k := ppl (k + 1) (t + 1 + Pgp P (k + 1))) (z := 349) (by omega) (by decide)
    refine ⟨i6.1, i6.1, ?_⟩
    rintro M7 rfl
    rw [i6.2, sr_131, mw_sr]
    exact h
theorem m_adjL {K : Mem → Prop} (hP : MP P M) (hv : PV P) (htb : t < 2 ^ 29) : ∀ (n k : Nat) (w : Row), w 5 = nI t → k + n = Pu P → K (sr M (gAdjs P t n k w)) → L_X7_corrections_2 K (n + 1) (nI k) (sr M w) := by
  intro n
  induction n with
  | zero =>
    intro k w ht hk h
    have v2 := hv.2.1
    refine ⟨fun c => h, fun c => absurd ?_ c⟩
    rw [sr_ne (c := 130) (by decide), hP.1, le_nI (by omega) (by omega)]; omega
  | succ n ih =>
    intro k w ht hk h
    have v2 := hv.2.1
    have v1 := hv.1
    have i1 := ixa (c := 57) 57 (k := k) (z := 349) rfl (by omega) (by decide)
    have i2 := ixa (c := 18) 18 (k := k) (z := 349) rfl (by omega) (by decide)
    have hk1 : k < Pu P := by omega
    have h : K (sr M (gAdjs P t n (k + 1) (gAdj P t k w))) := h
    have e5 : gAdj P t k w 5 = nI t := by
      have b1 := ppl_ge (k + 1) (t + 1 + Pgp P (k + 1))
      have f : ∀ c, gCorr0 P k c w 5 = w 5 := fun c => by unfold gCorr0; rw [upd_ne (by omega), upd_ne (by omega)]
      unfold gAdj
      split
      · split
        · exact ht
        · split
          · unfold gCorr
            split
            · rw [upd_ne (by omega), f]; exact ht
            · rw [f]; exact ht
          · exact ht
      · rw [upd_ne (by omega)]; exact ht
    have go := ih (k + 1) (gAdj P t k w) e5 (by omega) h
    rw [show nI (k + 1) = nI k + 1 from (nI_1 k).symm] at go
    refine ⟨fun c => ?_, fun c => ⟨i1.1, i2.1, fun c2 => ?_, fun c2 => ?_⟩⟩
    · rw [sr_ne (c := 130) (by decide), hP.1, le_nI (by omega) (by omega)] at c; omega
    · rw [sr_131, i2.2] at c2
      unfold gAdj at go
      rw [if_pos c2] at go
      rw [sr_131, i1.2]
      refine m_size ⟨fun c3 => ?_, fun c3 => ⟨fun c4 => ?_, fun c4 => ?_⟩⟩
      · rw [sr_ne (c := 142) (by decide), hP.2.2.2.2.2.2.1] at c3
        rw [if_pos c3] at go
        exact go
      · rw [sr_ne (c := 142) (by decide), hP.2.2.2.2.2.2.1] at c3
        rw [sr_131] at c4
        rw [if_neg c3, if_neg c4] at go
        exact go
      · rw [sr_ne (c := 142) (by decide), hP.2.2.2.2.2.2.1] at c3
        rw [sr_131] at c4
        rw [if_neg c3, if_pos c4] at go
        refine m_corr hP hv hk1 ht htb go
    · rw [sr_131, i2.2] at c2
      unfold gAdj at go
      rw [if_neg c2] at go
      refine ⟨i2.1, i2.1, ?_⟩
      rintro M8 rfl
      rw [i2.2, sr_131, mw_sr]
      exact go
theorem m_adj {K : Mem → Prop} (hP : MP P M) (hv : PV P) (ht : w 5 = nI t) (htb : t < 2 ^ 29) (h : K (sr M (gAdjs P t (Pu P - 1) 1 w))) : wp_X7_corrections (sr M w) K :=
  ⟨Pu P - 1 + 1, m_adjL hP hv htb (Pu P - 1) 1 w ht (by have := hv.1; omega) h⟩
theorem m_worstL {K : Int32 → Mem → Prop} (hP : MP P M) (hv : PV P) : ∀ (n k : Nat) (x : Int32), k + n = Pu P → K (gWorst w n k x) (sr M w) → L_X7_worst_4 K (n + 1) x (nI k) (sr M w) := by
  intro n
  induction n with
  | zero =>
    intro k x hk h
    have v2 := hv.2.1
    refine ⟨fun c => h, fun c => absurd ?_ c⟩
    rw [sr_ne (c := 130) (by decide), hP.1, le_nI (by omega) (by omega)]; omega
  | succ n ih =>
    intro k x hk h
    have v2 := hv.2.1
    have i1 := ixa (c := 57) 57 (k := k) (z := 349) rfl (by omega) (by decide)
    have h : K (gWorst w n (k + 1) (gMx x (gsz (w (57 + k))))) (sr M w) := h
    refine ⟨fun c => ?_, fun c => ⟨i1.1, ?_⟩⟩
    · rw [sr_ne (c := 130) (by decide), hP.1, le_nI (by omega) (by omega)] at c; omega
    · rw [i1.2, sr_131]
      have go := ih (k + 1) _ (by omega) h
      rw [show nI (k + 1) = nI k + 1 from (nI_1 k).symm] at go
      refine m_size ⟨fun c2 => ?_, fun c2 => ?_⟩
      · unfold gMx at go; rw [if_pos c2] at go; exact go
      · unfold gMx at go; rw [if_neg c2] at go; exact go
theorem m_worst {K : Int32 → Mem → Prop} (hP : MP P M) (hv : PV P) (h : K (gWorst w (Pu P - 1) 1 0) (sr M w)) : wp_X7_worst (sr M w) K :=
  ⟨Pu P - 1 + 1, m_worstL hP hv (Pu P - 1) 1 0 (by have := hv.1; omega) h⟩
end MG
