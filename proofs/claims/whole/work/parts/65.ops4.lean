section O4
variable {P : PlanT} {M X Z N : Mem} {p q pl dr u k : Nat} {w : Row} {T t g U : Nat} {f f' : Nat → Nat} {hc : Prop}
/-- a copy came: the class's errors are the row's, and none beyond the units -/
def CF (P : PlanT) (M : Mem) (p : Nat) (w : Row) : Prop := (∀ i, i < 4 → M (p + 10) i = w (57 + i)) ∧ ∀ i, i < 4 → Pu P ≤ i → w (57 + i) = 0
theorem gAdjs_hi (hv : Pu P ≤ 4) {j : Nat} (hj : 54 ≤ j) : ∀ (n k : Nat) (w : Row), k + n ≤ 4 → gAdjs P t n k w j = w j
  | 0, _, _, _ => rfl
  | n + 1, k, w, h => by
    show gAdjs P t n (k + 1) (gAdj P t k w) j = w j
    rw [gAdjs_hi hv hj n (k + 1) _ (by omega)]
    have f : ∀ c, gCorr0 P k c w j = w j := fun c => by unfold gCorr0; rw [upd_ne (by omega), upd_ne (by omega)]
    unfold gAdj
    split
    · split
      · rfl
      · split
        · unfold gCorr
          split
          · rename_i z
            have hp : k + 1 < 4 := by omega
            rw [upd_ne (by have := ppl_lt (y := t + 1 + Pgp P (k + 1)) hp; omega), f]
          · rw [f]
        · rfl
    · rw [upd_ne (by omega)]
theorem gSeen_57 {i : Nat} (hi : i < 4) : gSeen P t w (57 + i) = w (cpl (t - PF P) + 5 + i) := by
  unfold gSeen gJudge
  rw [upd_ne (by omega), upd_ne (by omega), upd_ne (by omega), gLast_57 (cpl_ge _) hi]
theorem c_B1 {K : Int32 → Mem → Prop} {b o : Nat} {lf : Int32} (h : PR P M p w (t + 1) t g U (Pwy P) hc) (hv : PV P) (hP : CP P M q) (hd : q + 5 ≤ p ∨ p + 11 ≤ q) (hU : U ≤ PF P) (hb : b ≤ 1) (ho : o < Prl P) (how : w 1 = nI o) (e7 : M p 7 = w 3)
    (hK : ∀ M', PS P M' p (gB P (t + 1) (nI b) lf w).2 → Fr p M M' → M' p 6 = M p 6 - 1 → M' p 7 = (gB P (t + 1) (nI b) lf w).2 3 → ((gB P (t + 1) (nI b) lf w).1 = 1 → CF P M' p (gB P (t + 1) (nI b) lf w).2) → K (gB P (t + 1) (nI b) lf w).1 M') : wp_X4_tick_56 p q K (nI b) M := by
  have hn := h.2.2.2.2.2.2.2
  obtain ⟨n1, n2, n3, n4, n5, n6, n7, n8, n9⟩ := hn
  have hv0 := hv
  obtain ⟨v1, v2, v3, v4, v5, v6, v7, v8, v9, v10, v11⟩ := hv
  have hF : PF P ≤ 27 := by unfold PF; omega
  have hon : M p 5 = nI o := by
    rcases h.2.1 with ⟨z, -, -⟩ | ⟨o2, hl2, z1, z2⟩
    · rw [how] at z
      have : o = 0 ∨ o = 1 ∨ o = 2 ∨ o = 3 ∨ o = 4 ∨ o = 5 ∨ o = 6 ∨ o = 7 := by omega
      rcases this with rfl | rfl | rfl | rfl | rfl | rfl | rfl | rfl <;> exact absurd z (by decide)
    · rw [z2, ← z1, how]
  rintro M9 rfl
  have h9 := h.cls (Or.inl rfl) (M p 6 - 1)
  have f9 : Fr p M (mw M p 6 (M p 6 - 1)) := Fr.w0
  have l9 : mw M p 6 (M p 6 - 1) p 6 = M p 6 - 1 := mw_at _ _ _ _
  have s9 : mw M p 6 (M p 6 - 1) p 7 = M p 7 := mw_k (by decide)
  have o9 : mw M p 6 (M p 6 - 1) p 5 = nI o := by rw [mw_k (by decide)]; exact hon
  generalize mw M p 6 (M p 6 - 1) = M9 at *
  have hP9 := hP.fr f9 hd
  rw [o9]
  refine c_hasReel hP9 hv0 (by omega) ?_
  rw [if_pos ho]
  refine ⟨fun z => absurd z (by decide), fun _ => ?_⟩
  rw [o9]
  have i1 := ixn (k := o) (z := 8) (by omega) (by decide)
  rw [i1.2, (hP9.2.2.2.2.2.2.2 o ho).2]
  refine ⟨i1.1, ?_⟩
  refine c_begin h9 hb (by omega) (by rw [how, ix_nI (by omega)]) ?_
  intro M12 h12 f12 p12
  have h12b := h12.row (Or.inl rfl) (gBegin P (t + 1) (nI b) w 2 - lf)
  refine c_print hv0 hd (hP9.fr f12 hd) h12b ?_
  intro M13 h13 f13 p13
  have eR : gPrints P (t + 1) (Pu P - 1) 1 (upd (gBegin P (t + 1) (nI b) w) 2 (gBegin P (t + 1) (nI b) w 2 - lf)) = gRun P (t + 1) b.toInt32 lf w := rfl
  rw [show b.toInt32 = nI b from rfl] at eR
  rw [eR] at h13
  have f13' : Fr p M M13 := (f9.tr f12).tr f13
  refine c_ttc (k := 0) ((hP9.fr f12 hd).fr f13 hd) hv0 (by omega) ?_
  have e13 : M13 (p + 5) 5 = nI (U + 1) := h13.2.2.1
  have hthere := there_iff h13.2.2.2.1 h13.2.2.2.2.2.2.2.2.2.2.2.2.2.1 (by omega) (show PF P < 32 by omega)
  rw [e13, v4, Nat.sub_zero, show Pwy P (Pu P - 1) + Pey P = PF P from rfl]
  have w3 : gRun P (t + 1) (nI b) lf w 3 = w 3 := by
    unfold gRun
    rw [gPrints_lo (by decide) _ _ _ (by omega), upd_ne (by decide), gBegin_ne (by decide) (Or.inl (by have := cpl_ge (t + 1); omega))]
  have l13 : M13 p 6 = M p 6 - 1 := by rw [p13, p12]; exact l9
  have s13 : M13 p 7 = w 3 := by rw [p13, p12, s9]; exact e7
  unfold gB at hK
  refine ⟨fun z => ?_, fun z => ?_⟩
  · rw [le_nI (by omega) (by omega)] at z
    rw [if_neg (fun y => by have := hthere.mp y; omega)] at hK
    refine ⟨fun _ => ?_, fun y => absurd rfl y⟩
    refine c_138 isB0 h13 (s13.trans w3.symm) ?_
    intro M' h' f' a' b'
    exact hK M' ⟨t + 1, g + 1, U + 1, hc, h', by omega⟩ (f13'.tr f') (a'.trans l13) b' (fun z => absurd (show (0 : Int32) = 1 from z) (by decide))
  · rw [le_nI (by omega) (by omega)] at z
    have hUF : U = PF P := by omega
    rw [if_pos (hthere.mpr (by omega))] at hK
    refine ⟨fun y => absurd y (by decide), fun _ => ?_⟩
    subst hUF
    refine c_judge h13 hv0 ((hP9.fr f12 hd).fr f13 hd) hd rfl ?_
    intro M17 h17 f17 l17
    refine c_adj hv0 hd (((hP9.fr f12 hd).fr f13 hd).fr f17 hd) h17 ?_
    intro M18 h18 f18 p18
    have w18 : gAdjs P (t + 1) (Pu P - 1) 1 (gSeen P (t + 1) (gRun P (t + 1) (nI b) lf w)) 3 = w 3 := by
      rw [gAdjs_lo (by decide) _ _ _ (by omega), gSeen_3]; exact w3
    refine c_138 isB1 h18 (by rw [w18, p18, l17.2]; exact s13) ?_
    intro M' h' f' a' b'
    refine hK M' ⟨t + 1, g + 1, PF P, True, h', Nat.le_refl _⟩ (((f13'.tr f17).tr f18).tr f') (by rw [a', p18, l17.1]; exact l13) b' (fun _ => ⟨fun i hi => h'.r (co_cer trivial hi), fun i hi hp => ?_⟩)
    show gSpin (gAdjs P (t + 1) (Pu P - 1) 1 (gSeen P (t + 1) (gRun P (t + 1) (nI b) lf w))) (57 + i) = 0
    rw [show gSpin (gAdjs P (t + 1) (Pu P - 1) 1 (gSeen P (t + 1) (gRun P (t + 1) (nI b) lf w))) (57 + i) = gAdjs P (t + 1) (Pu P - 1) 1 (gSeen P (t + 1) (gRun P (t + 1) (nI b) lf w)) (57 + i) from upd_ne (by omega), gAdjs_hi v2 (by omega) _ _ _ (by omega), gSeen_57 hi]
    have z1 := h13.r (co_err (e := i) (a := PF P) (by omega) hi (fun _ y => by omega))
    rw [← z1]
    exact h13.2.2.2.2.1 _ i (Nat.mod_lt _ (by decide)) hi (Or.inr hp)
theorem c_tick1z {K : Int32 → Mem → Prop} {l o : Nat} (h : PS P M p w) (hv : PV P) (hP : CP P M q) (hd : q + 5 ≤ p ∨ p + 11 ≤ q) (ht : w 5 = nI t) (htb : t + 1 < 2 ^ 28) (hl : M p 6 = nI (l + 1)) (hlb : l < 2000) (e7 : M p 7 = w 3) (hol : o < Prl P) (how : w 1 = nI o)
    (hK : ∀ M', PS P M' p (gGoes1 P w).2 → Fr p M M' → M' p 6 = nI l → M' p 7 = (gGoes1 P w).2 3 → ((gGoes1 P w).1 = 1 → CF P M' p (gGoes1 P w).2) → K (gGoes1 P w).1 M') : wp_X4_tick p q M K := by
  obtain ⟨t', g, U, hc, hR, hU⟩ := h
  have htt : t' = t := by
    have := hR.2.2.2.2.2.2.2.1
    rw [ht, eq_nI (by omega) (by have := hR.2.2.2.2.2.2.2.2.2.1; omega)] at this
    exact this.symm
  subst htt
  refine c_tick_in hR htb ?_
  intro M1 h1 f1 r1
  have hP1 := hP.fr f1 hd
  have s1 : M1 p 7 = gTick w 3 := by rw [r1 7 (by decide), e7]; exact (gTick_ne (by decide)).symm
  have h5 := gTick_5 ht
  unfold gGoes1 at hK
  rw [h5, ix_nI (by omega)] at hK
  rw [r1 6 (by decide), hl]
  refine ⟨fun _ => ⟨fun _ => ?_, fun y => absurd rfl y⟩, fun z => ?_⟩
  · refine c_B1 (b := 0) (lf := 0) h1 hv hP1 hd hU (by decide) hol (by rw [gTick_ne (by decide)]; exact how) s1 ?_
    intro M' a b c d e
    exact hK M' a (f1.tr b) (by rw [c, r1 6 (by decide), hl]; exact nI_pred l) d e
  · rw [eq_z (by omega)] at z; omega
theorem gB_1 {b lf : Int32} (hv : PV P) : (gB P t b lf w).2 1 = w 1 := by
  have v1 := hv.1
  have v2 := hv.2.1
  have e : gRun P t b lf w 1 = w 1 := by
    unfold gRun
    rw [gPrints_lo (by decide) _ _ _ (by omega), upd_ne (by decide), gBegin_ne (by decide) (Or.inl (by have := cpl_ge t; omega))]
  have eS : ∀ x : Row, gSpin x 1 = x 1 := fun x => upd_ne (by decide)
  have e3 : ∀ x : Row, gSeen P t x 1 = x 1 := fun x => by
    have b := cpl_ge (t - PF P)
    unfold gSeen gJudge gLast
    rw [upd_ne (by omega), upd_ne (by omega), upd_ne (by omega), upd_ne (by omega), upd_ne (by omega), upd_ne (by omega), upd_ne (by omega), upd_ne (by omega), upd_ne (by omega), upd_ne (by omega)]
  unfold gB
  split
  · show gSpin (gAdjs P t (Pu P - 1) 1 (gSeen P t (gRun P t b lf w))) 1 = _
    rw [eS, gAdjs_lo (by decide) _ _ _ (by omega), e3, e]
  · show gSpin (gRun P t b lf w) 1 = _
    rw [eS, e]
theorem gPrints_hi {j : Nat} (hj : 349 ≤ j) : ∀ (n k : Nat) (w : Row), k + n ≤ 4 → gPrints P t n k w j = w j
  | 0, _, _, _ => rfl
  | n + 1, k, w, h => by
    show gPrints P t n (k + 1) (gPrint P t k w) j = w j
    rw [gPrints_hi hj n (k + 1) _ (by omega)]
    have b1 := ppl_lt (x := k) (y := t) (by omega)
    have b2 := cpl_lt (t - Pwy P k)
    have e : gShift t k w j = w j := by unfold gShift; rw [upd_ne (by omega), upd_ne (by omega)]
    unfold gPrint
    split
    · unfold gErr; rw [upd_ne (by omega), upd_ne (by omega)]; exact e
    · exact e
theorem gB_hi {b lf : Int32} {j : Nat} (hv : PV P) (hj : 349 ≤ j) : (gB P t b lf w).2 j = w j := by
  have v1 := hv.1
  have v2 := hv.2.1
  have e : gRun P t b lf w j = w j := by
    unfold gRun
    rw [gPrints_hi hj _ _ _ (by omega), upd_ne (by omega)]
    have := cpl_lt t
    unfold gBegin
    rw [upd_ne (by omega), upd_ne (by omega), upd_ne (by omega), upd_ne (by omega), upd_ne (by omega), upd_ne (by omega), upd_ne (by omega), upd_ne (by omega), upd_ne (by omega), upd_ne (by omega)]
  have eS : ∀ x : Row, gSpin x j = x j := fun x => upd_ne (by omega)
  have e3 : ∀ x : Row, gSeen P t x j = x j := fun x => by
    have b := cpl_lt (t - PF P)
    unfold gSeen gJudge gLast
    rw [upd_ne (by omega), upd_ne (by omega), upd_ne (by omega), upd_ne (by omega), upd_ne (by omega), upd_ne (by omega), upd_ne (by omega), upd_ne (by omega), upd_ne (by omega), upd_ne (by omega)]
  unfold gB
  split
  · show gSpin (gAdjs P t (Pu P - 1) 1 (gSeen P t (gRun P t b lf w))) j = _
    rw [eS, gAdjs_hi v2 (by omega) _ _ _ (by omega), e3, e]
  · show gSpin (gRun P t b lf w) j = _
    rw [eS, e]
theorem gGoes1_hi {j : Nat} (hv : PV P) (hj : 349 ≤ j) : (gGoes1 P w).2 j = w j := by unfold gGoes1; rw [gB_hi hv hj]; exact gTick_ne (by omega)
theorem gGoes2_hi {j : Nat} (hv : PV P) (hj : 349 ≤ j) : (gGoes2 P w).2 j = w j := by
  unfold gGoes2; rw [gB_hi hv hj]; unfold gPaste gMount
  rw [upd_ne (by omega), upd_ne (by omega), upd_ne (by omega), upd_ne (by omega)]; exact gTick_ne (by omega)
theorem gGoes1_5 (hv : PV P) (ht : w 5 = nI t) : (gGoes1 P w).2 5 = nI (t + 1) := by unfold gGoes1; rw [gB_5 hv]; exact gTick_5 ht
theorem gGoes1_1 (hv : PV P) : (gGoes1 P w).2 1 = w 1 := by unfold gGoes1; rw [gB_1 hv]; exact gTick_ne (by decide)
theorem gGoes2_5 (hv : PV P) (ht : w 5 = nI t) : (gGoes2 P w).2 5 = nI (t + 1) := by unfold gGoes2; rw [gB_5 hv, gPaste_5]; exact gTick_5 ht
theorem gGoes2_1 (hv : PV P) : (gGoes2 P w).2 1 = w 1 + 1 := by unfold gGoes2; rw [gB_1 hv, gPaste_1, gTick_ne (by decide)]
theorem gGoes1_b : isB (gGoes1 P w).1 := by unfold gGoes1 gB; split; · exact isB1
                                            · exact isB0
def gIt (P : PlanT) : Nat → Row → Row
  | 0, w => w
  | n + 1, w => gIt P n (gGoes1 P w).2
theorem gIt_hi {j : Nat} (hv : PV P) (hj : 349 ≤ j) : ∀ (n : Nat) (w : Row), gIt P n w j = w j
  | 0, _ => rfl
  | n + 1, w => by
    show gIt P n (gGoes1 P w).2 j = w j
    rw [gIt_hi hv hj n, gGoes1_hi hv hj]
def gSt (P : PlanT) : Nat → Int32 → Nat → Row → Int32
  | 0, a, _, _ => a
  | n + 1, a, x, w => gSt P n (if (gGoes1 P w).1 = 0 then a else if gWorst (gGoes1 P w).2 (Pu P - 1) 1 0 ≤ Pid P then a else nI x) (x + 1) (gGoes1 P w).2
/-- the end of a trial -/
theorem R2_trial {M2 : Mem} (h : R2 P M M pl dr) (hx : ∀ c, c < 130 → (c < 24 ∨ 35 ≤ c) → M2 c = M c) (hn : ∀ c, 130 ≤ c → c ≠ 131 → c ≠ 132 → M2 c = M c) (h131 : ∀ j, j < 349 → M2 131 j = M 131 j) : Rel M2 pl dr := by
  obtain ⟨a1, a2, a3, a4, a5, a6, a7, a8, a9, a10⟩ := h
  have hpl : pl = 3 ∨ pl = 8 := by rcases a4 with z | z; · exact Or.inl z.1
                                   · exact Or.inr z.1
  refine ⟨P, a1, ?_, CP_cells a3 (fun i hi => hx _ (by omega) (by omega)), a4, ?_, ?_, ?_, ?_, ?_, ?_⟩
  · unfold MP at *
    rw [hn 130 (by omega) (by omega) (by omega), hn 138 (by omega) (by omega) (by omega), hn 139 (by omega) (by omega) (by omega), hn 140 (by omega) (by omega) (by omega), hn 141 (by omega) (by omega) (by omega), hn 142 (by omega) (by omega) (by omega)]
    exact a2
  · exact PT_row (PT_cells a5 (fun i hi => hx _ (by omega) (by omega))) h131
  · obtain ⟨nw, kn, b1, b2, b3, b4, b5, b6⟩ := a6
    refine ⟨nw, kn, b1, b2, by rw [hx 35 (by omega) (by omega)]; exact b3, by rw [hx 35 (by omega) (by omega)]; exact b4, by rw [hn 130 (by omega) (by omega) (by omega)]; exact b5, fun i hi => ?_⟩
    rw [hn 133 (by omega) (by omega) (by omega)]
    exact PT_cells (b6 i hi) (fun j hj => hx _ (by omega) (by omega))
  · intro i hi
    obtain ⟨b1, b2, b3⟩ := a7 i hi
    rw [hx 104 (by omega) (by omega), hn 135 (by omega) (by omega) (by omega), hn 134 (by omega) (by omega) (by omega)]
    exact ⟨b1, b2, fun z => PT_cells (b3 z) (fun j hj => hx _ (by omega) (by omega))⟩
  · unfold RT at *; rw [hx 1 (by omega) (by omega), hx 2 (by omega) (by omega), hn 130 (by omega) (by omega) (by omega), hn 136 (by omega) (by omega) (by omega)]; exact a8
  · unfold RQ at *; rw [hx 105 (by omega) (by omega), hx 106 (by omega) (by omega), hx 107 (by omega) (by omega), hn 130 (by omega) (by omega) (by omega), hn 137 (by omega) (by omega) (by omega)]; exact a9
  · unfold RZ at *; rw [hx 4 (by omega) (by omega), hx 5 (by omega) (by omega), hx 9 (by omega) (by omega), hx 10 (by omega) (by omega)]; exact a10
theorem c_steadyL {K : Int32 → Mem → Prop} {o : Nat} (hv : PV P) (hd : pl + 5 ≤ 24 ∨ 24 + 11 ≤ pl) (hol : o < Prl P) : ∀ (n x t l : Nat) (a : Int32) (X : Mem) (w : Row), x + n = 301 → 1 ≤ x → CP P X pl → PS P X 24 w → w 5 = nI t → t + n < 2 ^ 28 → X 24 6 = nI l → n ≤ l → l ≤ 2000 → X 24 7 = w 3 → w 1 = nI o →
    (∀ X', Fr 24 X X' → ((200 : Int32) < gSt P n a x w → K (-9) X') ∧ (¬ (200 : Int32) < gSt P n a x w → K (gSt P n a x w) X')) → L_X6_steady_50 pl dr K (n + 1) a (nI x) X := by
  intro n
  induction n with
  | zero =>
    intro x t l a X w hx hx1 hP h ht htn hl hnl hl2 h7 how hK
    refine ⟨fun _ => hK X Fr.rf, fun c => absurd ?_ c⟩
    rw [lltN (by decide) (by omega)]; show 300 < x; omega
  | succ n ih =>
    intro x t l a X w hx hx1 hP h ht htn hl hnl hl2 h7 how hK
    refine ⟨fun c => ?_, fun _ => ?_⟩
    · rw [lltN (by decide) (by omega)] at c
      have c : 300 < x := c
      omega
    obtain ⟨l, rfl⟩ : ∃ l', l = l' + 1 := ⟨l - 1, by omega⟩
    refine c_tick1z h hv hP hd ht (by omega) hl (by omega) h7 hol how ?_
    intro X1 s1 f1 l1 e1 cf
    have hP1 := hP.fr f1 hd
    have step : ∀ a', a' = (if (gGoes1 P w).1 = 0 then a else if gWorst (gGoes1 P w).2 (Pu P - 1) 1 0 ≤ Pid P then a else nI x) → L_X6_steady_50 pl dr K (n + 1) a' (nI x + 1) X1 := by
      rintro a' rfl
      rw [nI_1]
      refine ih (x + 1) (t + 1) l _ X1 _ (by omega) (by omega) hP1 s1 (gGoes1_5 hv ht) (by omega) l1 (by omega) (by omega) e1 (by rw [gGoes1_1 hv]; exact how) ?_
      intro X' f'
      exact hK X' (f1.tr f')
    refine ⟨fun z => step _ (if_pos z).symm, fun z => ?_⟩
    have c1 := cf (by rcases gGoes1_b (P := P) (w := w) with y | y; · exact absurd y z
                      · exact y)
    have fi := far_iff (r := X1 34) (L := Pid P) hv hv.2.2.2.2.2.2.2.2.2.1 c1.1 c1.2
    rw [hP1.2.2.2.2.1]
    refine c_fur (fun y => ⟨fun _ => step _ ?_, fun y2 => absurd rfl y2⟩) (fun y => ⟨fun y2 => absurd y2 (by decide), fun _ => step _ ?_⟩)
    · rw [if_neg z, if_pos (fi.mp y)]
    · rw [if_neg z, if_neg (fun y2 => y (fi.mpr y2))]
theorem m_steadyL {K : Int32 → Mem → Prop} {o : Nat} (hv : PV P) (hP : MP P M) (hol : o < Prl P) : ∀ (n x t : Nat) (a : Int32) (w : Row), x + n = 301 → 1 ≤ x → w 5 = nI t → t + n < 2 ^ 28 → w 1 = nI o →
    (∀ w', wp_X7_comesBack (sr M w') (fun M6 => (gSt P n a x w ≤ (200 : Int32) → K (gSt P n a x w) M6) ∧ (¬ gSt P n a x w ≤ (200 : Int32) → K (-9) M6))) → L_X7_steady_29 K (n + 1) a (nI x) (sr M w) := by
  intro n
  induction n with
  | zero =>
    intro x t a w hx hx1 ht htn how hK
    refine ⟨fun _ => hK w, fun c => absurd ?_ c⟩
    rw [lltN (by decide) (by omega)]; show 300 < x; omega
  | succ n ih =>
    intro x t a w hx hx1 ht htn how hK
    refine ⟨fun c => ?_, fun _ => ?_⟩
    · rw [lltN (by decide) (by omega)] at c
      have c : 300 < x := c
      omega
    refine m_goes1 hP hv ht (by omega) how hol ?_
    have step : ∀ a', a' = (if (gGoes1 P w).1 = 0 then a else if gWorst (gGoes1 P w).2 (Pu P - 1) 1 0 ≤ Pid P then a else nI x) → L_X7_steady_29 K (n + 1) a' (nI x + 1) (sr M (gGoes1 P w).2) := by
      rintro a' rfl
      rw [nI_1]
      exact ih (x + 1) (t + 1) _ _ (by omega) (by omega) (gGoes1_5 hv ht) (by omega) (by rw [gGoes1_1 hv]; exact how) hK
    refine ⟨fun z => step _ (if_pos z).symm, fun z => m_worst hP hv ?_⟩
    rw [sr_ne (c := 142) (by decide), hP.2.2.2.2.2.2.1]
    refine ⟨fun y => step _ ?_, fun y => step _ ?_⟩
    · rw [if_neg z, if_pos y]
    · rw [if_neg z, if_neg y]
/-- what is laid aside comes back -/
theorem aside_back {w' : Row} {c : Nat} (h1 : c ≠ 131) (h2 : c ≠ 132) : mcp (sr (mcp M 131 0 132 0 349) w') 132 0 131 0 349 c = M c := by rw [mcp_ne h1, sr_ne h1, mcp_ne h2]
theorem aside_131 {w' : Row} {j : Nat} (hj : j < 349) : mcp (sr (mcp M 131 0 132 0 349) w') 132 0 131 0 349 131 j = M 131 j := by
  rw [mcp_in (by omega) (by omega), sr_ne (by decide), mcp_in (by omega) (by omega)]
  congr 1; omega
theorem aside_all {w' : Row} (h : ∀ j, 349 ≤ j → w' j = M 131 j) : mcp (sr (mcp M 131 0 132 0 349) w') 132 0 131 0 349 131 = M 131 := by
  funext j
  by_cases hj : j < 349
  · exact aside_131 hj
  · rw [mcp_off (by omega), sr_131]; exact h j (by omega)
theorem MP_aside (h : MP P M) : MP P (mcp M 131 0 132 0 349) := by
  unfold MP at *
  rw [mcp_ne (by decide), mcp_ne (by decide), mcp_ne (by decide), mcp_ne (by decide), mcp_ne (by decide), mcp_ne (by decide)]
  exact h
theorem sr_aside : mcp M 131 0 132 0 349 = sr (mcp M 131 0 132 0 349) (M 131) := by
  have := sr_self (mcp M 131 0 132 0 349)
  rw [mcp_ne (by decide)] at this
  exact this.symm
theorem pl_apart2 (h : Rpl pl dr) : pl + 5 ≤ 24 ∨ 24 + 11 ≤ pl := by unfold Rpl at h; omega
theorem op_steady (M : Mem) (pl dr : Nat) (h : Rel M pl dr) : wp_X6_steady pl dr M (fun r M1 => wp_X7_steady M1 (fun q M2 => r = q ∧ Rel M2 pl dr)) := by
  obtain ⟨P, h⟩ := h
  have hr : Rel M pl dr := ⟨P, h⟩
  have hv := h.1
  obtain ⟨t, g, U, hc', hR, hU, ht, hw⟩ := PT_t h.2.2.2.2.1
  have r8 : M 13 8 = M 131 0 := hR.r co_runs
  rw [show wp_X6_steady pl dr M = fun K => wp_X6_steady pl dr M K from rfl]
  refine ⟨fun z => ⟨fun _ => ⟨rfl, hr⟩, fun y => absurd (r8.symm.trans z) y⟩, fun z => ⟨fun z2 => ?_, fun z2 => ?_⟩⟩
  · obtain ⟨o, hol, how, ho5⟩ : ∃ o, o < Prl P ∧ M 131 1 = nI o ∧ M 13 5 = nI o := by
      rcases hR.2.1 with ⟨-, y, -⟩ | y
      · exact absurd y z2
      · exact y
    have v3 := hv.2.2.1
    refine c_take (by omega) h.2.2.2.2.1.1.pb ?_
    intro M3 s3 f3
    have p3 := PSL_same h.2.2.2.2.1.1 s3
    rintro M4 rfl
    have f4 : Fr 24 M (mw M3 24 6 1000) := f3.tr Fr.w0
    have e6 : mw M3 24 6 1000 24 6 = nI 1000 := mw_at _ _ _ _
    have e7 : mw M3 24 6 1000 24 7 = M 131 3 := by rw [mw_k (by decide)]; exact p3.2.2.1
    have q4 : PS P (mw M3 24 6 1000) 24 (M 131) := by
      obtain ⟨t, g, U, hc, hR, hU⟩ := p3.1
      exact ⟨t, g, U, hc, hR.cls (Or.inl rfl) _, hU⟩
    generalize mw M3 24 6 1000 = M4 at *
    refine ⟨301, c_steadyL hv (pl_apart2 h.2.2.2.1) hol 300 1 t 1000 0 M4 (M 131) rfl (by omega) (h.2.2.1.fr f4 (pl_apart2 h.2.2.2.1)) q4 hw (by omega) e6 (by omega) (by omega) e7 how ?_⟩
    intro X' f'
    have fX : Fr 24 M X' := f4.tr f'
    have hi : ∀ c, 130 ≤ c → X' c = M c := fun c hc => fX c (by omega)
    have fin : ∀ r, r = (if gSt P 300 0 1 (M 131) ≤ (200 : Int32) then gSt P 300 0 1 (M 131) else -9) → wp_X7_steady X' (fun q M2 => r = q ∧ Rel M2 pl dr) := by
      intro r hr2
      unfold wp_X7_steady
      rw [hi 131 (by omega)]
      refine ⟨fun y => absurd (r8.trans y) z, fun _ => ⟨fun _ => m_aside ?_, fun y => absurd (by rw [how]; exact z_le (by omega)) y⟩⟩
      refine ⟨301, ?_⟩
      rw [sr_aside, hi 131 (by omega)]
      refine m_steadyL hv (MP_aside (MP_hi h.2.1 hi)) hol 300 1 t 0 (M 131) rfl (by omega) hw (by omega) how ?_
      intro w'
      refine m_comes ?_
      have hrel : Rel (mcp (sr (mcp X' 131 0 132 0 349) w') 132 0 131 0 349) pl dr := R2_trial h (fun c c1 c2 => by rw [aside_back (by omega) (by omega), fX c (by omega)]) (fun c c1 c2 c3 => by rw [aside_back c2 c3, hi c c1]) (fun j hj => by rw [aside_131 hj, hi 131 (by omega)])
      exact ⟨fun y => ⟨hr2.trans (if_pos y), hrel⟩, fun y => ⟨hr2.trans (if_neg y), hrel⟩⟩
    refine ⟨fun y => fin _ (if_neg (by rw [Int32.not_le]; exact y)).symm, fun y => fin _ (if_pos (by rw [← Int32.not_lt]; exact y)).symm⟩
  · rcases hR.2.1 with ⟨y1, y2, y3⟩ | ⟨o, y1, y2, y3⟩
    · exact ⟨fun y => absurd (r8.trans y) z, fun _ => ⟨fun y => absurd y (by rw [y1]; decide), fun _ => ⟨rfl, hr⟩⟩⟩
    · have v3 := hv.2.2.1
      have : o = 0 ∨ o = 1 ∨ o = 2 ∨ o = 3 ∨ o = 4 ∨ o = 5 ∨ o = 6 ∨ o = 7 := by omega
      have z2 := y3.symm.trans z2
      rcases this with rfl | rfl | rfl | rfl | rfl | rfl | rfl | rfl <;> exact absurd z2 (by decide)
/-! what a splice costs -/
theorem c_timesL {K : Mem → Prop} {o N : Nat} (hv : PV P) (hd : q + 5 ≤ p ∨ p + 11 ≤ q) (hol : o < Prl P) (hN : N ≤ 200) : ∀ (n x t l : Nat) (X : Mem) (w : Row), x + n = N → CP P X q → PS P X p w → w 5 = nI t → t + n < 2 ^ 28 → X p 6 = nI l → n ≤ l → l ≤ 2000 → X p 7 = w 3 → w 1 = nI o →
    (∀ X', PS P X' p (gIt P n w) → Fr p X X' → K X') → L_X4_tickTimes_2 p q K (n + 1) (nI N) (nI x) X := by
  intro n
  induction n with
  | zero =>
    intro x t l X w hx hP h ht htn hl hnl hl2 h7 how hK
    exact ⟨fun _ => hK X h Fr.rf, fun c => absurd (by rw [le_nI (by omega) (by omega)]; omega) c⟩
  | succ n ih =>
    intro x t l X w hx hP h ht htn hl hnl hl2 h7 how hK
    refine ⟨fun c => ?_, fun _ => ?_⟩
    · rw [le_nI (by omega) (by omega)] at c; omega
    obtain ⟨l, rfl⟩ : ∃ l', l = l' + 1 := ⟨l - 1, by omega⟩
    refine c_tick1 h hv hP hd ht (by omega) hl (by omega) h7 hol how ?_
    intro X1 s1 f1 l1 e1
    rw [nI_1]
    refine ih (x + 1) (t + 1) l X1 _ (by omega) (hP.fr f1 hd) s1 (gGoes1_5 hv ht) (by omega) l1 (by omega) (by omega) e1 (by rw [gGoes1_1 hv]; exact how) ?_
    intro X' a b
    exact hK X' a (f1.tr b)
theorem m_wasteL {K : Int32 → Mem → Prop} {o : Nat} {x1 x2 : Int32} (hv : PV P) (hP : MP P M) (hol : o < Prl P) : ∀ (n x t : Nat) (w : Row), x + n = 200 → 1 ≤ x → w 5 = nI t → t + n < 2 ^ 28 → w 1 = nI o →
    (∀ w', w' = gIt P n w → wp_X7_comesBack (sr M w') (fun M4 => K (w' 8 - x2) M4)) → L_X7_wasteBy_14 K (n + 1) x1 x2 (nI x) (sr M w) := by
  intro n
  induction n with
  | zero =>
    intro x t w hx hx1 ht htn how hK
    refine ⟨fun _ => ?_, fun c => absurd ?_ c⟩
    · have := hK w rfl
      rw [sr_131]; exact this
    · rw [lleN (by decide) (by omega)]; show 200 ≤ x; omega
  | succ n ih =>
    intro x t w hx hx1 ht htn how hK
    refine ⟨fun c => ?_, fun _ => ⟨fun _ => ?_, fun y => ?_⟩⟩
    · rw [lleN (by decide) (by omega)] at c
      have c : 200 ≤ x := c
      omega
    · refine m_goes1 hP hv ht (by omega) how hol ?_
      rw [nI_1]
      exact ih (x + 1) (t + 1) _ (by omega) (by omega) (gGoes1_5 hv ht) (by omega) (by rw [gGoes1_1 hv]; exact how) hK
    · rw [eq_z (by omega)] at y; omega
theorem m_waste1 {K : Int32 → Mem → Prop} {o t : Nat} (hv : PV P) (hP : MP P M) (hol : o < Prl P) (ht : M 131 5 = nI t) (htn : t + 200 < 2 ^ 28) (how : M 131 1 = nI o)
    (hK : ∀ M4, (∀ c, c ≠ 131 → c ≠ 132 → M4 c = M c) → M4 131 = M 131 → K (gIt P 199 (gGoes1 P (M 131)).2 8 - M 131 8) M4) : wp_X7_wasteBy 1 M K := by
  refine m_aside ⟨201, ?_⟩
  rw [mcp_ne (x := 131) (by decide), sr_aside]
  refine ⟨fun c => absurd c (by decide), fun _ => ⟨fun y => absurd rfl y, fun _ => ?_⟩⟩
  refine m_goes1 (MP_aside hP) hv ht (by omega) how hol ?_
  refine m_wasteL hv (MP_aside hP) hol 199 1 (t + 1) _ (by omega) (by omega) (gGoes1_5 hv ht) (by omega) (by rw [gGoes1_1 hv]; exact how) ?_
  intro w' hw'
  rw [hw']
  exact m_comes (hK _ (fun c c1 c2 => aside_back c1 c2) (aside_all (fun j hj => by rw [gIt_hi hv hj, gGoes1_hi hv hj])))
theorem m_waste2 {K : Int32 → Mem → Prop} {o t : Nat} (hv : PV P) (hP : MP P M) (hol : o < Prl P) (ht : M 131 5 = nI t) (htn : t + 200 < 2 ^ 28) (how : M 131 1 + 1 = nI o)
    (hK : ∀ M4, (∀ c, c ≠ 131 → c ≠ 132 → M4 c = M c) → M4 131 = M 131 → K (gIt P 199 (gGoes2 P (M 131)).2 8 - M 131 8) M4) : wp_X7_wasteBy 2 M K := by
  refine m_aside ⟨201, ?_⟩
  rw [mcp_ne (x := 131) (by decide), sr_aside]
  refine ⟨fun c => absurd c (by decide), fun _ => ⟨fun y => absurd rfl y, fun _ => ?_⟩⟩
  refine m_goes2 (MP_aside hP) hv ht (by omega) how hol ?_
  refine m_wasteL hv (MP_aside hP) hol 199 1 (t + 1) _ (by omega) (by omega) (gGoes2_5 hv ht) (by omega) (by rw [gGoes2_1 hv]; exact how) ?_
  intro w' hw'
  rw [hw']
  exact m_comes (hK _ (fun c c1 c2 => aside_back c1 c2) (aside_all (fun j hj => by rw [gIt_hi hv hj, gGoes2_hi hv hj])))
theorem sub_sub3 (a b c : Int32) : a - c - (b - c) = a - b := by
  rw [Int32.sub_sub, Int32.add_comm, Int32.sub_add_cancel]
theorem op_cost (M : Mem) (pl dr : Nat) (h : Rel M pl dr) : wp_X6_cost pl dr M (fun r M1 => wp_X7_cost M1 (fun q M2 => r = q ∧ Rel M2 pl dr)) := by
  obtain ⟨P, h⟩ := h
  have hr : Rel M pl dr := ⟨P, h⟩
  have hv := h.1
  obtain ⟨t, g, U, hc', hR, hU, ht, hw⟩ := PT_t h.2.2.2.2.1
  have r8 : M 13 8 = M 131 0 := hR.r co_runs
  have hd := pl_apart2 h.2.2.2.1
  refine ⟨fun z => ⟨fun _ => ⟨rfl, hr⟩, fun y => absurd (r8.symm.trans z) y⟩, fun z => c_next hv h.2.2.1 hR.2.1 ⟨fun z2 => ?_, fun z2 => ?_⟩⟩
  · obtain ⟨o1, ho1, ho2, ho3⟩ := next_val hv hR.2.1 z2
    have v3 := hv.2.2.1
    obtain ⟨o, hol, how⟩ : ∃ o, o < Prl P ∧ M 131 1 = nI o := by
      rcases hR.2.1 with ⟨y1, y2, y3⟩ | ⟨o, y1, y2, -⟩
      · omega
      · exact ⟨o, y1, y2⟩
    refine c_take (by omega) h.2.2.2.2.1.1.pb ?_
    intro M3 s3 f3
    have p3 := PSL_same h.2.2.2.2.1.1 s3
    rintro M4 rfl
    have f4 : Fr 24 M (mw M3 24 6 1000) := f3.tr Fr.w0
    have e6 : mw M3 24 6 1000 24 6 = nI 1000 := mw_at _ _ _ _
    have e7 : mw M3 24 6 1000 24 7 = M 131 3 := by rw [mw_k (by decide)]; exact p3.2.2.1
    have q4 : PS P (mw M3 24 6 1000) 24 (M 131) := by
      obtain ⟨t, g, U, hc, hR, hU⟩ := p3.1
      exact ⟨t, g, U, hc, hR.cls (Or.inl rfl) _, hU⟩
    generalize mw M3 24 6 1000 = M4 at *
    refine ⟨201, c_timesL (N := 200) hv hd hol (by omega) 200 0 t 1000 M4 (M 131) rfl (h.2.2.1.fr f4 hd) q4 hw (by omega) e6 (by omega) (by omega) e7 how ?_⟩
    intro M6 q6 f6
    have g12 : M6 24 12 = gIt P 199 (gGoes1 P (M 131)).2 8 := by obtain ⟨t, g, U, hc', hR, -⟩ := q6; exact hR.r co_waste
    have fr6 : Fr 24 M M6 := f4.tr f6
    have p6 : PSL P M6 13 (M 131) := PSL_same h.2.2.2.2.1.1 (SameP.of_eq (fun i hi => fr6 _ (by omega)))
    refine c_take (by omega) p6.pb ?_
    intro M7 s7 f7
    have p7 := PSL_same p6 s7
    rintro M8 rfl
    rintro M9 rfl
    have fr9 : ∀ v, Fr 24 M (mw (mw M7 24 6 0) 24 7 v) := fun v => ((fr6.tr f7).tr Fr.w0).tr Fr.w0
    have hP9 : ∀ v, CP P (mw (mw M7 24 6 0) 24 7 v) pl := fun v => h.2.2.1.fr (fr9 v) hd
    have ev : mw M7 24 6 0 pl 9 = Psp P := by rw [mw_ne (by omega), f7 pl (by omega), fr6 pl (by omega)]; exact h.2.2.1.2.2.2.2.2.1
    rw [ev]
    have q9 : PS P (mw (mw M7 24 6 0) 24 7 (Psp P)) 24 (M 131) := by
      obtain ⟨t, g, U, hc, hR, hU⟩ := p7.1
      exact ⟨t, g, U, hc, (hR.cls (Or.inl rfl) _).cls (Or.inr rfl) _, hU⟩
    refine c_tick2 q9 hv (hP9 _) hd hw (by omega) (by rw [mw_k (by decide), mw_at]) (mw_at _ _ _ _) ho1 ho2 ?_
    intro M10 q10 f10 s10
    rintro M11 rfl
    have f11 : Fr 24 M (mw M10 24 6 1000) := ((fr9 _).tr f10).tr Fr.w0
    have e6 : mw M10 24 6 1000 24 6 = nI 1000 := mw_at _ _ _ _
    have e7 : mw M10 24 6 1000 24 7 = (gGoes2 P (M 131)).2 3 := by rw [mw_k (by decide)]; exact s10
    have q11 : PS P (mw M10 24 6 1000) 24 (gGoes2 P (M 131)).2 := by
      obtain ⟨t, g, U, hc, hR, hU⟩ := q10
      exact ⟨t, g, U, hc, hR.cls (Or.inl rfl) _, hU⟩
    generalize mw M10 24 6 1000 = M11 at *
    refine ⟨200, c_timesL (N := 199) hv hd ho1 (by omega) 199 0 (t + 1) 1000 M11 _ rfl (h.2.2.1.fr f11 hd) q11 (gGoes2_5 hv hw) (by omega) e6 (by omega) (by omega) e7 (by rw [gGoes2_1 hv]; exact ho2) ?_⟩
    intro X' qX f'
    have g12' : X' 24 12 = gIt P 199 (gGoes2 P (M 131)).2 8 := by obtain ⟨t, g, U, hc', hR, -⟩ := qX; exact hR.r co_waste
    have fX : Fr 24 M X' := f11.tr f'
    have hi : ∀ c, 130 ≤ c → X' c = M c := fun c hc => fX c (by omega)
    rw [g12, g12']
    refine ⟨fun y => absurd (r8.trans (by rw [← hi 131 (by omega)]; exact y)) z, fun _ => m_next0 (MP_hi h.2.1 hi) ?_⟩
    rw [hi 131 (by omega)]
    refine ⟨fun _ => ?_, fun y => absurd y z2⟩
    refine m_waste2 hv (MP_hi h.2.1 hi) ho1 (t := t) (by rw [hi 131 (by omega)]; exact hw) (by omega) (by rw [hi 131 (by omega)]; exact ho2) ?_
    intro Y fY rY
    have rY : Y 131 = M 131 := by rw [rY, hi 131 (by omega)]
    have hP2 : MP P Y := by
      have := h.2.1
      unfold MP at *
      rw [fY 130 (by omega) (by omega), fY 138 (by omega) (by omega), fY 139 (by omega) (by omega), fY 140 (by omega) (by omega), fY 141 (by omega) (by omega), fY 142 (by omega) (by omega), hi 130 (by omega), hi 138 (by omega), hi 139 (by omega), hi 140 (by omega), hi 141 (by omega), hi 142 (by omega)]
      exact this
    refine m_waste1 hv hP2 hol (t := t) (by rw [rY]; exact hw) (by omega) (by rw [rY]; exact how) ?_
    intro Y2 fY2 rY2
    rw [rY, hi 131 (by omega), sub_sub3]
    refine ⟨rfl, R2_trial h (fun c c1 c2 => by rw [fY2 c (by omega) (by omega), fY c (by omega) (by omega), fX c (by omega)]) (fun c c1 c2 c3 => by rw [fY2 c c2 c3, fY c c2 c3, hi c c1]) (fun j hj => by rw [rY2, rY])⟩
  · exact ⟨fun y => absurd (r8.trans y) z, fun _ => m_next0 h.2.1 ⟨fun y => absurd z2 y, fun _ => ⟨rfl, hr⟩⟩⟩
end O4
