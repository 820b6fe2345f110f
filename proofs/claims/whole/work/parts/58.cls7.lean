section C7
variable {P : PlanT} {M : Mem} {p q : Nat} {w : Row} {T t g U k : Nat} {f f' : Nat → Nat} {hc : Prop}
/-- with the reel's rest and the spin -/
def PSL (P : PlanT) (M : Mem) (p : Nat) (w : Row) : Prop := PS P M p w ∧ M p 6 = w 2 ∧ M p 7 = w 3 ∧ (Prl P = 0 → w 2 = 0)
theorem PR_tick (h : PR P M p w t t g U f hc) (ht : t + 1 < 2 ^ 28) (v : Int32) (e : v = nI (t + 1)) : PR P (mw M p 10 v) p (upd w 5 v) (t + 1) t g U f hc := by
  obtain ⟨b1, b2, b3, b4, b5, b6, b7, b8⟩ := h
  obtain ⟨n1, n2, n3, n4, n5, n6, n7, n8, n9⟩ := b8
  have e0 : ∀ x j, x ≠ p → mw M p 10 v x j = M x j := fun x j hx => congrFun (mw_ne hx) j
  refine ⟨b1.wr (i := 0) (by omega) n4 (by omega) v co_ticks, ?_, ?_, b4.ne (fun z => by omega), ?_, ?_, ?_, ?_⟩
  · rw [mw_k (by decide), upd_ne (by decide)]; exact b2
  · rw [e0 _ _ (by omega)]; exact b3
  · intro c e h1 h2 h3; rw [e0 _ _ (by omega)]; exact b5 c e h1 h2 h3
  · unfold Pl at *; rw [e0 _ _ (by omega), e0 _ _ (by omega), upd_ne (by omega)]; exact b6
  · unfold Pb at *; rw [e0 _ _ (by omega), e0 _ _ (by omega), e0 _ _ (by omega), mw_k (by omega), mw_k (by omega)]; exact b7
  · exact ⟨by rw [upd_at, e], by rw [upd_ne (by omega)]; exact n2, ht, n4, n5, by omega, n7, by rw [upd_ne (by omega)]; exact n8, by rw [upd_ne (by omega)]; exact n9⟩
theorem gTick_eq {v : Int32} (h : w 5 = nI t) (e : v = nI (t + 1)) : upd w 5 v = gTick w := by unfold gTick; rw [e, h, nI_1]
/-- the first row of a tick, on the class's side -/
theorem c_tick_in {K : Int32 → Mem → Prop} (h : PR P M p w t t g U (Pwy P) hc) (ht : t + 1 < 2 ^ 28)
    (hK : ∀ M1, PR P M1 p (gTick w) (t + 1) t g U (Pwy P) hc → Fr p M M1 → (∀ j, j ≠ 10 → M1 p j = M p j) → (¬ M1 p 6 = 0 → wp_X4_tick_22 p q K 0 M1) ∧ (M1 p 6 = 0 → wp_X4_tick_22 p q K 1 M1)) : wp_X4_tick p q M K := by
  rintro M1 rfl
  have r10 : M p 10 = nI t := (h.r co_ticks).trans h.2.2.2.2.2.2.2.1
  rw [r10, nI_1]
  have h1 := PR_tick h ht (nI (t + 1)) rfl
  rw [gTick_eq h.2.2.2.2.2.2.2.1 rfl] at h1
  exact hK _ h1 Fr.w0 (fun j hj => mw_k hj)
/-- pasted: the class mounts, counts the splice, and goes on -/
theorem c_pasted {K : Int32 → Mem → Prop} {o : Nat} {lf : Int32} (h : PR P M p w (t + 1) t g U (Pwy P) hc) (hv : PV P) (hP : CP P M q) (hd : q + 5 ≤ p ∨ p + 11 ≤ q) (hU : U ≤ PF P) (hol : o < Prl P) (ho : w 1 + 1 = nI o) (hx : gNext P w = nI o)
    (hK : ∀ M', PS P M' p (gB P (t + 1) 1 lf (gPaste P w)).2 → Fr p M M' → M' p 6 = gMount P w 2 - 1 → M' p 7 = (gB P (t + 1) 1 lf (gPaste P w)).2 3 → K (gB P (t + 1) 1 lf (gPaste P w)).1 M') :
    wp_X4_mountNext p q M (fun M6 => (∀ M7 : Mem, M7 = mw M6 p 13 ((M6 p 13) + (1 : Int32)) → wp_X4_tick_56 p q K 1 M7)) := by
  refine c_mount h hv hP hd hol ho hx ?_
  intro M6 h6 f6 l6 s6 k6
  rintro M7 rfl
  have r13 : M6 p 13 = gMount P w 9 := h6.r co_spl
  have r9 : gMount P w 9 = w 9 := by unfold gMount; rw [upd_ne (by decide), upd_ne (by decide), upd_ne (by decide)]
  have h7 := h6.wr (M6 p 13 + 1) co_spl ⟨by decide, by decide, by decide, by decide, by decide, by decide, fun z => absurd z (by decide), by decide, fun _ => by decide, fun z => absurd z (by decide)⟩
  have ep : upd (gMount P w) 9 (M6 p 13 + 1) = gPaste P w := by unfold gPaste; rw [r13, r9]
  rw [ep] at h7
  have f7 : Fr p M (mw M6 p 13 (M6 p 13 + 1)) := f6.tr Fr.w0
  have e3 : gPaste P w 3 = 0 := by unfold gPaste gMount; rw [upd_ne (by decide), upd_at]
  refine c_B (b := 1) (lf := lf) h7 hv (hP.fr f7 hd) hd hU (by decide) hol (by rw [gPaste_1]; exact ho) (by rw [e3]; show mw M6 p 13 (M6 p 13 + 1) p 7 = 0; rw [mw_k (by decide)]; exact s6) ?_
  intro M' a b c d
  refine hK M' a (f7.tr b) ?_ d
  rw [c]
  show mw M6 p 13 (M6 p 13 + 1) p 6 - 1 = _
  rw [mw_k (by decide), l6]
theorem gB_2 {b lf : Int32} (hv : PV P) : (gB P t b lf w).2 2 = w 2 - lf := by
  have v1 := hv.1
  have v2 := hv.2.1
  have e : gRun P t b lf w 2 = w 2 - lf := by
    unfold gRun
    rw [gPrints_lo (by decide) _ _ _ (by omega), upd_at, gBegin_ne (by decide) (Or.inl (by have := cpl_ge t; omega))]
  have eS : ∀ x : Row, gSpin x 2 = x 2 := fun x => upd_ne (by decide)
  have e3 : ∀ x : Row, gSeen P t x 2 = x 2 := fun x => by
    have b := cpl_ge (t - PF P)
    unfold gSeen gJudge gLast
    rw [upd_ne (by omega), upd_ne (by omega), upd_ne (by omega), upd_ne (by omega), upd_ne (by omega), upd_ne (by omega), upd_ne (by omega), upd_ne (by omega), upd_ne (by omega), upd_ne (by omega)]
  unfold gB
  split
  · show gSpin (gAdjs P t (Pu P - 1) 1 (gSeen P t (gRun P t b lf w))) 2 = _
    rw [eS, gAdjs_lo (by decide) _ _ _ (by omega), e3, e]
  · show gSpin (gRun P t b lf w) 2 = _
    rw [eS, e]
theorem gBreak_2 {j : Nat} (h : j = 2 ∨ j = 3) : gBreak w j = w j := by unfold gBreak; rw [if_neg (by omega), if_neg (by omega), if_neg (by omega)]
theorem c_tick0 {K : Int32 → Mem → Prop} (h : PSL P M p w) (hv : PV P) (hP : CP P M q) (hd : q + 5 ≤ p ∨ p + 11 ≤ q) (ht : w 5 = nI t) (htb : t + 1 < 2 ^ 28)
    (hK : ∀ M', PSL P M' p (gGoes0 P w).2 → Fr p M M' → K (gGoes0 P w).1 M') : wp_X4_tick p q M K := by
  obtain ⟨⟨t', g, U, hc, hR, hU⟩, e6, e7, e0⟩ := h
  have htt : t' = t := by
    have := hR.2.2.2.2.2.2.2.1
    rw [ht, eq_nI (by omega) (by have := hR.2.2.2.2.2.2.2.2.2.1; omega)] at this
    exact this.symm
  subst htt
  refine c_tick_in hR htb ?_
  intro M1 h1 f1 r1
  have hP1 := hP.fr f1 hd
  have l1 : M1 p 6 = gTick w 2 := by rw [r1 6 (by decide), e6]; exact (gTick_ne (by decide)).symm
  have s1 : M1 p 7 = gTick w 3 := by rw [r1 7 (by decide), e7]; exact (gTick_ne (by decide)).symm
  have z1 : Prl P = 0 → gTick w 2 = 0 := fun z => by rw [gTick_ne (by decide)]; exact e0 z
  have h5 := gTick_5 ht
  unfold gGoes0 at hK
  rw [h5, ix_nI (by omega)] at hK
  rw [l1]
  refine ⟨fun z => ⟨fun _ => ?_, fun y => absurd rfl y⟩, fun z => ⟨fun y => absurd y (by decide), fun _ => ?_⟩⟩
  · rw [if_neg z] at hK
    obtain ⟨o, hol, how⟩ : ∃ o, o < Prl P ∧ gTick w 1 = nI o := by
      rcases h1.2.1 with ⟨-, -, y⟩ | ⟨o, hol, y, -⟩
      · exact absurd (z1 y) z
      · exact ⟨o, hol, y⟩
    refine c_B (b := 0) (lf := 1) h1 hv hP1 hd hU (by decide) hol how s1 ?_
    intro M' a b c d
    refine hK M' ⟨a, ?_, d, fun y => absurd hol (by omega)⟩ (f1.tr b)
    rw [c, l1]
    exact (gB_2 hv).symm
  · rw [if_pos z] at hK
    refine c_can hv hP1 h1.2.1 ?_
    rw [s1]
    by_cases hb : gNext P (gTick w) = -9 ∨ gTick w 3 < Psp P
    · rw [if_pos hb]
      have hb2 : gNext P (gTick w) = -9 ∨ gTick w 3 ≤ 0 ∨ gTick w 3 < Psp P := hb.elim Or.inl (fun x => Or.inr (Or.inr x))
      rw [if_pos hb2] at hK
      refine ⟨fun y => absurd rfl y, fun _ => ?_⟩
      refine c_break h1 ?_
      intro M' a b c
      refine hK M' ⟨⟨t' + 1, g, 0, hc, a, Nat.zero_le _⟩, ?_, ?_, fun y => ?_⟩ (f1.tr b)
      · rw [c.1, l1]; exact (gBreak_2 (Or.inl rfl)).symm
      · rw [c.2, s1]; exact (gBreak_2 (Or.inr rfl)).symm
      · show gBreak (gTick w) 2 = 0
        rw [gBreak_2 (Or.inl rfl)]; exact z
    · rw [if_neg hb]
      have v11 : 0 < Psp P := hv.2.2.2.2.2.2.2.2.2.2
      have hb2 : ¬ (gNext P (gTick w) = -9 ∨ gTick w 3 ≤ 0 ∨ gTick w 3 < Psp P) := by
        rintro (y | y | y)
        · exact hb (Or.inl y)
        · exact hb (Or.inr (Int32.lt_of_le_of_lt y v11))
        · exact hb (Or.inr y)
      rw [if_neg hb2] at hK
      refine ⟨fun _ => ?_, fun y => absurd y (by decide)⟩
      obtain ⟨o, hol, ho, hx⟩ := next_val hv h1.2.1 (fun y => hb (Or.inl y))
      refine c_pasted (lf := 1) h1 hv hP1 hd hU hol ho hx ?_
      intro M' a b c d
      refine hK M' ⟨a, ?_, d, fun y => absurd hol (by omega)⟩ (f1.tr b)
      rw [c]
      refine Eq.trans ?_ (gB_2 hv).symm
      rw [show gPaste P (gTick w) 2 = gMount P (gTick w) 2 from upd_ne (by decide)]
theorem c_tick1 {K : Int32 → Mem → Prop} {l o : Nat} (h : PS P M p w) (hv : PV P) (hP : CP P M q) (hd : q + 5 ≤ p ∨ p + 11 ≤ q) (ht : w 5 = nI t) (htb : t + 1 < 2 ^ 28) (hl : M p 6 = nI (l + 1)) (hlb : l < 2000) (e7 : M p 7 = w 3) (hol : o < Prl P) (how : w 1 = nI o)
    (hK : ∀ M', PS P M' p (gGoes1 P w).2 → Fr p M M' → M' p 6 = nI l → M' p 7 = (gGoes1 P w).2 3 → K (gGoes1 P w).1 M') : wp_X4_tick p q M K := by
  obtain ⟨t', g, U, hc, hR, hU⟩ := h
  have htt : t' = t := by
    have := hR.2.2.2.2.2.2.2.1
    rw [ht, eq_nI (by omega) (by have := hR.2.2.2.2.2.2.2.2.2.1; omega)] at this
    exact this.symm
  subst htt
  refine c_tick_in hR htb ?_
  intro M1 h1 f1 r1
  have hP1 := hP.fr f1 hd
  have s1 : M1 p 7 = gTick w 3 := by rw [r1 7 (by decide), e7]; exact (gTick_ne (by decide)).symm
  have h5 := gTick_5 ht
  unfold gGoes1 at hK
  rw [h5, ix_nI (by omega)] at hK
  rw [r1 6 (by decide), hl]
  refine ⟨fun _ => ⟨fun _ => ?_, fun y => absurd rfl y⟩, fun z => ?_⟩
  · refine c_B (b := 0) (lf := 0) h1 hv hP1 hd hU (by decide) hol (by rw [gTick_ne (by decide)]; exact how) s1 ?_
    intro M' a b c d
    exact hK M' a (f1.tr b) (by rw [c, r1 6 (by decide), hl]; exact nI_pred l) d
  · rw [eq_z (by omega)] at z; omega
theorem c_tick2 {K : Int32 → Mem → Prop} {o : Nat} (h : PS P M p w) (hv : PV P) (hP : CP P M q) (hd : q + 5 ≤ p ∨ p + 11 ≤ q) (ht : w 5 = nI t) (htb : t + 1 < 2 ^ 28) (hl : M p 6 = 0) (e7 : M p 7 = Psp P) (hol : o < Prl P) (ho : w 1 + 1 = nI o)
    (hK : ∀ M', PS P M' p (gGoes2 P w).2 → Fr p M M' → M' p 7 = (gGoes2 P w).2 3 → K (gGoes2 P w).1 M') : wp_X4_tick p q M K := by
  obtain ⟨t', g, U, hc, hR, hU⟩ := h
  have htt : t' = t := by
    have := hR.2.2.2.2.2.2.2.1
    rw [ht, eq_nI (by omega) (by have := hR.2.2.2.2.2.2.2.2.2.1; omega)] at this
    exact this.symm
  subst htt
  have v3 := hv.2.2.1
  refine c_tick_in hR htb ?_
  intro M1 h1 f1 r1
  have hP1 := hP.fr f1 hd
  have h5 := gTick_5 ht
  unfold gGoes2 at hK
  rw [h5, ix_nI (by omega)] at hK
  have ho1 : gTick w 1 + 1 = nI o := by rw [gTick_ne (by decide)]; exact ho
  have hne : ¬ gNext P (gTick w) = -9 := fun z => by have := (gNext_no hv ho1 (by omega)).mp z; omega
  rw [r1 6 (by decide), hl]
  refine ⟨fun z => absurd rfl z, fun _ => ⟨fun y => absurd y (by decide), fun _ => ?_⟩⟩
  refine c_can hv hP1 h1.2.1 ?_
  rw [r1 7 (by decide), e7, if_neg (fun y => by rcases y with y | y; · exact hne y
                                                · exact Int32.lt_irrefl y)]
  refine ⟨fun _ => ?_, fun y => absurd y (by decide)⟩
  obtain ⟨o2, hol2, ho2, hx2⟩ := next_val hv h1.2.1 hne
  refine c_pasted (lf := 0) h1 hv hP1 hd hU hol2 ho2 hx2 ?_
  intro M' a b c d
  exact hK M' a (f1.tr b) d
end C7
