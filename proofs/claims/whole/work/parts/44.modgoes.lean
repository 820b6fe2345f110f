section MQ
variable {P : PlanT} {M : Mem} {w : Row} {t k : Nat}
theorem m_159 {K : Int32 → Mem → Prop} {x : Int32} (hx : isB x) (h : K x (sr M (gSpin w))) : wp_X7_goes_159 K x (sr M w) := by
  unfold gSpin at h
  refine ⟨fun c => ?_, fun c => ?_⟩
  · rw [sr_131] at c
    rintro M22 rfl
    rw [if_pos c] at h
    rw [sr_131, mw_sr]
    exact ⟨hx, h⟩
  · rw [sr_131] at c
    rintro M22 rfl
    rw [if_neg c] at h
    rw [sr_131, mw_sr]
    exact ⟨hx, h⟩
theorem gPrints_5 : ∀ (n k : Nat) (w : Row), k + n ≤ 4 → gPrints P t n k w 5 = w 5
  | 0, _, _, _ => rfl
  | n + 1, k, w, h => by
    show gPrints P t n (k + 1) (gPrint P t k w) 5 = w 5
    rw [gPrints_5 n (k + 1) _ (by omega), gPrint_5 (by omega)]
theorem gSeen_5 : gSeen P t w 5 = w 5 := by
  have b := cpl_ge (t - PF P)
  unfold gSeen gJudge gLast
  rw [upd_ne (by omega), upd_ne (by omega), upd_ne (by omega), upd_ne (by omega), upd_ne (by omega), upd_ne (by omega), upd_ne (by omega), upd_ne (by omega), upd_ne (by omega), upd_ne (by omega)]
theorem m_127 {K : Int32 → Mem → Prop} (hP : MP P M) (hv : PV P) (htb : t < 2 ^ 29) : ∀ (n k : Nat) (w : Row), k + n = Pu P → w 5 = nI t →
    (¬ (PF P < t ∧ gPrints P t n k w (cpl (t - PF P)) = 1) → K 0 (sr M (gSpin (gPrints P t n k w)))) →
    (PF P < t ∧ gPrints P t n k w (cpl (t - PF P)) = 1 → K 1 (sr M (gSpin (gAdjs P t (Pu P - 1) 1 (gSeen P t (gPrints P t n k w)))))) →
    L_X7_goes_127 K (n + 1) (nI k) (sr M w) := by
  intro n
  induction n with
  | zero =>
    intro k w hk ht h0 h1
    have v2 := hv.2.1
    refine ⟨fun _ => ?_, fun c => absurd ?_ c⟩
    · refine m_seen hP hv ht htb (fun hc => ?_) (fun hc => ?_)
      · exact ⟨fun _ => m_159 isB0 (h0 hc), fun c => absurd rfl c⟩
      · exact ⟨fun c => absurd c (by decide), fun _ => m_adj hP hv (by rw [gSeen_5]; exact ht) htb (m_159 isB1 (h1 hc))⟩
    · rw [sr_ne (c := 130) (by decide), hP.1, le_nI (by omega) (by omega)]; omega
  | succ n ih =>
    intro k w hk ht h0 h1
    have v2 := hv.2.1
    refine ⟨fun c => ?_, fun c => ?_⟩
    · rw [sr_ne (c := 130) (by decide), hP.1, le_nI (by omega) (by omega)] at c; omega
    · refine m_prints hP hv (by omega) ht (by omega) ?_
      have go := ih (k + 1) (gPrint P t k w) (by omega) (by rw [gPrint_5 (by omega)]; exact ht) h0 h1
      rw [← nI_1] at go
      exact go
theorem gBegin_5 {b : Int32} : gBegin P t b w 5 = w 5 := by
  have b := cpl_ge t
  unfold gBegin
  rw [upd_ne (by omega), upd_ne (by omega), upd_ne (by omega), upd_ne (by omega), upd_ne (by omega), upd_ne (by omega), upd_ne (by omega), upd_ne (by omega), upd_ne (by omega), upd_ne (by omega)]
theorem m_B {K : Int32 → Mem → Prop} {x1 lf : Int32} {b o : Nat} (hP : MP P M) (hv : PV P) (ht : w 5 = nI t) (htb : t < 2 ^ 29) (ho : w 1 = nI o) (hol : o < Prl P) (hb : b ≤ 1) (hl : lf = if x1 = 0 then 1 else 0) (h : K (gB P t (nI b) lf w).1 (sr M (gB P t (nI b) lf w).2)) : wp_X7_goes_102 K x1 (nI b) (sr M w) := by
  refine m_begins hP hv ht (by omega) ho hol hb ?_
  have go : wp_X7_goes_123 K lf (gBegin P t (nI b) w 2) (sr M (gBegin P t (nI b) w)) := by
    rintro M14 rfl
    rw [mw_sr]
    refine ⟨Pu P - 1 + 1, m_127 hP hv htb (Pu P - 1) 1 _ (by have := hv.1; omega) (by rw [upd_ne (by decide), gBegin_5]; exact ht) (fun hc => ?_) (fun hc => ?_)⟩
    · have hc2 : ¬ (PF P < t ∧ gRun P t (nI b) lf w (cpl (t - PF P)) = 1) := hc
      unfold gB at h
      rw [if_neg hc2] at h
      exact h
    · have hc2 : PF P < t ∧ gRun P t (nI b) lf w (cpl (t - PF P)) = 1 := hc
      unfold gB at h
      rw [if_pos hc2] at h
      exact h
  rw [sr_131]
  refine ⟨fun c => ?_, fun c => ?_⟩
  · rw [if_neg c] at hl; rw [← hl]; exact go
  · rw [if_pos c] at hl; rw [← hl]; exact go
theorem gMount_5 : gMount P w 5 = w 5 := by unfold gMount; rw [upd_ne (by decide), upd_ne (by decide), upd_ne (by decide)]
theorem gPaste_5 : gPaste P w 5 = w 5 := by unfold gPaste; rw [upd_ne (by decide), gMount_5]
theorem gPaste_1 : gPaste P w 1 = w 1 + 1 := by unfold gPaste gMount; rw [upd_ne (by decide), upd_ne (by decide), upd_ne (by decide), upd_at]
theorem m_paste {K : Int32 → Mem → Prop} {x1 lf : Int32} {o : Nat} (hP : MP P M) (hv : PV P) (ht : w 5 = nI t) (htb : t < 2 ^ 29) (ho : w 1 + 1 = nI o) (hol : o < Prl P) (hl : lf = if x1 = 0 then 1 else 0) (h : K (gB P t 1 lf (gPaste P w)).1 (sr M (gB P t 1 lf (gPaste P w)).2)) : wp_X7_goes_83 K x1 1 (sr M w) := by
  refine ⟨fun c => absurd c (by decide), fun _ => ?_⟩
  refine m_goesOnReel hP hv ho hol ?_
  rintro M11 rfl
  rw [sr_131, mw_sr]
  have e : upd (gMount P w) 9 (gMount P w 9 + 1) = gPaste P w := by
    have e9 : gMount P w 9 = w 9 := by unfold gMount; rw [upd_ne (by decide), upd_ne (by decide), upd_ne (by decide)]
    rw [e9]; rfl
  rw [e]
  exact m_B (b := 1) hP hv (by rw [gPaste_5]; exact ht) htb (by rw [gPaste_1]; exact ho) hol (by decide) hl h
theorem gTick_ne {j : Nat} (h : j ≠ 5) : gTick w j = w j := upd_ne h
theorem gTick_5 (ht : w 5 = nI t) : gTick w 5 = nI (t + 1) := by unfold gTick; rw [upd_at, ht, nI_1]
/-- the next reel, by the row -/
theorem gNext_no (hv : PV P) {o : Nat} (ho : w 1 + 1 = nI o) (hb : o ≤ 8) : gNext P w = -9 ↔ Prl P ≤ o := by
  have v3 := hv.2.2.1
  unfold gNext
  rw [ho]
  have hle : nI (Prl P) ≤ nI o ↔ Prl P ≤ o := le_nI (by omega) (by omega)
  by_cases h : Prl P ≤ o
  · rw [if_pos (hle.mpr h)]; exact ⟨fun _ => h, fun _ => rfl⟩
  · rw [if_neg (fun z => h (hle.mp z))]
    refine ⟨fun q => ?_, fun q => absurd q h⟩
    have : o = 0 ∨ o = 1 ∨ o = 2 ∨ o = 3 ∨ o = 4 ∨ o = 5 ∨ o = 6 ∨ o = 7 ∨ o = 8 := by omega
    rcases this with rfl | rfl | rfl | rfl | rfl | rfl | rfl | rfl | rfl <;> exact absurd q (by decide)
theorem m_goes1 {K : Int32 → Mem → Prop} {o : Nat} (hP : MP P M) (hv : PV P) (ht : w 5 = nI t) (htb : t + 1 < 2 ^ 29) (ho : w 1 = nI o) (hol : o < Prl P) (h : K (gGoes1 P w).1 (sr M (gGoes1 P w).2)) : wp_X7_goes 1 (sr M w) K := by
  rintro M1 rfl
  rw [sr_131, mw_sr]
  have h5 := gTick_5 ht
  unfold gGoes1 at h
  rw [h5, ix_nI (by omega)] at h
  refine ⟨fun _ => ⟨fun _ => ⟨fun _ => ?_, fun c => absurd rfl c⟩, fun c => absurd c (by decide)⟩, fun c => absurd c (by decide)⟩
  exact m_B (b := 0) (x1 := 1) hP hv h5 htb (by rw [show upd w 5 (w 5 + 1) 1 = w 1 from upd_ne (by decide)]; exact ho) hol (by decide) rfl h
theorem m_goes2 {K : Int32 → Mem → Prop} {o : Nat} (hP : MP P M) (hv : PV P) (ht : w 5 = nI t) (htb : t + 1 < 2 ^ 29) (ho : w 1 + 1 = nI o) (hol : o < Prl P) (h : K (gGoes2 P w).1 (sr M (gGoes2 P w).2)) : wp_X7_goes 2 (sr M w) K := by
  rintro M1 rfl
  rw [sr_131, mw_sr]
  have h5 := gTick_5 ht
  unfold gGoes2 at h
  rw [h5, ix_nI (by omega)] at h
  refine ⟨fun c => absurd rfl c, fun _ => ⟨fun _ => ?_, fun c => absurd c (by decide)⟩⟩
  exact m_paste (x1 := 2) hP hv h5 htb (by rw [show upd w 5 (w 5 + 1) 1 = w 1 from upd_ne (by decide)]; exact ho) hol rfl h
theorem m_goes0 {K : Int32 → Mem → Prop} (hP : MP P M) (hv : PV P) (ht : w 5 = nI t) (htb : t + 1 < 2 ^ 29) (ho : (w 1 = -1 ∧ Prl P = 0 ∧ w 2 = 0) ∨ ∃ o, w 1 = nI o ∧ o < Prl P) (h : K (gGoes0 P w).1 (sr M (gGoes0 P w).2)) : wp_X7_goes 0 (sr M w) K := by
  rintro M1 rfl
  rw [sr_131, mw_sr]
  have h5 := gTick_5 ht
  unfold gGoes0 at h
  rw [h5, ix_nI (by omega)] at h
  have e1 : gTick w 1 = w 1 := upd_ne (by decide)
  have e2 : gTick w 2 = w 2 := upd_ne (by decide)
  have eT : upd w 5 (w 5 + 1) = gTick w := rfl
  rw [eT]
  refine ⟨fun _ => ⟨fun c => absurd rfl c, fun _ => ⟨fun c => ?_, fun c => ?_⟩⟩, fun c => absurd c (by decide)⟩
  · rw [sr_131] at c
    rw [if_neg c] at h
    refine ⟨fun _ => ?_, fun c => absurd rfl c⟩
    rcases ho with ⟨-, -, z⟩ | ⟨o, ho, hol⟩
    · exact absurd (e2.trans z) c
    · exact m_B (b := 0) (x1 := 0) hP hv h5 htb (by rw [e1]; exact ho) hol (by decide) rfl h
  · rw [sr_131] at c
    rw [if_pos c] at h
    have brk : (gNext P (gTick w) = -9 ∨ gTick w 3 ≤ 0 ∨ gTick w 3 < Psp P) → wp_X7_goes_71 K 0 (sr M (gTick w)) := by
      intro hh
      rw [if_pos hh] at h
      exact ⟨fun c => absurd rfl c, fun _ => m_breaks h⟩
    refine m_nextReel hP ⟨fun c1 => brk (Or.inl c1), fun c1 => ⟨fun c2 => ?_, fun c2 => ⟨fun c3 => ?_, fun c3 => ?_⟩⟩⟩
    · rw [sr_131] at c2; exact brk (Or.inr (Or.inl c2))
    · rw [sr_131, sr_ne (c := 142) (by decide), hP.2.2.2.2.2.2.2] at c3; exact brk (Or.inr (Or.inr c3))
    · rw [sr_131] at c2
      rw [sr_131, sr_ne (c := 142) (by decide), hP.2.2.2.2.2.2.2] at c3
      rw [if_neg (fun z => by rcases z with z | z | z <;> contradiction)] at h
      refine ⟨fun _ => ?_, fun c => absurd c (by decide)⟩
      have v3 := hv.2.2.1
      obtain ⟨o, ho1, hob⟩ : ∃ o, gTick w 1 + 1 = nI o ∧ o ≤ 8 := by
        rw [e1]
        rcases ho with ⟨z, z2, -⟩ | ⟨o, ho, hol⟩
        · exact ⟨0, by rw [z]; decide, by decide⟩
        · exact ⟨o + 1, by rw [ho, nI_1], by omega⟩
      have hol : o < Prl P := by
        rcases Nat.lt_or_ge o (Prl P) with q | q
        · exact q
        · exact absurd ((gNext_no hv ho1 hob).mpr q) c1
      exact m_paste (x1 := 0) hP hv h5 htb ho1 hol rfl h
end MQ
