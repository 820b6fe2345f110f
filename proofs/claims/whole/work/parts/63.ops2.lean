section O2
variable {P : PlanT} {M X Z N : Mem} {p q pl dr u k : Nat} {w : Row} {T t g U : Nat} {f : Nat → Nat} {hc : Prop}
theorem PR.bw (h : PR P M p w T t g U f hc) {k j : Nat} (hkj : (k = 8 ∧ j = 0) ∨ (k = 9 ∧ j = 4)) {v : Int32} (hb : isB v) : PR P (mw M p k v) p (upd w j v) T t g U f hc := by
  obtain ⟨b1, b2, b3, b4, b5, b6, b7, b8⟩ := h
  obtain ⟨n1, n2, n3, n4, n5, n6, n7, n8, n9⟩ := b8
  have e0 : ∀ x j, x ≠ p → mw M p k v x j = M x j := fun x j hx => congrFun (mw_ne hx) j
  have hco : Co (Pu P) t g U f hc 0 k j := by
    rcases hkj with ⟨rfl, rfl⟩ | ⟨rfl, rfl⟩
    · exact co_runs
    · exact co_ahead
  refine ⟨b1.wr (i := 0) (by omega) n4 (by omega) v hco, ?_, ?_, b4.ne (fun z => by omega), ?_, ?_, ?_, ?_⟩
  · rw [mw_k (by omega), upd_ne (by omega)]; exact b2
  · rw [e0 _ _ (by omega)]; exact b3
  · intro c e h1 h2 h3; rw [e0 _ _ (by omega)]; exact b5 c e h1 h2 h3
  · unfold Pl at *; rw [e0 _ _ (by omega), e0 _ _ (by omega), upd_ne (by omega)]; exact b6
  · unfold Pb at *
    rw [e0 _ _ (by omega), e0 _ _ (by omega), e0 _ _ (by omega)]
    refine ⟨b7.1, b7.2.1, b7.2.2.1, ?_, ?_⟩
    · by_cases z : k = 8
      · subst z; rw [mw_at]; exact hb
      · rw [mw_k (by omega)]; exact b7.2.2.2.1
    · by_cases z : k = 9
      · subst z; rw [mw_at]; exact hb
      · rw [mw_k (by omega)]; exact b7.2.2.2.2
  · refine ⟨by rw [upd_ne (by omega)]; exact n1, by rw [upd_ne (by omega)]; exact n2, n3, n4, n5, n6, n7, ?_, ?_⟩
    · by_cases z : j = 0
      · subst z; rw [upd_at]; exact hb
      · rw [upd_ne (by omega)]; exact n8
    · by_cases z : j = 4
      · subst z; rw [upd_at]; exact hb
      · rw [upd_ne (by omega)]; exact n9
theorem op_corrects (M : Mem) (pl dr : Nat) (a1 a2 : Int32) (h : Rel M pl dr) : wp_X6_corrects pl dr a1 a2 M (fun r M1 => wp_X7_corrects a1 a2 M1 (fun q M2 => r = q ∧ Rel M2 pl dr)) := by
  obtain ⟨P, h⟩ := h
  have hr : Rel M pl dr := ⟨P, h⟩
  have hv := h.1
  have v2 := hv.2.1
  refine c_mov h.2.2.1 hv (fun k hk k1 k2 => ?_) (fun hno => ⟨fun _ => ?_, fun z => absurd rfl z⟩)
  · subst hk
    refine ⟨fun z => absurd z (by decide), fun _ => c_within ?_⟩
    by_cases hc : (-20 : Int32) ≤ a2 ∧ a2 ≤ 20
    · rw [if_pos hc]
      have i1 := ixn (k := k) (z := 4) (by omega) (by decide)
      have i2 := ixa (c := 18) 18 (k := k) (z := 349) rfl (by omega) (by decide)
      refine ⟨fun z => absurd z (by decide), fun _ => ⟨fun z => ?_, fun z => ?_⟩⟩
      · refine c_remember h ?_
        intro X1 u hu6 hu hX fx
        obtain ⟨t, g, U, hc', hR, hU, ht, hw⟩ := PT_t hX.2.2.2.2.1
        rw [mRem_ne (by decide) (by decide)] at hR hw
        have hp6 := hX.2.2.2.2.1.1.2
        rw [mRem_ne (by decide) (by decide)] at hp6
        refine c_correct hR hv hX.2.2.1 (pl_apart hX.2.2.2.1) k1 k2 ?_
        intro M7 hR7 f7 p7 w7
        have e23 : ∀ j, j < 4 → gCorr P t k a2 (M 131) j = M 131 j := fun j hj => by
          have b1 := ppl_ge (k + 1) (t + 1 + Pgp P (k + 1))
          have f0 : gCorr0 P k a2 (M 131) j = M 131 j := by unfold gCorr0; rw [upd_ne (by omega), upd_ne (by omega)]
          unfold gCorr
          split
          · rw [upd_ne (by omega)]; exact f0
          · exact f0
        have hp2 : PT P M7 13 (gCorr P t k a2 (M 131)) := PT_mk hR7 hU ht (by rw [p7, e23 2 (by decide)]; exact hp6.1) (by rw [p7, e23 3 (by decide)]; exact hp6.2.1) (fun y => by rw [e23 2 (by decide)]; exact hp6.2.2 y)
        obtain ⟨o1, o2, o3, o4⟩ := op_rem h hX fx f7 hp2
        rw [i1.2]
        refine ⟨i1.1, ?_⟩
        refine m_later (MP_hi h.2.1 o1) hv (fun k' hk' _ _ => ⟨fun y => absurd y (by decide), fun _ => m_in ?_⟩) (fun hno => absurd ⟨k, rfl, k1, k2⟩ hno)
        rw [if_pos hc]
        refine ⟨fun y => absurd y (by decide), fun _ => ⟨fun _ => m_rem hu (by rw [o1 130 (by omega)]; exact hu6) ?_, fun y => absurd y z⟩⟩
        rw [o3]
        refine m_corr o2 hv k2 hw (by omega) ⟨i2.1, ?_, o4⟩
        rw [i2.2, sr_131]
        have : gCorr P t k a2 (M 131) (18 + k) = M7 16 k := (hR7.r (co_wait (show k < 4 by omega))).symm
        rw [this]
      · refine m_later h.2.1 hv (fun k' hk' _ _ => ⟨fun y => absurd y (by decide), fun _ => m_in ?_⟩) (fun hno => absurd ⟨k, rfl, k1, k2⟩ hno)
        rw [if_pos hc]
        exact ⟨fun y => absurd y (by decide), fun _ => ⟨fun y => absurd z y, fun _ => ⟨rfl, hr⟩⟩⟩
    · rw [if_neg hc]
      refine ⟨fun _ => m_later h.2.1 hv (fun k' hk' _ _ => ⟨fun y => absurd y (by decide), fun _ => m_in ?_⟩) (fun hno => absurd ⟨k, rfl, k1, k2⟩ hno), fun z => absurd rfl z⟩
      rw [if_neg hc]
      exact ⟨fun _ => ⟨rfl, hr⟩, fun y => absurd rfl y⟩
  · exact m_later h.2.1 hv (fun k hk k1 k2 => absurd ⟨k, hk, k1, k2⟩ hno) (fun _ => ⟨fun _ => ⟨rfl, hr⟩, fun y => absurd rfl y⟩)
theorem m_next0 {K : Int32 → Mem → Prop} (hP : MP P M) (h : K (gNext P (M 131)) M) : wp_X7_nextReel M K := by
  have := m_nextReel (w := M 131) (M := M) (K := K) hP (by rw [sr_self]; exact h)
  rw [sr_self] at this; exact this
theorem op_spins (M : Mem) (pl dr : Nat) (h : Rel M pl dr) : wp_X6_spins pl dr M (fun r M1 => wp_X7_spins M1 (fun q M2 => r = q ∧ Rel M2 pl dr)) := by
  obtain ⟨P, h⟩ := h
  have hr : Rel M pl dr := ⟨P, h⟩
  have hv := h.1
  obtain ⟨t, g, U, hc', hR, hU, ht, hw⟩ := PT_t h.2.2.2.2.1
  have r8 : M 13 8 = M 131 0 := hR.r co_runs
  have r7 : M 13 7 = M 131 3 := h.2.2.2.2.1.1.2.2.1
  refine c_next hv h.2.2.1 hR.2.1 ?_
  rw [r8, r7]
  refine ⟨fun z => ⟨fun _ => ⟨rfl, hr⟩, fun y => absurd z y⟩, fun z => ⟨fun z2 => ⟨fun y => absurd y z, fun _ => m_next0 h.2.1 ⟨fun _ => ⟨rfl, hr⟩, fun y => absurd z2 y⟩⟩, fun z2 => ⟨fun z3 => ?_, fun z3 => ⟨fun y => absurd y z, fun _ => m_next0 h.2.1 ⟨fun y => absurd y z2, fun _ => ⟨fun y => absurd y z3, fun _ => ⟨rfl, hr⟩⟩⟩⟩⟩⟩⟩
  refine c_remember h ?_
  intro X1 u hu6 hu hX fx
  rintro M6 rfl
  obtain ⟨t, g, U, hc', hR, hU, ht, hw⟩ := PT_t hX.2.2.2.2.1
  rw [mRem_ne (by decide) (by decide)] at hR hw
  have hp6 := hX.2.2.2.2.1.1.2
  rw [mRem_ne (by decide) (by decide)] at hp6
  have hp2 : PT P (mw X1 13 7 1) 13 (upd (M 131) 3 1) := PT_mk ((hR.cls (Or.inr rfl) 1).row (Or.inr rfl) 1) hU ht (by rw [mw_k (by decide), upd_ne (by decide)]; exact hp6.1) (by rw [mw_at, upd_at]) (fun y => by rw [upd_ne (by decide)]; exact hp6.2.2 y)
  obtain ⟨o1, o2, o3, o4⟩ := op_rem h hX fx (show Fr 13 X1 (mw X1 13 7 1) from Fr.w0) hp2
  have e131 : mw X1 13 7 1 131 = M 131 := o1 131 (by omega)
  refine ⟨fun y => absurd (by rw [e131] at y; exact y) z, fun _ => m_next0 (MP_hi h.2.1 o1) ?_⟩
  rw [e131]
  refine ⟨fun y => absurd y z2, fun _ => ⟨fun _ => m_rem hu (by rw [o1 130 (by omega)]; exact hu6) ?_, fun y => absurd z3 y⟩⟩
  rintro M6 rfl
  rw [o3, mw_sr]
  refine m_nextReel o2 ⟨?_, o4⟩
  unfold gNext
  rw [upd_ne (by decide)]
theorem mfl4 {a : Nat} : mfl M a 4 0 = mw (mw (mw (mw M a 0 0) a 1 0) a 2 0) a 3 0 := by
  funext b j
  simp only [mfl, mw]
  by_cases h : b = a
  · subst h
    by_cases h0 : j = 0
    · subst h0; simp
    · by_cases h1 : j = 1
      · subst h1; simp
      · by_cases h2 : j = 2
        · subst h2; simp
        · by_cases h3 : j = 3
          · subst h3; simp
          · simp [h0, h1, h2, h3, show ¬ j < 4 by omega]
  · simp [h]
def gStart (P : PlanT) (w : Row) : Row := upd (upd (upd (upd (upd (gMount P w) 0 1) (18 + 0) 0) (18 + 1) 0) (18 + 2) 0) (18 + 3) 0
theorem m_st39 {K : Int32 → Mem → Prop} (h : K (upd (upd (upd (upd w (18 + 0) 0) (18 + 1) 0) (18 + 2) 0) (18 + 3) 0 1) (sr M (upd (upd (upd (upd w (18 + 0) 0) (18 + 1) 0) (18 + 2) 0) (18 + 3) 0))) : L_X7_starts_39 K 5 0 (sr M w) := by
  have step : ∀ (k x : Nat) (w : Row), x < 4 → L_X7_starts_39 K k (nI (x + 1)) (sr M (upd w (18 + x) 0)) → L_X7_starts_39 K (k + 1) (nI x) (sr M w) := by
    intro k x w hx hh
    have i1 := ixa (c := 18) 18 (k := x) (z := 349) rfl (by omega) (by decide)
    refine ⟨fun c => ?_, fun _ => ⟨i1.1, ?_⟩⟩
    · rw [lleN (by decide) (by omega)] at c
      have : 4 ≤ x := c
      omega
    · rintro M9 rfl
      rw [i1.2, mw_sr, nI_1]; exact hh
  refine step 4 0 _ (by decide) (step 3 1 _ (by decide) (step 2 2 _ (by decide) (step 1 3 _ (by decide) ?_)))
  exact ⟨fun _ => by rw [sr_131]; exact h, fun c => absurd (Int32.le_refl _) c⟩
theorem op_starts (M : Mem) (pl dr : Nat) (h : Rel M pl dr) : wp_X6_starts pl dr M (fun r M1 => wp_X7_starts M1 (fun q M2 => r = q ∧ Rel M2 pl dr)) := by
  obtain ⟨P, h⟩ := h
  have hr : Rel M pl dr := ⟨P, h⟩
  have hv := h.1
  obtain ⟨t, g, U, hc', hR, hU, ht, hw⟩ := PT_t h.2.2.2.2.1
  have r8 : M 13 8 = M 131 0 := hR.r co_runs
  have hb0 : isB (M 131 0) := hR.2.2.2.2.2.2.2.2.2.2.2.2.2.2.1
  unfold wp_X6_starts
  rw [r8]
  refine ⟨fun z => ⟨fun _ => ⟨rfl, hr⟩, fun y => ?_⟩, fun z => ?_⟩
  · rcases hb0 with x | x
    · exact absurd x z
    · exact absurd x y
  have hn1 : ¬ M 131 0 = 1 := fun y => by rw [z] at y; exact absurd y (by decide)
  refine c_next hv h.2.2.1 hR.2.1 ⟨fun z2 => ?_, fun z2 => ⟨fun y => absurd y hn1, fun _ => m_next0 h.2.1 ⟨fun y => absurd z2 y, fun _ => ⟨rfl, hr⟩⟩⟩⟩
  refine c_remember h ?_
  intro X1 u hu6 hu hX fx
  obtain ⟨t, g, U, hc', hR, hU, ht, hw⟩ := PT_t hX.2.2.2.2.1
  rw [mRem_ne (by decide) (by decide)] at hR hw
  have hp6 := hX.2.2.2.2.1.1.2
  rw [mRem_ne (by decide) (by decide)] at hp6
  obtain ⟨o, hol, ho, hx⟩ := next_val hv hR.2.1 z2
  refine c_mount hR hv hX.2.2.1 (pl_apart hX.2.2.2.1) hol ho hx ?_
  intro M1 h1 f1 l1 s1 k1
  rintro M2 rfl
  refine c_fill (by decide) ?_
  rw [mfl4]
  have h2 := h1.bw (Or.inl ⟨rfl, rfl⟩) isB1
  have h3 := (((h2.wr 0 (co_wait (show 0 < 4 by decide)) (qk_wait (by decide))).wr 0 (co_wait (show 1 < 4 by decide)) (qk_wait (by decide))).wr 0 (co_wait (show 2 < 4 by decide)) (qk_wait (by decide))).wr 0 (co_wait (show 3 < 4 by decide)) (qk_wait (by decide))
  have es : upd (upd (upd (upd (upd (gMount P (M 131)) 0 1) (18 + 0) 0) (18 + 1) 0) (18 + 2) 0) (18 + 3) 0 = gStart P (M 131) := rfl
  rw [es] at h3
  have gs : ∀ j, j = 1 ∨ j = 2 ∨ j = 3 → gStart P (M 131) j = gMount P (M 131) j := fun j hj => by
    unfold gStart; rw [upd_ne (by omega), upd_ne (by omega), upd_ne (by omega), upd_ne (by omega), upd_ne (by omega)]
  have fZ : Fr 13 X1 (mw (mw (mw (mw (mw M1 13 8 1) (13 + 3) 0 0) (13 + 3) 1 0) (13 + 3) 2 0) (13 + 3) 3 0) := ((((f1.tr Fr.w0).tr (Fr.w (by decide))).tr (Fr.w (by decide))).tr (Fr.w (by decide))).tr (Fr.w (by decide))
  have z13 : ∀ j, mw (mw (mw (mw (mw M1 13 8 1) (13 + 3) 0 0) (13 + 3) 1 0) (13 + 3) 2 0) (13 + 3) 3 0 13 j = mw M1 13 8 1 13 j := fun j => by rw [mw_ne (by decide), mw_ne (by decide), mw_ne (by decide), mw_ne (by decide)]
  have hp2 : PT P (mw (mw (mw (mw (mw M1 13 8 1) (13 + 3) 0 0) (13 + 3) 1 0) (13 + 3) 2 0) (13 + 3) 3 0) 13 (gStart P (M 131)) := PT_mk h3 hU ht (by rw [z13, mw_k (by decide), gs 2 (by omega)]; exact l1) (by rw [z13, mw_k (by decide), s1, gs 3 (by omega)]; unfold gMount; rw [upd_at]) (fun y => absurd hol (by omega))
  obtain ⟨o1, o2, o3, o4⟩ := op_rem h hX fx fZ hp2
  have ep := h3.2.1
  generalize mw (mw (mw (mw (mw M1 13 8 1) (13 + 3) 0 0) (13 + 3) 1 0) (13 + 3) 2 0) (13 + 3) 3 0 = Z at *
  refine ⟨fun y => absurd (by rw [o1 131 (by omega)] at y; exact y) hn1, fun _ => m_next0 (MP_hi h.2.1 o1) ?_⟩
  rw [o1 131 (by omega)]
  refine ⟨fun _ => m_rem hu (by rw [o1 130 (by omega)]; exact hu6) ?_, fun y => absurd y z2⟩
  rw [o3]
  refine m_goesOnReel o2 hv ho hol ?_
  rintro M6 rfl
  rw [mw_sr]
  refine ⟨5, m_st39 ⟨?_, o4⟩⟩
  show Z 13 5 = gStart P (M 131) 1
  have g1 : gStart P (M 131) 1 = nI o := by rw [gs 1 (by omega)]; unfold gMount; rw [upd_ne (by decide), upd_ne (by decide), upd_at]; exact ho
  have v3 := hv.2.2.1
  rcases ep with ⟨e1, -, -⟩ | ⟨o', -, e1, e2⟩
  · rw [g1] at e1
    have : o = 0 ∨ o = 1 ∨ o = 2 ∨ o = 3 ∨ o = 4 ∨ o = 5 ∨ o = 6 ∨ o = 7 := by omega
    rcases this with rfl | rfl | rfl | rfl | rfl | rfl | rfl | rfl <;> exact absurd e1 (by decide)
  · rw [e2, e1]
theorem op_aheads (M : Mem) (pl dr : Nat) (a1 : Int32) (h : Rel M pl dr) : wp_X6_aheads pl dr a1 M (fun r M1 => wp_X7_aheads a1 M1 (fun q M2 => r = q ∧ Rel M2 pl dr)) := by
  obtain ⟨P, h⟩ := h
  have hr : Rel M pl dr := ⟨P, h⟩
  have hv := h.1
  obtain ⟨t, g, U, hc', hR, hU, ht, hw⟩ := PT_t h.2.2.2.2.1
  have r9 : M 13 9 = M 131 4 := hR.r co_ahead
  have hb4 : isB (M 131 4) := hR.2.2.2.2.2.2.2.2.2.2.2.2.2.2.2
  refine c_within ?_
  by_cases hc : (0 : Int32) ≤ a1 ∧ a1 ≤ 1
  · rw [if_pos hc]
    have hb : isB a1 := by
      obtain ⟨k, hk, rfl⟩ := int_nI hc.1
      have := hc.2
      rw [leNl (by decide) hk] at this
      have : k ≤ 1 := this
      have : k = 0 ∨ k = 1 := by omega
      rcases this with rfl | rfl
      · exact isB0
      · exact isB1
    have core : ∀ y0, y0 = a1 → wp_X6_aheads_28 pl dr (fun r M1 => wp_X7_aheads a1 M1 (fun q M2 => r = q ∧ Rel M2 pl dr)) a1 y0 (M 13 9) M := by
      rintro y0 rfl
      rw [r9]
      refine ⟨fun z => ?_, fun z => m_in (by rw [if_pos hc]; exact ⟨fun _ => ⟨fun y => absurd z y, fun _ => ⟨rfl, hr⟩⟩, fun y => absurd y (by decide)⟩)⟩
      refine c_remember h ?_
      intro X1 u hu6 hu hX fx
      have fin : ∀ M7, M7 = mw X1 13 9 y0 → wp_X7_aheads y0 M7 (fun q M2 => (1 : Int32) = q ∧ Rel M2 pl dr) := by
        rintro M7 rfl
        obtain ⟨t, g, U, hc', hR, hU, ht, hw⟩ := PT_t hX.2.2.2.2.1
        rw [mRem_ne (by decide) (by decide)] at hR hw
        have hp6 := hX.2.2.2.2.1.1.2
        rw [mRem_ne (by decide) (by decide)] at hp6
        have hp2 : PT P (mw X1 13 9 y0) 13 (upd (M 131) 4 y0) := PT_mk (hR.bw (Or.inr ⟨rfl, rfl⟩) hb) hU ht (by rw [mw_k (by decide), upd_ne (by decide)]; exact hp6.1) (by rw [mw_k (by decide), upd_ne (by decide)]; exact hp6.2.1) (fun y => by rw [upd_ne (by decide)]; exact hp6.2.2 y)
        obtain ⟨o1, o2, o3, o4⟩ := op_rem h hX fx (show Fr 13 X1 (mw X1 13 9 y0) from Fr.w0) hp2
        refine m_in ?_
        rw [if_pos hc]
        refine ⟨fun _ => ?_, fun y => absurd y (by decide)⟩
        rw [o1 131 (by omega)]
        refine ⟨fun _ => m_rem hu (by rw [o1 130 (by omega)]; exact hu6) ?_, fun y => absurd y z⟩
        rintro M5 rfl
        rw [o3, mw_sr]
        exact ⟨rfl, o4⟩
      refine ⟨fun y => ?_, fun y => ?_⟩
      · rintro M7 rfl
        refine fin _ ?_
        rcases hb with x | x
        · rw [x]
        · exact absurd x y
      · rintro M8 rfl
        exact fin _ (by rw [y])
    refine ⟨fun _ => ⟨fun z => core 0 ?_, fun z => core 1 z.symm⟩, fun z => absurd z (by decide)⟩
    rcases hb with x | x
    · exact x.symm
    · exact absurd x z
  · rw [if_neg hc]
    refine ⟨fun z => absurd rfl z, fun _ => m_in ?_⟩
    rw [if_neg hc]
    exact ⟨fun z => absurd rfl z, fun _ => ⟨rfl, hr⟩⟩
end O2
