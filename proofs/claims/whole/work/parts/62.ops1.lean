section O1
variable {P : PlanT} {M X Z N : Mem} {pl dr u k : Nat} {w : Row}
theorem m_in {x a b : Int32} {K : Int32 → Mem → Prop} (h : K (if a ≤ x ∧ x ≤ b then 1 else 0) M) : wp_X7_in x a b M K := by
  refine ⟨fun c => ?_, fun c => ⟨fun c2 => ?_, fun c2 => ?_⟩⟩
  · rw [if_neg (fun z => by have := z.1; rw [← Int32.not_lt] at this; exact this c)] at h; exact h
  · rw [if_neg (fun z => by have := z.2; rw [← Int32.not_lt] at this; exact this c2)] at h; exact h
  · rw [Int32.not_lt] at c c2
    rw [if_pos ⟨c, c2⟩] at h; exact h
/-- a unit but 0 -/
theorem c_mov {K : Int32 → Mem → Prop} {a : Int32} {q : Nat} (hP : CP P M q) (hv : PV P) (h1 : ∀ k, a = nI k → 1 ≤ k → k < Pu P → K 1 M) (h0 : (¬ ∃ k, a = nI k ∧ 1 ≤ k ∧ k < Pu P) → K 0 M) : wp_X3_isMovable q a M K := by
  have v2 := hv.2.1
  refine ⟨fun c => h0 ?_, fun c => ⟨fun c2 => h0 ?_, fun c2 => ?_⟩⟩
  · rintro ⟨k, rfl, k1, k2⟩
    rw [ltNl (by decide) (by omega)] at c
    have : k < 1 := c
    omega
  · rintro ⟨k, rfl, k1, k2⟩
    rw [hP.1, le_nI (by omega) (by omega)] at c2; omega
  · rw [Int32.not_lt] at c
    obtain ⟨k, hk, rfl⟩ := int_nI (Int32.le_trans (show (0 : Int32) ≤ 1 by decide) c)
    rw [lleN (by decide) hk] at c
    rw [hP.1, le_nI (by omega) hk] at c2
    exact h1 k rfl c (by omega)
theorem m_later {K : Int32 → Mem → Prop} {a : Int32} (hP : MP P M) (hv : PV P) (h1 : ∀ k, a = nI k → 1 ≤ k → k < Pu P → K 1 M) (h0 : (¬ ∃ k, a = nI k ∧ 1 ≤ k ∧ k < Pu P) → K 0 M) : wp_X7_isLater a M K := by
  have v1 := hv.1
  have v2 := hv.2.1
  have e : M 130 10 - 1 = nI (Pu P - 1) := by rw [hP.1]; exact pk_sub v1
  refine m_in ?_
  rw [e]
  by_cases hc : (1 : Int32) ≤ a ∧ a ≤ nI (Pu P - 1)
  · rw [if_pos hc]
    obtain ⟨k, hk, rfl⟩ := int_nI (Int32.le_trans (show (0 : Int32) ≤ 1 by decide) hc.1)
    have c1 := hc.1
    have c2 := hc.2
    rw [lleN (by decide) hk] at c1
    rw [le_nI hk (by omega)] at c2
    exact ⟨isB1, h1 k rfl c1 (by omega)⟩
  · rw [if_neg hc]
    refine ⟨isB0, h0 ?_⟩
    rintro ⟨k, rfl, k1, k2⟩
    exact hc ⟨by rw [lleN (by decide) (by omega)]; exact k1, by rw [le_nI (by omega) (by omega)]; omega⟩
theorem m_rem {K : Mem → Prop} (hu : u ≤ 6) (hM : M 130 3 = nI u) (h : K (mRem M u)) : wp_X7_remembers M K := m_remembers hu hM h
theorem R2_end (h : R2 P X (mRem N u) pl dr) (hx : ∀ c, 130 ≤ c → X c = N c) (f : Fr 13 X Z) (hp : PT P Z 13 w) : Rel (sr (mRem Z u) w) pl dr := by
  refine R2_fin (R2_press h f hp) (fun c hc => ?_) (fun c hc => ?_)
  · rw [sr_ne (by omega), mRem_low hc]
  · by_cases z : c = 131
    · subst z; rw [sr_131, sr_131]
    · rw [sr_ne z, sr_ne z]
      exact mRem_congr (fun c hc => by rw [f c (by omega)]; exact hx c hc) c hc
/-- the place of an op's memory behind remember: row and counters as they were -/
theorem rem_131 : mRem M u = sr (mRem M u) (M 131) := by rw [← mRem_ne (N := M) (u := u) (c := 131) (by decide) (by decide), sr_self]
theorem MP_rem (h : MP P M) : MP P (mRem M u) := by
  unfold MP at *
  rw [mRem_130 (by decide), mRem_130 (by decide), mRem_ne (c := 138) (by decide) (by decide), mRem_ne (c := 139) (by decide) (by decide), mRem_ne (c := 140) (by decide) (by decide), mRem_ne (c := 141) (by decide) (by decide), mRem_ne (c := 142) (by decide) (by decide)]
  exact h
theorem MP_hi {M' : Mem} (h : MP P M) (e : ∀ c, 130 ≤ c → M' c = M c) : MP P M' := by
  unfold MP at *; rw [e 130 (by omega), e 138 (by omega), e 139 (by omega), e 140 (by omega), e 141 (by omega), e 142 (by omega)]; exact h
theorem pl_apart (h : Rpl pl dr) : pl + 5 ≤ 13 ∨ 13 + 11 ≤ pl := by unfold Rpl at h; omega
/-- an op that remembers, then moves the Press and the row -/
theorem op_rem {w' : Row} {X1 : Mem} (h : R2 P M M pl dr) (hX : R2 P X (mRem M u) pl dr) (fx : ∀ c, c < 35 ∨ 103 ≤ c → X c = M c) (f : Fr 13 X X1) (hp : PT P X1 13 w') :
    (∀ c, 130 ≤ c → X1 c = M c) ∧ MP P (mRem X1 u) ∧ mRem X1 u = sr (mRem X1 u) (M 131) ∧ Rel (sr (mRem X1 u) w') pl dr := by
  have hi : ∀ c, 130 ≤ c → X1 c = M c := fun c hc => by rw [f c (by omega), fx c (by omega)]
  refine ⟨hi, MP_rem (MP_hi h.2.1 hi), ?_, R2_end hX (fun c hc => fx c (by omega)) f hp⟩
  rw [rem_131, sr_sr, hi 131 (by omega)]
theorem PT_t {p : Nat} (h : PT P M p w) : ∃ t g U hc, PR P M p w t t g U (Pwy P) hc ∧ U ≤ PF P ∧ t ≤ 9999 ∧ w 5 = nI t := by
  obtain ⟨⟨⟨t, g, U, hc, hR, hU⟩, -⟩, t2, ht2, hw2⟩ := h
  have := hR.2.2.2.2.2.2.2.1
  rw [hw2, eq_nI (by omega) (by have := hR.2.2.2.2.2.2.2.2.2.1; omega)] at this
  subst this
  exact ⟨t2, g, U, hc, hR, hU, ht2, hw2⟩
theorem PT_mk {p t g U : Nat} {hc : Prop} (hR : PR P M p w t t g U (Pwy P) hc) (hU : U ≤ PF P) (ht : t ≤ 9999) (e6 : M p 6 = w 2) (e7 : M p 7 = w 3) (e0 : Prl P = 0 → w 2 = 0) : PT P M p w :=
  ⟨⟨⟨t, g, U, hc, hR, hU⟩, e6, e7, e0⟩, t, ht, hR.2.2.2.2.2.2.2.1⟩
theorem op_drifts (M : Mem) (pl dr : Nat) (a1 a2 : Int32) (h : Rel M pl dr) : wp_X6_drifts pl dr a1 a2 M (fun r M1 => wp_X7_drifts a1 a2 M1 (fun q M2 => r = q ∧ Rel M2 pl dr)) := by
  obtain ⟨P, h⟩ := h
  have hr : Rel M pl dr := ⟨P, h⟩
  have hv := h.1
  have v2 := hv.2.1
  refine c_mov h.2.2.1 hv (fun k hk k1 k2 => ?_) (fun hno => ⟨fun _ => ?_, fun z => absurd rfl z⟩)
  · subst hk
    refine ⟨fun z => absurd z (by decide), fun _ => c_within ?_⟩
    by_cases hc : (-20 : Int32) ≤ a2 ∧ a2 ≤ 20
    · rw [if_pos hc]
      have i1 := ixn (k := k) (z := 4) (by omega) (by decide)
      have i2 := ixa (c := 10) 10 (k := k) (z := 349) rfl (by omega) (by decide)
      refine ⟨fun _ => ⟨i1.1, ?_⟩, fun z => absurd z (by decide)⟩
      rw [i1.2]
      obtain ⟨t, g, U, hc', hR, hU, ht, hw⟩ := PT_t h.2.2.2.2.1
      have r1 : M 14 k = M 131 (10 + k) := hR.r (co_off (by omega))
      refine ⟨fun z => ?_, fun z => ?_⟩
      · refine c_remember h ?_
        intro X1 u hu6 hu hX fx
        refine ⟨i1.1, ?_⟩
        rintro M7 rfl
        obtain ⟨t, g, U, hc', hR, hU, ht, hw⟩ := PT_t hX.2.2.2.2.1
        rw [mRem_ne (by decide) (by decide)] at hR hw
        have hp6 := hX.2.2.2.2.1.1.2
        rw [mRem_ne (by decide) (by decide)] at hp6
        have hR2 := hR.wr a2 (co_off (show k < 4 by omega)) ⟨by omega, by omega, by omega, by omega, by omega, by omega, fun z => by omega, by decide, fun z => absurd z (by decide), fun z => absurd z (by decide)⟩
        have hp2 : PT P (mw X1 14 k a2) 13 (upd (M 131) (10 + k) a2) := PT_mk hR2 hU ht (by show mw X1 14 k a2 13 6 = _; rw [mw_ne (by decide), upd_ne (by omega)]; exact hp6.1) (by rw [mw_ne (by decide), upd_ne (by omega)]; exact hp6.2.1) (fun y => by rw [upd_ne (by omega)]; exact hp6.2.2 y)
        obtain ⟨o1, o2, o3, o4⟩ := op_rem h hX fx (show Fr 13 X1 (mw X1 14 k a2) from Fr.w (p := 13) (i := 1) (by decide)) hp2
        refine m_later (MP_hi h.2.1 o1) hv (fun k' hk' _ _ => ⟨fun y => absurd y (by decide), fun _ => m_in ?_⟩) (fun hno => absurd ⟨k, rfl, k1, k2⟩ hno)
        rw [if_pos hc]
        refine ⟨fun _ => ⟨i2.1, ?_⟩, fun y => absurd y (by decide)⟩
        rw [i2.2, o1 131 (by omega)]
        refine ⟨fun _ => m_rem hu (by rw [o1 130 (by omega)]; exact hu6) ⟨i2.1, ?_⟩, fun y => absurd (r1.trans y) z⟩
        rintro M7 rfl
        rw [o3, mw_sr]
        exact ⟨rfl, o4⟩
      · refine m_later h.2.1 hv (fun k' hk' _ _ => ⟨fun y => absurd y (by decide), fun _ => m_in ?_⟩) (fun hno => absurd ⟨k, rfl, k1, k2⟩ hno)
        rw [if_pos hc]
        refine ⟨fun _ => ⟨i2.1, ?_⟩, fun y => absurd y (by decide)⟩
        rw [i2.2]
        exact ⟨fun y => absurd (r1.symm.trans z) y, fun _ => ⟨rfl, hr⟩⟩
    · rw [if_neg hc]
      refine ⟨fun z => absurd rfl z, fun _ => m_later h.2.1 hv (fun k' hk' _ _ => ⟨fun y => absurd y (by decide), fun _ => m_in ?_⟩) (fun hno => absurd ⟨k, rfl, k1, k2⟩ hno)⟩
      rw [if_neg hc]
      exact ⟨fun y => absurd rfl y, fun _ => ⟨rfl, hr⟩⟩
  · exact m_later h.2.1 hv (fun k hk k1 k2 => absurd ⟨k, hk, k1, k2⟩ hno) (fun _ => ⟨fun _ => ⟨rfl, hr⟩, fun y => absurd rfl y⟩)
end O1
