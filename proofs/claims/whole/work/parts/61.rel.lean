/-! the relation: X the class's cells (below 130), N the reference's (from 130 on) -/
def PT (P : PlanT) (X : Mem) (p : Nat) (w : Row) : Prop := PSL P X p w ∧ ∃ t, t ≤ 9999 ∧ w 5 = nI t
def RH (P : PlanT) (X N : Mem) : Prop := ∃ nw kn, nw < 6 ∧ kn ≤ 6 ∧ X 35 1 = nI nw ∧ X 35 2 = nI kn ∧ N 130 3 = nI kn ∧ ∀ i, i < kn → PT P X (37 + 11 * ((nw + 6 - i) % 6)) (fun j => N 133 (349 * (kn - 1 - i) + j))
def RI (P : PlanT) (X N : Mem) : Prop := ∀ i, i < 2 → X 104 i = N 135 i ∧ isB (X 104 i) ∧ (X 104 i = 1 → PT P X (108 + 11 * i) (fun j => N 134 (349 * i + j)))
def RT (X N : Mem) : Prop := ∃ n, n ≤ 120 ∧ X 1 1 = nI n ∧ N 130 7 = nI n ∧ ∀ j, j < n → X 2 j = N 136 j ∧ 0 ≤ X 2 j ∧ X 2 j ≤ 255
def RQ (X N : Mem) : Prop := ∃ n, n ≤ 6 ∧ X 105 2 = nI n ∧ N 130 9 = nI n ∧ ∀ i, i < n → X 106 i = N 137 (2 * i) ∧ X 107 i = N 137 (2 * i + 1)
def RZ (X : Mem) : Prop := X 4 0 = 0 ∧ X 5 0 = 0 ∧ X 9 0 = 0 ∧ X 10 0 = 0
def Rpl (pl dr : Nat) : Prop := (pl = 3 ∧ dr = 8) ∨ (pl = 8 ∧ dr = 3)
def R2 (P : PlanT) (X N : Mem) (pl dr : Nat) : Prop := PV P ∧ MP P N ∧ CP P X pl ∧ Rpl pl dr ∧ PT P X 13 (N 131) ∧ RH P X N ∧ RI P X N ∧ RT X N ∧ RQ X N ∧ RZ X
def Rel (M : Mem) (pl dr : Nat) : Prop := ∃ P, R2 P M M pl dr
section RR
variable {P : PlanT} {X X' N N' : Mem} {pl dr p : Nat} {w w' : Row}
theorem PT_same (h : PT P X p w) {X' : Mem} {p' : Nat} (s : SameP X p X' p') : PT P X' p' w := ⟨PSL_same h.1 s, h.2⟩
theorem PT_row (h : PT P X p w) (s : ∀ j, j < 349 → w' j = w j) : PT P X p w' := ⟨PSL_row h.1 s, by obtain ⟨t, a, b⟩ := h.2; exact ⟨t, a, by rw [s 5 (by decide)]; exact b⟩⟩
theorem PT_cells (h : PT P X p w) (e : ∀ i, i < 11 → X' (p + i) = X (p + i)) : PT P X' p w := PT_same h (SameP.of_eq e)
theorem CP_cells {q : Nat} (h : CP P X q) (e : ∀ i, i < 5 → X' (q + i) = X (q + i)) : CP P X' q := by
  unfold CP at *
  rw [show X' q = X q from e 0 (by decide), e 1 (by decide), e 2 (by decide), e 3 (by decide), e 4 (by decide)]
  exact h
/-- only what lies below counts in the class's part, only what lies above in the reference's -/
theorem R2_congr (h : R2 P X N pl dr) (hx : ∀ c, c < 130 → X' c = X c) (hn : ∀ c, 130 ≤ c → N' c = N c) : R2 P X' N' pl dr := by
  obtain ⟨a1, a2, a3, a4, a5, a6, a7, a8, a9, a10⟩ := h
  have hpl : pl = 3 ∨ pl = 8 := by rcases a4 with z | z; · exact Or.inl z.1
                                   · exact Or.inr z.1
  refine ⟨a1, ?_, CP_cells a3 (fun i hi => hx _ (by omega)), a4, ?_, ?_, ?_, ?_, ?_, ?_⟩
  · unfold MP at *; rw [hn 130 (by omega), hn 138 (by omega), hn 139 (by omega), hn 140 (by omega), hn 141 (by omega), hn 142 (by omega)]; exact a2
  · rw [hn 131 (by omega)]; exact PT_cells a5 (fun i hi => hx _ (by omega))
  · obtain ⟨nw, kn, b1, b2, b3, b4, b5, b6⟩ := a6
    refine ⟨nw, kn, b1, b2, by rw [hx 35 (by omega)]; exact b3, by rw [hx 35 (by omega)]; exact b4, by rw [hn 130 (by omega)]; exact b5, fun i hi => ?_⟩
    rw [hn 133 (by omega)]
    exact PT_cells (b6 i hi) (fun j hj => hx _ (by omega))
  · intro i hi
    obtain ⟨b1, b2, b3⟩ := a7 i hi
    rw [hx 104 (by omega), hn 135 (by omega), hn 134 (by omega)]
    exact ⟨b1, b2, fun z => PT_cells (b3 z) (fun j hj => hx _ (by omega))⟩
  · unfold RT at *; rw [hx 1 (by omega), hx 2 (by omega), hn 130 (by omega), hn 136 (by omega)]; exact a8
  · unfold RQ at *; rw [hx 105 (by omega), hx 106 (by omega), hx 107 (by omega), hn 130 (by omega), hn 137 (by omega)]; exact a9
  · unfold RZ at *; rw [hx 4 (by omega), hx 5 (by omega), hx 9 (by omega), hx 10 (by omega)]; exact a10
/-- the end of a call -/
theorem R2_fin {M2 : Mem} (h : R2 P X N pl dr) (hx : ∀ c, c < 130 → M2 c = X c) (hn : ∀ c, 130 ≤ c → M2 c = N c) : Rel M2 pl dr := ⟨P, R2_congr h hx hn⟩
/-- the Press moves, the row with it -/
theorem R2_press (h : R2 P X N pl dr) (f : Fr 13 X X') (hp : PT P X' 13 w) : R2 P X' (sr N w) pl dr := by
  obtain ⟨a1, a2, a3, a4, a5, a6, a7, a8, a9, a10⟩ := h
  have hpl : pl = 3 ∨ pl = 8 := by rcases a4 with z | z; · exact Or.inl z.1
                                   · exact Or.inr z.1
  refine ⟨a1, MP_sr a2, a3.fr f (by omega), a4, ?_, ?_, ?_, ?_, ?_, ?_⟩
  · rw [sr_131]; exact hp
  · obtain ⟨nw, kn, b1, b2, b3, b4, b5, b6⟩ := a6
    refine ⟨nw, kn, b1, b2, by rw [f 35 (by omega)]; exact b3, by rw [f 35 (by omega)]; exact b4, by rw [sr_ne (by decide)]; exact b5, fun i hi => ?_⟩
    rw [sr_ne (by decide)]
    exact PT_cells (b6 i hi) (fun j hj => f _ (by omega))
  · intro i hi
    obtain ⟨b1, b2, b3⟩ := a7 i hi
    rw [f 104 (by omega), sr_ne (by decide), sr_ne (by decide)]
    exact ⟨b1, b2, fun z => PT_cells (b3 z) (fun j hj => f _ (by omega))⟩
  · unfold RT at *; rw [f 1 (by omega), f 2 (by omega), sr_ne (by decide), sr_ne (by decide)]; exact a8
  · unfold RQ at *; rw [f 105 (by omega), f 106 (by omega), f 107 (by omega), sr_ne (by decide), sr_ne (by decide)]; exact a9
  · unfold RZ at *; rw [f 4 (by omega), f 5 (by omega), f 9 (by omega), f 10 (by omega)]; exact a10
/-- what the reference remembers -/
def mRem (N : Mem) (u : Nat) : Mem := if u = 6 then mw (mcp (mw (mshf N 0) 130 3 (nI 5)) 131 0 133 1745 349) 130 3 (nI 6) else mw (mcp N 131 0 133 (349 * u) 349) 130 3 (nI (u + 1))
theorem mRem_ne {u c : Nat} (h1 : c ≠ 130) (h2 : c ≠ 133) : mRem N u c = N c := by
  unfold mRem
  split
  · rw [mw_ne h1, mcp_ne h2, mw_ne h1]; funext j; unfold mshf; rw [if_neg (by omega)]
  · rw [mw_ne h1, mcp_ne h2]
theorem mRem_130 {u j : Nat} (h : j ≠ 3) : mRem N u 130 j = N 130 j := by
  unfold mRem
  split
  · rw [mw_k h, mcp_ne (by decide), mw_k h]; unfold mshf; rw [if_neg (by omega)]
  · rw [mw_k h, mcp_ne (by decide)]
theorem mRem_u {u : Nat} (hu : u ≤ 6) : mRem N u 130 3 = nI (if u = 6 then 6 else u + 1) := by
  unfold mRem
  split
  · rw [mw_at]
  · rw [mw_at]
theorem mRem_new {u j : Nat} (hu : u ≤ 6) (hj : j < 349) : mRem N u 133 (349 * (if u = 6 then 5 else u) + j) = N 131 j := by
  unfold mRem
  split
  · rename_i z
    have e : 0 + (349 * 5 + j - 1745) = j := by omega
    rw [mw_ne (by decide), mcp_in (by omega) (by omega), mw_ne (by decide), e]
    unfold mshf
    rw [if_neg (by omega)]
  · rename_i z
    have e : 0 + (349 * u + j - 349 * u) = j := by omega
    rw [mw_ne (by decide), mcp_in (by omega) (by omega), e]
theorem mRem_old {u i j : Nat} (hu : u ≤ 6) (hi : i < (if u = 6 then 5 else u)) (hj : j < 349) : mRem N u 133 (349 * i + j) = N 133 (349 * (if u = 6 then i + 1 else i) + j) := by
  unfold mRem
  split
  · rename_i z
    rw [if_pos z] at hi
    rw [mw_ne (by decide), mcp_off (by omega), mw_ne (by decide)]
    unfold mshf
    rw [if_pos ⟨rfl, by omega, by omega⟩]
    congr 1; omega
  · rename_i z
    rw [if_neg z] at hi
    rw [mw_ne (by decide), mcp_off (by omega)]
theorem mRem_congr {u : Nat} (h : ∀ c, 130 ≤ c → X c = N c) : ∀ c, 130 ≤ c → mRem X u c = mRem N u c := by
  intro c hc
  funext j
  have e : ∀ c j, 130 ≤ c → mshf X 0 c j = mshf N 0 c j := fun c j hc => by unfold mshf; rw [h 133 (by omega), h c hc]
  unfold mRem
  split
  · simp only [mw, mcp]
    rw [e 131 _ (by omega), e c _ hc]
  · simp only [mw, mcp]
    rw [h 131 (by omega), h c hc]
theorem mRem_low {u c : Nat} (h : c < 130) : mRem N u c = N c := mRem_ne (by omega) (by omega)
/-- the class remembers -/
theorem c_remember {K : Mem → Prop} (h : R2 P X N pl dr) (hK : ∀ X' u, N 130 3 = nI u → u ≤ 6 → R2 P X' (mRem N u) pl dr → (∀ c, c < 35 ∨ 103 ≤ c → X' c = X c) → K X') : wp_X2_remember 35 13 X K := by
  obtain ⟨a1, a2, a3, a4, a5, a6, a7, a8, a9, a10⟩ := h
  obtain ⟨nw, kn, b1, b2, b3, b4, b5, b6⟩ := a6
  have hpl : pl = 3 ∨ pl = 8 := by rcases a4 with z | z; · exact Or.inl z.1
                                   · exact Or.inr z.1
  -- the tail, at the new place
  have tail : ∀ m, m = (nw + 1) % 6 → wp_X2_remember_22 35 13 K (nI m) X := by
    intro m hm
    have hm6 : m < 6 := by omega
    rintro M2 rfl
    have i1 := ixn (k := m) (z := 6) hm6 (by decide)
    rw [mw_at, i1.2]
    refine ⟨i1.1, ?_⟩
    have hpb : Pb (mw X 35 1 (nI m)) 13 := by
      have := a5.1.pb
      unfold Pb at *
      rw [mw_ne (by decide), mw_ne (by decide)]; exact this
    refine c_take (by omega) hpb ?_
    intro M4 s4 f4
    rintro M5 rfl
    have r35 : M4 35 2 = nI kn := by rw [f4 35 (by omega), mw_k (by decide)]; exact b4
    have e1 : (if (6 : Int32) < nI kn + 1 then (6 : Int32) else nI kn + 1) = nI (if kn = 6 then 6 else kn + 1) := by
      rw [nI_1]
      by_cases z : kn = 6
      · subst z; rfl
      · rw [if_neg z, if_neg (fun y => by rw [lltN (by decide) (by omega)] at y; have : 6 < kn + 1 := y; omega)]
    rw [r35, e1]
    have fr : ∀ c, c < 35 ∨ 103 ≤ c → mw M4 35 2 (nI (if kn = 6 then 6 else kn + 1)) c = X c := fun c hc => by
      rw [mw_ne (by omega), f4 c (by omega), mw_ne (by omega)]
    have cell : ∀ c, c ≠ 35 → (c < 37 + 11 * m ∨ 37 + 11 * m + 11 ≤ c) → mw M4 35 2 (nI (if kn = 6 then 6 else kn + 1)) c = X c := fun c h1 h2 => by
      rw [mw_ne h1, f4 c (by omega), mw_ne h1]
    refine hK _ kn b5 b2 ⟨a1, ?_, CP_cells a3 (fun i hi => fr _ (by omega)), a4, ?_, ?_, ?_, ?_, ?_, ?_⟩ fr
    · unfold MP at *
      rw [mRem_130 (by decide), mRem_130 (by decide), mRem_ne (c := 138) (by decide) (by decide), mRem_ne (c := 139) (by decide) (by decide), mRem_ne (c := 140) (by decide) (by decide), mRem_ne (c := 141) (by decide) (by decide), mRem_ne (c := 142) (by decide) (by decide)]
      exact a2
    · rw [mRem_ne (by decide) (by decide)]
      exact PT_cells a5 (fun i hi => fr _ (by omega))
    · refine ⟨m, (if kn = 6 then 6 else kn + 1), hm6, by split <;> omega, ?_, mw_at _ _ _ _, mRem_u b2, fun i hi => ?_⟩
      · rw [mw_k (by decide), f4 35 (by omega), mw_at]
      · cases i with
        | zero =>
          rw [show (m + 6 - 0) % 6 = m by omega]
          have p0 : PT P (mw M4 35 2 (nI (if kn = 6 then 6 else kn + 1))) (37 + 11 * m) (N 131) := by
            have q1 : PT P (mw X 35 1 (nI m)) 13 (N 131) := PT_cells a5 (fun j hj => mw_ne (by omega))
            exact PT_cells (PT_same q1 s4) (fun j hj => mw_ne (by omega))
          refine PT_row p0 (fun j hj => ?_)
          have := mRem_new (N := N) b2 hj
          by_cases z : kn = 6
          · simp only [if_pos z] at this ⊢; exact this
          · simp only [if_neg z] at this ⊢; rw [show kn + 1 - 1 - 0 = kn by omega]; exact this
        | succ i =>
          have hik : i < (if kn = 6 then 5 else kn) := by
            by_cases z : kn = 6
            · rw [if_pos z] at hi ⊢; omega
            · rw [if_neg z] at hi ⊢; omega
          have hik2 : i < kn := by by_cases z : kn = 6; · rw [if_pos z] at hik; omega
                                   · rw [if_neg z] at hik; exact hik
          have hpl2 : (m + 6 - (i + 1)) % 6 = (nw + 6 - i) % 6 := by omega
          rw [hpl2]
          have hne : (nw + 6 - i) % 6 ≠ m := by
            by_cases z : kn = 6
            · rw [if_pos z] at hik; omega
            · rw [if_neg z] at hik; omega
          have q1 : PT P (mw M4 35 2 (nI (if kn = 6 then 6 else kn + 1))) (37 + 11 * ((nw + 6 - i) % 6)) (fun j => N 133 (349 * (kn - 1 - i) + j)) := PT_cells (b6 i hik2) (fun j hj => cell _ (by omega) (by omega))
          refine PT_row q1 (fun j hj => ?_)
          show mRem N kn 133 (349 * ((if kn = 6 then 6 else kn + 1) - 1 - (i + 1)) + j) = N 133 (349 * (kn - 1 - i) + j)
          by_cases z : kn = 6
          · rw [if_pos z]
            have := mRem_old (N := N) (u := kn) (i := 6 - 1 - (i + 1)) (j := j) b2 (by rw [if_pos z] at hik ⊢; omega) hj
            rw [this, if_pos z, show 6 - 1 - (i + 1) + 1 = kn - 1 - i by rw [if_pos z] at hik; omega]
          · rw [if_neg z]
            have := mRem_old (N := N) (u := kn) (i := kn + 1 - 1 - (i + 1)) (j := j) b2 (by rw [if_neg z] at hik ⊢; omega) hj
            rw [this, if_neg z, show kn + 1 - 1 - (i + 1) = kn - 1 - i by omega]
    · intro i hi
      obtain ⟨c1, c2, c3⟩ := a7 i hi
      rw [fr 104 (by omega), mRem_ne (c := 135) (by decide) (by decide), mRem_ne (c := 134) (by decide) (by decide)]
      exact ⟨c1, c2, fun z => PT_cells (c3 z) (fun j hj => fr _ (by omega))⟩
    · unfold RT at *; rw [fr 1 (by omega), fr 2 (by omega), mRem_130 (by decide), mRem_ne (c := 136) (by decide) (by decide)]; exact a8
    · unfold RQ at *; rw [fr 105 (by omega), fr 106 (by omega), fr 107 (by omega), mRem_130 (by decide), mRem_ne (c := 137) (by decide) (by decide)]; exact a9
    · unfold RZ at *; rw [fr 4 (by omega), fr 5 (by omega), fr 9 (by omega), fr 10 (by omega)]; exact a10
  refine ⟨fun c => ?_, fun c => ?_⟩
  · rw [b3, nI_1, lleN (by decide) (by omega)] at c
    have c : 6 ≤ nw + 1 := c
    exact tail 0 (by omega)
  · rw [b3, nI_1, lleN (by decide) (by omega)] at c
    have c : ¬ 6 ≤ nw + 1 := c
    rw [b3, nI_1]
    exact tail (nw + 1) (by omega)
end RR
