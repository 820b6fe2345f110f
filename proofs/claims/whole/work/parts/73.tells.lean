section TT
variable {P : PlanT} {M X N Y : Mem} {n s b dr pl : Nat} {L : Nat → Int32} {A B V x : Int32} {u r m : Nat} {gp : Nat → Nat}
theorem R2_text {M2 : Mem} (h : R2 P M M pl dr) (hx : ∀ c, c < 130 → c ≠ 1 → c ≠ 2 → (c < dr ∨ dr + 5 ≤ c) → M2 c = M c) (hz : M2 (dr + 1) 0 = M (dr + 1) 0 ∧ M2 (dr + 2) 0 = M (dr + 2) 0) (hn : ∀ c, 130 ≤ c → c ≠ 130 → c ≠ 136 → (c < 143 ∨ 147 < c) → M2 c = M c) (h130 : ∀ j, j ≠ 7 → j ≠ 17 → j ≠ 18 → (j < 24 ∨ 26 < j) → M2 130 j = M 130 j) (ht : RT M2 M2) : Rel M2 pl dr := by
  obtain ⟨a1, a2, a3, a4, a5, a6, a7, a8, a9, a10⟩ := h
  have hpl : (pl = 3 ∧ dr = 8) ∨ (pl = 8 ∧ dr = 3) := a4
  refine ⟨P, a1, ?_, CP_cells a3 (fun i hi => hx _ (by omega) (by omega) (by omega) (by omega)), a4, ?_, ?_, ?_, ht, ?_, ?_⟩
  · unfold MP at *
    rw [h130 10 (by omega) (by omega) (by omega) (by omega), h130 13 (by omega) (by omega) (by omega) (by omega), hn 138 (by omega) (by omega) (by omega) (by omega), hn 139 (by omega) (by omega) (by omega) (by omega), hn 140 (by omega) (by omega) (by omega) (by omega), hn 141 (by omega) (by omega) (by omega) (by omega), hn 142 (by omega) (by omega) (by omega) (by omega)]
    exact a2
  · rw [hn 131 (by omega) (by omega) (by omega) (by omega)]
    exact PT_cells a5 (fun i hi => hx _ (by omega) (by omega) (by omega) (by omega))
  · obtain ⟨nw, kn, b1, b2, b3, b4, b5, b6⟩ := a6
    refine ⟨nw, kn, b1, b2, by rw [hx 35 (by omega) (by omega) (by omega) (by omega)]; exact b3, by rw [hx 35 (by omega) (by omega) (by omega) (by omega)]; exact b4, by rw [h130 3 (by omega) (by omega) (by omega) (by omega)]; exact b5, fun i hi => ?_⟩
    rw [hn 133 (by omega) (by omega) (by omega) (by omega)]
    exact PT_cells (b6 i hi) (fun j hj => hx _ (by omega) (by omega) (by omega) (by omega))
  · intro i hi
    obtain ⟨b1, b2, b3⟩ := a7 i hi
    rw [hx 104 (by omega) (by omega) (by omega) (by omega), hn 135 (by omega) (by omega) (by omega) (by omega), hn 134 (by omega) (by omega) (by omega) (by omega)]
    exact ⟨b1, b2, fun z => PT_cells (b3 z) (fun j hj => hx _ (by omega) (by omega) (by omega) (by omega))⟩
  · unfold RQ at *; rw [hx 105 (by omega) (by omega) (by omega) (by omega), hx 106 (by omega) (by omega) (by omega) (by omega), hx 107 (by omega) (by omega) (by omega) (by omega), h130 9 (by omega) (by omega) (by omega) (by omega), hn 137 (by omega) (by omega) (by omega) (by omega)]; exact a9
  · unfold RZ at *
    rcases hpl with ⟨rfl, rfl⟩ | ⟨rfl, rfl⟩
    · rw [hx 4 (by omega) (by omega) (by omega) (by omega), hx 5 (by omega) (by omega) (by omega) (by omega)]
      exact ⟨a10.1, a10.2.1, hz.1.trans a10.2.2.1, hz.2.trans a10.2.2.2⟩
    · rw [hx 9 (by omega) (by omega) (by omega) (by omega), hx 10 (by omega) (by omega) (by omega) (by omega)]
      exact ⟨hz.1.trans a10.1, hz.2.trans a10.2.1, a10.2.2.1, a10.2.2.2⟩
theorem op_clear (M : Mem) (pl dr : Nat) (h : Rel M pl dr) : wp_X6_clear pl dr M (fun r M1 => wp_X7_clear M1 (fun q M2 => r = q ∧ Rel M2 pl dr)) := by
  obtain ⟨P, h⟩ := h
  have hpl : (pl = 3 ∧ dr = 8) ∨ (pl = 8 ∧ dr = 3) := h.2.2.2.1
  obtain ⟨n, q1, q2, q3, q4⟩ := h.2.2.2.2.2.2.2.1
  rintro M1 rfl
  rintro M2 rfl
  rw [mw_ne (by decide)]
  refine ⟨q2.trans q3.symm, R2_text h (fun c c1 c2 c3 c4 => by rw [mw_ne (by omega), mw_ne c2]) ⟨by rw [mw_ne (by omega), mw_ne (by omega)], by rw [mw_ne (by omega), mw_ne (by omega)]⟩ (fun c c1 c2 c3 c4 => by rw [mw_ne c2, mw_ne (by omega)]) (fun j j1 j2 j3 j4 => by rw [mw_k j1, mw_ne (by decide)]) ?_⟩
  exact ⟨0, by omega, by rw [mw_ne (by decide), mw_at]; rfl, by rw [mw_at]; rfl, fun i hi => by omega⟩
theorem op_type (M : Mem) (pl dr : Nat) (a1 : Int32) (h : Rel M pl dr) : wp_X6_type pl dr a1 M (fun r M1 => wp_X7_type a1 M1 (fun q M2 => r = q ∧ Rel M2 pl dr)) := by
  obtain ⟨P, h⟩ := h
  have hr : Rel M pl dr := ⟨P, h⟩
  have hpl : (pl = 3 ∧ dr = 8) ∨ (pl = 8 ∧ dr = 3) := h.2.2.2.1
  obtain ⟨n, q1, q2, q3, q4⟩ := h.2.2.2.2.2.2.2.1
  have N1 : ∀ {q : Prop}, (1 : Int32) = 0 → q := fun y => absurd y (by decide)
  refine c_within ?_
  by_cases hc : (0 : Int32) ≤ a1 ∧ a1 ≤ 255
  · rw [if_pos hc]
    refine ⟨fun _ => ?_, N1⟩
    unfold wp_X5_add
    rw [q2]
    by_cases z : n = 120
    · subst z
      refine ⟨fun y => absurd y (by decide), fun _ => ⟨fun _ => m_in ?_, fun y => absurd rfl y⟩⟩
      rw [if_pos hc, q3]
      exact ⟨fun _ => ⟨fun y => absurd rfl y, fun _ => ⟨rfl, hr⟩⟩, N1⟩
    · have i1 := ixn (k := n) (z := 120) (by omega) (by decide)
      rw [i1.2]
      refine ⟨fun _ => ⟨i1.1, ?_⟩, fun y => absurd ?_ y⟩
      · rintro M2 rfl
        rintro M3 rfl
        rw [show mw M (1 + 1) n a1 1 1 = nI n by rw [mw_ne (by decide)]; exact q2, nI_1]
        refine ⟨N1, fun _ => ?_⟩
        rw [mw_at]
        have hi : ∀ c, 130 ≤ c → mw (mw M (1 + 1) n a1) 1 1 (nI (n + 1)) c = M c := fun c hc => by rw [mw_ne (by omega), mw_ne (by omega)]
        have lo : ∀ c, c ≠ 1 → c ≠ 2 → mw (mw M (1 + 1) n a1) 1 1 (nI (n + 1)) c = M c := fun c c1 c2 => by rw [mw_ne c1, mw_ne c2]
        have l1 : mw (mw M (1 + 1) n a1) 1 1 (nI (n + 1)) 1 1 = nI (n + 1) := mw_at _ _ _ _
        have l2 : ∀ j, mw (mw M (1 + 1) n a1) 1 1 (nI (n + 1)) 2 j = if j = n then a1 else M 2 j := fun j => by
          rw [mw_ne (by decide)]
          by_cases z : j = n
          · rw [if_pos z, z]; exact mw_at _ _ _ _
          · rw [if_neg z]; exact mw_k z
        generalize mw (mw M (1 + 1) n a1) 1 1 (nI (n + 1)) = Z at *
        refine m_in ?_
        rw [if_pos hc, hi 130 (by omega), q3, i1.2]
        refine ⟨fun _ => ⟨fun _ => ⟨i1.1, ?_⟩, fun y => ?_⟩, N1⟩
        · rintro M4 rfl
          rintro M5 rfl
          have e7 : mw Z 136 n a1 130 7 = nI n := by rw [mw_ne (by decide), hi 130 (by omega)]; exact q3
          rw [e7, nI_1, mw_at]
          refine ⟨rfl, R2_text h (fun c c1 c2 c3 c4 => by rw [mw_ne (by omega), mw_ne (by omega), lo c c2 c3]) ⟨by rw [mw_ne (by omega), mw_ne (by omega), lo _ (by omega) (by omega)], by rw [mw_ne (by omega), mw_ne (by omega), lo _ (by omega) (by omega)]⟩ (fun c c1 c2 c3 c4 => by rw [mw_ne c2, mw_ne c3, hi c c1]) (fun j j1 j2 j3 j4 => by rw [mw_k j1, mw_ne (by decide), hi 130 (by omega)]) ?_⟩
          refine ⟨n + 1, by omega, by rw [mw_ne (by decide), mw_ne (by decide)]; exact l1, mw_at _ _ _ _, fun j hj => ?_⟩
          rw [mw_ne (b := 2) (by decide), mw_ne (b := 2) (by decide), l2, mw_ne (b := 136) (by decide)]
          by_cases y : j = n
          · subst y
            rw [if_pos rfl, mw_at]
            exact ⟨rfl, hc.1, hc.2⟩
          · rw [if_neg y, mw_k y, hi 136 (by omega)]
            exact q4 j (by omega)
        · rw [eqNl (by decide) (by omega)] at y
          exact absurd y z
      · rw [ltNl (by decide) (by omega)]
        show n < 120
        omega
  · rw [if_neg hc]
    refine ⟨fun y => absurd rfl y, fun _ => m_in ?_⟩
    rw [if_neg hc]
    exact ⟨fun y => absurd rfl y, fun _ => ⟨rfl, hr⟩⟩
/-! telling -/
def N6 (N : Mem) : Mem := mw (mw (mw (mw (mw (mw N 130 17 1) 130 18 0) 146 0 3) 146 1 3) 146 2 1) 146 3 5
def Nbg (N : Mem) : Mem := fun c j => if c = 147 ∧ j < 4 then 0 else N6 N c j
theorem m_begin {K : Mem → Prop} (h : K (Nbg N)) : wp_X7_begins N K := by
  rintro M1 rfl
  rintro M2 rfl
  rintro M3 rfl
  rintro M4 rfl
  rintro M5 rfl
  rintro M6 rfl
  have go : ∀ (r x : Nat) (Z : Mem), x + r = 4 → K (fun c j => if c = 147 ∧ x ≤ j ∧ j < 4 then 0 else Z c j) → L_X7_begins_40 K (r + 1) (nI x) Z := by
    intro r
    induction r with
    | zero =>
      intro x Z hx hK
      have : x = 4 := by omega
      subst this
      have e : (fun c j => if c = 147 ∧ 4 ≤ j ∧ j < 4 then 0 else Z c j) = Z := by funext c j; rw [if_neg (by omega)]
      rw [e] at hK
      exact ⟨fun _ => hK, fun c => absurd (Int32.le_refl _) c⟩
    | succ r ih =>
      intro x Z hx hK
      have i1 := ixn (k := x) (z := 4) (by omega) (by decide)
      refine ⟨fun c => ?_, fun _ => ⟨i1.1, ?_⟩⟩
      · rw [lleN (by decide) (by omega)] at c
        have : 4 ≤ x := c
        omega
      rintro M9 rfl
      rw [nI_1, i1.2]
      refine ih (x + 1) _ (by omega) ?_
      have e : (fun c j => if c = 147 ∧ x + 1 ≤ j ∧ j < 4 then (0 : Int32) else mw Z 147 x 0 c j) = (fun c j => if c = 147 ∧ x ≤ j ∧ j < 4 then 0 else Z c j) := by
        funext c j
        by_cases h1 : c = 147 ∧ x ≤ j ∧ j < 4
        · rw [if_pos h1]
          by_cases h2 : j = x
          · rw [if_neg (by omega), h1.1, h2, mw_at]
          · rw [if_pos (by omega)]
        · rw [if_neg h1, if_neg (by omega)]
          simp only [mw]
          rw [if_neg (by omega)]
      rw [e]; exact hK
  refine ⟨5, go 4 0 _ rfl ?_⟩
  have e : (fun c j => if c = 147 ∧ 0 ≤ j ∧ j < 4 then (0 : Int32) else mw (mw (mw (mw (mw (mw N 130 17 1) 130 18 0) 146 0 3) 146 1 3) 146 2 1) 146 3 5 c j) = Nbg N := by
    funext c j
    unfold Nbg N6
    by_cases h1 : c = 147 ∧ j < 4
    · rw [if_pos h1, if_pos ⟨h1.1, by omega, h1.2⟩]
    · rw [if_neg h1, if_neg (by omega)]
  rw [e]; exact h
theorem FN_bg : FN N (Nbg N) := by
  refine ⟨fun c c1 c2 => ?_, fun j j1 j2 => ?_⟩
  · funext j
    unfold Nbg N6
    rw [if_neg (by omega), mw_ne (by omega), mw_ne (by omega), mw_ne (by omega), mw_ne (by omega), mw_ne c2, mw_ne c2]
  · unfold Nbg N6
    rw [if_neg (by omega), mw_ne (by omega), mw_ne (by omega), mw_ne (by omega), mw_ne (by omega), mw_k j2, mw_k j1]
theorem Nbg_low {c : Nat} (h : c < 130) : Nbg N c = N c := FN_bg.1 c (by omega) (by omega)
theorem Nbg_eq (h : ∀ c, 130 ≤ c → Y c = N c) : ∀ c, 130 ≤ c → Nbg Y c = Nbg N c := by
  intro c hc
  funext j
  have := h c hc
  unfold Nbg N6
  simp only [mw, this]
theorem S3_Y {Y' : Mem} (h : ∀ c, c < 130 → Y c = Y' c) : S3 Y N A B V = S3 Y' N A B V := by
  funext c j
  unfold S3
  by_cases z : c < 130
  · rw [if_pos z, if_pos z, h c z]
  · rw [if_neg z, if_neg z]
theorem m_reads0 {K : Int32 → Mem → Prop} (hT : TXm L n N) (hY : ∀ c, 130 ≤ c → Y c = N c) (hB : IsB L n 0 b) (h : ∃ j, L_X7_reads_15 K j 0 (S3 Y (Nbg N) (nI b) (nI b) (N 130 26))) : wp_X7_reads Y K := by
  refine m_begin ?_
  rintro M2 rfl
  have e : mw (Nbg Y) 130 24 0 = S3 Y (Nbg N) (nI 0) (N 130 25) (N 130 26) := by
    have s := S3_self (Y := Nbg Y) (N := Nbg N) (Nbg_eq hY)
    rw [← s, mw_S24, S3_Y (Y' := Y) (fun c hc => Nbg_low hc)]
    have e25 : Nbg Y 130 25 = N 130 25 := by rw [FN_bg.2 25 (by decide) (by decide), hY 130 (by omega)]
    have e26 : Nbg Y 130 26 = N 130 26 := by rw [FN_bg.2 26 (by decide) (by decide), hY 130 (by omega)]
    rw [e25, e26]; rfl
  rw [e]
  exact m_bl (hT.fn FN_bg) hB h
theorem neg_r {tb : Nat} (h : tb ≤ 120) : (-10 : Int32) - nI tb < 0 := by
  have : ∀ t, t < 121 → (-10 : Int32) - nI t < 0 := by decide +kernel
  exact this tb (by omega)
theorem wyo_le (gp : Nat → Nat) {u : Nat} (h : ∀ k, k < u → gp k ≤ 6) : ∀ k, k < u → wyo gp k ≤ 6 * k ∧ ∀ j, j ≤ k → wyo gp j ≤ wyo gp k
  | 0, _ => ⟨Nat.le_refl _, fun j hj => by rw [show j = 0 by omega]; exact Nat.le_refl _⟩
  | k + 1, hk => by
    obtain ⟨i1, i2⟩ := wyo_le gp h k (by omega)
    have := h (k + 1) hk
    have e : wyo gp (k + 1) = wyo gp k + gp (k + 1) := rfl
    refine ⟨by omega, fun j hj => ?_⟩
    rcases Nat.lt_or_ge j (k + 1) with z | z
    · have := i2 j (by omega); omega
    · rw [show j = k + 1 by omega]; exact Nat.le_refl _
theorem op_tells (M : Mem) (pl dr : Nat) (h : Rel M pl dr) : wp_X6_tells pl dr M (fun r M1 b => wp_X7_tells M1 (fun q M2 => r = q ∧ Rel M2 (if b = true then dr else pl) (if b = true then pl else dr))) := by
  obtain ⟨P, h⟩ := h
  have hr : Rel M pl dr := ⟨P, h⟩
  have hpl : (pl = 3 ∧ dr = 8) ∨ (pl = 8 ∧ dr = 3) := h.2.2.2.1
  have hd : dr = 3 ∨ dr = 8 := by omega
  obtain ⟨n, q1, q2, q3, q4⟩ := h.2.2.2.2.2.2.2.1
  have hz := h.2.2.2.2.2.2.2.2.2
  have hTm : TXm (M 2) n M := ⟨q1, q3, fun j hj => (q4 j hj).1.symm⟩
  rintro M1 rfl
  rintro M2 rfl
  rintro M3 rfl
  rintro M4 rfl
  rintro M5 rfl
  rintro M6 rfl
  rintro M7 rfl
  rintro M8 rfl
  have fx : FX dr M (mw (mw (mw (mw (mw (mw (mw (mw M dr 4 1) dr 5 0) dr 6 3) dr 7 3) dr 8 1) dr 9 5) 1 2 0) 1 6 0) := by
    refine ⟨fun c c1 c2 => ?_, ?_, ?_, ?_⟩
    · rw [mw_ne c1, mw_ne c1, mw_ne (by omega), mw_ne (by omega), mw_ne (by omega), mw_ne (by omega), mw_ne (by omega), mw_ne (by omega)]
    · rw [mw_k (by decide), mw_k (by decide), mw_ne (by omega), mw_ne (by omega), mw_ne (by omega), mw_ne (by omega), mw_ne (by omega), mw_ne (by omega)]
    · rw [mw_ne (by omega), mw_ne (by omega), mw_ne (by omega), mw_ne (by omega), mw_ne (by omega), mw_ne (by omega), mw_ne (by omega), mw_ne (by omega)]
    · rw [mw_ne (by omega), mw_ne (by omega), mw_ne (by omega), mw_ne (by omega), mw_ne (by omega), mw_ne (by omega), mw_ne (by omega), mw_ne (by omega)]
  have ed : ∀ j, mw (mw (mw (mw (mw (mw (mw (mw M dr 4 1) dr 5 0) dr 6 3) dr 7 3) dr 8 1) dr 9 5) 1 2 0) 1 6 0 dr j = if j = 9 then 5 else if j = 8 then 1 else if j = 7 then 3 else if j = 6 then 3 else if j = 5 then 0 else if j = 4 then 1 else M dr j := fun j => by
    rw [mw_ne (by omega), mw_ne (by omega)]
    simp [mw]
  have e12 : mw (mw (mw (mw (mw (mw (mw (mw M dr 4 1) dr 5 0) dr 6 3) dr 7 3) dr 8 1) dr 9 5) 1 2 0) 1 6 0 1 2 = nI 0 := by rw [mw_k (by decide), mw_at]; rfl
  have e16 : mw (mw (mw (mw (mw (mw (mw (mw M dr 4 1) dr 5 0) dr 6 3) dr 7 3) dr 8 1) dr 9 5) 1 2 0) 1 6 0 1 6 = nI 0 := mw_at _ _ _ _
  generalize mw (mw (mw (mw (mw (mw (mw (mw M dr 4 1) dr 5 0) dr 6 3) dr 7 3) dr 8 1) dr 9 5) 1 2 0) 1 6 0 = X1 at *
  have hTc : TXc (M 2) n X1 := ⟨q1, by rw [fx.2.1]; exact q2, fun j hj => ⟨by rw [fx.1 2 (by omega) (by omega)], (q4 j hj).2⟩⟩
  have zdr : M (dr + 1) 0 = 0 ∧ M (dr + 2) 0 = 0 := by
    rcases hpl with ⟨-, rfl⟩ | ⟨-, rfl⟩
    · exact ⟨hz.2.2.1, hz.2.2.2⟩
    · exact ⟨hz.1, hz.2.1⟩
  have n146 : ∀ i, Nbg M 146 i = if i = 3 then 5 else if i = 2 then 1 else if i = 1 then 3 else if i = 0 then 3 else M 146 i := fun i => by
    unfold Nbg N6
    rw [if_neg (by omega)]
    simp [mw]
  have R1 : RPx (M 2) n dr X1 (Nbg M) 1 0 0 (fun _ => 0) := by
    refine ⟨hTc, hTm.fn FN_bg, ⟨by omega, by omega, by rw [ed]; rfl, ?_⟩, ⟨by omega, by rw [ed]; rfl, ?_⟩, fun i hi => ?_, ?_, ⟨rfl, fun k hk => ?_⟩, fun i hi => by omega, by omega, e16, fun i hi => ?_⟩
    · unfold Nbg N6
      rw [if_neg (by omega), mw_ne (by decide), mw_ne (by decide), mw_ne (by decide), mw_ne (by decide), mw_k (by decide), mw_at]; rfl
    · unfold Nbg N6
      rw [if_neg (by omega), mw_ne (by decide), mw_ne (by decide), mw_ne (by decide), mw_ne (by decide), mw_at]; rfl
    · rw [ed, n146]
      have : i = 0 ∨ i = 1 ∨ i = 2 ∨ i = 3 := by omega
      rcases this with rfl | rfl | rfl | rfl <;> rfl
    · unfold Bd
      rw [n146, n146, n146, n146]
      show (1 : Int32) ≤ 3 ∧ (3 : Int32) ≤ 9 ∧ (0 : Int32) ≤ 3 ∧ (0 : Int32) ≤ 1 ∧ (0 : Int32) < 5
      decide
    · have : k = 0 := by omega
      subst this
      exact ⟨Nat.zero_le _, by rw [fx.2.2.1]; exact zdr.1, by rw [fx.2.2.2]; exact zdr.2, fun y => by omega⟩
    · have e0 : Nbg M 147 i = 0 := by unfold Nbg; rw [if_pos ⟨rfl, hi⟩]
      rw [e0, Nat.zero_div]
      exact ⟨fun y => by omega, fun y => absurd rfl y⟩
  refine c_step hTc (by omega) e12 (fun X2 b0 hB0 hk0 f2 => ⟨n + 1, ?_⟩)
  refine read_sim (L := M 2) (n := n) (X0 := M) (N0 := M) hd (fun Y Km => (∀ c, 130 ≤ c → Y c = M c) → wp_X7_reads Y Km) ?_ ?_ n 0 b0 X2 (Nbg M) (M 130 26) (by omega) (by omega) ⟨1, 0, 0, _, R1.sc hd f2⟩ ⟨Nat.le_refl _, hB0.2.1, fun j j1 j2 => by omega, hB0.2.2.2⟩ hk0 (fx.tr (FX.sc hd f2)) FN_bg (fun Y Km hj hY => m_reads0 hTm hY hB0 hj)
  · intro X' N' i A' B' V' hi ⟨u, r, m, gp, hR⟩ fX fN mm
    refine ⟨fun _ => ?_, fun y => absurd (z_le (by omega)) y⟩
    rintro M5 rfl
    refine c_first (by omega) ?_
    intro M6 f6 c6
    rintro M7 rfl
    rintro M8 rfl
    have j0 := ixn (k := 0) (z := 2) (by decide) (by decide)
    have j1 := ixn (k := 1) (z := 2) (by decide) (by decide)
    refine ⟨3, fun c => absurd c (by decide), fun _ => ⟨j0.1, ?_⟩⟩
    rintro M11 rfl
    refine ⟨fun c => absurd c (by decide), fun _ => ⟨j1.1, ?_⟩⟩
    rintro M12 rfl
    refine ⟨fun _ => ?_, fun c => absurd (by decide) c⟩
    rw [show ix (0 : Int32) = 0 from j0.2, show ix ((0 : Int32) + 1) = 1 from j1.2]
    -- the class's memory at the end
    have xf : ∀ c, c ≠ 1 → c ≠ 35 → c ≠ 104 → c ≠ 105 → (c < 13 ∨ 24 ≤ c) → mw (mw (mw (mw M6 35 2 0) 105 2 0) 104 0 0) 104 1 0 c = X' c := fun c c1 c2 c3 c4 c5 => by
      rw [mw_ne c3, mw_ne c3, mw_ne c4, mw_ne c2, f6 c (by omega), mw_ne c1]
    have xp : ∀ c, 13 ≤ c → c < 24 → mw (mw (mw (mw M6 35 2 0) 105 2 0) 104 0 0) 104 1 0 c = M6 c := fun c c1 c2 => by
      rw [mw_ne (by omega), mw_ne (by omega), mw_ne (by omega), mw_ne (by omega)]
    have x1 : mw (mw (mw (mw M6 35 2 0) 105 2 0) 104 0 0) 104 1 0 1 1 = 0 := by
      rw [mw_ne (by decide), mw_ne (by decide), mw_ne (by decide), mw_ne (by decide), f6 1 (by omega), mw_at]
    have x351 : mw (mw (mw (mw M6 35 2 0) 105 2 0) 104 0 0) 104 1 0 35 1 = M 35 1 := by
      rw [mw_ne (by decide), mw_ne (by decide), mw_ne (by decide), mw_k (by decide), f6 35 (by omega), mw_ne (by decide), fX.1 35 (by omega) (by omega)]
    have x352 : mw (mw (mw (mw M6 35 2 0) 105 2 0) 104 0 0) 104 1 0 35 2 = 0 := by
      rw [mw_ne (by decide), mw_ne (by decide), mw_ne (by decide), mw_at]
    have x105 : mw (mw (mw (mw M6 35 2 0) 105 2 0) 104 0 0) 104 1 0 105 2 = 0 := by
      rw [mw_ne (by decide), mw_ne (by decide), mw_at]
    have x104 : ∀ j, j < 2 → mw (mw (mw (mw M6 35 2 0) 105 2 0) 104 0 0) 104 1 0 104 j = 0 := fun j hj => by
      have : j = 0 ∨ j = 1 := by omega
      rcases this with rfl | rfl
      · rw [mw_k (by decide), mw_at]
      · rw [mw_at]
    generalize mw (mw (mw (mw M6 35 2 0) 105 2 0) 104 0 0) 104 1 0 = Xf at *
    have hiF : ∀ c, 130 ≤ c → Xf c = M c := fun c hc => by rw [xf c (by omega) (by omega) (by omega) (by omega) (by omega), fX.1 c (by omega) (by omega)]
    show wp_X7_tells Xf (fun q M2 => nI i = q ∧ Rel M2 dr pl)
    refine mm Xf _ ?_ hiF
    refine ⟨fun y => ?_, fun _ => ?_⟩
    · rw [← Int32.not_le] at y; exact absurd (z_le (by omega)) y
    obtain ⟨d1, d2, d3, d4, d5, d6, d7, d8, d9⟩ := hR
    have s146 : ∀ k, S3 Xf N' A' B' V' k = S3 Xf N' A' B' V' k := fun _ => rfl
    refine m_takes (u := u) (r := r) d4.1 (by rw [S3_j (by omega)]; exact d3.2.2.2) (by rw [S3_j (by omega)]; exact d4.2.2) ?_
    intro Z tk e130
    rintro M4 rfl
    refine ⟨rfl, ?_⟩
    obtain ⟨t1, t2, t3, t4, t5, t6⟩ := tk
    obtain ⟨ey, hey, eey⟩ := int_nI (Int32.le_trans (show (0 : Int32) ≤ 1 by decide) d6.1)
    have ey1 := d6.1
    have ey9 := d6.2.1
    rw [eey, lleN (by decide) hey] at ey1
    rw [eey, leNl (by decide) hey] at ey9
    have ey1 : 1 ≤ ey := ey1
    have ey9 : ey ≤ 9 := ey9
    have hg : ∀ k, k < u → gpI (S3 Xf N' A' B' V') k = nI (gp k) := fun k hk => by
      unfold gpI
      rw [S3_c (by decide)]
      by_cases z : k = 0
      · rw [if_pos z, z, d7.1]; rfl
      · rw [if_neg z]; exact (d7.2 k hk).2.2.2 (by omega)
    have hwy : ∀ k, k < u → wyI (S3 Xf N' A' B' V') k = nI (wyo gp k) := fun k => by
      induction k with
      | zero => intro _; rfl
      | succ k ih =>
        intro hk
        show wyI (S3 Xf N' A' B' V') k + gpI (S3 Xf N' A' B' V') (k + 1) = nI (wyo gp k + gp (k + 1))
        rw [ih (by omega), hg (k + 1) hk, nI_add]
    have wl := wyo_le gp (fun k hk => (d7.2 k hk).1)
    have lo : ∀ c, c < 130 → mw Z 130 7 0 c = Xf c := fun c hc => by rw [mw_ne (by omega), t1 c (by omega) (by omega) (by omega) (by omega), S3_lo hc]
    have u1 := d3.1
    have u4 := d3.2.1
    obtain ⟨nw, kn, b1, b2, b3, b4, b5, b6⟩ := h.2.2.2.2.2.1
    have hPV : PV (u, r, gp, wyo gp, N' 144, N' 145, ey, N' 146 1, N' 146 2, N' 146 3) := by
      refine ⟨u1, u4, d4.1, rfl, fun k hk => ⟨(wl (u - 1) (by omega)).2 k (by show k ≤ u - 1; have : k < u := hk; omega), (d7.2 k hk).1⟩, ?_, ey1, ey9, d6.2.2.1, d6.2.2.2.1, d6.2.2.2.2⟩
      have := (wl (u - 1) (by omega)).1
      show wyo gp (u - 1) ≤ 18
      omega
    have m130 : ∀ j, j ≠ 7 → mw Z 130 7 0 130 j = Z 130 j := fun j hj => mw_k hj
    have mc : ∀ c, c ≠ 130 → mw Z 130 7 0 c = Z c := fun c hc => mw_ne hc
    have rows : ∀ c, 146 = c → S3 Xf N' A' B' V' c = N' c := fun c hc => by rw [S3_c (by omega)]
    refine ⟨(u, r, gp, wyo gp, N' 144, N' 145, ey, N' 146 1, N' 146 2, N' 146 3), hPV, ?_, ?_, ?_, ?_, ?_, ?_, ?_, ?_, ?_⟩
    · refine ⟨by rw [m130 _ (by decide)]; exact t2.1, by rw [m130 _ (by decide)]; exact t2.2.1, fun k hk => ?_, fun k hk => ?_, ?_, ?_, ?_, ?_⟩
      · have hk : k < u := hk
        rw [mc 138 (by decide), mc 139 (by decide), (t4 k (by omega)).1, (t4 k (by omega)).2.1, hg k hk, hwy k hk]
        exact ⟨rfl, rfl⟩
      · have hk : k < r := hk
        rw [mc 140 (by decide), mc 141 (by decide), (t5 k (by omega)).1, (t5 k (by omega)).2, S3_c (by decide), S3_c (by decide)]
        exact ⟨rfl, rfl⟩
      · rw [mc 142 (by decide), (t4 0 (by omega)).2.2, S3_c (by decide)]; exact eey
      · rw [mc 142 (by decide), (t4 1 (by omega)).2.2, S3_c (by decide)]; rfl
      · rw [mc 142 (by decide), (t4 2 (by omega)).2.2, S3_c (by decide)]; rfl
      · rw [mc 142 (by decide), (t4 3 (by omega)).2.2, S3_c (by decide)]; rfl
    · have cell : ∀ k, k < 5 → mw Z 130 7 0 (dr + k) = X' (dr + k) := fun k hk => by rw [lo _ (by omega), xf _ (by omega) (by omega) (by omega) (by omega) (by omega)]
      have c0 : mw Z 130 7 0 dr = X' dr := cell 0 (by omega)
      unfold CP
      rw [c0, cell 1 (by omega), cell 2 (by omega), cell 3 (by omega), cell 4 (by omega)]
      exact ⟨d3.2.2.1, d4.2.1, (d5 0 (by omega)).trans eey, d5 1 (by omega), d5 2 (by omega), d5 3 (by omega), fun k hk => ⟨(d7.2 k hk).2.1, (d7.2 k hk).2.2.1⟩, d8⟩
    · unfold Rpl; omega
    · have hw1 : W1 (u, r, gp, wyo gp, N' 144, N' 145, ey, N' 146 1, N' 146 2, N' 146 3) (mw Z 130 7 0 131) := by
        rw [mc 131 (by decide)]
        refine ⟨t6.1, t6.2.1, t6.2.2.1, fun z => ?_, t6.2.2.2.2⟩
        have := t6.2.2.2.1 z
        rw [S3_c (by decide)] at this
        exact this
      have pb := h.2.2.2.2.1.1.pb
      have e18 : mw X' 1 1 0 (13 + 5) = M 18 := by rw [mw_ne (by decide), fX.1 (13 + 5) (by omega) (by omega)]
      refine PT_cells (PT_first hPV hw1 c6 (by rw [mw_ne (by omega)]; exact d4.2.1) (fun z => ?_) (by rw [e18]; exact pb.2.1) (by rw [e18]; exact pb.2.2.1)) (fun j hj => by rw [lo _ (by omega), xp _ (by omega) (by omega)])
      have z : ¬ r = 0 := z
      rw [mw_ne (by omega)]; exact (d8 0 (by omega)).1
    · exact ⟨nw, 0, b1, by omega, by rw [lo 35 (by omega), x351]; exact b3, by rw [lo 35 (by omega), x352]; rfl, by rw [m130 _ (by decide)]; exact t2.2.2.1, fun i hi => by omega⟩
    · intro j hj
      have e1 : mw Z 130 7 0 104 j = 0 := by rw [lo 104 (by omega)]; exact x104 j hj
      have e2 : mw Z 130 7 0 135 j = 0 := by
        rw [mc 135 (by decide)]
        have : j = 0 ∨ j = 1 := by omega
        rcases this with rfl | rfl
        · exact t3.1
        · exact t3.2
      rw [e1, e2]
      exact ⟨rfl, isB0, fun z => absurd z (by decide)⟩
    · exact ⟨0, by omega, by rw [lo 1 (by omega), x1]; rfl, by rw [mw_at]; rfl, fun j hj => by omega⟩
    · exact ⟨0, by omega, by rw [lo 105 (by omega), x105]; rfl, by rw [m130 _ (by decide)]; exact t2.2.2.2, fun j hj => by omega⟩
    · have cell : ∀ c, c < 13 → c ≠ 1 → mw Z 130 7 0 c = X' c := fun c c1 c2 => by rw [lo _ (by omega), xf _ (by omega) (by omega) (by omega) (by omega) (by omega)]
      unfold RZ
      rw [cell 4 (by omega) (by omega), cell 5 (by omega) (by omega), cell 9 (by omega) (by omega), cell 10 (by omega) (by omega)]
      rcases hpl with ⟨rfl, rfl⟩ | ⟨rfl, rfl⟩
      · rw [fX.1 4 (by omega) (by omega), fX.1 5 (by omega) (by omega)]
        exact ⟨hz.1, hz.2.1, fX.2.2.1.trans hz.2.2.1, fX.2.2.2.trans hz.2.2.2⟩
      · rw [fX.1 9 (by omega) (by omega), fX.1 10 (by omega) (by omega)]
        exact ⟨fX.2.2.1.trans hz.1, fX.2.2.2.trans hz.2.1, hz.2.2.1, hz.2.2.2⟩
  · intro X' N' tb A' V' e3 htb fX fN mm
    have hneg := neg_r htb
    refine ⟨fun y => ?_, fun _ => ?_⟩
    · rw [← Int32.not_lt] at y; exact absurd hneg y
    · have hi : ∀ c, 130 ≤ c → X' c = M c := fun c hc => fX.1 c (by omega) (by omega)
      refine mm X' _ ?_ hi
      refine ⟨fun _ => ⟨rfl, ?_⟩, fun y => absurd hneg y⟩
      show Rel _ pl dr
      refine R2_text h (fun c c1 c2 c3 c4 => by rw [S3_lo c1, fX.1 c c2 c4]) ⟨by rw [S3_lo (by omega)]; exact fX.2.2.1, by rw [S3_lo (by omega)]; exact fX.2.2.2⟩ (fun c c1 c2 c3 c4 => by rw [S3_c (by omega), fN.1 c c4 c2]) (fun j j1 j2 j3 j4 => by rw [S3_j j4, fN.2 j j2 j3]) ?_
      refine ⟨n, q1, by rw [S3_lo (by omega), fX.2.1]; exact q2, by rw [S3_j (by omega), fN.2 7 (by decide) (by decide)]; exact q3, fun j hj => ?_⟩
      rw [S3_lo (c := 2) (by omega), S3_c (c := 136) (by omega), fX.1 2 (by omega) (by omega), fN.1 136 (by omega) (by omega)]
      exact q4 j hj
end TT
