/-! a press as at first, and the reference's row -/
section TF
variable {P : PlanT} {M X N : Mem} {p q : Nat} {w : Row} {u r : Nat}
theorem mfl_k {a z j : Nat} {v : Int32} (h : z ≤ j) : mfl M a z v a j = M a j := by unfold mfl; rw [if_neg (by omega)]
/-- what a press holds at first -/
def CF1 (M M' : Mem) (p q : Nat) : Prop := (∀ k, k < 4 → M' (p + 1) k = 0 ∧ M' (p + 2) k = 0 ∧ M' (p + 3) k = 0) ∧ (∀ k, k < 32 → M' (p + 4) k = 0) ∧ (M' (p + 5) 4 = 0 ∧ M' (p + 5) 5 = 0 ∧ M' (p + 5) 6 = 0 ∧ M' (p + 5) 8 = M (p + 5) 8 ∧ M' (p + 5) 9 = M (p + 5) 9) ∧ (∀ k, k < 128 → M' (p + 9) k = 0) ∧
  (M' p 8 = 1 ∧ M' p 9 = 1 ∧ M' p 10 = 0 ∧ M' p 11 = 0 ∧ M' p 12 = 0 ∧ M' p 13 = 0 ∧ M' p 7 = 0) ∧ (M q 5 ≤ 0 → M' p 5 = -9 ∧ M' p 6 = 0) ∧ (¬ M q 5 ≤ 0 → M' p 5 = 0 ∧ M' p 6 = M (q + 3) 0)
theorem c_first {K : Mem → Prop} (hd : q + 5 ≤ p ∨ p + 11 ≤ q) (hK : ∀ M', Fr p M M' → CF1 M M' p q → K M') : wp_X4_setAsAtFirst p q M K := by
  refine c_fill (by omega) (c_fill (by omega) (c_fill (by omega) (c_fill (by omega) ?_)))
  rintro M1 rfl
  rintro M2 rfl
  rintro M3 rfl
  refine c_fill (by omega) ?_
  have fr : Fr p M (mfl (mw (mw (mw (mfl (mfl (mfl (mfl M (p + 1) 4 0) (p + 2) 4 0) (p + 3) 4 0) (p + 4) 32 0) (p + 5) 4 0) (p + 5) 5 0) (p + 5) 6 0) (p + 5 + 4) 128 0) := fun c hc => by
    rw [mfl_ne (by omega), mw_ne (by omega), mw_ne (by omega), mw_ne (by omega), mfl_ne (by omega), mfl_ne (by omega), mfl_ne (by omega), mfl_ne (by omega)]
  have g1 : (∀ k, k < 4 → (mfl (mw (mw (mw (mfl (mfl (mfl (mfl M (p + 1) 4 0) (p + 2) 4 0) (p + 3) 4 0) (p + 4) 32 0) (p + 5) 4 0) (p + 5) 5 0) (p + 5) 6 0) (p + 5 + 4) 128 0) (p + 1) k = 0 ∧ (mfl (mw (mw (mw (mfl (mfl (mfl (mfl M (p + 1) 4 0) (p + 2) 4 0) (p + 3) 4 0) (p + 4) 32 0) (p + 5) 4 0) (p + 5) 5 0) (p + 5) 6 0) (p + 5 + 4) 128 0) (p + 2) k = 0 ∧ (mfl (mw (mw (mw (mfl (mfl (mfl (mfl M (p + 1) 4 0) (p + 2) 4 0) (p + 3) 4 0) (p + 4) 32 0) (p + 5) 4 0) (p + 5) 5 0) (p + 5) 6 0) (p + 5 + 4) 128 0) (p + 3) k = 0) := fun k hk => by
    refine ⟨?_, ?_, ?_⟩
    · rw [mfl_ne (by omega), mw_ne (by omega), mw_ne (by omega), mw_ne (by omega), mfl_ne (by omega), mfl_ne (by omega), mfl_ne (by omega), mfl_at hk]
    · rw [mfl_ne (by omega), mw_ne (by omega), mw_ne (by omega), mw_ne (by omega), mfl_ne (by omega), mfl_ne (by omega), mfl_at hk]
    · rw [mfl_ne (by omega), mw_ne (by omega), mw_ne (by omega), mw_ne (by omega), mfl_ne (by omega), mfl_at hk]
  have g2 : ∀ k, k < 32 → (mfl (mw (mw (mw (mfl (mfl (mfl (mfl M (p + 1) 4 0) (p + 2) 4 0) (p + 3) 4 0) (p + 4) 32 0) (p + 5) 4 0) (p + 5) 5 0) (p + 5) 6 0) (p + 5 + 4) 128 0) (p + 4) k = 0 := fun k hk => by
    rw [mfl_ne (by omega), mw_ne (by omega), mw_ne (by omega), mw_ne (by omega), mfl_at hk]
  have g3 : ∀ k, (mfl (mw (mw (mw (mfl (mfl (mfl (mfl M (p + 1) 4 0) (p + 2) 4 0) (p + 3) 4 0) (p + 4) 32 0) (p + 5) 4 0) (p + 5) 5 0) (p + 5) 6 0) (p + 5 + 4) 128 0) (p + 5) k = if k = 6 then 0 else if k = 5 then 0 else if k = 4 then 0 else M (p + 5) k := fun k => by
    rw [mfl_ne (by omega)]
    by_cases z : k = 6
    · rw [if_pos z, z, mw_at]
    · rw [if_neg z, mw_k z]
      by_cases z : k = 5
      · rw [if_pos z, z, mw_at]
      · rw [if_neg z, mw_k z]
        by_cases z : k = 4
        · rw [if_pos z, z, mw_at]
        · rw [if_neg z, mw_k z, mfl_ne (by omega), mfl_ne (by omega), mfl_ne (by omega), mfl_ne (by omega)]
  have g4 : ∀ k, k < 128 → (mfl (mw (mw (mw (mfl (mfl (mfl (mfl M (p + 1) 4 0) (p + 2) 4 0) (p + 3) 4 0) (p + 4) 32 0) (p + 5) 4 0) (p + 5) 5 0) (p + 5) 6 0) (p + 5 + 4) 128 0) (p + 9) k = 0 := fun k hk => mfl_at hk
  generalize mfl (mw (mw (mw (mfl (mfl (mfl (mfl M (p + 1) 4 0) (p + 2) 4 0) (p + 3) 4 0) (p + 4) 32 0) (p + 5) 4 0) (p + 5) 5 0) (p + 5) 6 0) (p + 5 + 4) 128 0 = Z at *
  have fin : ∀ x y : Int32, ((M q 5 ≤ 0 → x = -9 ∧ y = 0) ∧ (¬ M q 5 ≤ 0 → x = 0 ∧ y = M (q + 3) 0)) → wp_X4_setAsAtFirst_74 p q K y (mw Z p 5 x) := by
    intro x y hxy
    rintro M9 rfl
    rintro M10 rfl
    rintro M11 rfl
    rintro M12 rfl
    rintro M13 rfl
    rintro M14 rfl
    rintro M15 rfl
    rintro M16 rfl
    have out : ∀ c, c ≠ p → mw (mw (mw (mw (mw (mw (mw (mw (mw Z p 5 x) p 6 y) p 7 0) p 8 1) p 9 1) p 10 0) p 11 0) p 12 0) p 13 0 c = Z c := fun c hc => by
      rw [mw_ne hc, mw_ne hc, mw_ne hc, mw_ne hc, mw_ne hc, mw_ne hc, mw_ne hc, mw_ne hc, mw_ne hc]
    refine hK _ (fun c hc => by rw [out c (by omega), fr c hc]) ⟨?_, ?_, ?_, ?_, ?_, ?_, ?_⟩
    · rw [out _ (by omega), out _ (by omega), out _ (by omega)]; exact g1
    · rw [out _ (by omega)]; exact g2
    · rw [out _ (by omega), g3, g3, g3, g3, g3]; exact ⟨rfl, rfl, rfl, rfl, rfl⟩
    · rw [out _ (by omega)]; exact g4
    · refine ⟨?_, ?_, ?_, ?_, ?_, ?_, ?_⟩ <;> simp [mw]
    · intro z
      rw [← (hxy.1 z).1, ← (hxy.1 z).2]
      simp [mw]
    · intro z
      rw [← (hxy.2 z).1, ← (hxy.2 z).2]
      simp [mw]
  show (Z q 5 ≤ 0 → wp_X4_setAsAtFirst_53 p q K (-9) Z) ∧ (¬ Z q 5 ≤ 0 → wp_X4_setAsAtFirst_53 p q K 0 Z)
  rw [fr q (by omega)]
  have e3 : ∀ v, mw Z p 5 v q 5 = M q 5 := fun v => by rw [mw_ne (by omega), fr q (by omega)]
  have e4 : ∀ v, mw Z p 5 v (q + 3) 0 = M (q + 3) 0 := fun v => by rw [mw_ne (by omega), fr (q + 3) (by omega)]
  refine ⟨fun z => ?_, fun z => ?_⟩
  · rintro M7 rfl
    rw [e3, e4]
    exact ⟨fun _ => fin _ _ ⟨fun _ => ⟨rfl, rfl⟩, fun y => absurd z y⟩, fun y => absurd z y⟩
  · rintro M7 rfl
    rw [e3, e4]
    exact ⟨fun y => absurd y z, fun _ => fin _ _ ⟨fun y => absurd y z, fun _ => ⟨rfl, rfl⟩⟩⟩
/-- the row at first -/
def W1 (P : PlanT) (w : Row) : Prop := w 0 = 1 ∧ w 4 = 1 ∧ (Prl P = 0 → w 1 = -1 ∧ w 2 = 0) ∧ (¬ Prl P = 0 → w 1 = 0 ∧ w 2 = Pcp P 0) ∧ ∀ j, j < 349 → j ≠ 0 → j ≠ 1 → j ≠ 2 → j ≠ 4 → w j = 0
theorem PT_first (hv : PV P) (hw : W1 P w) (hc : CF1 M X p q) (h5 : M q 5 = nI (Prl P)) (hq : ¬ Prl P = 0 → M (q + 3) 0 = Pcp P 0) (h8 : isB (M (p + 5) 8)) (h9 : isB (M (p + 5) 9)) : PT P X p w := by
  have v3 := hv.2.2.1
  obtain ⟨w0, w4, wa, wb, wz⟩ := hw
  obtain ⟨c1, c2, c3, c4, c5, c6, c7⟩ := hc
  rw [h5, le_z (by omega)] at c6 c7
  have zc : ∀ s, s < 32 → w (61 + 9 * s) = 0 := fun s hs => wz _ (by omega) (by omega) (by omega) (by omega) (by omega)
  have hPR : PR P X p w 0 0 0 0 (Pwy P) False := by
    refine ⟨?_, ?_, c3.2.1, ⟨fun a ha => by omega, fun s hs _ => zc s hs, fun a ha => by omega, fun a ha => by omega⟩, ?_, ⟨fun _ => ⟨wz 54 (by omega) (by omega) (by omega) (by omega) (by omega), c3.2.2.1⟩, fun y => absurd y (fun z => z)⟩, ?_, ?_⟩
    · intro i k j c
      rcases c with ⟨rfl, rfl, rfl⟩ | ⟨rfl, rfl, rfl⟩ | ⟨rfl, rfl, rfl⟩ | ⟨rfl, rfl, rfl⟩ | ⟨rfl, rfl, rfl⟩ | ⟨rfl, rfl, rfl⟩ | ⟨rfl, rfl, rfl⟩ | ⟨rfl, q, rfl⟩ | ⟨rfl, q, rfl⟩ | ⟨rfl, q, rfl⟩ | ⟨rfl, q, rfl⟩ | ⟨z, rfl, rfl, rfl⟩ | ⟨z, rfl, rfl, rfl⟩ | ⟨z, rfl, q, rfl⟩ | ⟨a, ha, rfl, rfl, rfl⟩ | ⟨a, ha, rfl, rfl, rfl⟩ | ⟨a, ha, rfl, rfl, rfl⟩ | ⟨a, e, ha, he, hf, rfl, rfl, rfl⟩
      · rw [w0]; exact c5.1
      · rw [w4]; exact c5.2.1
      · rw [wz 5 (by omega) (by omega) (by omega) (by omega) (by omega)]; exact c5.2.2.1
      · rw [wz 6 (by omega) (by omega) (by omega) (by omega) (by omega)]; exact c3.1
      · rw [wz 7 (by omega) (by omega) (by omega) (by omega) (by omega)]; exact c5.2.2.2.1
      · rw [wz 8 (by omega) (by omega) (by omega) (by omega) (by omega)]; exact c5.2.2.2.2.1
      · rw [wz 9 (by omega) (by omega) (by omega) (by omega) (by omega)]; exact c5.2.2.2.2.2.1
      · rw [wz _ (by omega) (by omega) (by omega) (by omega) (by omega)]; exact (c1 k q).1
      · rw [wz _ (by omega) (by omega) (by omega) (by omega) (by omega)]; exact (c1 k q).2.1
      · rw [wz _ (by omega) (by omega) (by omega) (by omega) (by omega)]; exact (c1 k q).2.2
      · rw [wz _ (by omega) (by omega) (by omega) (by omega) (by omega)]; exact c2 k q
      · exact absurd z (fun z => z)
      · exact absurd z (fun z => z)
      · exact absurd z (fun z => z)
      · omega
      · omega
      · omega
      · omega
    · by_cases z : Prl P = 0
      · exact Or.inl ⟨(wa z).1, (c6 z).1, z⟩
      · exact Or.inr ⟨0, by omega, (wb z).1, (c7 z).1⟩
    · intro c e h1 h2 h3
      exact c4 _ (by omega)
    · unfold Pb
      rw [c3.2.2.1, c3.2.2.2.1, c3.2.2.2.2, c5.1, c5.2.1]
      exact ⟨isB0, h8, h9, isB1, isB1⟩
    · exact ⟨wz 5 (by omega) (by omega) (by omega) (by omega) (by omega), wz 6 (by omega) (by omega) (by omega) (by omega) (by omega), by omega, by omega, by omega, by omega, by omega, by rw [w0]; exact isB1, by rw [w4]; exact isB1⟩
  refine PT_mk hPR (by omega) (by omega) ?_ ?_ (fun z => (wa z).2)
  · by_cases z : Prl P = 0
    · rw [(c6 z).2, (wa z).2]
    · rw [(c7 z).2, (wb z).2, hq z]
  · rw [c5.2.2.2.2.2.2, wz 3 (by omega) (by omega) (by omega) (by omega) (by omega)]
/-! the reference takes what it read -/
def gpI (M : Mem) (k : Nat) : Int32 := if k = 0 then 0 else M 143 k
def wyI (M : Mem) : Nat → Int32
  | 0 => 0
  | k + 1 => wyI M k + gpI M (k + 1)
def T18 (M Z : Mem) (x : Nat) : Prop := (∀ c, c ≠ 138 → c ≠ 139 → c ≠ 142 → Z c = M c) ∧ ∀ k, k < x → Z 138 k = gpI M k ∧ Z 139 k = wyI M k ∧ Z 142 k = M 146 k
def T92 (M Z : Mem) (x : Nat) : Prop := (∀ c, c ≠ 140 → c ≠ 141 → Z c = M c) ∧ ∀ k, k < x → Z 140 k = M 144 k ∧ Z 141 k = M 145 k
theorem t_18 {K : Mem → Prop} (hK : ∀ Z, T18 M Z 4 → ∃ j, L_X7_takes_92 K j 0 Z) : ∀ (n x : Nat) (Z : Mem), x + n = 4 → T18 M Z x → L_X7_takes_18 K (n + 1) (nI x) Z := by
  intro n
  induction n with
  | zero =>
    intro x Z hx hT
    have : x = 4 := by omega
    subst this
    exact ⟨fun _ => hK Z hT, fun c => absurd (Int32.le_refl _) c⟩
  | succ n ih =>
    intro x Z hx hT
    have i1 := ixn (k := x) (z := 4) (by omega) (by decide)
    obtain ⟨t1, t2⟩ := hT
    have last : ∀ (g y : Int32), g = gpI M x → y = wyI M x → wp_X7_takes_71 (fun x1 M => L_X7_takes_18 K (n + 1) x1 M) K (nI x) y (nI x) (mw Z 138 x g) := by
      intro g y hg hy
      unfold wp_X7_takes_71
      rw [i1.2]
      refine ⟨i1.1, ?_⟩
      rintro M25 rfl
      refine ⟨i1.1, i1.1, ?_⟩
      rintro M26 rfl
      rw [nI_1]
      refine ih (x + 1) _ (by omega) ⟨fun c c1 c2 c3 => by rw [mw_ne c3, mw_ne c2, mw_ne c1, t1 c c1 c2 c3], fun k hk => ?_⟩
      by_cases z : k = x
      · subst z
        refine ⟨by rw [mw_ne (by decide), mw_ne (by decide), mw_at, hg], by rw [mw_ne (by decide), mw_at, hy], ?_⟩
        rw [mw_at, mw_ne (by decide), mw_ne (by decide), t1 146 (by decide) (by decide) (by decide)]
      · obtain ⟨d1, d2, d3⟩ := t2 k (by omega)
        exact ⟨by rw [mw_ne (by decide), mw_ne (by decide), mw_k z]; exact d1, by rw [mw_ne (by decide), mw_k z, mw_ne (by decide)]; exact d2, by rw [mw_k z, mw_ne (by decide), mw_ne (by decide)]; exact d3⟩
    have t42 : ∀ g : Int32, g = gpI M x → wp_X7_takes_42 (fun x1 M => L_X7_takes_18 K (n + 1) x1 M) K (nI x) g (nI x) Z := by
      intro g hg
      unfold wp_X7_takes_42
      rw [i1.2]
      refine ⟨i1.1, ?_⟩
      rintro M23 rfl
      refine ⟨fun z => ?_, fun z => ?_⟩
      · rw [eq_z (by omega)] at z
        obtain ⟨x', rfl⟩ : ∃ x', x = x' + 1 := ⟨x - 1, by omega⟩
        have i2 := ixn (k := x') (z := 4) (by omega) (by decide)
        rw [show nI (x' + 1) - 1 = nI x' from nI_pred x', i2.2]
        refine ⟨i2.1, i1.1, last g _ hg ?_⟩
        rw [mw_ne (b := 139) (by decide), mw_at, hg, (t2 x' (by omega)).2.1]
        rfl
      · have z' := z
        rw [eq_z (by omega)] at z
        refine last g _ hg ?_
        rw [z]; rfl
    refine ⟨fun c => ?_, fun _ => ⟨fun z => ?_, fun z => ?_⟩⟩
    · rw [lleN (by decide) (by omega)] at c
      have : 4 ≤ x := c
      omega
    · rw [eq_z (by omega)] at z
      refine ⟨i1.1, t42 _ ?_⟩
      rw [i1.2, t1 143 (by decide) (by decide) (by decide)]
      unfold gpI
      rw [if_neg z]
    · rw [eq_z (by omega)] at z
      refine t42 _ ?_
      unfold gpI
      rw [if_pos z]
theorem t_92 {K : Mem → Prop} (hK : ∀ Z, T92 M Z 8 → ∃ j, L_X7_takes_130 K j 0 Z) : ∀ (n x : Nat) (Z : Mem), x + n = 8 → T92 M Z x → L_X7_takes_92 K (n + 1) (nI x) Z := by
  intro n
  induction n with
  | zero =>
    intro x Z hx hT
    have : x = 8 := by omega
    subst this
    exact ⟨fun _ => hK Z hT, fun c => absurd (Int32.le_refl _) c⟩
  | succ n ih =>
    intro x Z hx hT
    have i1 := ixn (k := x) (z := 8) (by omega) (by decide)
    obtain ⟨t1, t2⟩ := hT
    unfold L_X7_takes_92
    rw [i1.2]
    refine ⟨fun c => ?_, fun _ => ⟨i1.1, i1.1, ?_⟩⟩
    · rw [lleN (by decide) (by omega)] at c
      have : 8 ≤ x := c
      omega
    rintro M9 rfl
    refine ⟨i1.1, i1.1, ?_⟩
    rintro M10 rfl
    rw [nI_1]
    refine ih (x + 1) _ (by omega) ⟨fun c c1 c2 => by rw [mw_ne c2, mw_ne c1, t1 c c1 c2], fun k hk => ?_⟩
    by_cases z : k = x
    · subst z
      exact ⟨by rw [mw_ne (by decide), mw_at, t1 144 (by decide) (by decide)], by rw [mw_at, mw_ne (by decide), t1 145 (by decide) (by decide)]⟩
    · exact ⟨by rw [mw_ne (by decide), mw_k z]; exact (t2 k (by omega)).1, by rw [mw_k z, mw_ne (by decide)]; exact (t2 k (by omega)).2⟩
def T130 (M Z : Mem) (x : Nat) : Prop := (∀ c, c ≠ 131 → Z c = M c) ∧ ∀ k, k < x → Z 131 k = 0
/-- what the reference holds when it has taken -/
def TKN (M Z : Mem) (u r : Nat) : Prop := (∀ c, c ≠ 130 → c ≠ 131 → c ≠ 135 → (c < 138 ∨ 142 < c) → Z c = M c) ∧ (Z 130 10 = nI u ∧ Z 130 13 = nI r ∧ Z 130 3 = 0 ∧ Z 130 9 = 0) ∧ (Z 135 0 = 0 ∧ Z 135 1 = 0) ∧
  (∀ k, k < 4 → Z 138 k = gpI M k ∧ Z 139 k = wyI M k ∧ Z 142 k = M 146 k) ∧ (∀ k, k < 8 → Z 140 k = M 144 k ∧ Z 141 k = M 145 k) ∧
  (Z 131 0 = 1 ∧ Z 131 4 = 1 ∧ (r = 0 → Z 131 1 = -1 ∧ Z 131 2 = 0) ∧ (¬ r = 0 → Z 131 1 = 0 ∧ Z 131 2 = M 144 0) ∧ ∀ j, j < 349 → j ≠ 0 → j ≠ 1 → j ≠ 2 → j ≠ 4 → Z 131 j = 0)
theorem t_130 {K : Mem → Prop} {Y : Mem} (hr : r ≤ 8) (e13 : M 130 13 = nI r) (hK : ∀ Z, (∀ c, c ≠ 130 → c ≠ 131 → c ≠ 135 → Z c = M c) → (∀ j, j ≠ 3 → j ≠ 9 → Z 130 j = M 130 j) → (Z 130 3 = 0 ∧ Z 130 9 = 0) → (Z 135 0 = 0 ∧ Z 135 1 = 0) → (Z 131 0 = 1 ∧ Z 131 4 = 1 ∧ (r = 0 → Z 131 1 = -1 ∧ Z 131 2 = 0) ∧ (¬ r = 0 → Z 131 1 = 0 ∧ Z 131 2 = M 140 0) ∧ ∀ j, j < 349 → j ≠ 0 → j ≠ 1 → j ≠ 2 → j ≠ 4 → Z 131 j = 0) → K Z) : ∀ (n x : Nat) (Z : Mem), x + n = 349 → T130 M Z x → L_X7_takes_130 K (n + 1) (nI x) Z := by
  intro n
  induction n with
  | zero =>
    intro x Z hx hT
    have : x = 349 := by omega
    subst this
    obtain ⟨t1, t2⟩ := hT
    refine ⟨fun _ => ?_, fun c => absurd (Int32.le_refl _) c⟩
    rintro M12 rfl
    have fin : ∀ a b : Int32, (r = 0 → a = -1 ∧ b = 0) → (¬ r = 0 → a = 0 ∧ b = M 140 0) → wp_X7_takes_197 K b (mw (mw Z 131 0 1) 131 1 a) := by
      intro a b h1 h2
      rintro M17 rfl
      rintro M18 rfl
      rintro M19 rfl
      rintro M20 rfl
      rintro M21 rfl
      rintro M22 rfl
      have e131 : ∀ j, mw (mw (mw (mw (mw (mw (mw (mw Z 131 0 1) 131 1 a) 131 2 b) 131 4 1) 130 3 0) 130 9 0) 135 0 0) 135 1 0 131 j = if j = 4 then 1 else if j = 2 then b else if j = 1 then a else if j = 0 then 1 else Z 131 j := fun j => by simp only [mw]; simp
      refine hK _ (fun c c1 c2 c3 => by rw [mw_ne c3, mw_ne c3, mw_ne c1, mw_ne c1, mw_ne c2, mw_ne c2, mw_ne c2, mw_ne c2, t1 c c2]) (fun j j1 j2 => by rw [mw_ne (by decide), mw_ne (by decide), mw_k j2, mw_k j1, mw_ne (by decide), mw_ne (by decide), mw_ne (by decide), mw_ne (by decide), t1 130 (by decide)]) ?_ ?_ ⟨?_, ?_, ?_, ?_, ?_⟩
      · exact ⟨by rw [mw_ne (by decide), mw_ne (by decide), mw_k (by decide), mw_at], by rw [mw_ne (by decide), mw_ne (by decide), mw_at]⟩
      · exact ⟨by rw [mw_k (by decide), mw_at], mw_at _ _ _ _⟩
      · rw [e131]; rfl
      · rw [e131]; rfl
      · intro z; rw [e131, e131]; exact h1 z
      · intro z; rw [e131, e131]; exact h2 z
      · intro j j1 j2 j3 j4 j5
        rw [e131, if_neg j5, if_neg j4, if_neg j3, if_neg j2]; exact t2 j j1
    have f13 : ∀ a, mw (mw Z 131 0 1) 131 1 a 130 13 = nI r := fun a => by rw [mw_ne (by decide), mw_ne (by decide), t1 130 (by decide)]; exact e13
    have f13' : mw Z 131 0 1 130 13 = nI r := by rw [mw_ne (by decide), t1 130 (by decide)]; exact e13
    have f140 : ∀ a, mw (mw Z 131 0 1) 131 1 a 140 0 = M 140 0 := fun a => by rw [mw_ne (by decide), mw_ne (by decide), t1 140 (by decide)]
    rw [f13']
    refine ⟨fun z => ?_, fun z => ?_⟩
    · rw [le_z (by omega)] at z
      rintro M15 rfl
      rw [f13, f140]
      exact ⟨fun _ => fin _ _ (fun _ => ⟨rfl, rfl⟩) (fun y => absurd z y), fun y => absurd ((le_z (by omega)).mpr z) y⟩
    · rw [le_z (by omega)] at z
      rintro M15 rfl
      rw [f13, f140]
      exact ⟨fun y => absurd ((le_z (by omega)).mp y) z, fun _ => fin _ _ (fun y => absurd y z) (fun _ => ⟨rfl, rfl⟩)⟩
  | succ n ih =>
    intro x Z hx hT
    have i1 := ixn (k := x) (z := 349) (by omega) (by decide)
    obtain ⟨t1, t2⟩ := hT
    refine ⟨fun c => ?_, fun _ => ⟨i1.1, ?_⟩⟩
    · rw [lleN (by decide) (by omega)] at c
      have : 349 ≤ x := c
      omega
    rintro M14 rfl
    rw [nI_1, i1.2]
    refine ih (x + 1) _ (by omega) ⟨fun c c1 => by rw [mw_ne c1, t1 c c1], fun k hk => ?_⟩
    by_cases z : k = x
    · subst z; exact mw_at _ _ _ _
    · rw [mw_k z]; exact t2 k (by omega)
theorem m_takes {K : Mem → Prop} (hr : r ≤ 8) (e17 : M 130 17 = nI u) (e18 : M 130 18 = nI r) (hK : ∀ Z, TKN M Z u r → (∀ j, j ≠ 3 → j ≠ 9 → j ≠ 10 → j ≠ 13 → Z 130 j = M 130 j) → K Z) : wp_X7_takes M K := by
  rintro M1 rfl
  rintro M2 rfl
  have q18 : mw M 130 10 (M 130 17) 130 18 = nI r := by rw [mw_k (by decide)]; exact e18
  rw [q18, e17]
  have z0 : ∀ c, c ≠ 130 → mw (mw M 130 10 (nI u)) 130 13 (nI r) c = M c := fun c hc => by rw [mw_ne hc, mw_ne hc]
  have z1 : ∀ j, j ≠ 10 → j ≠ 13 → mw (mw M 130 10 (nI u)) 130 13 (nI r) 130 j = M 130 j := fun j j1 j2 => by rw [mw_k j2, mw_k j1]
  have z10 : mw (mw M 130 10 (nI u)) 130 13 (nI r) 130 10 = nI u := by rw [mw_k (by decide), mw_at]
  have z13 : mw (mw M 130 10 (nI u)) 130 13 (nI r) 130 13 = nI r := mw_at _ _ _ _
  generalize mw (mw M 130 10 (nI u)) 130 13 (nI r) = Z0 at *
  have hg : ∀ k, gpI Z0 k = gpI M k := fun k => by unfold gpI; rw [z0 143 (by decide)]
  have hwy : ∀ k, wyI Z0 k = wyI M k := fun k => by
    induction k with
    | zero => rfl
    | succ k ih => show wyI Z0 k + gpI Z0 (k + 1) = _; rw [ih, hg]; rfl
  refine ⟨5, t_18 (M := Z0) (fun Za ha => ⟨9, t_92 (M := Za) (fun Zb hb => ⟨350, t_130 (M := Zb) (Y := M) hr ?_ ?_ 349 0 Zb rfl ⟨fun _ _ => rfl, fun k hk => by omega⟩⟩) 8 0 Za rfl ⟨fun _ _ _ => rfl, fun k hk => by omega⟩⟩) 4 0 Z0 rfl ⟨fun _ _ _ _ => rfl, fun k hk => by omega⟩⟩
  · rw [hb.1 130 (by decide) (by decide), ha.1 130 (by decide) (by decide) (by decide)]; exact z13
  · intro Z f1 f2 f3 f4 f5
    have eq : ∀ c, c ≠ 130 → c ≠ 131 → c ≠ 135 → (c < 138 ∨ 142 < c) → Z c = M c := fun c c1 c2 c3 c4 => by rw [f1 c c1 c2 c3, hb.1 c (by omega) (by omega), ha.1 c (by omega) (by omega) (by omega), z0 c c1]
    have e130 : ∀ j, j ≠ 3 → j ≠ 9 → Z 130 j = Z0 130 j := fun j j1 j2 => by rw [f2 j j1 j2, hb.1 130 (by decide) (by decide), ha.1 130 (by decide) (by decide) (by decide)]
    have e144 : Za 144 = M 144 := by rw [ha.1 144 (by decide) (by decide) (by decide), z0 144 (by decide)]
    have e145 : Za 145 = M 145 := by rw [ha.1 145 (by decide) (by decide) (by decide), z0 145 (by decide)]
    refine hK Z ⟨eq, ⟨by rw [e130 10 (by decide) (by decide)]; exact z10, by rw [e130 13 (by decide) (by decide)]; exact z13, f3.1, f3.2⟩, f4, fun k hk => ?_, fun k hk => ?_, ⟨f5.1, f5.2.1, f5.2.2.1, fun z => ?_, f5.2.2.2.2⟩⟩ (fun j j1 j2 j3 j4 => by rw [e130 j j1 j2, z1 j j3 j4])
    · obtain ⟨d1, d2, d3⟩ := ha.2 k hk
      rw [f1 138 (by decide) (by decide) (by decide), f1 139 (by decide) (by decide) (by decide), f1 142 (by decide) (by decide) (by decide), hb.1 138 (by decide) (by decide), hb.1 139 (by decide) (by decide), hb.1 142 (by decide) (by decide), d1, d2, d3, hg, hwy, z0 146 (by decide)]
      exact ⟨rfl, rfl, rfl⟩
    · obtain ⟨d1, d2⟩ := hb.2 k hk
      rw [f1 140 (by decide) (by decide) (by decide), f1 141 (by decide) (by decide) (by decide), d1, d2, e144, e145]
      exact ⟨rfl, rfl⟩
    · rw [(f5.2.2.2.1 z).1, (f5.2.2.2.1 z).2, (hb.2 0 (by decide)).1, e144]
      exact ⟨rfl, rfl⟩
end TF
