/-! the reference's copies of rows -/
section M6
variable {M : Mem} {K : Mem → Prop}
def mcx (M : Mem) (a sp b dp x n : Nat) : Mem := fun c j => if c = b ∧ dp + x ≤ j ∧ j < dp + n then M a (sp + (j - dp)) else M c j
theorem mcx_end {a sp b dp n : Nat} : mcx M a sp b dp n n = M := by funext c j; unfold mcx; rw [if_neg (by omega)]
theorem mcx_0 {a sp b dp n : Nat} : mcx M a sp b dp 0 n = mcp M a sp b dp n := rfl
theorem mcx_step {a sp b dp x n : Nat} (hab : a ≠ b) (hx : x < n) : mcx (mw M b (dp + x) (M a (sp + x))) a sp b dp (x + 1) n = mcx M a sp b dp x n := by
  funext c j
  unfold mcx
  by_cases h1 : c = b ∧ dp + x ≤ j ∧ j < dp + n
  · rw [if_pos h1]
    by_cases h2 : j = dp + x
    · rw [if_neg (by omega), h1.1, h2, mw_at]; congr 1; omega
    · rw [if_pos (by omega), mw_ne hab]
  · rw [if_neg h1, if_neg (by omega)]
    simp only [mw]
    rw [if_neg (by omega)]
theorem mcp_out {M : Mem} {a sp b dp n c : Nat} (h : c ≠ b) : mcp M a sp b dp n c = M c := mcp_ne h
theorem mcp_in {M : Mem} {a sp b dp n j : Nat} (h1 : dp ≤ j) (h2 : j < dp + n) : mcp M a sp b dp n b j = M a (sp + (j - dp)) := by unfold mcp; rw [if_pos ⟨rfl, h1, h2⟩]
theorem mcp_off {M : Mem} {a sp b dp n j : Nat} (h : j < dp ∨ dp + n ≤ j) : mcp M a sp b dp n b j = M b j := by unfold mcp; rw [if_neg (by omega)]
theorem m_aside (h : K (mcp M 131 0 132 0 349)) : wp_X7_laysAside M K := by
  have go : ∀ (n x : Nat) (M : Mem), x + n = 349 → K (mcx M 131 0 132 0 x 349) → L_X7_laysAside_2 K (n + 1) (nI x) M := by
    intro n
    induction n with
    | zero =>
      intro x M hx h
      have : x = 349 := by omega
      subst this
      rw [mcx_end] at h
      exact ⟨fun _ => h, fun c => absurd (Int32.le_refl _) c⟩
    | succ n ih =>
      intro x M hx h
      have i1 := ixn (k := x) (z := 349) (by omega) (by decide)
      refine ⟨fun c => ?_, fun _ => ⟨i1.1, i1.1, ?_⟩⟩
      · rw [lleN (by decide) (by omega)] at c
        have : 349 ≤ x := c
        omega
      · rintro M3 rfl
        rw [i1.2, nI_1]
        refine ih (x + 1) _ (by omega) ?_
        have e := mcx_step (M := M) (a := 131) (sp := 0) (b := 132) (dp := 0) (x := x) (n := 349) (by decide) (by omega)
        rw [Nat.zero_add] at e
        rw [e]; exact h
  exact ⟨350, go 349 0 M rfl h⟩
theorem m_comes (h : K (mcp M 132 0 131 0 349)) : wp_X7_comesBack M K := by
  have go : ∀ (n x : Nat) (M : Mem), x + n = 349 → K (mcx M 132 0 131 0 x 349) → L_X7_comesBack_2 K (n + 1) (nI x) M := by
    intro n
    induction n with
    | zero =>
      intro x M hx h
      have : x = 349 := by omega
      subst this
      rw [mcx_end] at h
      exact ⟨fun _ => h, fun c => absurd (Int32.le_refl _) c⟩
    | succ n ih =>
      intro x M hx h
      have i1 := ixn (k := x) (z := 349) (by omega) (by decide)
      refine ⟨fun c => ?_, fun _ => ⟨i1.1, i1.1, ?_⟩⟩
      · rw [lleN (by decide) (by omega)] at c
        have : 349 ≤ x := c
        omega
      · rintro M3 rfl
        rw [i1.2, nI_1]
        refine ih (x + 1) _ (by omega) ?_
        have e := mcx_step (M := M) (a := 132) (sp := 0) (b := 131) (dp := 0) (x := x) (n := 349) (by decide) (by omega)
        rw [Nat.zero_add] at e
        rw [e]; exact h
  exact ⟨350, go 349 0 M rfl h⟩
theorem ix_row {u x z : Nat} (hu : u < 6) (hx : x < 349) (hz : z = 2094) : vp_in ((349 : Int32) * nI u + nI x) z ∧ ix ((349 : Int32) * nI u + nI x) = 349 * u + x := by
  rw [show (349 : Int32) * nI u = nI (349 * u) from pk_mul 349 u, nI_add]
  exact ⟨vin (by omega) (by omega), ix_nI (by omega)⟩
/-- the shift of the rows that are known -/
def mshf (M : Mem) (x : Nat) : Mem := fun c j => if c = 133 ∧ x ≤ j ∧ j < 1745 then M 133 (j + 349) else M c j
theorem m_rem50 {u : Nat} (hu : u < 6) (hM : M 130 3 = nI u) (h : K (mw (mcp M 131 0 133 (349 * u) 349) 130 3 (nI (u + 1)))) : wp_X7_remembers_50 K M := by
  have go : ∀ (n x : Nat) (M : Mem), M 130 3 = nI u → x + n = 349 → K (mw (mcx M 131 0 133 (349 * u) x 349) 130 3 (nI (u + 1))) → L_X7_remembers_52 K (n + 1) (nI x) M := by
    intro n
    induction n with
    | zero =>
      intro x M hM hx h
      have : x = 349 := by omega
      subst this
      rw [mcx_end] at h
      refine ⟨fun _ => ?_, fun c => absurd (Int32.le_refl _) c⟩
      rintro M5 rfl
      rw [hM, nI_1]; exact h
    | succ n ih =>
      intro x M hM hx h
      have i1 := ixn (k := x) (z := 349) (by omega) (by decide)
      have i2 := ix_row (u := u) (x := x) hu (by omega) rfl
      refine ⟨fun c => ?_, fun _ => ⟨i1.1, by rw [hM]; exact i2.1, ?_⟩⟩
      · rw [lleN (by decide) (by omega)] at c
        have : 349 ≤ x := c
        omega
      · rintro M6 rfl
        rw [hM, i1.2, i2.2, nI_1]
        refine ih (x + 1) _ (by rw [mw_ne (by decide)]; exact hM) (by omega) ?_
        have e := mcx_step (M := M) (a := 131) (sp := 0) (b := 133) (dp := 349 * u) (x := x) (n := 349) (by decide) (by omega)
        rw [Nat.zero_add] at e
        rw [e]; exact h
  exact ⟨350, go 349 0 M hM rfl h⟩
theorem m_remembers {u : Nat} (hu : u ≤ 6) (hM : M 130 3 = nI u)
    (h : K (if u = 6 then mw (mcp (mw (mshf M 0) 130 3 (nI 5)) 131 0 133 1745 349) 130 3 (nI 6) else mw (mcp M 131 0 133 (349 * u) 349) 130 3 (nI (u + 1)))) : wp_X7_remembers M K := by
  refine ⟨fun c => ?_, fun c => ?_⟩
  · rw [hM, eqNl (by decide) (by omega)] at c
    have c : ¬ u = 6 := c
    rw [if_neg c] at h
    exact m_rem50 (by omega) hM h
  · rw [hM, eqNl (by decide) (by omega)] at c
    have c : u = 6 := c
    subst c
    rw [if_pos rfl] at h
    have go : ∀ (n x : Nat) (M : Mem), M 130 3 = nI 6 → x + n = 1745 → K (mw (mcp (mw (mshf M x) 130 3 (nI 5)) 131 0 133 1745 349) 130 3 (nI 6)) → L_X7_remembers_11 K (n + 1) (nI x) M := by
      intro n
      induction n with
      | zero =>
        intro x M hM hx h
        have : x = 1745 := by omega
        subst this
        have e : mshf M 1745 = M := by funext c j; unfold mshf; rw [if_neg (by omega)]
        rw [e] at h
        refine ⟨fun _ => ?_, fun c => absurd (Int32.le_refl _) c⟩
        rintro M8 rfl
        rw [hM, show nI 6 - 1 = nI 5 from by decide]
        exact m_rem50 (u := 5) (by decide) (mw_at _ _ _ _) h
      | succ n ih =>
        intro x M hM hx h
        have i1 := ixb (c := 349) 349 (k := x) (z := 2094) rfl (by omega) (by decide)
        have i2 := ixn (k := x) (z := 2094) (by omega) (by decide)
        refine ⟨fun c => ?_, fun _ => ⟨i1.1, i2.1, ?_⟩⟩
        · rw [lleN (by decide) (by omega)] at c
          have : 1745 ≤ x := c
          omega
        · rintro M9 rfl
          rw [i1.2, i2.2, nI_1]
          refine ih (x + 1) _ (by rw [mw_ne (by decide)]; exact hM) (by omega) ?_
          have e : mshf (mw M 133 x (M 133 (x + 349))) (x + 1) = mshf M x := by
            funext c j
            unfold mshf
            by_cases h1 : c = 133 ∧ x ≤ j ∧ j < 1745
            · rw [if_pos h1]
              by_cases h2 : j = x
              · rw [if_neg (by omega), h1.1, h2, mw_at]
              · rw [if_pos (by omega), mw_k (by omega)]
            · rw [if_neg h1, if_neg (by omega)]
              simp only [mw]
              rw [if_neg (by omega)]
          rw [e]; exact h
    exact ⟨1746, go 1745 0 M hM rfl h⟩
theorem m_undo {K : Int32 → Mem → Prop} {u : Nat} (hu : u ≤ 6) (hM : M 130 3 = nI u) (h0 : u = 0 → K (-2) M) (h1 : ∀ v, u = v + 1 → K (nI v) (mcp (mw M 130 3 (nI v)) 133 (349 * v) 131 0 349)) : wp_X7_undo M K := by
  refine ⟨fun c => ?_, fun c => ?_⟩
  · rw [hM, eq_z (by omega)] at c
    obtain ⟨v, rfl⟩ : ∃ v, u = v + 1 := ⟨u - 1, by omega⟩
    have h := h1 v rfl
    rintro M2 rfl
    rw [hM, show nI (v + 1) - 1 = nI v from nI_pred v]
    have go : ∀ (n x : Nat) (M : Mem), M 130 3 = nI v → x + n = 349 → K (nI v) (mcx M 133 (349 * v) 131 0 x 349) → L_X7_undo_22 K (n + 1) (nI x) M := by
      intro n
      induction n with
      | zero =>
        intro x M hM hx h
        have : x = 349 := by omega
        subst this
        rw [mcx_end] at h
        exact ⟨fun _ => by rw [hM]; exact h, fun c => absurd (Int32.le_refl _) c⟩
      | succ n ih =>
        intro x M hM hx h
        have i1 := ixn (k := x) (z := 349) (by omega) (by decide)
        have i2 := ix_row (u := v) (x := x) (by omega) (by omega) rfl
        refine ⟨fun c => ?_, fun _ => ⟨by rw [hM]; exact i2.1, i1.1, ?_⟩⟩
        · rw [lleN (by decide) (by omega)] at c
          have : 349 ≤ x := c
          omega
        · rintro M5 rfl
          rw [hM, i1.2, i2.2, nI_1]
          refine ih (x + 1) _ (by rw [mw_ne (by decide)]; exact hM) (by omega) ?_
          have e := mcx_step (M := M) (a := 133) (sp := 349 * v) (b := 131) (dp := 0) (x := x) (n := 349) (by decide) (by omega)
          rw [Nat.zero_add] at e
          rw [e]; exact h
    exact ⟨350, go 349 0 _ (mw_at _ _ _ _) rfl h⟩
  · rw [hM, eq_z (by omega)] at c
    exact h0 c
end M6
