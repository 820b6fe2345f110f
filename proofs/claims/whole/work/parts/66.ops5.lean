section O5
variable {P : PlanT} {M X Z N : Mem} {p q pl dr u k : Nat} {w : Row} {T t g U : Nat} {f f' : Nat → Nat} {hc : Prop}
theorem c_hasU {K : Int32 → Mem → Prop} {a : Int32} {q n s : Nat} (e : M q s = nI n) (hn : n ≤ 100) (h1 : ∀ k, a = nI k → k < n → K 1 M) (h0 : (¬ ∃ k, a = nI k ∧ k < n) → K 0 M) : (a < 0 → K (0 : Int32) M) ∧ (¬ a < 0 → ((M q s) ≤ a → K (0 : Int32) M) ∧ (¬ (M q s) ≤ a → K (1 : Int32) M)) := by
  refine ⟨fun c => h0 ?_, fun c => ⟨fun c2 => h0 ?_, fun c2 => ?_⟩⟩
  · rintro ⟨k, rfl, k1⟩
    rw [← Int32.not_le] at c
    exact c (z_le (by omega))
  · rintro ⟨k, rfl, k1⟩
    rw [e, le_nI (by omega) (by omega)] at c2; omega
  · rw [Int32.not_lt] at c
    obtain ⟨k, hk, rfl⟩ := int_nI c
    rw [e, le_nI (by omega) hk] at c2
    exact h1 k rfl (by omega)
theorem c_hasUn {K : Int32 → Mem → Prop} {a : Int32} {q n : Nat} (e : M q 4 = nI n) (hn : n ≤ 100) (h1 : ∀ k, a = nI k → k < n → K 1 M) (h0 : (¬ ∃ k, a = nI k ∧ k < n) → K 0 M) : wp_X3_hasUnit q a M K := c_hasU e hn h1 h0
theorem c_hasRl {K : Int32 → Mem → Prop} {a : Int32} {q n : Nat} (e : M q 5 = nI n) (hn : n ≤ 100) (h1 : ∀ k, a = nI k → k < n → K 1 M) (h0 : (¬ ∃ k, a = nI k ∧ k < n) → K 0 M) : wp_X3_hasReel q a M K := c_hasU e hn h1 h0
theorem m_inU {K : Int32 → Mem → Prop} {a : Int32} {q n s : Nat} (e : M q s = nI n) (hn : n ≤ 100) (h1 : ∀ k, a = nI k → k < n → K 1 M) (h0 : (¬ ∃ k, a = nI k ∧ k < n) → K 0 M) : wp_X7_in a 0 (M q s - 1) M K := by
  refine m_in ?_
  by_cases hc : (0 : Int32) ≤ a ∧ a ≤ M q s - 1
  · rw [if_pos hc]
    obtain ⟨k, hk, rfl⟩ := int_nI hc.1
    have c2 := hc.2
    rcases Nat.eq_zero_or_pos n with z | z
    · rw [e, z] at c2
      exact absurd (Int32.le_trans hc.1 c2) (by decide)
    · rw [e, show nI n - 1 = nI (n - 1) from pk_sub z, le_nI hk (by omega)] at c2
      exact h1 k rfl (by omega)
  · rw [if_neg hc]
    refine h0 ?_
    rintro ⟨k, rfl, k1⟩
    refine hc ⟨z_le (by omega), ?_⟩
    rw [e, show nI n - 1 = nI (n - 1) from pk_sub (show 1 ≤ n by omega), le_nI (by omega) (by omega)]; omega
theorem m_under {K : Int32 → Mem → Prop} (h : K (gSum (M 131) 32) M) : wp_X7_underWay M K := by
  have go : ∀ (n x : Nat), x + n = 32 → L_X7_underWay_4 K (n + 1) (gSum (M 131) x) (nI x) M := by
    intro n
    induction n with
    | zero =>
      intro x hx
      have : x = 32 := by omega
      subst this
      exact ⟨fun _ => h, fun c => absurd (Int32.le_refl _) c⟩
    | succ n ih =>
      intro x hx
      refine ⟨fun c => ?_, fun _ => m_copyPlace (by omega) ?_⟩
      · rw [lleN (by decide) (by omega)] at c
        have : 32 ≤ x := c
        omega
      have i1 := ixn (k := cpl x) (z := 349) (by have := cpl_lt x; omega) (by decide)
      refine ⟨i1.1, ?_⟩
      rw [i1.2, nI_1]
      have e : gSum (M 131) x + M 131 (cpl x) = gSum (M 131) (x + 1) := by unfold cpl; rw [Nat.mod_eq_of_lt (by omega)]; rfl
      rw [e]
      exact ih (x + 1) (by omega)
  exact ⟨33, go 32 0 rfl⟩
def gPs (w : Row) (k : Nat) : Nat → Int32
  | 0 => 0
  | n + 1 => gPs w k n + w (22 + 8 * k + n)
theorem c_toBe {K : Int32 → Mem → Prop} (hk : k < 4) (he : ∀ j, j < 32 → M (p + 4) j = w (22 + j)) (h : K (gPs w k 8) M) : wp_X4_toBePassed p (nI k) M K := by
  have go : ∀ (n x : Nat), x + n = 8 → L_X4_toBePassed_4 p K (n + 1) (nI k) (gPs w k x) (nI x) M := by
    intro n
    induction n with
    | zero =>
      intro x hx
      have : x = 8 := by omega
      subst this
      exact ⟨fun _ => h, fun c => absurd (Int32.le_refl _) c⟩
    | succ n ih =>
      intro x hx
      refine ⟨fun c => ?_, fun _ => c_pass hk (by omega) ?_⟩
      · rw [lleN (by decide) (by omega)] at c
        have : 8 ≤ x := c
        omega
      rw [Nat.mod_eq_of_lt (show x < 8 by omega)]
      have i1 := ixn (k := 8 * k + x) (z := 32) (by omega) (by decide)
      refine ⟨i1.1, ?_⟩
      rw [i1.2, nI_1, he _ (by omega), show 22 + (8 * k + x) = 22 + 8 * k + x by omega]
      exact ih (x + 1) (by omega)
  exact ⟨9, go 8 0 rfl⟩
theorem m_passed {K : Int32 → Mem → Prop} (hk : k < 4) (h : K (gPs (M 131) k 8) M) : wp_X7_passedTo (nI k) M K := by
  have go : ∀ (n x : Nat), x + n = 8 → L_X7_passedTo_4 K (n + 1) (nI k) (gPs (M 131) k x) (nI x) M := by
    intro n
    induction n with
    | zero =>
      intro x hx
      have : x = 8 := by omega
      subst this
      exact ⟨fun _ => h, fun c => absurd (Int32.le_refl _) c⟩
    | succ n ih =>
      intro x hx
      have i1 := ixn (k := 22 + 8 * k + x) (z := 349) (by omega) (by decide)
      have e : (22 : Int32) + (8 : Int32) * nI k + nI x = nI (22 + 8 * k + x) := by rw [lmul, ladd, nI_add]
      refine ⟨fun c => ?_, fun _ => ?_⟩
      · rw [lleN (by decide) (by omega)] at c
        have : 8 ≤ x := c
        omega
      rw [e]
      refine ⟨i1.1, ?_⟩
      rw [i1.2, nI_1]
      exact ih (x + 1) (by omega)
  exact ⟨9, go 8 0 rfl⟩
theorem op_count (M : Mem) (pl dr : Nat) (a1 : Int32) (h : Rel M pl dr) : wp_X6_count pl dr a1 M (fun r M1 => wp_X7_count a1 M1 (fun q M2 => r = q ∧ Rel M2 pl dr)) := by
  obtain ⟨P, h⟩ := h
  have hr : Rel M pl dr := ⟨P, h⟩
  have hv := h.1
  obtain ⟨t, g, U, hc', hR, hU, ht, hw⟩ := PT_t h.2.2.2.2.1
  have hp := h.2.2.1
  have hm := h.2.1
  have r8 : M 13 8 = M 131 0 := hR.r co_runs
  have r9 : M 13 9 = M 131 4 := hR.r co_ahead
  have hn := hR.2.2.2.2.2.2.2
  obtain ⟨nw, kn, b1, b2, b3, b4, b5, b6⟩ := h.2.2.2.2.2.1
  obtain ⟨tn, t1, t2, t3, t4⟩ := h.2.2.2.2.2.2.2.1
  obtain ⟨qn, q1, q2, q3, q4⟩ := h.2.2.2.2.2.2.2.2.1
  have eU : gSum (M 131) 32 = nI U := gSum_U hR.2.2.2.1 (by have := hn.2.2.2.2.2.2.1; omega) (by have := hn.2.2.2.1; have := hn.2.2.2.2.1; omega)
  refine ⟨fun z => ?_, fun z => ?_, fun z => ?_, fun z => ?_, fun z => ?_, fun z => ?_, fun z => ?_, fun z => ?_, fun z => ?_, fun z => ?_, fun z => ?_, fun z => ?_, fun z => ?_, fun z => ?_, fun z => ?_, fun z => ?_, fun z => ?_, fun z => ?_, fun z => ?_, fun z => ?_, fun n0 n1 n2 n3 n4 n5 n6 n7 n8 n9 n10 n11 n12 n13 n14 n15 n16 n17 n18 n19 => ?_⟩
  · exact ⟨(fun _ => ⟨hp.1.trans hm.1.symm, hr⟩), (fun y => absurd (z.symm.trans y) (by decide)), (fun y => absurd (z.symm.trans y) (by decide)), (fun y => absurd (z.symm.trans y) (by decide)), (fun y => absurd (z.symm.trans y) (by decide)), (fun y => absurd (z.symm.trans y) (by decide)), (fun y => absurd (z.symm.trans y) (by decide)), (fun y => absurd (z.symm.trans y) (by decide)), (fun y => absurd (z.symm.trans y) (by decide)), (fun y => absurd (z.symm.trans y) (by decide)), (fun y => absurd (z.symm.trans y) (by decide)), (fun y => absurd (z.symm.trans y) (by decide)), (fun y => absurd (z.symm.trans y) (by decide)), (fun y => absurd (z.symm.trans y) (by decide)), (fun y => absurd (z.symm.trans y) (by decide)), (fun y => absurd (z.symm.trans y) (by decide)), (fun y => absurd (z.symm.trans y) (by decide)), (fun y => absurd (z.symm.trans y) (by decide)), (fun y => absurd (z.symm.trans y) (by decide)), (fun y => absurd (z.symm.trans y) (by decide)), (fun n _ _ _ _ _ _ _ _ _ _ _ _ _ _ _ _ _ _ _ => absurd z n)⟩
  · exact ⟨(fun y => absurd (z.symm.trans y) (by decide)), (fun _ => ⟨hp.2.1.trans hm.2.1.symm, hr⟩), (fun y => absurd (z.symm.trans y) (by decide)), (fun y => absurd (z.symm.trans y) (by decide)), (fun y => absurd (z.symm.trans y) (by decide)), (fun y => absurd (z.symm.trans y) (by decide)), (fun y => absurd (z.symm.trans y) (by decide)), (fun y => absurd (z.symm.trans y) (by decide)), (fun y => absurd (z.symm.trans y) (by decide)), (fun y => absurd (z.symm.trans y) (by decide)), (fun y => absurd (z.symm.trans y) (by decide)), (fun y => absurd (z.symm.trans y) (by decide)), (fun y => absurd (z.symm.trans y) (by decide)), (fun y => absurd (z.symm.trans y) (by decide)), (fun y => absurd (z.symm.trans y) (by decide)), (fun y => absurd (z.symm.trans y) (by decide)), (fun y => absurd (z.symm.trans y) (by decide)), (fun y => absurd (z.symm.trans y) (by decide)), (fun y => absurd (z.symm.trans y) (by decide)), (fun y => absurd (z.symm.trans y) (by decide)), (fun _ n _ _ _ _ _ _ _ _ _ _ _ _ _ _ _ _ _ _ => absurd z n)⟩
  · exact ⟨(fun y => absurd (z.symm.trans y) (by decide)), (fun y => absurd (z.symm.trans y) (by decide)), (fun _ => ⟨hR.r co_ticks, hr⟩), (fun y => absurd (z.symm.trans y) (by decide)), (fun y => absurd (z.symm.trans y) (by decide)), (fun y => absurd (z.symm.trans y) (by decide)), (fun y => absurd (z.symm.trans y) (by decide)), (fun y => absurd (z.symm.trans y) (by decide)), (fun y => absurd (z.symm.trans y) (by decide)), (fun y => absurd (z.symm.trans y) (by decide)), (fun y => absurd (z.symm.trans y) (by decide)), (fun y => absurd (z.symm.trans y) (by decide)), (fun y => absurd (z.symm.trans y) (by decide)), (fun y => absurd (z.symm.trans y) (by decide)), (fun y => absurd (z.symm.trans y) (by decide)), (fun y => absurd (z.symm.trans y) (by decide)), (fun y => absurd (z.symm.trans y) (by decide)), (fun y => absurd (z.symm.trans y) (by decide)), (fun y => absurd (z.symm.trans y) (by decide)), (fun y => absurd (z.symm.trans y) (by decide)), (fun _ _ n _ _ _ _ _ _ _ _ _ _ _ _ _ _ _ _ _ => absurd z n)⟩
  · exact ⟨(fun y => absurd (z.symm.trans y) (by decide)), (fun y => absurd (z.symm.trans y) (by decide)), (fun y => absurd (z.symm.trans y) (by decide)), (fun _ => ⟨hR.r co_begun, hr⟩), (fun y => absurd (z.symm.trans y) (by decide)), (fun y => absurd (z.symm.trans y) (by decide)), (fun y => absurd (z.symm.trans y) (by decide)), (fun y => absurd (z.symm.trans y) (by decide)), (fun y => absurd (z.symm.trans y) (by decide)), (fun y => absurd (z.symm.trans y) (by decide)), (fun y => absurd (z.symm.trans y) (by decide)), (fun y => absurd (z.symm.trans y) (by decide)), (fun y => absurd (z.symm.trans y) (by decide)), (fun y => absurd (z.symm.trans y) (by decide)), (fun y => absurd (z.symm.trans y) (by decide)), (fun y => absurd (z.symm.trans y) (by decide)), (fun y => absurd (z.symm.trans y) (by decide)), (fun y => absurd (z.symm.trans y) (by decide)), (fun y => absurd (z.symm.trans y) (by decide)), (fun y => absurd (z.symm.trans y) (by decide)), (fun _ _ _ n _ _ _ _ _ _ _ _ _ _ _ _ _ _ _ _ => absurd z n)⟩
  · exact ⟨(fun y => absurd (z.symm.trans y) (by decide)), (fun y => absurd (z.symm.trans y) (by decide)), (fun y => absurd (z.symm.trans y) (by decide)), (fun y => absurd (z.symm.trans y) (by decide)), (fun _ => ⟨hR.r co_good, hr⟩), (fun y => absurd (z.symm.trans y) (by decide)), (fun y => absurd (z.symm.trans y) (by decide)), (fun y => absurd (z.symm.trans y) (by decide)), (fun y => absurd (z.symm.trans y) (by decide)), (fun y => absurd (z.symm.trans y) (by decide)), (fun y => absurd (z.symm.trans y) (by decide)), (fun y => absurd (z.symm.trans y) (by decide)), (fun y => absurd (z.symm.trans y) (by decide)), (fun y => absurd (z.symm.trans y) (by decide)), (fun y => absurd (z.symm.trans y) (by decide)), (fun y => absurd (z.symm.trans y) (by decide)), (fun y => absurd (z.symm.trans y) (by decide)), (fun y => absurd (z.symm.trans y) (by decide)), (fun y => absurd (z.symm.trans y) (by decide)), (fun y => absurd (z.symm.trans y) (by decide)), (fun _ _ _ _ n _ _ _ _ _ _ _ _ _ _ _ _ _ _ _ => absurd z n)⟩
  · exact ⟨(fun y => absurd (z.symm.trans y) (by decide)), (fun y => absurd (z.symm.trans y) (by decide)), (fun y => absurd (z.symm.trans y) (by decide)), (fun y => absurd (z.symm.trans y) (by decide)), (fun y => absurd (z.symm.trans y) (by decide)), (fun _ => ⟨hR.r co_waste, hr⟩), (fun y => absurd (z.symm.trans y) (by decide)), (fun y => absurd (z.symm.trans y) (by decide)), (fun y => absurd (z.symm.trans y) (by decide)), (fun y => absurd (z.symm.trans y) (by decide)), (fun y => absurd (z.symm.trans y) (by decide)), (fun y => absurd (z.symm.trans y) (by decide)), (fun y => absurd (z.symm.trans y) (by decide)), (fun y => absurd (z.symm.trans y) (by decide)), (fun y => absurd (z.symm.trans y) (by decide)), (fun y => absurd (z.symm.trans y) (by decide)), (fun y => absurd (z.symm.trans y) (by decide)), (fun y => absurd (z.symm.trans y) (by decide)), (fun y => absurd (z.symm.trans y) (by decide)), (fun y => absurd (z.symm.trans y) (by decide)), (fun _ _ _ _ _ n _ _ _ _ _ _ _ _ _ _ _ _ _ _ => absurd z n)⟩
  · exact ⟨(fun y => absurd (z.symm.trans y) (by decide)), (fun y => absurd (z.symm.trans y) (by decide)), (fun y => absurd (z.symm.trans y) (by decide)), (fun y => absurd (z.symm.trans y) (by decide)), (fun y => absurd (z.symm.trans y) (by decide)), (fun y => absurd (z.symm.trans y) (by decide)), (fun _ => m_under ⟨hR.2.2.1.trans eU.symm, hr⟩), (fun y => absurd (z.symm.trans y) (by decide)), (fun y => absurd (z.symm.trans y) (by decide)), (fun y => absurd (z.symm.trans y) (by decide)), (fun y => absurd (z.symm.trans y) (by decide)), (fun y => absurd (z.symm.trans y) (by decide)), (fun y => absurd (z.symm.trans y) (by decide)), (fun y => absurd (z.symm.trans y) (by decide)), (fun y => absurd (z.symm.trans y) (by decide)), (fun y => absurd (z.symm.trans y) (by decide)), (fun y => absurd (z.symm.trans y) (by decide)), (fun y => absurd (z.symm.trans y) (by decide)), (fun y => absurd (z.symm.trans y) (by decide)), (fun y => absurd (z.symm.trans y) (by decide)), (fun _ _ _ _ _ _ n _ _ _ _ _ _ _ _ _ _ _ _ _ => absurd z n)⟩
  · rcases hR.2.1 with ⟨y1, y2, y3⟩ | ⟨o, y1, y2, y3⟩
    · exact ⟨(fun y => absurd (z.symm.trans y) (by decide)), (fun y => absurd (z.symm.trans y) (by decide)), (fun y => absurd (z.symm.trans y) (by decide)), (fun y => absurd (z.symm.trans y) (by decide)), (fun y => absurd (z.symm.trans y) (by decide)), (fun y => absurd (z.symm.trans y) (by decide)), (fun y => absurd (z.symm.trans y) (by decide)), (fun _ => by rw [y1]; exact ⟨fun c => absurd c (by decide), fun _ => ⟨y2, hr⟩⟩), (fun y => absurd (z.symm.trans y) (by decide)), (fun y => absurd (z.symm.trans y) (by decide)), (fun y => absurd (z.symm.trans y) (by decide)), (fun y => absurd (z.symm.trans y) (by decide)), (fun y => absurd (z.symm.trans y) (by decide)), (fun y => absurd (z.symm.trans y) (by decide)), (fun y => absurd (z.symm.trans y) (by decide)), (fun y => absurd (z.symm.trans y) (by decide)), (fun y => absurd (z.symm.trans y) (by decide)), (fun y => absurd (z.symm.trans y) (by decide)), (fun y => absurd (z.symm.trans y) (by decide)), (fun y => absurd (z.symm.trans y) (by decide)), (fun _ _ _ _ _ _ _ n _ _ _ _ _ _ _ _ _ _ _ _ => absurd z n)⟩
    · have v3 := hv.2.2.1
      exact ⟨(fun y => absurd (z.symm.trans y) (by decide)), (fun y => absurd (z.symm.trans y) (by decide)), (fun y => absurd (z.symm.trans y) (by decide)), (fun y => absurd (z.symm.trans y) (by decide)), (fun y => absurd (z.symm.trans y) (by decide)), (fun y => absurd (z.symm.trans y) (by decide)), (fun y => absurd (z.symm.trans y) (by decide)), (fun _ => by rw [y2]; exact ⟨fun _ => ⟨y3, hr⟩, fun c => absurd (z_le (by omega)) c⟩), (fun y => absurd (z.symm.trans y) (by decide)), (fun y => absurd (z.symm.trans y) (by decide)), (fun y => absurd (z.symm.trans y) (by decide)), (fun y => absurd (z.symm.trans y) (by decide)), (fun y => absurd (z.symm.trans y) (by decide)), (fun y => absurd (z.symm.trans y) (by decide)), (fun y => absurd (z.symm.trans y) (by decide)), (fun y => absurd (z.symm.trans y) (by decide)), (fun y => absurd (z.symm.trans y) (by decide)), (fun y => absurd (z.symm.trans y) (by decide)), (fun y => absurd (z.symm.trans y) (by decide)), (fun y => absurd (z.symm.trans y) (by decide)), (fun _ _ _ _ _ _ _ n _ _ _ _ _ _ _ _ _ _ _ _ => absurd z n)⟩
  · exact c_next hv hp hR.2.1 ⟨(fun y => absurd (z.symm.trans y) (by decide)), (fun y => absurd (z.symm.trans y) (by decide)), (fun y => absurd (z.symm.trans y) (by decide)), (fun y => absurd (z.symm.trans y) (by decide)), (fun y => absurd (z.symm.trans y) (by decide)), (fun y => absurd (z.symm.trans y) (by decide)), (fun y => absurd (z.symm.trans y) (by decide)), (fun y => absurd (z.symm.trans y) (by decide)), (fun _ => m_next0 hm ⟨rfl, hr⟩), (fun y => absurd (z.symm.trans y) (by decide)), (fun y => absurd (z.symm.trans y) (by decide)), (fun y => absurd (z.symm.trans y) (by decide)), (fun y => absurd (z.symm.trans y) (by decide)), (fun y => absurd (z.symm.trans y) (by decide)), (fun y => absurd (z.symm.trans y) (by decide)), (fun y => absurd (z.symm.trans y) (by decide)), (fun y => absurd (z.symm.trans y) (by decide)), (fun y => absurd (z.symm.trans y) (by decide)), (fun y => absurd (z.symm.trans y) (by decide)), (fun y => absurd (z.symm.trans y) (by decide)), (fun _ _ _ _ _ _ _ _ n _ _ _ _ _ _ _ _ _ _ _ => absurd z n)⟩
  · exact ⟨(fun y => absurd (z.symm.trans y) (by decide)), (fun y => absurd (z.symm.trans y) (by decide)), (fun y => absurd (z.symm.trans y) (by decide)), (fun y => absurd (z.symm.trans y) (by decide)), (fun y => absurd (z.symm.trans y) (by decide)), (fun y => absurd (z.symm.trans y) (by decide)), (fun y => absurd (z.symm.trans y) (by decide)), (fun y => absurd (z.symm.trans y) (by decide)), (fun y => absurd (z.symm.trans y) (by decide)), (fun _ => ⟨h.2.2.2.2.1.1.2.2.1, hr⟩), (fun y => absurd (z.symm.trans y) (by decide)), (fun y => absurd (z.symm.trans y) (by decide)), (fun y => absurd (z.symm.trans y) (by decide)), (fun y => absurd (z.symm.trans y) (by decide)), (fun y => absurd (z.symm.trans y) (by decide)), (fun y => absurd (z.symm.trans y) (by decide)), (fun y => absurd (z.symm.trans y) (by decide)), (fun y => absurd (z.symm.trans y) (by decide)), (fun y => absurd (z.symm.trans y) (by decide)), (fun y => absurd (z.symm.trans y) (by decide)), (fun _ _ _ _ _ _ _ _ _ n _ _ _ _ _ _ _ _ _ _ => absurd z n)⟩
  · refine ⟨fun y => ?_, fun y => ?_⟩
    · exact ⟨(fun y => absurd (z.symm.trans y) (by decide)), (fun y => absurd (z.symm.trans y) (by decide)), (fun y => absurd (z.symm.trans y) (by decide)), (fun y => absurd (z.symm.trans y) (by decide)), (fun y => absurd (z.symm.trans y) (by decide)), (fun y => absurd (z.symm.trans y) (by decide)), (fun y => absurd (z.symm.trans y) (by decide)), (fun y => absurd (z.symm.trans y) (by decide)), (fun y => absurd (z.symm.trans y) (by decide)), (fun y => absurd (z.symm.trans y) (by decide)), (fun _ => ⟨(r8.symm.trans y).symm, hr⟩), (fun y => absurd (z.symm.trans y) (by decide)), (fun y => absurd (z.symm.trans y) (by decide)), (fun y => absurd (z.symm.trans y) (by decide)), (fun y => absurd (z.symm.trans y) (by decide)), (fun y => absurd (z.symm.trans y) (by decide)), (fun y => absurd (z.symm.trans y) (by decide)), (fun y => absurd (z.symm.trans y) (by decide)), (fun y => absurd (z.symm.trans y) (by decide)), (fun y => absurd (z.symm.trans y) (by decide)), (fun _ _ _ _ _ _ _ _ _ _ n _ _ _ _ _ _ _ _ _ => absurd z n)⟩
    · have x1 : (1 : Int32) = M 131 0 := by
        rcases hn.2.2.2.2.2.2.2.1 with c | c
        · exact absurd (r8.trans c) y
        · exact c.symm
      exact ⟨(fun y => absurd (z.symm.trans y) (by decide)), (fun y => absurd (z.symm.trans y) (by decide)), (fun y => absurd (z.symm.trans y) (by decide)), (fun y => absurd (z.symm.trans y) (by decide)), (fun y => absurd (z.symm.trans y) (by decide)), (fun y => absurd (z.symm.trans y) (by decide)), (fun y => absurd (z.symm.trans y) (by decide)), (fun y => absurd (z.symm.trans y) (by decide)), (fun y => absurd (z.symm.trans y) (by decide)), (fun y => absurd (z.symm.trans y) (by decide)), (fun _ => ⟨x1, hr⟩), (fun y => absurd (z.symm.trans y) (by decide)), (fun y => absurd (z.symm.trans y) (by decide)), (fun y => absurd (z.symm.trans y) (by decide)), (fun y => absurd (z.symm.trans y) (by decide)), (fun y => absurd (z.symm.trans y) (by decide)), (fun y => absurd (z.symm.trans y) (by decide)), (fun y => absurd (z.symm.trans y) (by decide)), (fun y => absurd (z.symm.trans y) (by decide)), (fun y => absurd (z.symm.trans y) (by decide)), (fun _ _ _ _ _ _ _ _ _ _ n _ _ _ _ _ _ _ _ _ => absurd z n)⟩
  · refine ⟨fun y => ?_, fun y => ?_⟩
    · exact ⟨(fun y => absurd (z.symm.trans y) (by decide)), (fun y => absurd (z.symm.trans y) (by decide)), (fun y => absurd (z.symm.trans y) (by decide)), (fun y => absurd (z.symm.trans y) (by decide)), (fun y => absurd (z.symm.trans y) (by decide)), (fun y => absurd (z.symm.trans y) (by decide)), (fun y => absurd (z.symm.trans y) (by decide)), (fun y => absurd (z.symm.trans y) (by decide)), (fun y => absurd (z.symm.trans y) (by decide)), (fun y => absurd (z.symm.trans y) (by decide)), (fun y => absurd (z.symm.trans y) (by decide)), (fun _ => ⟨(r9.symm.trans y).symm, hr⟩), (fun y => absurd (z.symm.trans y) (by decide)), (fun y => absurd (z.symm.trans y) (by decide)), (fun y => absurd (z.symm.trans y) (by decide)), (fun y => absurd (z.symm.trans y) (by decide)), (fun y => absurd (z.symm.trans y) (by decide)), (fun y => absurd (z.symm.trans y) (by decide)), (fun y => absurd (z.symm.trans y) (by decide)), (fun y => absurd (z.symm.trans y) (by decide)), (fun _ _ _ _ _ _ _ _ _ _ _ n _ _ _ _ _ _ _ _ => absurd z n)⟩
    · have x1 : (1 : Int32) = M 131 4 := by
        rcases hn.2.2.2.2.2.2.2.2 with c | c
        · exact absurd (r9.trans c) y
        · exact c.symm
      exact ⟨(fun y => absurd (z.symm.trans y) (by decide)), (fun y => absurd (z.symm.trans y) (by decide)), (fun y => absurd (z.symm.trans y) (by decide)), (fun y => absurd (z.symm.trans y) (by decide)), (fun y => absurd (z.symm.trans y) (by decide)), (fun y => absurd (z.symm.trans y) (by decide)), (fun y => absurd (z.symm.trans y) (by decide)), (fun y => absurd (z.symm.trans y) (by decide)), (fun y => absurd (z.symm.trans y) (by decide)), (fun y => absurd (z.symm.trans y) (by decide)), (fun y => absurd (z.symm.trans y) (by decide)), (fun _ => ⟨x1, hr⟩), (fun y => absurd (z.symm.trans y) (by decide)), (fun y => absurd (z.symm.trans y) (by decide)), (fun y => absurd (z.symm.trans y) (by decide)), (fun y => absurd (z.symm.trans y) (by decide)), (fun y => absurd (z.symm.trans y) (by decide)), (fun y => absurd (z.symm.trans y) (by decide)), (fun y => absurd (z.symm.trans y) (by decide)), (fun y => absurd (z.symm.trans y) (by decide)), (fun _ _ _ _ _ _ _ _ _ _ _ n _ _ _ _ _ _ _ _ => absurd z n)⟩
  · exact ⟨(fun y => absurd (z.symm.trans y) (by decide)), (fun y => absurd (z.symm.trans y) (by decide)), (fun y => absurd (z.symm.trans y) (by decide)), (fun y => absurd (z.symm.trans y) (by decide)), (fun y => absurd (z.symm.trans y) (by decide)), (fun y => absurd (z.symm.trans y) (by decide)), (fun y => absurd (z.symm.trans y) (by decide)), (fun y => absurd (z.symm.trans y) (by decide)), (fun y => absurd (z.symm.trans y) (by decide)), (fun y => absurd (z.symm.trans y) (by decide)), (fun y => absurd (z.symm.trans y) (by decide)), (fun y => absurd (z.symm.trans y) (by decide)), (fun _ => ⟨hR.r co_spl, hr⟩), (fun y => absurd (z.symm.trans y) (by decide)), (fun y => absurd (z.symm.trans y) (by decide)), (fun y => absurd (z.symm.trans y) (by decide)), (fun y => absurd (z.symm.trans y) (by decide)), (fun y => absurd (z.symm.trans y) (by decide)), (fun y => absurd (z.symm.trans y) (by decide)), (fun y => absurd (z.symm.trans y) (by decide)), (fun _ _ _ _ _ _ _ _ _ _ _ _ n _ _ _ _ _ _ _ => absurd z n)⟩
  · have e1 : a1 - (13 : Int32) = nI 0 := by rw [z]; decide
    have i1 := ixn (k := 0) (z := 4) (by decide) (by decide)
    exact ⟨(fun y => absurd (z.symm.trans y) (by decide)), (fun y => absurd (z.symm.trans y) (by decide)), (fun y => absurd (z.symm.trans y) (by decide)), (fun y => absurd (z.symm.trans y) (by decide)), (fun y => absurd (z.symm.trans y) (by decide)), (fun y => absurd (z.symm.trans y) (by decide)), (fun y => absurd (z.symm.trans y) (by decide)), (fun y => absurd (z.symm.trans y) (by decide)), (fun y => absurd (z.symm.trans y) (by decide)), (fun y => absurd (z.symm.trans y) (by decide)), (fun y => absurd (z.symm.trans y) (by decide)), (fun y => absurd (z.symm.trans y) (by decide)), (fun y => absurd (z.symm.trans y) (by decide)), (fun _ => by rw [e1, i1.2]; exact ⟨i1.1, hp.2.2.1.trans hm.2.2.2.2.1.symm, hr⟩), (fun y => absurd (z.symm.trans y) (by decide)), (fun y => absurd (z.symm.trans y) (by decide)), (fun y => absurd (z.symm.trans y) (by decide)), (fun y => absurd (z.symm.trans y) (by decide)), (fun y => absurd (z.symm.trans y) (by decide)), (fun y => absurd (z.symm.trans y) (by decide)), (fun _ _ _ _ _ _ _ _ _ _ _ _ _ n _ _ _ _ _ _ => absurd z n)⟩
  · have e1 : a1 - (13 : Int32) = nI 1 := by rw [z]; decide
    have i1 := ixn (k := 1) (z := 4) (by decide) (by decide)
    exact ⟨(fun y => absurd (z.symm.trans y) (by decide)), (fun y => absurd (z.symm.trans y) (by decide)), (fun y => absurd (z.symm.trans y) (by decide)), (fun y => absurd (z.symm.trans y) (by decide)), (fun y => absurd (z.symm.trans y) (by decide)), (fun y => absurd (z.symm.trans y) (by decide)), (fun y => absurd (z.symm.trans y) (by decide)), (fun y => absurd (z.symm.trans y) (by decide)), (fun y => absurd (z.symm.trans y) (by decide)), (fun y => absurd (z.symm.trans y) (by decide)), (fun y => absurd (z.symm.trans y) (by decide)), (fun y => absurd (z.symm.trans y) (by decide)), (fun y => absurd (z.symm.trans y) (by decide)), (fun y => absurd (z.symm.trans y) (by decide)), (fun _ => by rw [e1, i1.2]; exact ⟨i1.1, hp.2.2.2.1.trans hm.2.2.2.2.2.1.symm, hr⟩), (fun y => absurd (z.symm.trans y) (by decide)), (fun y => absurd (z.symm.trans y) (by decide)), (fun y => absurd (z.symm.trans y) (by decide)), (fun y => absurd (z.symm.trans y) (by decide)), (fun y => absurd (z.symm.trans y) (by decide)), (fun _ _ _ _ _ _ _ _ _ _ _ _ _ _ n _ _ _ _ _ => absurd z n)⟩
  · have e1 : a1 - (13 : Int32) = nI 2 := by rw [z]; decide
    have i1 := ixn (k := 2) (z := 4) (by decide) (by decide)
    exact ⟨(fun y => absurd (z.symm.trans y) (by decide)), (fun y => absurd (z.symm.trans y) (by decide)), (fun y => absurd (z.symm.trans y) (by decide)), (fun y => absurd (z.symm.trans y) (by decide)), (fun y => absurd (z.symm.trans y) (by decide)), (fun y => absurd (z.symm.trans y) (by decide)), (fun y => absurd (z.symm.trans y) (by decide)), (fun y => absurd (z.symm.trans y) (by decide)), (fun y => absurd (z.symm.trans y) (by decide)), (fun y => absurd (z.symm.trans y) (by decide)), (fun y => absurd (z.symm.trans y) (by decide)), (fun y => absurd (z.symm.trans y) (by decide)), (fun y => absurd (z.symm.trans y) (by decide)), (fun y => absurd (z.symm.trans y) (by decide)), (fun y => absurd (z.symm.trans y) (by decide)), (fun _ => by rw [e1, i1.2]; exact ⟨i1.1, hp.2.2.2.2.1.trans hm.2.2.2.2.2.2.1.symm, hr⟩), (fun y => absurd (z.symm.trans y) (by decide)), (fun y => absurd (z.symm.trans y) (by decide)), (fun y => absurd (z.symm.trans y) (by decide)), (fun y => absurd (z.symm.trans y) (by decide)), (fun _ _ _ _ _ _ _ _ _ _ _ _ _ _ _ n _ _ _ _ => absurd z n)⟩
  · have e1 : a1 - (13 : Int32) = nI 3 := by rw [z]; decide
    have i1 := ixn (k := 3) (z := 4) (by decide) (by decide)
    exact ⟨(fun y => absurd (z.symm.trans y) (by decide)), (fun y => absurd (z.symm.trans y) (by decide)), (fun y => absurd (z.symm.trans y) (by decide)), (fun y => absurd (z.symm.trans y) (by decide)), (fun y => absurd (z.symm.trans y) (by decide)), (fun y => absurd (z.symm.trans y) (by decide)), (fun y => absurd (z.symm.trans y) (by decide)), (fun y => absurd (z.symm.trans y) (by decide)), (fun y => absurd (z.symm.trans y) (by decide)), (fun y => absurd (z.symm.trans y) (by decide)), (fun y => absurd (z.symm.trans y) (by decide)), (fun y => absurd (z.symm.trans y) (by decide)), (fun y => absurd (z.symm.trans y) (by decide)), (fun y => absurd (z.symm.trans y) (by decide)), (fun y => absurd (z.symm.trans y) (by decide)), (fun y => absurd (z.symm.trans y) (by decide)), (fun _ => by rw [e1, i1.2]; exact ⟨i1.1, hp.2.2.2.2.2.1.trans hm.2.2.2.2.2.2.2.symm, hr⟩), (fun y => absurd (z.symm.trans y) (by decide)), (fun y => absurd (z.symm.trans y) (by decide)), (fun y => absurd (z.symm.trans y) (by decide)), (fun _ _ _ _ _ _ _ _ _ _ _ _ _ _ _ _ n _ _ _ => absurd z n)⟩
  · exact ⟨(fun y => absurd (z.symm.trans y) (by decide)), (fun y => absurd (z.symm.trans y) (by decide)), (fun y => absurd (z.symm.trans y) (by decide)), (fun y => absurd (z.symm.trans y) (by decide)), (fun y => absurd (z.symm.trans y) (by decide)), (fun y => absurd (z.symm.trans y) (by decide)), (fun y => absurd (z.symm.trans y) (by decide)), (fun y => absurd (z.symm.trans y) (by decide)), (fun y => absurd (z.symm.trans y) (by decide)), (fun y => absurd (z.symm.trans y) (by decide)), (fun y => absurd (z.symm.trans y) (by decide)), (fun y => absurd (z.symm.trans y) (by decide)), (fun y => absurd (z.symm.trans y) (by decide)), (fun y => absurd (z.symm.trans y) (by decide)), (fun y => absurd (z.symm.trans y) (by decide)), (fun y => absurd (z.symm.trans y) (by decide)), (fun y => absurd (z.symm.trans y) (by decide)), (fun _ => ⟨q2.trans q3.symm, hr⟩), (fun y => absurd (z.symm.trans y) (by decide)), (fun y => absurd (z.symm.trans y) (by decide)), (fun _ _ _ _ _ _ _ _ _ _ _ _ _ _ _ _ _ n _ _ => absurd z n)⟩
  · exact ⟨(fun y => absurd (z.symm.trans y) (by decide)), (fun y => absurd (z.symm.trans y) (by decide)), (fun y => absurd (z.symm.trans y) (by decide)), (fun y => absurd (z.symm.trans y) (by decide)), (fun y => absurd (z.symm.trans y) (by decide)), (fun y => absurd (z.symm.trans y) (by decide)), (fun y => absurd (z.symm.trans y) (by decide)), (fun y => absurd (z.symm.trans y) (by decide)), (fun y => absurd (z.symm.trans y) (by decide)), (fun y => absurd (z.symm.trans y) (by decide)), (fun y => absurd (z.symm.trans y) (by decide)), (fun y => absurd (z.symm.trans y) (by decide)), (fun y => absurd (z.symm.trans y) (by decide)), (fun y => absurd (z.symm.trans y) (by decide)), (fun y => absurd (z.symm.trans y) (by decide)), (fun y => absurd (z.symm.trans y) (by decide)), (fun y => absurd (z.symm.trans y) (by decide)), (fun y => absurd (z.symm.trans y) (by decide)), (fun _ => ⟨t2.trans t3.symm, hr⟩), (fun y => absurd (z.symm.trans y) (by decide)), (fun _ _ _ _ _ _ _ _ _ _ _ _ _ _ _ _ _ _ n _ => absurd z n)⟩
  · exact ⟨(fun y => absurd (z.symm.trans y) (by decide)), (fun y => absurd (z.symm.trans y) (by decide)), (fun y => absurd (z.symm.trans y) (by decide)), (fun y => absurd (z.symm.trans y) (by decide)), (fun y => absurd (z.symm.trans y) (by decide)), (fun y => absurd (z.symm.trans y) (by decide)), (fun y => absurd (z.symm.trans y) (by decide)), (fun y => absurd (z.symm.trans y) (by decide)), (fun y => absurd (z.symm.trans y) (by decide)), (fun y => absurd (z.symm.trans y) (by decide)), (fun y => absurd (z.symm.trans y) (by decide)), (fun y => absurd (z.symm.trans y) (by decide)), (fun y => absurd (z.symm.trans y) (by decide)), (fun y => absurd (z.symm.trans y) (by decide)), (fun y => absurd (z.symm.trans y) (by decide)), (fun y => absurd (z.symm.trans y) (by decide)), (fun y => absurd (z.symm.trans y) (by decide)), (fun y => absurd (z.symm.trans y) (by decide)), (fun y => absurd (z.symm.trans y) (by decide)), (fun _ => ⟨b4.trans b5.symm, hr⟩), (fun _ _ _ _ _ _ _ _ _ _ _ _ _ _ _ _ _ _ _ n => absurd z n)⟩
  · exact ⟨fun y => absurd y n0, fun y => absurd y n1, fun y => absurd y n2, fun y => absurd y n3, fun y => absurd y n4, fun y => absurd y n5, fun y => absurd y n6, fun y => absurd y n7, fun y => absurd y n8, fun y => absurd y n9, fun y => absurd y n10, fun y => absurd y n11, fun y => absurd y n12, fun y => absurd y n13, fun y => absurd y n14, fun y => absurd y n15, fun y => absurd y n16, fun y => absurd y n17, fun y => absurd y n18, fun y => absurd y n19, fun _ _ _ _ _ _ _ _ _ _ _ _ _ _ _ _ _ _ _ _ => ⟨rfl, hr⟩⟩
theorem op_unit (M : Mem) (pl dr : Nat) (a1 a2 : Int32) (h : Rel M pl dr) : wp_X6_unit pl dr a1 a2 M (fun r M1 => wp_X7_unit a1 a2 M1 (fun q M2 => r = q ∧ Rel M2 pl dr)) := by
  obtain ⟨P, h⟩ := h
  have hr : Rel M pl dr := ⟨P, h⟩
  have hv := h.1
  have v2 := hv.2.1
  obtain ⟨t, g, U, hc', hR, hU, ht, hw⟩ := PT_t h.2.2.2.2.1
  have hp := h.2.2.1
  have hm := h.2.1
  refine c_hasUn hp.1 (by omega) (fun k ek hk => ?_) (fun hno => ?_)
  · subst ek
    have i1 := ixn (k := k) (z := 4) (by omega) (by decide)
    have u : ∀ {K : Int32 → Mem → Prop}, K 1 M → wp_X7_in (nI k) 0 (M 130 10 - 1) M K := fun hK => m_inU hm.1 (by omega) (fun _ _ _ => hK) (fun y => absurd ⟨k, rfl, hk⟩ y)
    have y2 : ∀ {K : Int32 → Mem → Prop}, (0 : Int32) ≤ a2 ∧ a2 ≤ 5 → K 1 M → wp_X7_in a2 0 5 M K := fun hc hK => m_in (by rw [if_pos hc]; exact hK)
    have N1 : ∀ {q : Prop}, (1 : Int32) = 0 → q := fun y => absurd y (by decide)
    refine ⟨fun _ => ⟨fun z => ⟨i1.1, ?_⟩, fun z => ⟨i1.1, ?_⟩, fun z => ⟨i1.1, ?_⟩, fun z => ⟨i1.1, ?_⟩, fun z => ⟨i1.1, ?_⟩, fun z => ?_, fun n0 n1 n2 n3 n4 n5 => ?_⟩, fun y => absurd y (by decide)⟩
    · subst z
      refine u ⟨N1, fun _ => y2 (by decide) ⟨fun _ => ⟨fun _ => ⟨i1.1, ?_⟩, fun y => absurd y (by decide), fun y => absurd y (by decide), fun y => absurd y (by decide), fun y => absurd y (by decide), fun n => absurd rfl n⟩, N1⟩⟩
      rw [i1.2]; exact ⟨((hp.2.2.2.2.2.2.1 k hk).1).trans ((hm.2.2.1 k hk).1).symm, hr⟩
    · subst z
      refine u ⟨N1, fun _ => y2 (by decide) ⟨fun _ => ⟨fun y => absurd y (by decide), fun _ => ⟨i1.1, ?_⟩, fun y => absurd y (by decide), fun y => absurd y (by decide), fun y => absurd y (by decide), fun _ n => absurd rfl n⟩, N1⟩⟩
      rw [i1.2]; exact ⟨((hp.2.2.2.2.2.2.1 k hk).2).trans ((hm.2.2.1 k hk).2).symm, hr⟩
    · subst z
      have j1 := ixa (c := 10) 10 (k := k) (z := 349) rfl (by omega) (by decide)
      refine u ⟨N1, fun _ => y2 (by decide) ⟨fun _ => ⟨fun y => absurd y (by decide), fun y => absurd y (by decide), fun _ => ⟨j1.1, ?_⟩, fun y => absurd y (by decide), fun y => absurd y (by decide), fun _ _ n => absurd rfl n⟩, N1⟩⟩
      rw [i1.2, j1.2]; exact ⟨hR.r (co_off (by omega)), hr⟩
    · subst z
      have j1 := ixa (c := 14) 14 (k := k) (z := 349) rfl (by omega) (by decide)
      refine u ⟨N1, fun _ => y2 (by decide) ⟨fun _ => ⟨fun y => absurd y (by decide), fun y => absurd y (by decide), fun y => absurd y (by decide), fun _ => ⟨j1.1, ?_⟩, fun y => absurd y (by decide), fun _ _ _ n => absurd rfl n⟩, N1⟩⟩
      rw [i1.2, j1.2]; exact ⟨hR.r (co_shift (by omega)), hr⟩
    · subst z
      have j1 := ixa (c := 18) 18 (k := k) (z := 349) rfl (by omega) (by decide)
      refine u ⟨N1, fun _ => y2 (by decide) ⟨fun _ => ⟨fun y => absurd y (by decide), fun y => absurd y (by decide), fun y => absurd y (by decide), fun y => absurd y (by decide), fun _ => ⟨j1.1, ?_⟩, fun _ _ _ _ n => absurd rfl n⟩, N1⟩⟩
      rw [i1.2, j1.2]; exact ⟨hR.r (co_wait (by omega)), hr⟩
    · subst z
      refine c_toBe (w := M 131) (by omega) (fun j hj => hR.r (co_pass hj)) ?_
      exact u ⟨N1, fun _ => y2 (by decide) ⟨fun _ => ⟨fun y => absurd y (by decide), fun y => absurd y (by decide), fun y => absurd y (by decide), fun y => absurd y (by decide), fun y => absurd y (by decide), fun _ _ _ _ _ => m_passed (by omega) ⟨rfl, hr⟩⟩, N1⟩⟩
    · refine u ⟨N1, fun _ => m_in ?_⟩
      rw [if_neg]
      · exact ⟨fun y => absurd rfl y, fun _ => ⟨rfl, hr⟩⟩
      · rintro ⟨c1, c2⟩
        obtain ⟨j, hj, rfl⟩ := int_nI c1
        rw [leNl (by decide) hj] at c2
        have c2 : j ≤ 5 := c2
        have : j = 0 ∨ j = 1 ∨ j = 2 ∨ j = 3 ∨ j = 4 ∨ j = 5 := by omega
        rcases this with rfl | rfl | rfl | rfl | rfl | rfl
        · exact n0 rfl
        · exact n1 rfl
        · exact n2 rfl
        · exact n3 rfl
        · exact n4 rfl
        · exact n5 rfl
  · refine ⟨fun y => absurd rfl y, fun _ => ?_⟩
    exact m_inU hm.1 (by omega) (fun k e hk => absurd ⟨k, e, hk⟩ hno) (fun _ => ⟨fun _ => ⟨rfl, hr⟩, fun y => absurd rfl y⟩)
theorem op_reel (M : Mem) (pl dr : Nat) (a1 a2 : Int32) (h : Rel M pl dr) : wp_X6_reel pl dr a1 a2 M (fun r M1 => wp_X7_reel a1 a2 M1 (fun q M2 => r = q ∧ Rel M2 pl dr)) := by
  obtain ⟨P, h⟩ := h
  have hr : Rel M pl dr := ⟨P, h⟩
  have hv := h.1
  have v3 := hv.2.2.1
  obtain ⟨t, g, U, hc', hR, hU, ht, hw⟩ := PT_t h.2.2.2.2.1
  have hp := h.2.2.1
  have hm := h.2.1
  refine c_hasRl hp.2.1 (by omega) (fun k ek hk => ?_) (fun hno => ?_)
  · subst ek
    have i1 := ixn (k := k) (z := 8) (by omega) (by decide)
    have u : ∀ {K : Int32 → Mem → Prop}, K 1 M → wp_X7_in (nI k) 0 (M 130 13 - 1) M K := fun hK => m_inU hm.2.1 (by omega) (fun _ _ _ => hK) (fun y => absurd ⟨k, rfl, hk⟩ y)
    have y2 : ∀ {K : Int32 → Mem → Prop}, (0 : Int32) ≤ a2 ∧ a2 ≤ 2 → K 1 M → wp_X7_in a2 0 2 M K := fun hc hK => m_in (by rw [if_pos hc]; exact hK)
    have N1 : ∀ {q : Prop}, (1 : Int32) = 0 → q := fun y => absurd y (by decide)
    refine ⟨fun _ => ⟨fun z => ⟨i1.1, ?_⟩, fun z => ⟨i1.1, ?_⟩, fun z => ?_, fun n0 n1 n2 => ?_⟩, fun y => absurd y (by decide)⟩
    · subst z
      refine u ⟨N1, fun _ => y2 (by decide) ⟨fun _ => ⟨fun _ => ⟨fun _ => ⟨i1.1, ?_⟩, fun n => absurd rfl n⟩, fun y => absurd y (by decide)⟩, N1⟩⟩
      rw [i1.2]; exact ⟨((hp.2.2.2.2.2.2.2 k hk).1).trans ((hm.2.2.2.1 k hk).1).symm, hr⟩
    · subst z
      refine u ⟨N1, fun _ => y2 (by decide) ⟨fun _ => ⟨fun n => absurd rfl n, fun _ => ⟨i1.1, ?_⟩⟩, N1⟩⟩
      rw [i1.2]; exact ⟨((hp.2.2.2.2.2.2.2 k hk).2).trans ((hm.2.2.2.1 k hk).2).symm, hr⟩
    · subst z
      have fin : ∀ r, ((nI k ≤ (M 131 1) → (¬ nI k = (M 131 1) → r = (0 : Int32)) ∧ (nI k = (M 131 1) → r = M 131 2)) ∧ (¬ nI k ≤ (M 131 1) → r = M 140 k)) → wp_X7_reel (nI k) 2 M (fun q M2 => r = q ∧ Rel M2 pl dr) := fun r hh =>
        u ⟨N1, fun _ => y2 (by decide) ⟨fun _ => ⟨fun _ => ⟨fun n => absurd n (by decide), fun _ => ⟨fun c => ⟨fun c2 => ⟨(hh.1 c).1 c2, hr⟩, fun c2 => ⟨(hh.1 c).2 c2, hr⟩⟩, fun c => ⟨i1.1, by rw [i1.2]; exact ⟨hh.2 c, hr⟩⟩⟩⟩, fun y => absurd y (by decide)⟩, N1⟩⟩
      rcases hR.2.1 with ⟨y1, y2, y3⟩ | ⟨o, y1, y2, y3⟩
      · omega
      · unfold wp_X4_leftOn
        rw [y3]
        refine ⟨fun c => ⟨fun c2 => fin _ ?_, fun c2 => c_hasReel hp hv (by omega) ?_⟩, fun c => fin _ ?_⟩
        · rw [y2]; exact ⟨fun _ => ⟨fun _ => rfl, fun y => absurd y c⟩, fun y => absurd c2 y⟩
        · rw [if_pos hk]
          refine ⟨fun y => absurd y (by decide), fun _ => ⟨i1.1, fin _ ?_⟩⟩
          rw [y2, i1.2]
          exact ⟨fun y => absurd y c2, fun _ => ((hp.2.2.2.2.2.2.2 k hk).1).trans ((hm.2.2.2.1 k hk).1).symm⟩
        · rw [y2]; exact ⟨fun _ => ⟨fun y => absurd c y, fun _ => h.2.2.2.2.1.1.2.1⟩, fun y => absurd (by rw [c]; exact Int32.le_refl _) y⟩
    · refine u ⟨N1, fun _ => m_in ?_⟩
      rw [if_neg]
      · exact ⟨fun y => absurd rfl y, fun _ => ⟨rfl, hr⟩⟩
      · rintro ⟨c1, c2⟩
        obtain ⟨j, hj, rfl⟩ := int_nI c1
        rw [leNl (by decide) hj] at c2
        have c2 : j ≤ 2 := c2
        have : j = 0 ∨ j = 1 ∨ j = 2 := by omega
        rcases this with rfl | rfl | rfl
        · exact n0 rfl
        · exact n1 rfl
        · exact n2 rfl
  · refine ⟨fun y => absurd rfl y, fun _ => ?_⟩
    exact m_inU hm.2.1 (by omega) (fun k e hk => absurd ⟨k, e, hk⟩ hno) (fun _ => ⟨fun _ => ⟨rfl, hr⟩, fun y => absurd rfl y⟩)
theorem op_last (M : Mem) (pl dr : Nat) (a1 : Int32) (h : Rel M pl dr) : wp_X6_last pl dr a1 M (fun r M1 => wp_X7_last a1 M1 (fun q M2 => r = q ∧ Rel M2 pl dr)) := by
  obtain ⟨P, h⟩ := h
  have hr : Rel M pl dr := ⟨P, h⟩
  obtain ⟨t, g, U, hc', hR, hU, ht, hw⟩ := PT_t h.2.2.2.2.1
  have hl := hR.2.2.2.2.2.1
  have hb := hR.2.2.2.2.2.2.1
  refine c_within ?_
  by_cases hc : (0 : Int32) ≤ a1 ∧ a1 ≤ 6
  · rw [if_pos hc]
    refine ⟨fun _ => ?_, fun y => absurd y (by decide)⟩
    have u : ∀ {K : Int32 → Mem → Prop}, K 1 M → wp_X7_in a1 0 6 M K := fun hK => m_in (by rw [if_pos hc]; exact hK)
    have N1 : ∀ {q : Prop}, (1 : Int32) = 0 → q := fun y => absurd y (by decide)
    by_cases hh : hc'
    · obtain ⟨l1, l2, l3⟩ := hl.2 hh
      obtain ⟨j, hj, rfl⟩ := int_nI hc.1
      have c2 := hc.2
      rw [leNl (by decide) hj] at c2
      have c2 : j ≤ 6 := c2
      have i1 := ixa (c := 54) 54 (k := j) (z := 349) rfl (by omega) (by decide)
      have fin : ∀ r, 1 ≤ j → r = M 131 (54 + j) → wp_X7_last (nI j) M (fun q M2 => r = q ∧ Rel M2 pl dr) := fun r hj1 er =>
        u ⟨fun _ => ⟨fun _ => ⟨fun _ => ⟨i1.1, by rw [i1.2]; exact ⟨er, hr⟩⟩, fun y => by rw [eq_z hj] at y; omega⟩, fun y => absurd y l1⟩, N1⟩
      refine ⟨fun _ => ⟨fun z => ?_, fun z => ?_, fun z => ?_, fun n0 n1 n2 => ?_⟩, fun y => ?_⟩
      · exact u ⟨fun _ => ⟨fun _ => ⟨fun y => absurd z y, fun _ => ⟨l3, hr⟩⟩, fun y => absurd y l1⟩, N1⟩
      · rw [eqNl (by decide) hj] at z
        have z : j = 1 := z
        subst z
        have e : M 18 8 = M 131 55 := hR.r (co_csp hh)
        refine ⟨fun y => fin _ (by omega) (y.symm.trans e), fun y => fin _ (by omega) ?_⟩
        rcases hb.2.1 with c | c
        · exact absurd c y
        · exact c.symm.trans e
      · rw [eqNl (by decide) hj] at z
        have z : j = 2 := z
        subst z
        have e : M 18 9 = M 131 56 := hR.r (co_cgd hh)
        refine ⟨fun y => fin _ (by omega) (y.symm.trans e), fun y => fin _ (by omega) ?_⟩
        rcases hb.2.2.1 with c | c
        · exact absurd c y
        · exact c.symm.trans e
      · rw [eqNl (by decide) hj] at n0 n1 n2
        have n0 : ¬ j = 0 := n0
        have n1 : ¬ j = 1 := n1
        have n2 : ¬ j = 2 := n2
        obtain ⟨i, rfl⟩ : ∃ i, j = 3 + i := ⟨j - 3, by omega⟩
        have e3 : nI (3 + i) - 3 = nI i := by rw [show nI (3 + i) - 3 = nI (3 + i - 3) from pk_sub (show 3 ≤ 3 + i by omega), Nat.add_sub_cancel_left]
        have i2 := ixn (k := i) (z := 4) (by omega) (by decide)
        rw [e3]
        refine ⟨i2.1, fin _ (by omega) ?_⟩
        rw [i2.2, show 54 + (3 + i) = 57 + i by omega]
        exact hR.r (co_cer hh (by omega))
      · exact absurd (l2.symm.trans y) (by decide)
    · obtain ⟨l1, l2⟩ := hl.1 hh
      exact ⟨fun y => absurd l2 y, fun _ => u ⟨fun _ => ⟨fun y => absurd l1 y, fun _ => ⟨rfl, hr⟩⟩, N1⟩⟩
  · rw [if_neg hc]
    refine ⟨fun z => absurd rfl z, fun _ => m_in ?_⟩
    rw [if_neg hc]
    exact ⟨fun z => absurd rfl z, fun _ => ⟨rfl, hr⟩⟩
theorem dif_le2 {t a b : Nat} (ht : t < 2 ^ 30) (ha : a < 2 ^ 30) (hb : b < 2 ^ 30) : nI t - nI a ≤ nI t - nI b ↔ b ≤ a := by
  rw [Int32.le_iff_toInt_le, pk_sub_toInt ht ha, pk_sub_toInt ht hb]; omega
theorem sub_sub_nI {t a : Nat} : nI t - (nI t - nI a) = nI a := by
  rw [Int32.sub_eq_iff_eq_add, Int32.add_comm, Int32.sub_add_cancel]
theorem m_errL {K : Int32 → Mem → Prop} {e b : Nat} (hm : MP P M) (hv : PV P) (he : e < Pu P) (hb : b < 2 ^ 31) (hp : Pc w t g U) (hU : U ≤ 28) (hg : U ≤ t) (ht : w 5 = nI t) (htb : t < 2 ^ 28)
    (h0 : (U ≤ b ∨ b < Pwy P e) → K (-2000000) (sr M w)) (h1 : b < U → Pwy P e ≤ b → K (w (cpl (t - b) + 5 + e)) (sr M w)) : ∀ (n a : Nat), a + n = 32 → (a ≤ b ∨ U ≤ b) → L_X7_error_31 K (n + 1) (nI e) (nI b) (nI (if a < U then a else U)) (nI t - nI a) (sr M w) := by
  have v2 := hv.2.1
  intro n
  induction n with
  | zero =>
    intro a ha hab
    unfold L_X7_error_31
    rw [sr_131, ht]
    refine ⟨fun _ => h0 (by omega), fun c => absurd ?_ c⟩
    rw [show (32 : Int32) = nI 32 from rfl, dif_le2 (by omega) (by omega) (by omega)]; omega
  | succ n ih =>
    intro a ha hab
    unfold L_X7_error_31
    rw [sr_131, ht]
    refine ⟨fun c => ?_, fun _ => m_isThere (by omega) (by omega) ?_⟩
    · rw [show (32 : Int32) = nI 32 from rfl, dif_le2 (by omega) (by omega) (by omega)] at c; omega
    have hth := there_iff hp hU hg (show a < 32 by omega)
    have nx : nI t - nI a + (-1 : Int32) = nI t - nI (a + 1) := by
      rw [← nI_add, ← Int32.sub_sub, Int32.sub_eq_add_neg (nI t - nI a)]; rfl
    by_cases z : a < U
    · rw [if_pos (hth.mpr z)]
      refine ⟨fun y => absurd y (by decide), fun _ => ⟨fun y => ?_, fun y => ?_⟩⟩
      · rw [if_pos z, eq_nI (by omega) hb] at y
        show L_X7_error_31 K (n + 1) (nI e) (nI b) _ (nI t - nI a + (-1 : Int32)) (sr M w)
        rw [nx, if_pos z, nI_1]
        have := ih (a + 1) (by omega) (by omega)
        have e2 : (if a + 1 < U then a + 1 else U) = a + 1 := by split <;> omega
        rw [e2] at this
        exact this
      · rw [if_pos z, eq_nI (by omega) hb] at y
        subst y
        have i1 := ixn (k := e) (z := 4) (by omega) (by decide)
        refine ⟨i1.1, ?_⟩
        rw [sr_131, sr_ne (c := 139) (by decide), i1.2, (hm.2.2.1 e he).2, ht, sub_sub_nI]
        have hwy := (hv.2.2.2.2.1 e he).1
        have v6 := hv.2.2.2.2.2.1
        refine ⟨fun y => ?_, fun y => ?_⟩
        · rw [lt_nI (by omega) (by omega)] at y
          exact h0 (Or.inr y)
        · rw [lt_nI (by omega) (by omega)] at y
          rw [pk_sub (show a ≤ t by omega)]
          refine m_copyPlace (by omega) ?_
          have b3 := cpl_lt (t - a)
          have i4 := ixc (c := 5) 5 (k := cpl (t - a)) (i := e) (z := 349) rfl (by omega) (by decide)
          refine ⟨i4.1, ?_⟩
          rw [i4.2, sr_131]
          exact h1 z (by omega)
    · rw [if_neg (fun y => z (hth.mp y))]
      refine ⟨fun _ => ?_, fun y => absurd rfl y⟩
      show L_X7_error_31 K (n + 1) (nI e) (nI b) _ (nI t - nI a + (-1 : Int32)) (sr M w)
      rw [nx, if_neg z]
      have := ih (a + 1) (by omega) (by omega)
      rw [if_neg (by omega)] at this
      exact this
theorem op_error (M : Mem) (pl dr : Nat) (a1 a2 : Int32) (h : Rel M pl dr) : wp_X6_error pl dr a1 a2 M (fun r M1 => wp_X7_error a1 a2 M1 (fun q M2 => r = q ∧ Rel M2 pl dr)) := by
  obtain ⟨P, h⟩ := h
  have hr : Rel M pl dr := ⟨P, h⟩
  have hv := h.1
  have v2 := hv.2.1
  obtain ⟨t, g, U, hc', hR, hU, ht, hw⟩ := PT_t h.2.2.2.2.1
  have hp := h.2.2.1
  have hm := h.2.1
  have hn := hR.2.2.2.2.2.2.2
  obtain ⟨n1, n2, n3, n4, n5, n6, n7, n8, n9⟩ := hn
  refine c_hasUn hp.1 (by omega) (fun k ek hk => ?_) (fun hno => ?_)
  · subst ek
    have i1 := ixn (k := k) (z := 4) (by omega) (by decide)
    have u : ∀ {K : Int32 → Mem → Prop}, K 1 M → wp_X7_in (nI k) 0 (M 130 10 - 1) M K := fun hK => m_inU hm.1 (by omega) (fun _ _ _ => hK) (fun y => absurd ⟨k, rfl, hk⟩ y)
    have N1 : ∀ {q : Prop}, (1 : Int32) = 0 → q := fun y => absurd y (by decide)
    refine ⟨N1, fun _ => ⟨fun c => ?_, fun c => u ⟨N1, fun _ => ⟨fun y => absurd y c, fun _ => ⟨rfl, hr⟩⟩⟩⟩⟩
    obtain ⟨b, hb, rfl⟩ := int_nI c
    have hwy := (hv.2.2.2.2.1 k hk).1
    have v6 := hv.2.2.2.2.2.1
    have e5 : M 18 5 = nI U := hR.2.2.1
    have ew : M (pl + 2) k = nI (Pwy P k) := (hp.2.2.2.2.2.2.1 k hk).2
    have fin : ∀ r, ((U ≤ b ∨ b < Pwy P k) → r = -2000000) → (b < U → Pwy P k ≤ b → r = M 131 (cpl (t - b) + 5 + k)) → wp_X7_error (nI k) (nI b) M (fun q M2 => r = q ∧ Rel M2 pl dr) := by
      intro r f0 f1
      refine u ⟨N1, fun _ => ⟨fun _ => ⟨33, ?_⟩, fun y => absurd c y⟩⟩
      have go := m_errL (M := M) (w := M 131) (K := fun q M2 => r = q ∧ Rel M2 pl dr) hm hv hk hb hR.2.2.2.1 n7 (by omega) hw (by omega) (fun y => ⟨f0 y, by rw [sr_self]; exact hr⟩) (fun y1 y2 => ⟨f1 y1 y2, by rw [sr_self]; exact hr⟩) 32 0 (by omega) (by omega)
      rw [sr_self] at go
      have e0 : (if 0 < U then 0 else U) = 0 := by split <;> omega
      have e1 : nI t - nI 0 = nI t := by rw [show nI 0 = 0 from rfl, Int32.sub_zero]
      rw [e0, e1] at go
      rw [hw]
      exact go
    rw [e5, i1.2, ew]
    refine ⟨fun y => ?_, fun y => ⟨i1.1, fun y2 => ?_, fun y2 => ?_⟩⟩
    · rw [le_nI (by omega) hb] at y
      exact fin _ (fun _ => rfl) (fun y2 => by omega)
    · rw [le_nI (by omega) hb] at y
      rw [le_nI (by omega) hb] at y2
      refine c_within ?_
      rw [if_pos ⟨z_le (by omega), (leNl (n := 3) (by decide) (by omega)).mpr (show k ≤ 3 by omega)⟩]
      refine ⟨N1, fun _ => c_place (g := g) ((hR.r co_begun).trans n2) (by omega) (by omega) ?_⟩
      have e4 : nI ((g - 1 - b) % 32) * 4 + nI k = nI (4 * ((g - 1 - b) % 32) + k) := by rw [mull, nI_add, Nat.mul_comm]
      rw [e4]
      have i2 := ixn (k := 4 * ((g - 1 - b) % 32) + k) (z := 128) (by omega) (by decide)
      refine ⟨i2.1, ?_⟩
      rw [i2.2]
      exact fin _ (fun y3 => by omega) (fun _ _ => hR.r (co_err (by omega) (by omega) (fun _ _ => y2)))
    · rw [le_nI (by omega) hb] at y
      rw [le_nI (by omega) hb] at y2
      exact fin _ (fun _ => rfl) (fun _ y3 => by omega)
  · refine ⟨fun _ => ?_, fun y => absurd rfl y⟩
    exact m_inU hm.1 (by omega) (fun k e hk => absurd ⟨k, e, hk⟩ hno) (fun _ => ⟨fun _ => ⟨rfl, hr⟩, fun y => absurd rfl y⟩)
end O5
