section C2
variable {P : PlanT} {M : Mem} {p q : Nat} {w : Row} {T t g U k : Nat} {f f' : Nat → Nat} {hc : Prop}
theorem Co_f {i k j : Nat} (hf : ∀ a e, a < U → e < 4 → j = 61 + 9 * ((t - a) % 32) + 5 + e → (1 ≤ e → e < Pu P → f' e ≤ a) → (1 ≤ e → e < Pu P → f e ≤ a)) (h : Co (Pu P) t g U f' hc i k j) : Co (Pu P) t g U f hc i k j := by
  rcases h with ⟨rfl, rfl, rfl⟩ | ⟨rfl, rfl, rfl⟩ | ⟨rfl, rfl, rfl⟩ | ⟨rfl, rfl, rfl⟩ | ⟨rfl, rfl, rfl⟩ | ⟨rfl, rfl, rfl⟩ | ⟨rfl, rfl, rfl⟩ | ⟨rfl, q, rfl⟩ | ⟨rfl, q, rfl⟩ | ⟨rfl, q, rfl⟩ | ⟨rfl, q, rfl⟩ | ⟨z, rfl, rfl, rfl⟩ | ⟨z, rfl, rfl, rfl⟩ | ⟨z, rfl, q, rfl⟩ | ⟨a, ha, rfl, rfl, rfl⟩ | ⟨a, ha, rfl, rfl, rfl⟩ | ⟨a, ha, rfl, rfl, rfl⟩ | ⟨a, e, ha, he, hf', rfl, rfl, rfl⟩
  · exact co_runs
  · exact co_ahead
  · exact co_ticks
  · exact co_begun
  · exact co_good
  · exact co_waste
  · exact co_spl
  · exact co_off q
  · exact co_shift q
  · exact co_wait q
  · exact co_pass q
  · exact co_csp z
  · exact co_cgd z
  · exact co_cer z q
  · exact co_str ha
  · exact co_isp ha
  · exact co_sum ha
  · exact co_err ha he (hf a e ha he rfl hf')
theorem PR.f0 (h : PR P M p w T t g U f hc) (hf : ∀ a e, a < U → e < 4 → (1 ≤ e → e < Pu P → f' e ≤ a) → (1 ≤ e → e < Pu P → f e ≤ a)) : PR P M p w T t g U f' hc :=
  ⟨fun i k j c => h.1 i k j (Co_f (fun a e ha he _ => hf a e ha he) c), h.2⟩
theorem PR.wf {a0 : Nat} (h : PR P M p w T t g U f hc) (h1 : 1 ≤ k) (hk : k < Pu P) (hk4 : k < 4) (ha : a0 < U) (hf : f k = a0 + 1) (v : Int32) : PR P (mw M (p + 9) (4 * ((g - 1 - a0) % 32) + k) v) p (upd w (cpl (t - a0) + 5 + k) v) T t g U (fun e => if e = k then a0 else f e) hc := by
  obtain ⟨b1, b2, b3, b4, b5, b6, b7, b8⟩ := h
  obtain ⟨n1, n2, n3, n4, n5, n6, n7, n8, n9⟩ := b8
  have qc := cpl_ge (t - a0)
  have e9 : ∀ c j, c ≠ p + 9 → mw M (p + 9) (4 * ((g - 1 - a0) % 32) + k) v c j = M c j := fun c j hc' => congrFun (mw_ne hc') j
  have lo : ∀ j, j < 61 → upd w (cpl (t - a0) + 5 + k) v j = w j := fun j hj => upd_ne (by omega)
  refine ⟨?_, ?_, ?_, b4.ne (fun _ => by unfold cpl; omega), ?_, ?_, ?_, ?_⟩
  · intro i' k' j' c'
    have c0 : Co (Pu P) t g U (fun e => if e = k then a0 else f e) hc 9 (4 * ((g - 1 - a0) % 32) + k) (cpl (t - a0) + 5 + k) := co_err ha hk4 (fun _ _ => by show (if k = k then a0 else f k) ≤ a0; rw [if_pos rfl]; exact Nat.le_refl _)
    have q := Co_inj (by omega) (by omega) (by omega) c' c0
    by_cases hj : j' = cpl (t - a0) + 5 + k
    · obtain ⟨rfl, rfl⟩ := q.mpr hj
      subst hj
      rw [mw_at, upd_at]
    · rw [upd_ne hj]
      have : ¬ (p + i' = p + 9 ∧ k' = 4 * ((g - 1 - a0) % 32) + k) := fun z => hj (q.mp ⟨by omega, z.2⟩)
      simp only [mw, if_neg this]
      refine b1 i' k' j' (Co_f (fun a e ha' he ej hf' z1 z2 => ?_) c')
      have h9 : (if e = k then a0 else f e) ≤ a := hf' z1 z2
      by_cases hek : e = k
      · subst hek
        rw [if_pos rfl] at h9
        rw [hf]
        rcases Nat.lt_or_ge a0 a with z | z
        · exact z
        · exact absurd (by rw [ej, show a = a0 by omega]; rfl) hj
      · rw [if_neg hek] at h9; exact h9
  · rw [e9 p 5 (by omega), lo 1 (by omega)]; exact b2
  · rw [e9 _ _ (by omega)]; exact b3
  · intro c e hc' he hz
    simp only [mw]
    rw [if_neg (by omega)]
    exact b5 c e hc' he hz
  · unfold Pl at *
    rw [e9 _ _ (by omega), e9 _ _ (by omega), lo 54 (by omega)]; exact b6
  · unfold Pb at *
    rw [e9 _ _ (by omega), e9 _ _ (by omega), e9 _ _ (by omega), e9 _ _ (by omega), e9 _ _ (by omega)]; exact b7
  · exact ⟨by rw [lo 5 (by omega)]; exact n1, by rw [lo 6 (by omega)]; exact n2, n3, n4, n5, n6, n7, by rw [lo 0 (by omega)]; exact n8, by rw [lo 4 (by omega)]; exact n9⟩
/-- whether a copy is there, on both sides -/
theorem there_iff {a : Nat} (h : Pc w t g U) (hU : U ≤ 28) (hg : U ≤ t) (ha : a < 32) : (a < t ∧ w (cpl (t - a)) = 1) ↔ a < U := by
  constructor
  · rintro ⟨h1, h2⟩
    rcases Nat.lt_or_ge a U with z | z
    · exact z
    · have := h.2.1 ((t - a) % 32) (by omega) (fun b hb => by omega)
      have e : w (cpl (t - a)) = 0 := this
      rw [e] at h2
      exact absurd h2 (by decide)
  · intro h1
    exact ⟨by omega, h.1 a h1⟩
theorem c_bprint {K : Mem → Prop} {a0 : Nat} {x3 x4 : Int32} (h : PR P M p w t t g U f hc) (h1 : 1 ≤ k) (hk : k < Pu P) (hk4 : k < 4) (hf : f k = a0 + 1) (ha : a0 < 30) (e3 : x3 = w (10 + k)) (e4 : x4 = w (14 + k))
    (hK : ∀ M', PR P M' p (if a0 < t ∧ w (cpl (t - a0)) = 1 then gErr (cpl (t - a0)) k w else w) t t g U (fun e => if e = k then a0 else f e) hc → Fr p M M' → M' p = M p → K M') : wp_X0_print (p + 5) (nI a0) (nI k) x3 x4 M K := by
  have hn := h.2.2.2.2.2.2.2
  obtain ⟨n1, n2, n3, n4, n5, n6, n7, n8, n9⟩ := hn
  have hth := there_iff h.2.2.2.1 n7 (by omega) (show a0 < 32 by omega)
  refine ⟨fun c => ?_, fun c => ?_⟩
  · rw [h.2.2.1, le_nI (by omega) (by omega)] at c
    rw [if_neg (fun z => by have := hth.mp z; omega)] at hK
    refine hK M (h.f0 (fun a e ha' he hf' z1 z2 => ?_)) Fr.rf rfl
    have h9 : (if e = k then a0 else f e) ≤ a := hf' z1 z2
    by_cases hek : e = k
    · subst hek; rw [if_pos rfl] at h9; omega
    · rw [if_neg hek] at h9; exact h9
  · rw [h.2.2.1, le_nI (by omega) (by omega)] at c
    have hlt : a0 < U := by omega
    rw [if_pos (hth.mpr hlt)] at hK
    refine c_within ?_
    rw [if_pos ⟨nI_pos' (by omega), by rw [leNl (by decide) (by omega)]; show k ≤ 3; omega⟩]
    refine ⟨fun c => absurd c (by decide), fun _ => ?_⟩
    refine c_place (g := g) ((h.r co_begun).trans n2) (by omega) (by omega) ?_
    have i1 := ixn (k := (g - 1 - a0) % 32) (z := 32) (by omega) (by decide)
    refine ⟨i1.1, i1.1, ?_⟩
    rintro M5 rfl
    rw [i1.2]
    have hsl : (g - 1 - a0) % 32 < 32 := by omega
    have i2 : vp_in (nI ((g - 1 - a0) % 32) * (4 : Int32) + nI k) 128 ∧ ix (nI ((g - 1 - a0) % 32) * (4 : Int32) + nI k) = 4 * ((g - 1 - a0) % 32) + k := by
      rw [show nI ((g - 1 - a0) % 32) * (4 : Int32) = nI ((g - 1 - a0) % 32 * 4) from pk_mul _ 4, nI_add]
      exact ⟨vin (by omega) (by decide), by rw [ix_nI (by omega)]; omega⟩
    refine ⟨i1.1, i1.1, i2.1, ?_⟩
    rintro M6 rfl
    rw [i2.2]
    have r8 : M (p + 8) ((g - 1 - a0) % 32) = w (cpl (t - a0) + 4) := h.r (co_sum hlt)
    have r6 : M (p + 6) ((g - 1 - a0) % 32) = w (cpl (t - a0) + 2) := h.r (co_str hlt)
    have p1 := h.wr (M (p + 8) ((g - 1 - a0) % 32) + x4) (co_sum hlt) ⟨by unfold cpl; omega, by unfold cpl; omega, by unfold cpl; omega, by unfold cpl; omega, by unfold cpl; omega, by unfold cpl; omega, fun _ => by unfold cpl; omega, by decide, fun z => absurd z (by decide), fun z => absurd z (by decide)⟩
    have p2 := p1.wf h1 hk hk4 hlt hf (x3 + nI k * M (p + 6) ((g - 1 - a0) % 32) - (M (p + 8) ((g - 1 - a0) % 32) + x4))
    refine hK _ ?_ ?_ ?_
    · have eM : mw (mw M (p + 8) ((g - 1 - a0) % 32) (M (p + 8) ((g - 1 - a0) % 32) + x4)) (p + 9) (4 * ((g - 1 - a0) % 32) + k) (x3 + nI k * M (p + 6) ((g - 1 - a0) % 32) - (M (p + 8) ((g - 1 - a0) % 32) + x4)) = mw (mw M (p + 5 + 3) ((g - 1 - a0) % 32) (M (p + 5 + 3) ((g - 1 - a0) % 32) + x4)) (p + 5 + 4) (4 * ((g - 1 - a0) % 32) + k) (x3 + nI k * mw M (p + 5 + 3) ((g - 1 - a0) % 32) (M (p + 5 + 3) ((g - 1 - a0) % 32) + x4) (p + 5 + 1) ((g - 1 - a0) % 32) - mw M (p + 5 + 3) ((g - 1 - a0) % 32) (M (p + 5 + 3) ((g - 1 - a0) % 32) + x4) (p + 5 + 3) ((g - 1 - a0) % 32)) := by
        rw [mw_at, congrFun (mw_ne (show p + 5 + 1 ≠ p + 5 + 3 by omega)) _]
      rw [← eM]
      unfold gErr
      rw [r8, r6, e3, e4] at p2 ⊢
      exact p2
    · intro c hc'
      rw [mw_ne (by omega), mw_ne (by omega)]
    · rw [mw_ne (by omega), mw_ne (by omega)]
end C2
