/-! the class: plan, places, a copy begins, is printed -/
def CP (P : PlanT) (M : Mem) (q : Nat) : Prop := M q 4 = nI (Pu P) ∧ M q 5 = nI (Prl P) ∧ M q 6 = nI (Pey P) ∧ M q 7 = Plm P ∧ M q 8 = Pid P ∧ M q 9 = Psp P ∧ (∀ k, k < Pu P → M (q + 1) k = nI (Pgp P k) ∧ M (q + 2) k = nI (Pwy P k)) ∧ (∀ r, r < Prl P → M (q + 3) r = Pcp P r ∧ M (q + 4) r = Psx P r)
theorem CP.fr {P : PlanT} {M M' : Mem} {p q : Nat} (h : CP P M q) (hf : Fr p M M') (hd : q + 5 ≤ p ∨ p + 11 ≤ q) : CP P M' q := by
  unfold CP at *
  rw [hf q (by omega), hf (q + 1) (by omega), hf (q + 2) (by omega), hf (q + 3) (by omega), hf (q + 4) (by omega)]
  exact h
section C1
variable {P : PlanT} {M : Mem} {p q : Nat} {w : Row} {T t g U k : Nat} {f : Nat → Nat} {hc : Prop}
theorem c_within {x a b : Int32} {K : Int32 → Mem → Prop} (h : K (if a ≤ x ∧ x ≤ b then 1 else 0) M) : wp_X6_isWithin x a b M K := by
  refine ⟨fun c => ?_, fun c => ⟨fun c2 => ?_, fun c2 => ?_⟩⟩
  · rw [if_neg (fun z => by have := z.1; rw [← Int32.not_lt] at this; exact this c)] at h; exact h
  · rw [if_neg (fun z => by have := z.2; rw [← Int32.not_lt] at this; exact this c2)] at h; exact h
  · rw [Int32.not_lt] at c c2
    rw [if_pos ⟨c, c2⟩] at h; exact h
theorem c_ttc {K : Int32 → Mem → Prop} (hP : CP P M q) (hv : PV P) (hk : k < Pu P) (h : K (nI (Pwy P (Pu P - 1) - Pwy P k + Pey P)) M) : wp_X3_ticksToCameraFrom q (nI k) M K := by
  obtain ⟨v1, v2, v3, v4, v5, v6, v7, v8, -⟩ := hv
  have h1 := (hP.2.2.2.2.2.2.1 k hk).2
  have h2 := (hP.2.2.2.2.2.2.1 (Pu P - 1) (by omega)).2
  have h3 := (v5 k hk).1
  unfold wp_X3_ticksToCameraFrom
  rw [hP.1, show nI (Pu P) - 1 = nI (Pu P - 1) from pk_sub v1, ix_nI (by omega), ix_nI (by omega), h1, h2, hP.2.2.1, pk_sub h3, nI_add]
  exact ⟨vin (by omega) (by decide), vin (by omega) (by decide), h⟩
theorem c_hasReel {K : Int32 → Mem → Prop} (hP : CP P M q) (hv : PV P) (hk : k < 100) (h : K (if k < Prl P then 1 else 0) M) : wp_X3_hasReel q (nI k) M K := by
  have v3 := hv.2.2.1
  refine ⟨fun c => absurd c (nI_pos (by omega)), fun _ => ⟨fun c => ?_, fun c => ?_⟩⟩
  · rw [hP.2.1, le_nI (by omega) (by omega)] at c
    rw [if_neg (by omega)] at h; exact h
  · rw [hP.2.1, le_nI (by omega) (by omega)] at c
    rw [if_pos (by omega)] at h; exact h
theorem c_place {K : Int32 → Mem → Prop} {b a : Nat} (hg : M b 4 = nI g) (ha : a < g) (hb : g < 2 ^ 30) (h : K (nI ((g - 1 - a) % 32)) M) : wp_X0_placeOf b (nI a) M K := by
  unfold wp_X0_placeOf
  rw [hg, show nI g - 1 = nI (g - 1) from pk_sub (show 1 ≤ g by omega), pk_sub (by omega), and31 (by omega)]
  exact h
theorem c_pass {K : Int32 → Mem → Prop} {x y : Nat} (hx : x < 4) (hy : y < 2 ^ 31) (h : K (nI (8 * x + y % 8)) M) : wp_X4_passPlace (nI x) (nI y) M K := by
  unfold wp_X4_passPlace
  rw [and3 (by omega), and7 (by omega), Nat.mod_eq_of_lt hx, mull, nI_add, Nat.mul_comm]
  exact h
theorem gBegin_ne {b : Int32} {j : Nat} (h6 : j ≠ 6) (h : j < cpl t ∨ cpl t + 8 < j) : gBegin P t b w j = w j := by
  unfold gBegin
  rw [upd_ne (by omega), upd_ne (by omega), upd_ne (by omega), upd_ne (by omega), upd_ne (by omega), upd_ne (by omega), upd_ne (by omega), upd_ne (by omega), upd_ne (by omega), upd_ne (by omega)]
theorem gBegin_at {b : Int32} : gBegin P t b w (cpl t) = 1 ∧ gBegin P t b w (cpl t + 1) = w 6 ∧ gBegin P t b w (cpl t + 2) = Psx P (ix (w 1)) ∧ gBegin P t b w (cpl t + 3) = b ∧ gBegin P t b w (cpl t + 4) = 0 ∧ (∀ e, e < 4 → gBegin P t b w (cpl t + 5 + e) = 0) ∧ gBegin P t b w 6 = w 6 + 1 := by
  have b1 := cpl_ge t
  refine ⟨?_, ?_, ?_, ?_, ?_, fun e he => ?_, ?_⟩ <;> unfold gBegin
  · rw [upd_ne (by omega), upd_ne (by omega), upd_ne (by omega), upd_ne (by omega), upd_ne (by omega), upd_ne (by omega), upd_ne (by omega), upd_ne (by omega), upd_ne (by omega), upd_at]
  · rw [upd_ne (by omega), upd_ne (by omega), upd_ne (by omega), upd_ne (by omega), upd_ne (by omega), upd_ne (by omega), upd_ne (by omega), upd_ne (by omega), upd_at]
  · rw [upd_ne (by omega), upd_ne (by omega), upd_ne (by omega), upd_ne (by omega), upd_ne (by omega), upd_ne (by omega), upd_ne (by omega), upd_at]
  · rw [upd_ne (by omega), upd_ne (by omega), upd_ne (by omega), upd_ne (by omega), upd_ne (by omega), upd_ne (by omega), upd_at]
  · rw [upd_ne (by omega), upd_ne (by omega), upd_ne (by omega), upd_ne (by omega), upd_ne (by omega), upd_at]
  · have : e = 0 ∨ e = 1 ∨ e = 2 ∨ e = 3 := by omega
    rcases this with rfl | rfl | rfl | rfl
    · rw [upd_ne (by omega), upd_ne (by omega), upd_ne (by omega), upd_ne (by omega)]; exact upd_at _ _ _
    · rw [upd_ne (by omega), upd_ne (by omega), upd_ne (by omega)]; exact upd_at _ _ _
    · rw [upd_ne (by omega), upd_ne (by omega)]; exact upd_at _ _ _
    · rw [upd_ne (by omega)]; exact upd_at _ _ _
  · rw [upd_at]
/-- the class's cells behind begin -/
def bBegin (M : Mem) (p c : Nat) (x5 s b : Int32) (x4 : Int32) : Mem := mw (mw (mw (mw (mw M (p + 5) 4 x4) (p + 5) 5 x5) (p + 6) c s) (p + 7) c b) (p + 8) c 0
theorem PR_begin {b : Nat} {x4 x5 s : Int32} (h : PR P M p w (t + 1) t g U f hc) (hb : b ≤ 1) (hU : U ≤ 27) (e4 : x4 = nI (g + 1)) (e5 : x5 = nI (U + 1)) (es : s = Psx P (ix (w 1))) : PR P (bBegin M p (g % 32) x5 s (nI b) x4) p (gBegin P (t + 1) (nI b) w) (t + 1) (t + 1) (g + 1) (U + 1) (fun e => f e + 1) hc := by
  obtain ⟨b1, b2, b3, b4, b5, b6, b7, b8⟩ := h
  obtain ⟨n1, n2, n3, n4, n5, n6, n7, n8, n9⟩ := b8
  obtain ⟨g0, g1, g2, g3, g4, g5, g6⟩ := gBegin_at (P := P) (t := t + 1) (w := w) (b := nI b)
  have q1 := cpl_ge (t + 1)
  have hlo : ∀ j, j < 61 → j ≠ 6 → gBegin P (t + 1) (nI b) w j = w j := fun j hj h6 => gBegin_ne h6 (Or.inl (by omega))
  have hcp : ∀ a x, a < U → x ≤ 8 → gBegin P (t + 1) (nI b) w (cpl (t - a) + x) = w (cpl (t - a) + x) := fun a x ha hx => gBegin_ne (by unfold cpl; omega) (by unfold cpl; omega)
  have m0 : ∀ c j, (c < p + 5 ∨ p + 9 ≤ c) → bBegin M p (g % 32) x5 s (nI b) x4 c j = M c j := fun c j hc' => by
    unfold bBegin; rw [mw_ne (by omega), mw_ne (by omega), mw_ne (by omega), mw_ne (by omega), mw_ne (by omega)]
  have m5 : ∀ j, j ≠ 4 → j ≠ 5 → bBegin M p (g % 32) x5 s (nI b) x4 (p + 5) j = M (p + 5) j := fun j h4 h5 => by
    unfold bBegin; rw [mw_ne (by omega), mw_ne (by omega), mw_ne (by omega), mw_k h5, mw_k h4]
  have m54 : bBegin M p (g % 32) x5 s (nI b) x4 (p + 5) 4 = x4 := by
    unfold bBegin; rw [mw_ne (by omega), mw_ne (by omega), mw_ne (by omega), mw_k (by decide), mw_at]
  have m55 : bBegin M p (g % 32) x5 s (nI b) x4 (p + 5) 5 = x5 := by
    unfold bBegin; rw [mw_ne (by omega), mw_ne (by omega), mw_ne (by omega), mw_at]
  have m6 : ∀ j, bBegin M p (g % 32) x5 s (nI b) x4 (p + 6) j = if j = g % 32 then s else M (p + 6) j := fun j => by
    unfold bBegin; rw [mw_ne (by omega), mw_ne (by omega), mw_row, mw_ne (by omega), mw_ne (by omega)]; rfl
  have m7 : ∀ j, bBegin M p (g % 32) x5 s (nI b) x4 (p + 7) j = if j = g % 32 then nI b else M (p + 7) j := fun j => by
    unfold bBegin; rw [mw_ne (by omega), mw_row, mw_ne (by omega), mw_ne (by omega), mw_ne (by omega)]; rfl
  have m8 : ∀ j, bBegin M p (g % 32) x5 s (nI b) x4 (p + 8) j = if j = g % 32 then 0 else M (p + 8) j := fun j => by
    unfold bBegin; rw [mw_row, mw_ne (by omega), mw_ne (by omega), mw_ne (by omega), mw_ne (by omega)]; rfl
  refine ⟨?_, ?_, ?_, ⟨?_, ?_, ?_, ?_⟩, ?_, ?_, ?_, ?_⟩
  · intro i k j c
    rcases c with ⟨rfl, rfl, rfl⟩ | ⟨rfl, rfl, rfl⟩ | ⟨rfl, rfl, rfl⟩ | ⟨rfl, rfl, rfl⟩ | ⟨rfl, rfl, rfl⟩ | ⟨rfl, rfl, rfl⟩ | ⟨rfl, rfl, rfl⟩ | ⟨rfl, q, rfl⟩ | ⟨rfl, q, rfl⟩ | ⟨rfl, q, rfl⟩ | ⟨rfl, q, rfl⟩ | ⟨z, rfl, rfl, rfl⟩ | ⟨z, rfl, rfl, rfl⟩ | ⟨z, rfl, q, rfl⟩ | ⟨a, ha, rfl, rfl, rfl⟩ | ⟨a, ha, rfl, rfl, rfl⟩ | ⟨a, ha, rfl, rfl, rfl⟩ | ⟨a, e, ha, he, hf, rfl, rfl, rfl⟩
    · rw [m0 _ _ (by omega), hlo _ (by omega) (by omega)]; exact b1 _ _ _ co_runs
    · rw [m0 _ _ (by omega), hlo _ (by omega) (by omega)]; exact b1 _ _ _ co_ahead
    · rw [m0 _ _ (by omega), hlo _ (by omega) (by omega)]; exact b1 _ _ _ co_ticks
    · rw [m54, g6, e4, n2, nI_1]
    · rw [m0 _ _ (by omega), hlo _ (by omega) (by omega)]; exact b1 _ _ _ co_good
    · rw [m0 _ _ (by omega), hlo _ (by omega) (by omega)]; exact b1 _ _ _ co_waste
    · rw [m0 _ _ (by omega), hlo _ (by omega) (by omega)]; exact b1 _ _ _ co_spl
    · rw [m0 _ _ (by omega), hlo _ (by omega) (by omega)]; exact b1 _ _ _ (co_off q)
    · rw [m0 _ _ (by omega), hlo _ (by omega) (by omega)]; exact b1 _ _ _ (co_shift q)
    · rw [m0 _ _ (by omega), hlo _ (by omega) (by omega)]; exact b1 _ _ _ (co_wait q)
    · rw [m0 _ _ (by omega), hlo _ (by omega) (by omega)]; exact b1 _ _ _ (co_pass q)
    · rw [m5 _ (by decide) (by decide), hlo _ (by omega) (by omega)]; exact b1 _ _ _ (co_csp z)
    · rw [m5 _ (by decide) (by decide), hlo _ (by omega) (by omega)]; exact b1 _ _ _ (co_cgd z)
    · rw [m0 _ _ (by omega), hlo _ (by omega) (by omega)]; exact b1 _ _ _ (co_cer z q)
    · cases a with
      | zero => rw [m6, if_pos (by simp)]; exact es.trans g2.symm
      | succ a =>
        rw [m6, if_neg (by omega), show g + 1 - 1 - (a + 1) = g - 1 - a by omega, show t + 1 - (a + 1) = t - a by omega]
        exact (b1 _ _ _ (co_str (by omega))).trans (hcp a 2 (by omega) (by omega)).symm
    · cases a with
      | zero => rw [m7, if_pos (by simp)]; exact g3.symm
      | succ a =>
        rw [m7, if_neg (by omega), show g + 1 - 1 - (a + 1) = g - 1 - a by omega, show t + 1 - (a + 1) = t - a by omega]
        exact (b1 _ _ _ (co_isp (by omega))).trans (hcp a 3 (by omega) (by omega)).symm
    · cases a with
      | zero => rw [m8, if_pos (by simp)]; exact g4.symm
      | succ a =>
        rw [m8, if_neg (by omega), show g + 1 - 1 - (a + 1) = g - 1 - a by omega, show t + 1 - (a + 1) = t - a by omega]
        exact (b1 _ _ _ (co_sum (by omega))).trans (hcp a 4 (by omega) (by omega)).symm
    · cases a with
      | zero =>
        rw [m0 _ _ (by omega), b5 _ e (by omega) he (by rcases Nat.eq_zero_or_pos e with z | z; · exact Or.inl z
                                                        · by_cases z2 : e < Pu P
                                                          · have h9 : f e + 1 ≤ 0 := hf z z2
                                                            omega
                                                          · exact Or.inr (by omega))]
        exact (g5 e he).symm
      | succ a =>
        rw [m0 _ _ (by omega), show g + 1 - 1 - (a + 1) = g - 1 - a by omega, show t + 1 - (a + 1) = t - a by omega]
        have h9 := hcp a (5 + e) (by omega) (by omega)
        rw [← Nat.add_assoc] at h9
        exact (b1 _ _ _ (co_err (by omega) he (fun z1 z2 => by have h8 : f e + 1 ≤ a + 1 := hf z1 z2; omega))).trans h9.symm
  · rw [m0 _ _ (by omega), hlo _ (by omega) (by omega)]; exact b2
  · rw [m55, e5]
  · intro a ha
    cases a with
    | zero => exact g0
    | succ a => rw [show t + 1 - (a + 1) = t - a by omega]; exact (hcp a 0 (by omega) (by omega)).trans (b4.1 a (by omega))
  · intro x hx hq
    have h0 := hq 0 (by omega)
    rw [gBegin_ne (by omega) (by unfold cpl; omega)]
    exact b4.2.1 x hx (fun a ha => by have := hq (a + 1) (by omega); rw [show t + 1 - (a + 1) = t - a by omega] at this; exact this)
  · intro a ha
    cases a with
    | zero => exact g1.trans n2
    | succ a => rw [show t + 1 - (a + 1) = t - a by omega, show g + 1 - 1 - (a + 1) = g - 1 - a by omega]; exact (hcp a 1 (by omega) (by omega)).trans (b4.2.2.1 a (by omega))
  · intro a ha
    cases a with
    | zero => rw [show cpl (t + 1 - 0) + 3 = cpl (t + 1) + 3 from rfl, g3]; rcases (show b = 0 ∨ b = 1 by omega) with rfl | rfl; · exact isB0
              · exact isB1
    | succ a => rw [show t + 1 - (a + 1) = t - a by omega, hcp a 3 (by omega) (by omega)]; exact b4.2.2.2 a (by omega)
  · intro c e hc' he hz
    rw [m0 _ _ (by omega)]; exact b5 c e hc' he hz
  · unfold Pl at *
    rw [m5 _ (by decide) (by decide), m5 _ (by decide) (by decide), hlo 54 (by omega) (by omega)]; exact b6
  · unfold Pb at *
    rw [m5 _ (by decide) (by decide), m5 _ (by decide) (by decide), m5 _ (by decide) (by decide), m0 p _ (by omega), m0 p _ (by omega)]; exact b7
  · exact ⟨by rw [hlo 5 (by omega) (by omega)]; exact n1, by rw [g6, n2, nI_1], n3, by omega, by omega, by omega, by omega, by rw [hlo 0 (by omega) (by omega)]; exact n8, by rw [hlo 4 (by omega) (by omega)]; exact n9⟩
theorem c_begin {K : Mem → Prop} {b : Nat} {s : Int32} (h : PR P M p w (t + 1) t g U f hc) (hb : b ≤ 1) (hU : U ≤ 27) (es : s = Psx P (ix (w 1)))
    (hk : ∀ M', PR P M' p (gBegin P (t + 1) (nI b) w) (t + 1) (t + 1) (g + 1) (U + 1) (fun e => f e + 1) hc → Fr p M M' → M' p = M p → K M') : wp_X0_begin (p + 5) s (nI b) M K := by
  have hn := h.2.2.2.2.2.2.2
  have e4 : M (p + 5) 4 = nI g := (h.r co_begun).trans hn.2.1
  have e5 : M (p + 5) 5 = nI U := h.2.2.1
  have fin := hk _ (PR_begin h hb hU rfl rfl es) (fun c hc' => by unfold bBegin; rw [mw_ne (by omega), mw_ne (by omega), mw_ne (by omega), mw_ne (by omega), mw_ne (by omega)]) (by unfold bBegin; rw [mw_ne (by omega), mw_ne (by omega), mw_ne (by omega), mw_ne (by omega), mw_ne (by omega)])
  rintro M1 rfl
  rintro M2 rfl
  rw [e4, nI_1]
  have r5 : mw M (p + 5) 4 (nI (g + 1)) (p + 5) 5 = nI U := by rw [mw_k (by decide)]; exact e5
  rw [r5, nI_1]
  refine c_place (g := g + 1) (a := 0) (by rw [mw_k (by decide), mw_at]) (by omega) (by have := hn.2.2.1; have := hn.2.2.2.2.1; have := hn.2.2.2.2.2.1; omega) ?_
  rw [show g + 1 - 1 - 0 = g by omega]
  have i1 := ixn (k := g % 32) (z := 32) (by omega) (by decide)
  rw [i1.2]
  refine ⟨i1.1, ?_⟩
  rintro M4 rfl
  refine ⟨fun c => ⟨i1.1, ?_⟩, fun c => ⟨i1.1, ?_⟩⟩
  · rw [eq_z (by omega)] at c
    subst c
    rintro M6 rfl
    refine ⟨i1.1, ?_⟩
    rintro M7 rfl
    exact fin
  · rw [eq_z (by omega)] at c
    have : b = 1 := by omega
    subst this
    rintro M6 rfl
    refine ⟨i1.1, ?_⟩
    rintro M7 rfl
    exact fin
end C1
