section C3
variable {P : PlanT} {M : Mem} {p q : Nat} {w : Row} {T t g U k : Nat} {f f' : Nat → Nat} {hc : Prop}
def fK (P : PlanT) (k : Nat) : Nat → Nat := fun e => if e < k then Pwy P e else Pwy P e + 1
theorem qk_shift (hk : k < 4) : Qk (Pu P) 2 k (14 + k) := ⟨by omega, by omega, by omega, by omega, by omega, by omega, fun z => by omega, by decide, fun z => absurd z (by decide), fun z => absurd z (by decide)⟩
theorem qk_wait (hk : k < 4) : Qk (Pu P) 3 k (18 + k) := ⟨by omega, by omega, by omega, by omega, by omega, by omega, fun z => by omega, by decide, fun z => absurd z (by decide), fun z => absurd z (by decide)⟩
theorem qk_pass (hk : k < 32) : Qk (Pu P) 4 k (22 + k) := ⟨by omega, by omega, by omega, by omega, by omega, by omega, fun z => by omega, by decide, fun z => absurd z (by decide), fun z => absurd z (by decide)⟩
theorem c_printL {K : Mem → Prop} (hv : PV P) (hd : q + 5 ≤ p ∨ p + 11 ≤ q) : ∀ (n k : Nat) (M : Mem) (w : Row), 1 ≤ k → k + n = Pu P → CP P M q → PR P M p w t t g U (fK P k) hc →
    (∀ M', PR P M' p (gPrints P t n k w) t t g U (Pwy P) hc → Fr p M M' → M' p = M p → K M') → L_X4_print_2 p q K (n + 1) (nI k) M := by
  intro n
  obtain ⟨v1, v2, v3, v4, v5, v6, v7, v8, -⟩ := hv
  induction n with
  | zero =>
    intro k M w h1 hk hP h hK
    refine ⟨fun _ => hK M (h.f0 (fun a e _ _ hf' z1 z2 => ?_)) Fr.rf rfl, fun c => absurd ?_ c⟩
    · show (if e < k then Pwy P e else Pwy P e + 1) ≤ a
      rw [if_pos (by omega)]; exact hf' z1 z2
    · rw [hP.1, le_nI (by omega) (by omega)]; omega
  | succ n ih =>
    intro k M w h1 hk hP h hK
    have hku : k < Pu P := by omega
    have hk4 : k < 4 := by omega
    have hwy := (v5 k hku).1
    have hn := h.2.2.2.2.2.2.2
    refine ⟨fun c => ?_, fun c => ?_⟩
    · rw [hP.1, le_nI (by omega) (by omega)] at c; omega
    · have r10 : M p 10 = nI t := (h.r co_ticks).trans hn.1
      rw [r10]
      refine c_pass hk4 (by have := hn.2.2.1; omega) ?_
      have i1 := ixn (k := k) (z := 4) hk4 (by decide)
      have i2 := ixn (k := 8 * k + t % 8) (z := 32) (by omega) (by decide)
      refine ⟨i1.1, i2.1, i1.1, ?_⟩
      rintro M4 rfl
      refine ⟨i2.1, ?_⟩
      rintro M5 rfl
      rw [i1.2, i2.2]
      have r2 : M (p + 2) k = w (14 + k) := h.r (co_shift hk4)
      have r4 : M (p + 4) (8 * k + t % 8) = w (22 + (8 * k + t % 8)) := h.r (co_pass (by omega))
      have p1 := h.wr (M (p + 2) k + M (p + 4) (8 * k + t % 8)) (co_shift hk4) (qk_shift hk4)
      have p2 := p1.wr 0 (co_pass (show 8 * k + t % 8 < 32 by omega)) (qk_pass (by omega))
      have ew : upd (upd w (14 + k) (M (p + 2) k + M (p + 4) (8 * k + t % 8))) (22 + (8 * k + t % 8)) 0 = gShift t k w := by
        unfold gShift ppl
        rw [r2, r4, show 22 + (8 * k + t % 8) = 22 + 8 * k + t % 8 by omega]
      rw [ew] at p2
      have hq2 : mw (mw M (p + 2) k (M (p + 2) k + M (p + 4) (8 * k + t % 8))) (p + 4) (8 * k + t % 8) 0 (q + 2) = M (q + 2) := by rw [mw_ne (by omega), mw_ne (by omega)]
      rw [hq2, (hP.2.2.2.2.2.2.1 k hku).2]
      refine ⟨i1.1, i1.1, i1.1, ?_⟩
      refine c_bprint p2 h1 hku hk4 (show fK P k k = Pwy P k + 1 by unfold fK; rw [if_neg (by omega)]) (by omega) (p2.r (co_off hk4)) (p2.r (co_shift hk4)) ?_
      intro M6 h6 hfr6 hp6
      have frA : Fr p M M6 := ((Fr.w (i := 2) (by decide)).tr (Fr.w (i := 4) (by decide))).tr hfr6
      have hpA : M6 p = M p := by rw [hp6, mw_ne (by omega), mw_ne (by omega)]
      have eF : (fun e => if e = k then Pwy P k else fK P k e) = fK P (k + 1) := by
        funext e
        unfold fK
        by_cases z : e = k
        · subst z; rw [if_pos rfl, if_pos (by omega)]
        · rw [if_neg z]
          by_cases z2 : e < k
          · rw [if_pos z2, if_pos (by omega)]
          · rw [if_neg z2, if_neg (by omega)]
      rw [eF] at h6
      rw [nI_1]
      exact ih (k + 1) M6 _ (by omega) (by omega) (hP.fr frA hd) h6 (fun M' a b c' => hK M' a (frA.tr b) (c'.trans hpA))
theorem c_print {K : Mem → Prop} (hv : PV P) (hd : q + 5 ≤ p ∨ p + 11 ≤ q) (hP : CP P M q) (h : PR P M p w t t g U (fun e => Pwy P e + 1) hc)
    (hK : ∀ M', PR P M' p (gPrints P t (Pu P - 1) 1 w) t t g U (Pwy P) hc → Fr p M M' → M' p = M p → K M') : wp_X4_print p q M K :=
  ⟨Pu P - 1 + 1, c_printL hv hd (Pu P - 1) 1 M w (by decide) (by have := hv.1; omega) hP (h.f0 (fun a e _ _ hf' z1 z2 => by
    have h9 : (if e < 1 then Pwy P e else Pwy P e + 1) ≤ a := hf' z1 z2
    rw [if_neg (by omega)] at h9; exact h9)) hK⟩
/-! a copy comes to the camera -/
theorem gsz_abs (x : Int32) : (if 0 ≤ x then x else 0 - x) = gsz x := by unfold gsz; rw [Int32.zero_sub]
theorem c_furL {K : Int32 → Mem → Prop} {b : Nat} {x : Int32} (h0 : (∀ i, 1 ≤ i → i < 4 → gsz (M (b + 5) i) ≤ x) → K 0 M) (h1 : (¬ ∀ i, 1 ≤ i → i < 4 → gsz (M (b + 5) i) ≤ x) → K 1 M) :
    ∀ (n k : Nat), k + n = 4 → (∀ i, 1 ≤ i → i < k → gsz (M (b + 5) i) ≤ x) → 1 ≤ k → L_X0_cameFurtherOutThan_2 b K (n + 1) x (nI k) M := by
  intro n
  induction n with
  | zero =>
    intro k hk hh h1k
    have : k = 4 := by omega
    subst this
    exact ⟨fun _ => h0 hh, fun c => absurd (Int32.le_refl _) c⟩
  | succ n ih =>
    intro k hk hh h1k
    have i1 := ixn (k := k) (z := 4) (by omega) (by decide)
    refine ⟨fun c => ?_, fun _ => ⟨i1.1, ?_⟩⟩
    · rw [lleN (by decide) (by omega)] at c
      have : 4 ≤ k := c
      omega
    · rw [i1.2, gsz_abs]
      refine ⟨fun c => ?_, fun c => h1 (fun z => c (z k h1k (by omega)))⟩
      rw [nI_1]
      refine ih (k + 1) (by omega) (fun i a1 a2 => ?_) (by omega)
      rcases Nat.lt_or_ge i k with z | z
      · exact hh i a1 z
      · rw [show i = k by omega]; exact c
theorem c_fur {K : Int32 → Mem → Prop} {b : Nat} {x : Int32} (h0 : (∀ i, 1 ≤ i → i < 4 → gsz (M (b + 5) i) ≤ x) → K 0 M) (h1 : (¬ ∀ i, 1 ≤ i → i < 4 → gsz (M (b + 5) i) ≤ x) → K 1 M) : wp_X0_cameFurtherOutThan b x M K :=
  ⟨4, c_furL h0 h1 3 1 rfl (fun i a b => by omega) (by decide)⟩
theorem gMx_le {a b L : Int32} : gMx a b ≤ L ↔ a ≤ L ∧ b ≤ L := by
  unfold gMx
  by_cases h : b ≤ a
  · rw [if_pos h]; exact ⟨fun z => ⟨z, Int32.le_trans h z⟩, fun z => z.1⟩
  · rw [if_neg h]
    exact ⟨fun z => ⟨Int32.le_trans (by rw [← Int32.not_lt]; intro q; exact h (Int32.le_of_lt q)) z, z⟩, fun z => z.2⟩
theorem gWorst_le {L : Int32} : ∀ (n k : Nat) (m : Int32), gWorst w n k m ≤ L ↔ m ≤ L ∧ ∀ i, k ≤ i → i < k + n → gsz (w (57 + i)) ≤ L
  | 0, k, m => ⟨fun h => ⟨h, fun i a b => by omega⟩, fun h => h.1⟩
  | n + 1, k, m => by
    show gWorst w n (k + 1) (gMx m (gsz (w (57 + k)))) ≤ L ↔ _
    rw [gWorst_le n (k + 1), gMx_le]
    constructor
    · rintro ⟨⟨a, b⟩, c⟩
      refine ⟨a, fun i h1 h2 => ?_⟩
      rcases Nat.eq_or_lt_of_le h1 with z | z
      · rw [← z]; exact b
      · exact c i (by omega) (by omega)
    · rintro ⟨a, c⟩
      exact ⟨⟨a, c k (by omega) (by omega)⟩, fun i h1 h2 => c i (by omega) (by omega)⟩
theorem gsz_0 : gsz 0 = 0 := by decide
/-- the errors' bound is one on both sides -/
theorem far_iff {r : Nat → Int32} {L : Int32} (hv : PV P) (hL : 0 ≤ L) (hr : ∀ i, i < 4 → r i = w (57 + i)) (hz : ∀ i, i < 4 → Pu P ≤ i → w (57 + i) = 0) : (∀ i, 1 ≤ i → i < 4 → gsz (r i) ≤ L) ↔ gWorst w (Pu P - 1) 1 0 ≤ L := by
  have v1 := hv.1
  have v2 := hv.2.1
  rw [gWorst_le]
  constructor
  · intro h
    exact ⟨hL, fun i a b => by rw [← hr i (by omega)]; exact h i a (by omega)⟩
  · rintro ⟨-, h⟩ i a b
    rw [hr i b]
    by_cases hi : i < Pu P
    · exact h i a (by omega)
    · rw [hz i b (by omega), gsz_0]; exact hL
theorem PR_seen {M' : Mem} {F : Nat} {b : Int32} (h : PR P M p w t t g (F + 1) (Pwy P) hc) (hv : PV P) (hF : F = PF P) (hb : isB b)
    (F1 : ∀ c j, c ≠ p → c ≠ p + 5 → c ≠ p + 10 → M' c j = M c j) (F2 : ∀ j, j ≠ 11 → j ≠ 12 → M' p j = M p j) (F2a : M' p 11 = M p 11 + b) (F2b : M' p 12 = M p 12 + (1 - b))
    (F3 : M' (p + 5) 4 = M (p + 5) 4) (F3a : M' (p + 5) 5 = nI F) (F3b : M' (p + 5) 6 = 1) (F3c : M' (p + 5) 7 = nI (g - 1 - F)) (F3d : M' (p + 5) 8 = w (cpl (t - F) + 3)) (F3e : M' (p + 5) 9 = b)
    (F4 : ∀ e, e < 4 → M' (p + 10) e = M (p + 9) (4 * ((g - 1 - F) % 32) + e)) : PR P M' p (gJudge b (gLast (cpl (t - F)) w)) t t g F (Pwy P) True := by
  obtain ⟨b1, b2, b3, b4, b5, b6, b7, b8⟩ := h
  obtain ⟨n1, n2, n3, n4, n5, n6, n7, n8, n9⟩ := b8
  obtain ⟨v1, v2, v3, v4, v5, v6, v7, v8, -⟩ := hv
  have q1 := cpl_ge (t - F)
  have lo : ∀ j, j < 61 → j ≠ 7 → j ≠ 8 → j < 54 → gJudge b (gLast (cpl (t - F)) w) j = w j := fun j hj h7 h8 h54 => by
    unfold gJudge gLast
    rw [upd_ne (by omega), upd_ne (by omega), upd_ne (by omega), upd_ne (by omega), upd_ne (by omega), upd_ne (by omega), upd_ne (by omega), upd_ne (by omega), upd_ne (by omega), upd_ne (by omega)]
  have hi : ∀ j, 61 ≤ j → j ≠ cpl (t - F) → gJudge b (gLast (cpl (t - F)) w) j = w j := fun j hj h0 => by
    unfold gJudge gLast
    rw [upd_ne (by omega), upd_ne (by omega), upd_ne (by omega), upd_ne (by omega), upd_ne (by omega), upd_ne (by omega), upd_ne (by omega), upd_ne (by omega), upd_ne (by omega), upd_ne (by omega)]
  have w7 : gJudge b (gLast (cpl (t - F)) w) 7 = w 7 + b := by
    have e : gLast (cpl (t - F)) w 7 = w 7 := by unfold gLast; rw [upd_ne (by omega), upd_ne (by omega), upd_ne (by omega), upd_ne (by omega), upd_ne (by omega), upd_ne (by omega), upd_ne (by omega)]
    unfold gJudge; rw [upd_ne (by omega), upd_at, e]
  have w8 : gJudge b (gLast (cpl (t - F)) w) 8 = w 8 + (1 - b) := by
    have e : gLast (cpl (t - F)) w 8 = w 8 := by unfold gLast; rw [upd_ne (by omega), upd_ne (by omega), upd_ne (by omega), upd_ne (by omega), upd_ne (by omega), upd_ne (by omega), upd_ne (by omega)]
    unfold gJudge; rw [upd_at, e]
  have w54 : gJudge b (gLast (cpl (t - F)) w) 54 = w (cpl (t - F) + 1) + 1 := by
    unfold gJudge gLast; rw [upd_ne (by omega), upd_ne (by omega), upd_ne (by omega), upd_ne (by omega), upd_ne (by omega), upd_ne (by omega), upd_ne (by omega), upd_ne (by omega), upd_at]
  have w55 : gJudge b (gLast (cpl (t - F)) w) 55 = w (cpl (t - F) + 3) := by
    unfold gJudge gLast; rw [upd_ne (by omega), upd_ne (by omega), upd_ne (by omega), upd_ne (by omega), upd_ne (by omega), upd_ne (by omega), upd_ne (by omega), upd_at]
  have w56 : gJudge b (gLast (cpl (t - F)) w) 56 = b := by unfold gJudge; rw [upd_ne (by omega), upd_ne (by omega), upd_at]
  have w57 : ∀ e, e < 4 → gJudge b (gLast (cpl (t - F)) w) (57 + e) = w (cpl (t - F) + 5 + e) := fun e he => by
    have : e = 0 ∨ e = 1 ∨ e = 2 ∨ e = 3 := by omega
    unfold gJudge gLast
    rcases this with rfl | rfl | rfl | rfl
    · rw [upd_ne (by omega), upd_ne (by omega), upd_ne (by omega), upd_ne (by omega), upd_ne (by omega), upd_ne (by omega)]; exact upd_at _ _ _
    · rw [upd_ne (by omega), upd_ne (by omega), upd_ne (by omega), upd_ne (by omega), upd_ne (by omega)]; exact upd_at _ _ _
    · rw [upd_ne (by omega), upd_ne (by omega), upd_ne (by omega), upd_ne (by omega)]; exact upd_at _ _ _
    · rw [upd_ne (by omega), upd_ne (by omega), upd_ne (by omega)]; exact upd_at _ _ _
  have w0 : gJudge b (gLast (cpl (t - F)) w) (cpl (t - F)) = 0 := by
    unfold gJudge gLast
    rw [upd_ne (by omega), upd_ne (by omega), upd_ne (by omega), upd_ne (by omega), upd_ne (by omega), upd_ne (by omega), upd_ne (by omega), upd_ne (by omega), upd_ne (by omega), upd_at]
  have hcp : ∀ a x, a < F → x ≤ 8 → gJudge b (gLast (cpl (t - F)) w) (cpl (t - a) + x) = w (cpl (t - a) + x) := fun a x ha hx => hi _ (by unfold cpl; omega) (by unfold cpl; omega)
  have hnum : w (cpl (t - F) + 1) = nI (g - 1 - F) := b4.2.2.1 F (by omega)
  refine ⟨?_, ?_, F3a, ⟨?_, ?_, ?_, ?_⟩, ?_, ?_, ?_, ?_⟩
  · intro i k j c
    rcases c with ⟨rfl, rfl, rfl⟩ | ⟨rfl, rfl, rfl⟩ | ⟨rfl, rfl, rfl⟩ | ⟨rfl, rfl, rfl⟩ | ⟨rfl, rfl, rfl⟩ | ⟨rfl, rfl, rfl⟩ | ⟨rfl, rfl, rfl⟩ | ⟨rfl, q, rfl⟩ | ⟨rfl, q, rfl⟩ | ⟨rfl, q, rfl⟩ | ⟨rfl, q, rfl⟩ | ⟨z, rfl, rfl, rfl⟩ | ⟨z, rfl, rfl, rfl⟩ | ⟨z, rfl, q, rfl⟩ | ⟨a, ha, rfl, rfl, rfl⟩ | ⟨a, ha, rfl, rfl, rfl⟩ | ⟨a, ha, rfl, rfl, rfl⟩ | ⟨a, e, ha, he, hf, rfl, rfl, rfl⟩
    · rw [lo _ (by omega) (by omega) (by omega) (by omega)]; exact (F2 8 (by omega) (by omega)).trans (b1 _ _ _ co_runs)
    · rw [lo _ (by omega) (by omega) (by omega) (by omega)]; exact (F2 9 (by omega) (by omega)).trans (b1 _ _ _ co_ahead)
    · rw [lo _ (by omega) (by omega) (by omega) (by omega)]; exact (F2 10 (by omega) (by omega)).trans (b1 _ _ _ co_ticks)
    · rw [lo _ (by omega) (by omega) (by omega) (by omega), F3]; exact b1 _ _ _ co_begun
    · rw [w7]; exact F2a.trans (by rw [show M p 11 = w 7 from b1 _ _ _ co_good])
    · rw [w8]; exact F2b.trans (by rw [show M p 12 = w 8 from b1 _ _ _ co_waste])
    · rw [lo _ (by omega) (by omega) (by omega) (by omega)]; exact (F2 13 (by omega) (by omega)).trans (b1 _ _ _ co_spl)
    · rw [lo _ (by omega) (by omega) (by omega) (by omega), F1 _ _ (by omega) (by omega) (by omega)]; exact b1 _ _ _ (co_off q)
    · rw [lo _ (by omega) (by omega) (by omega) (by omega), F1 _ _ (by omega) (by omega) (by omega)]; exact b1 _ _ _ (co_shift q)
    · rw [lo _ (by omega) (by omega) (by omega) (by omega), F1 _ _ (by omega) (by omega) (by omega)]; exact b1 _ _ _ (co_wait q)
    · rw [lo _ (by omega) (by omega) (by omega) (by omega), F1 _ _ (by omega) (by omega) (by omega)]; exact b1 _ _ _ (co_pass q)
    · rw [w55, F3d]
    · rw [w56, F3e]
    · rw [w57 _ q, F4 _ q]
      exact b1 _ _ _ (co_err (by omega) q (fun z1 z2 => by have := (v5 k z2).1; rw [hF]; unfold PF; omega))
    · rw [F1 _ _ (by omega) (by omega) (by omega)]; exact (b1 _ _ _ (co_str (by omega))).trans (hcp a 2 ha (by omega)).symm
    · rw [F1 _ _ (by omega) (by omega) (by omega)]; exact (b1 _ _ _ (co_isp (by omega))).trans (hcp a 3 ha (by omega)).symm
    · rw [F1 _ _ (by omega) (by omega) (by omega)]; exact (b1 _ _ _ (co_sum (by omega))).trans (hcp a 4 ha (by omega)).symm
    · have h9 := hcp a (5 + e) ha (by omega)
      rw [← Nat.add_assoc] at h9
      rw [F1 _ _ (by omega) (by omega) (by omega)]; exact (b1 _ _ _ (co_err (by omega) he hf)).trans h9.symm
  · rw [F2 5 (by omega) (by omega), lo 1 (by omega) (by omega) (by omega) (by omega)]; exact b2
  · intro a ha
    exact (hcp a 0 ha (by omega)).trans (b4.1 a (by omega))
  · intro s hs hq
    by_cases z : (t - F) % 32 = s
    · rw [← z]; exact w0
    · rw [hi _ (by omega) (by unfold cpl; omega)]
      refine b4.2.1 s hs (fun a ha => ?_)
      rcases Nat.lt_or_ge a F with z2 | z2
      · exact hq a z2
      · rw [show a = F by omega]; exact z
  · intro a ha
    exact (hcp a 1 ha (by omega)).trans (b4.2.2.1 a (by omega))
  · intro a ha
    rw [hcp a 3 ha (by omega)]; exact b4.2.2.2 a (by omega)
  · intro c e hc' he hz
    rw [F1 _ _ (by omega) (by omega) (by omega)]; exact b5 c e hc' he hz
  · refine ⟨fun z => absurd trivial z, fun _ => ?_⟩
    rw [w54, hnum, nI_1, F3b, F3c]
    refine ⟨fun z => ?_, rfl, ?_⟩
    · rw [eq_z (by omega)] at z; omega
    · exact (nI_pred _).symm
  · unfold Pb
    rw [F3b, F3d, F3e, F2 8 (by omega) (by omega), F2 9 (by omega) (by omega)]
    exact ⟨isB1, b4.2.2.2 F (by omega), hb, b7.2.2.2⟩
  · exact ⟨by rw [lo 5 (by omega) (by omega) (by omega) (by omega)]; exact n1, by rw [lo 6 (by omega) (by omega) (by omega) (by omega)]; exact n2, n3, by omega, n5, n6, by omega, by rw [lo 0 (by omega) (by omega) (by omega) (by omega)]; exact n8, by rw [lo 4 (by omega) (by omega) (by omega) (by omega)]; exact n9⟩
end C3
