section C6
variable {P : PlanT} {M : Mem} {p q : Nat} {w : Row} {T t g U k : Nat} {f f' : Nat → Nat} {hc : Prop}
/-- Arrays.fill -/
def mfl (M : Mem) (a z : Nat) (v : Int32) : Mem := fun b j => if b = a ∧ j < z then v else M b j
theorem mfl_ne {a z b : Nat} {v : Int32} (h : b ≠ a) : mfl M a z v b = M b := by funext j; simp [mfl, h]
theorem mfl_at {a z j : Nat} {v : Int32} (h : j < z) : mfl M a z v a j = v := by simp [mfl, h]
theorem c_fillL {K : Mem → Prop} {a z : Nat} {v : Int32} (hz : z < 2 ^ 30) : ∀ (n k : Nat) (M : Mem), k + n = z → K (fun b j => if b = a ∧ k ≤ j ∧ j < z then v else M b j) → L_J7_fill_53178_5 a z K (n + 1) v (nI k) (nI z) M := by
  intro n
  induction n with
  | zero =>
    intro k M hk h
    have e : (fun b j => if b = a ∧ k ≤ j ∧ j < z then v else M b j) = M := by funext b j; rw [if_neg (by omega)]
    rw [e] at h
    refine ⟨fun _ => h, fun c => absurd ?_ c⟩
    rw [le_nI (by omega) (by omega)]; omega
  | succ n ih =>
    intro k M hk h
    refine ⟨fun c => ?_, fun c => ⟨vin (by omega) (by omega), ?_⟩⟩
    · rw [le_nI (by omega) (by omega)] at c; omega
    · rintro M3 rfl
      rw [ix_nI (by omega), nI_1]
      refine ih (k + 1) _ (by omega) ?_
      have e : (fun b j => if b = a ∧ k + 1 ≤ j ∧ j < z then v else mw M a k v b j) = (fun b j => if b = a ∧ k ≤ j ∧ j < z then v else M b j) := by
        funext b j
        by_cases h1 : b = a ∧ k ≤ j ∧ j < z
        · rw [if_pos h1]
          by_cases h2 : j = k
          · rw [if_neg (by omega), h1.1, h2, mw_at]
          · rw [if_pos (by omega)]
        · rw [if_neg h1, if_neg (by omega)]
          simp only [mw]
          rw [if_neg (by omega)]
      rw [e]; exact h
theorem c_fill {K : Mem → Prop} {a z : Nat} {v : Int32} (hz : z < 2 ^ 30) (h : K (mfl M a z v)) : wp_J7_fill_53178 a z v M K := by
  refine ⟨z + 1, c_fillL hz z 0 M (by omega) ?_⟩
  have e : (fun b j => if b = a ∧ 0 ≤ j ∧ j < z then v else M b j) = mfl M a z v := by
    funext b j
    unfold mfl
    by_cases h1 : b = a ∧ j < z
    · rw [if_pos h1, if_pos ⟨h1.1, by omega, h1.2⟩]
    · rw [if_neg h1, if_neg (by omega)]
  rw [e]; exact h
/-! how many copies are under way, by the flags -/
def cnt (t : Nat) : Nat → Nat → Nat
  | 0, _ => 0
  | U + 1, n => cnt t U n + if (t - U) % 32 < n then 1 else 0
theorem cnt_no {n : Nat} : ∀ U, (∀ a, a < U → (t - a) % 32 ≠ n) → cnt t U (n + 1) = cnt t U n
  | 0, _ => rfl
  | U + 1, h => by
    show cnt t U (n + 1) + (if (t - U) % 32 < n + 1 then 1 else 0) = cnt t U n + (if (t - U) % 32 < n then 1 else 0)
    rw [cnt_no U (fun a ha => h a (by omega))]
    have := h U (by omega)
    by_cases z : (t - U) % 32 < n
    · rw [if_pos z, if_pos (by omega)]
    · rw [if_neg z, if_neg (by omega)]
theorem cnt_yes {n a0 : Nat} : ∀ U, U ≤ 32 → U ≤ t + 1 → a0 < U → (t - a0) % 32 = n → cnt t U (n + 1) = cnt t U n + 1
  | 0, _, _, h, _ => by omega
  | U + 1, h1, h2, h3, h4 => by
    show cnt t U (n + 1) + (if (t - U) % 32 < n + 1 then 1 else 0) = cnt t U n + (if (t - U) % 32 < n then 1 else 0) + 1
    by_cases e : a0 = U
    · subst e
      rw [cnt_no a0 (fun a ha => by omega), if_pos (by omega), if_neg (by omega)]
    · rw [cnt_yes U (by omega) (by omega) (by omega) h4]
      by_cases z : (t - U) % 32 < n
      · rw [if_pos z, if_pos (by omega)]
      · rw [if_neg z, if_neg (by omega)]
theorem cnt_all : ∀ U, cnt t U 32 = U
  | 0 => rfl
  | U + 1 => by show cnt t U 32 + (if (t - U) % 32 < 32 then 1 else 0) = U + 1; rw [cnt_all U, if_pos (by omega)]
theorem cnt_0 : ∀ U, cnt t U 0 = 0
  | 0 => rfl
  | U + 1 => by show cnt t U 0 + (if (t - U) % 32 < 0 then 1 else 0) = 0; rw [cnt_0 U, if_neg (by omega)]
theorem gSum_cnt (h : Pc w t g U) (hU : U ≤ 32) (hg : U ≤ t) : ∀ n, n ≤ 32 → gSum w n = nI (cnt t U n)
  | 0, _ => by rw [cnt_0]; rfl
  | n + 1, hn => by
    show gSum w n + w (61 + 9 * n) = _
    rw [gSum_cnt h hU hg n (by omega)]
    by_cases z : ∃ a, a < U ∧ (t - a) % 32 = n
    · obtain ⟨a, ha, e⟩ := z
      have e1 : w (61 + 9 * n) = 1 := by rw [← e]; exact h.1 a ha
      rw [e1, nI_1, cnt_yes U hU (by omega) ha e]
    · have z2 : ∀ a, a < U → (t - a) % 32 ≠ n := fun a ha e => z ⟨a, ha, e⟩
      rw [h.2.1 n (by omega) z2, cnt_no U z2, Int32.add_zero]
theorem gSum_U (h : Pc w t g U) (hU : U ≤ 32) (hg : U ≤ t) : gSum w 32 = nI U := by rw [gSum_cnt h hU hg 32 (by decide), cnt_all]
/-- a Press as it stands between two ticks -/
def PS (P : PlanT) (M : Mem) (p : Nat) (w : Row) : Prop := ∃ t g U hc, PR P M p w t t g U (Pwy P) hc ∧ U ≤ PF P
theorem PR_break {x12 : Int32} (h : PR P M p w T t g U f hc) (e12 : x12 = M p 12 + nI U) : PR P (mfl (mw (mw (mw M p 8 0) p 12 x12) (p + 5) 5 0) (p + 4) 32 0) p (gBreak w) T T g 0 (Pwy P) hc := by
  obtain ⟨b1, b2, b3, b4, b5, b6, b7, b8⟩ := h
  obtain ⟨n1, n2, n3, n4, n5, n6, n7, n8, n9⟩ := b8
  have hs := gSum_U b4 (by omega) (by omega)
  have e0 : ∀ x j, x ≠ p → x ≠ p + 5 → x ≠ p + 4 → mfl (mw (mw (mw M p 8 0) p 12 x12) (p + 5) 5 0) (p + 4) 32 0 x j = M x j := fun x j h1 h2 h3 => by rw [mfl_ne h3, mw_ne h2, mw_ne h1, mw_ne h1]
  have ep : ∀ j, j ≠ 8 → j ≠ 12 → mfl (mw (mw (mw M p 8 0) p 12 x12) (p + 5) 5 0) (p + 4) 32 0 p j = M p j := fun j h1 h2 => by rw [mfl_ne (by omega), mw_ne (by omega), mw_k h2, mw_k h1]
  have e5 : ∀ j, j ≠ 5 → mfl (mw (mw (mw M p 8 0) p 12 x12) (p + 5) 5 0) (p + 4) 32 0 (p + 5) j = M (p + 5) j := fun j h1 => by rw [mfl_ne (by omega), mw_k h1, mw_ne (by omega), mw_ne (by omega)]
  have lo : ∀ j, j ≠ 0 → j ≠ 8 → (j < 22 ∨ (54 ≤ j ∧ j < 61)) → gBreak w j = w j := fun j h1 h2 h3 => by unfold gBreak; rw [if_neg h1, if_neg h2, if_neg (by omega)]
  have z0 : ∀ j, 61 ≤ j → j < 349 → gBreak w j = 0 := fun j h1 h2 => by unfold gBreak; rw [if_neg (by omega), if_neg (by omega), if_pos (by omega)]
  refine ⟨?_, ?_, ?_, ⟨fun a ha => by omega, fun s hs' _ => z0 _ (by omega) (by omega), fun a ha => by omega, fun a ha => by omega⟩, ?_, ?_, ?_, ?_⟩
  · intro i k j c
    rcases c with ⟨rfl, rfl, rfl⟩ | ⟨rfl, rfl, rfl⟩ | ⟨rfl, rfl, rfl⟩ | ⟨rfl, rfl, rfl⟩ | ⟨rfl, rfl, rfl⟩ | ⟨rfl, rfl, rfl⟩ | ⟨rfl, rfl, rfl⟩ | ⟨rfl, q, rfl⟩ | ⟨rfl, q, rfl⟩ | ⟨rfl, q, rfl⟩ | ⟨rfl, q, rfl⟩ | ⟨z, rfl, rfl, rfl⟩ | ⟨z, rfl, rfl, rfl⟩ | ⟨z, rfl, q, rfl⟩ | ⟨a, ha, rfl, rfl, rfl⟩ | ⟨a, ha, rfl, rfl, rfl⟩ | ⟨a, ha, rfl, rfl, rfl⟩ | ⟨a, e, ha, he, hf, rfl, rfl, rfl⟩
    · show mfl _ (p + 4) 32 0 p 8 = _
      rw [mfl_ne (by omega), mw_ne (by omega), mw_k (by decide), mw_at]; rfl
    · rw [lo _ (by omega) (by omega) (by omega)]; exact (ep 9 (by omega) (by omega)).trans (b1 _ _ _ co_ahead)
    · rw [lo _ (by omega) (by omega) (by omega)]; exact (ep 10 (by omega) (by omega)).trans (b1 _ _ _ co_ticks)
    · rw [lo _ (by omega) (by omega) (by omega), e5 _ (by decide)]; exact b1 _ _ _ co_begun
    · rw [lo _ (by omega) (by omega) (by omega)]; exact (ep 11 (by omega) (by omega)).trans (b1 _ _ _ co_good)
    · show mfl _ (p + 4) 32 0 p 12 = _
      rw [mfl_ne (by omega), mw_ne (by omega), mw_at, e12]
      show _ = w 8 + gSum w 32
      rw [hs, show M p 12 = w 8 from b1 _ _ _ co_waste]
    · rw [lo _ (by omega) (by omega) (by omega)]; exact (ep 13 (by omega) (by omega)).trans (b1 _ _ _ co_spl)
    · rw [lo _ (by omega) (by omega) (by omega), e0 _ _ (by omega) (by omega) (by omega)]; exact b1 _ _ _ (co_off q)
    · rw [lo _ (by omega) (by omega) (by omega), e0 _ _ (by omega) (by omega) (by omega)]; exact b1 _ _ _ (co_shift q)
    · rw [lo _ (by omega) (by omega) (by omega), e0 _ _ (by omega) (by omega) (by omega)]; exact b1 _ _ _ (co_wait q)
    · rw [mfl_at q]; unfold gBreak; rw [if_neg (by omega), if_neg (by omega), if_pos (by omega)]
    · rw [lo _ (by omega) (by omega) (by omega), e5 _ (by decide)]; exact b1 _ _ _ (co_csp z)
    · rw [lo _ (by omega) (by omega) (by omega), e5 _ (by decide)]; exact b1 _ _ _ (co_cgd z)
    · rw [lo _ (by omega) (by omega) (by omega), e0 _ _ (by omega) (by omega) (by omega)]; exact b1 _ _ _ (co_cer z q)
    · omega
    · omega
    · omega
    · omega
  · rw [ep 5 (by omega) (by omega), lo 1 (by omega) (by omega) (by omega)]; exact b2
  · rw [mfl_ne (by omega), mw_at]; rfl
  · intro c e h1 h2 h3; rw [e0 _ _ (by omega) (by omega) (by omega)]; exact b5 c e h1 h2 h3
  · unfold Pl at *; rw [e5 _ (by decide), e5 _ (by decide), lo 54 (by omega) (by omega) (by omega)]; exact b6
  · unfold Pb at *
    rw [e5 _ (by decide), e5 _ (by decide), e5 _ (by decide), ep 9 (by omega) (by omega)]
    refine ⟨b7.1, b7.2.1, b7.2.2.1, ?_, b7.2.2.2.2⟩
    rw [mfl_ne (by omega), mw_ne (by omega), mw_k (by decide), mw_at]; exact isB0
  · exact ⟨by rw [lo 5 (by omega) (by omega) (by omega)]; exact n1, by rw [lo 6 (by omega) (by omega) (by omega)]; exact n2, n3, by omega, by omega, by omega, by omega, isB0, by rw [lo 4 (by omega) (by omega) (by omega)]; exact n9⟩
theorem c_break {K : Mem → Prop} (h : PR P M p w T t g U f hc) (hK : ∀ M', PR P M' p (gBreak w) T T g 0 (Pwy P) hc → Fr p M M' → Lsp p M M' → K M') : wp_X4_breakOff p M K := by
  rintro M1 rfl
  rintro M2 rfl
  rintro M3 rfl
  rw [show mw M p 8 0 (p + 5) 5 = nI U by rw [mw_ne (by omega)]; exact h.2.2.1, show mw M p 8 0 p 12 = M p 12 from mw_k (by decide)]
  refine c_fill (by decide) (hK _ (PR_break h rfl) ?_ ⟨?_, ?_⟩)
  · intro c hc'; rw [mfl_ne (by omega), mw_ne (by omega), mw_ne (by omega), mw_ne (by omega)]
  · rw [mfl_ne (by omega), mw_ne (by omega), mw_k (by decide), mw_k (by decide)]
  · rw [mfl_ne (by omega), mw_ne (by omega), mw_k (by decide), mw_k (by decide)]
/-! a tick -/
theorem c_138 {K : Int32 → Mem → Prop} {x : Int32} (hx : isB x) (h : PR P M p w t t g U (Pwy P) hc) (e7 : M p 7 = w 3)
    (hK : ∀ M', PR P M' p (gSpin w) t t g U (Pwy P) hc → Fr p M M' → M' p 6 = M p 6 → M' p 7 = gSpin w 3 → K x M') : wp_X4_tick_138 p q K x M := by
  have hs : gSpin w 3 = w 3 + (if w 3 ≤ 0 then 0 else 1) := upd_at _ _ _
  refine ⟨fun z => ⟨hx, ?_⟩, fun z => ?_⟩
  · refine hK M (h.row (Or.inr rfl) _) Fr.rf rfl ?_
    rw [e7] at z
    rw [hs, if_pos z, e7, Int32.add_zero]
  · rintro M20 rfl
    rw [e7] at z
    refine ⟨hx, hK _ ((h.cls (Or.inr rfl) _).row (Or.inr rfl) _) Fr.w0 (mw_k (by decide)) ?_⟩
    rw [mw_at, hs, if_neg z, e7]
theorem gPrints_lo {j : Nat} (hj : j < 10) : ∀ (n k : Nat) (w : Row), k + n ≤ 4 → gPrints P t n k w j = w j
  | 0, _, _, _ => rfl
  | n + 1, k, w, h => by
    show gPrints P t n (k + 1) (gPrint P t k w) j = w j
    rw [gPrints_lo hj n (k + 1) _ (by omega)]
    have b1 := ppl_ge k t
    have b2 := cpl_ge (t - Pwy P k)
    have e : gShift t k w j = w j := by unfold gShift; rw [upd_ne (by omega), upd_ne (by omega)]
    unfold gPrint
    split
    · unfold gErr; rw [upd_ne (by omega), upd_ne (by omega)]; exact e
    · exact e
theorem gSeen_3 : gSeen P t w 3 = w 3 := by
  have b := cpl_ge (t - PF P)
  unfold gSeen gJudge gLast
  rw [upd_ne (by omega), upd_ne (by omega), upd_ne (by omega), upd_ne (by omega), upd_ne (by omega), upd_ne (by omega), upd_ne (by omega), upd_ne (by omega), upd_ne (by omega), upd_ne (by omega)]
theorem gAdjs_lo {j : Nat} (hj : j < 10) : ∀ (n k : Nat) (w : Row), k + n ≤ 4 → gAdjs P t n k w j = w j
  | 0, _, _, _ => rfl
  | n + 1, k, w, h => by
    show gAdjs P t n (k + 1) (gAdj P t k w) j = w j
    rw [gAdjs_lo hj n (k + 1) _ (by omega)]
    have b1 := ppl_ge (k + 1) (t + 1 + Pgp P (k + 1))
    have f : ∀ c, gCorr0 P k c w j = w j := fun c => by unfold gCorr0; rw [upd_ne (by omega), upd_ne (by omega)]
    unfold gAdj
    split
    · split
      · rfl
      · split
        · unfold gCorr
          split
          · rw [upd_ne (by omega), f]
          · rw [f]
        · rfl
    · rw [upd_ne (by omega)]
theorem c_B {K : Int32 → Mem → Prop} {b o : Nat} {lf : Int32} (h : PR P M p w (t + 1) t g U (Pwy P) hc) (hv : PV P) (hP : CP P M q) (hd : q + 5 ≤ p ∨ p + 11 ≤ q) (hU : U ≤ PF P) (hb : b ≤ 1) (ho : o < Prl P) (how : w 1 = nI o) (e7 : M p 7 = w 3)
    (hK : ∀ M', PS P M' p (gB P (t + 1) (nI b) lf w).2 → Fr p M M' → M' p 6 = M p 6 - 1 → M' p 7 = (gB P (t + 1) (nI b) lf w).2 3 → K (gB P (t + 1) (nI b) lf w).1 M') : wp_X4_tick_56 p q K (nI b) M := by
  have hn := h.2.2.2.2.2.2.2
  obtain ⟨n1, n2, n3, n4, n5, n6, n7, n8, n9⟩ := hn
  have hv0 := hv
  obtain ⟨v1, v2, v3, v4, v5, v6, v7, v8, v9, v10, v11⟩ := hv
  have hF : PF P ≤ 27 := by unfold PF; omega
  have hon : M p 5 = nI o := by
    rcases h.2.1 with ⟨z, -, -⟩ | ⟨o2, hl2, z1, z2⟩
    · rw [how] at z
      have : o = 0 ∨ o = 1 ∨ o = 2 ∨ o = 3 ∨ o = 4 ∨ o = 5 ∨ o = 6 ∨ o = 7 := by omega
      rcases this with rfl | rfl | rfl | rfl | rfl | rfl | rfl | rfl <;> exact absurd z (by decide)
    · rw [z2, ← z1, how]
  rintro M9 rfl
  have h9 := h.cls (Or.inl rfl) (M p 6 - 1)
  have f9 : Fr p M (mw M p 6 (M p 6 - 1)) := Fr.w0
  have l9 : mw M p 6 (M p 6 - 1) p 6 = M p 6 - 1 := mw_at _ _ _ _
  have s9 : mw M p 6 (M p 6 - 1) p 7 = M p 7 := mw_k (by decide)
  have o9 : mw M p 6 (M p 6 - 1) p 5 = nI o := by rw [mw_k (by decide)]; exact hon
  generalize mw M p 6 (M p 6 - 1) = M9 at *
  have hP9 := hP.fr f9 hd
  rw [o9]
  refine c_hasReel hP9 hv0 (by omega) ?_
  rw [if_pos ho]
  refine ⟨fun z => absurd z (by decide), fun _ => ?_⟩
  rw [o9]
  have i1 := ixn (k := o) (z := 8) (by omega) (by decide)
  rw [i1.2, (hP9.2.2.2.2.2.2.2 o ho).2]
  refine ⟨i1.1, ?_⟩
  refine c_begin h9 hb (by omega) (by rw [how, ix_nI (by omega)]) ?_
  intro M12 h12 f12 p12
  have h12b := h12.row (Or.inl rfl) (gBegin P (t + 1) (nI b) w 2 - lf)
  refine c_print hv0 hd (hP9.fr f12 hd) h12b ?_
  intro M13 h13 f13 p13
  have eR : gPrints P (t + 1) (Pu P - 1) 1 (upd (gBegin P (t + 1) (nI b) w) 2 (gBegin P (t + 1) (nI b) w 2 - lf)) = gRun P (t + 1) b.toInt32 lf w := rfl
  rw [show b.toInt32 = nI b from rfl] at eR
  rw [eR] at h13
  have f13' : Fr p M M13 := (f9.tr f12).tr f13
  refine c_ttc (k := 0) ((hP9.fr f12 hd).fr f13 hd) hv0 (by omega) ?_
  have e13 : M13 (p + 5) 5 = nI (U + 1) := h13.2.2.1
  have hthere := there_iff h13.2.2.2.1 h13.2.2.2.2.2.2.2.2.2.2.2.2.2.1 (by omega) (show PF P < 32 by omega)
  rw [e13, v4, Nat.sub_zero, show Pwy P (Pu P - 1) + Pey P = PF P from rfl]
  have w3 : gRun P (t + 1) (nI b) lf w 3 = w 3 := by
    unfold gRun
    rw [gPrints_lo (by decide) _ _ _ (by omega), upd_ne (by decide), gBegin_ne (by decide) (Or.inl (by have := cpl_ge (t + 1); omega))]
  have l13 : M13 p 6 = M p 6 - 1 := by rw [p13, p12]; exact l9
  have s13 : M13 p 7 = w 3 := by rw [p13, p12, s9]; exact e7
  unfold gB at hK
  refine ⟨fun z => ?_, fun z => ?_⟩
  · rw [le_nI (by omega) (by omega)] at z
    rw [if_neg (fun y => by have := hthere.mp y; omega)] at hK
    refine ⟨fun _ => ?_, fun y => absurd rfl y⟩
    refine c_138 isB0 h13 (s13.trans w3.symm) ?_
    intro M' h' f' a' b'
    exact hK M' ⟨t + 1, g + 1, U + 1, hc, h', by omega⟩ (f13'.tr f') (a'.trans l13) b'
  · rw [le_nI (by omega) (by omega)] at z
    have hUF : U = PF P := by omega
    rw [if_pos (hthere.mpr (by omega))] at hK
    refine ⟨fun y => absurd y (by decide), fun _ => ?_⟩
    subst hUF
    refine c_judge h13 hv0 ((hP9.fr f12 hd).fr f13 hd) hd rfl ?_
    intro M17 h17 f17 l17
    refine c_adj hv0 hd (((hP9.fr f12 hd).fr f13 hd).fr f17 hd) h17 ?_
    intro M18 h18 f18 p18
    have w18 : gAdjs P (t + 1) (Pu P - 1) 1 (gSeen P (t + 1) (gRun P (t + 1) (nI b) lf w)) 3 = w 3 := by
      rw [gAdjs_lo (by decide) _ _ _ (by omega), gSeen_3]; exact w3
    refine c_138 isB1 h18 (by rw [w18, p18, l17.2]; exact s13) ?_
    intro M' h' f' a' b'
    exact hK M' ⟨t + 1, g + 1, PF P, True, h', Nat.le_refl _⟩ (((f13'.tr f17).tr f18).tr f') (by rw [a', p18, l17.1]; exact l13) b'
end C6
