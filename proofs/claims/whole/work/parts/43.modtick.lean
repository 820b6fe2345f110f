section MT
variable {P : PlanT} {M : Mem} {w : Row} {t k : Nat}
theorem m_judge {K : Int32 → Mem → Prop} {b : Int32} (hb : isB b) (h : K 1 (sr M (gJudge b w))) : wp_X7_isSeen_142 K b (sr M w) := by
  rcases hb with rfl | rfl
  · refine ⟨fun _ => ?_, fun c => absurd rfl c⟩
    rintro M14 rfl
    refine ⟨fun _ => ?_, fun c => absurd rfl c⟩
    rintro M16 rfl
    refine ⟨fun _ => ?_, fun c => absurd rfl c⟩
    rintro M18 rfl
    simp only [mw_sr, sr_131]
    have e : upd (upd w 56 0) 7 (upd w 56 0 7 + 0) 8 = w 8 := by rw [upd_ne (by decide), upd_ne (by decide)]
    have e2 : upd w 56 (0 : Int32) 7 = w 7 := upd_ne (by decide)
    rw [e, e2]
    unfold gJudge at h
    rw [show (1 : Int32) - 0 = 1 from by decide] at h
    exact h
  · refine ⟨fun c => absurd c (by decide), fun c => ?_⟩
    rintro M14 rfl
    refine ⟨fun c => absurd c (by decide), fun _ => ?_⟩
    rintro M16 rfl
    refine ⟨fun c => absurd c (by decide), fun _ => ?_⟩
    rintro M18 rfl
    simp only [mw_sr, sr_131]
    have e : upd (upd w 56 1) 7 (upd w 56 1 7 + 1) 8 = w 8 := by rw [upd_ne (by decide), upd_ne (by decide)]
    have e2 : upd w 56 (1 : Int32) 7 = w 7 := upd_ne (by decide)
    rw [e, e2]
    unfold gJudge at h
    rw [show (1 : Int32) - 1 = 0 from by decide] at h
    exact h
theorem m_seen84 {K : Int32 → Mem → Prop} {q : Nat} (hP : MP P M) (hv : PV P) (hq1 : 61 ≤ q) (hq2 : q + 8 < 349)
    (h : K 1 (sr M (gJudge (if gLast q w 55 = 0 ∧ gWorst (gLast q w) (Pu P - 1) 1 0 ≤ Plm P then 1 else 0) (gLast q w)))) :
    L_X7_isSeen_84 K 5 (nI q) 0 (sr M (upd (upd (upd w q 0) 54 (w (q + 1) + 1)) 55 (w (q + 3)))) := by
  have step : ∀ (k x : Nat) (w2 : Row) (v : Int32), x < 4 → w2 (q + 5 + x) = v → L_X7_isSeen_84 K k (nI q) (nI (x + 1)) (sr M (upd w2 (57 + x) v)) → L_X7_isSeen_84 K (k + 1) (nI q) (nI x) (sr M w2) := by
    intro k x w2 v hx hv2 hh
    have i5 := ixc (c := 5) 5 (k := q) (i := x) (z := 349) rfl (by omega) (by decide)
    have i7 := ixa (c := 57) 57 (k := x) (z := 349) rfl (by omega) (by decide)
    refine ⟨fun c => ?_, fun c => ⟨i5.1, i7.1, ?_⟩⟩
    · rw [lleN (by decide) (by omega)] at c
      have : 4 ≤ x := c
      omega
    · rintro M12 rfl
      rw [sr_131, mw_sr, i5.2, i7.2, nI_1, hv2]
      exact hh
  refine step 4 0 _ (w (q + 5)) (by decide) (by rw [upd_ne (by omega), upd_ne (by omega), upd_ne (by omega)]) ?_
  refine step 3 1 _ (w (q + 6)) (by decide) (by rw [upd_ne (by omega), upd_ne (by omega), upd_ne (by omega), upd_ne (by omega)]) ?_
  refine step 2 2 _ (w (q + 7)) (by decide) (by rw [upd_ne (by omega), upd_ne (by omega), upd_ne (by omega), upd_ne (by omega), upd_ne (by omega)]) ?_
  refine step 1 3 _ (w (q + 8)) (by decide) (by rw [upd_ne (by omega), upd_ne (by omega), upd_ne (by omega), upd_ne (by omega), upd_ne (by omega), upd_ne (by omega)]) ?_
  show L_X7_isSeen_84 K 1 (nI q) (nI 4) (sr M (gLast q w))
  generalize gLast q w = w4 at *
  refine ⟨fun _ => ?_, fun c => absurd (Int32.le_refl _) c⟩
  refine ⟨fun c => ?_, fun c => ?_⟩
  · rw [sr_131] at c
    rw [if_neg (fun z => c z.1)] at h
    exact m_judge isB0 h
  · rw [sr_131] at c
    refine m_worst hP hv ⟨fun c2 => ?_, fun c2 => ?_⟩
    · rw [sr_ne (c := 142) (by decide), hP.2.2.2.2.2.1] at c2
      rw [if_neg (fun z => by have := z.2; rw [← Int32.not_lt] at this; exact this c2)] at h
      exact m_judge isB0 h
    · rw [sr_ne (c := 142) (by decide), hP.2.2.2.2.2.1, Int32.not_lt] at c2
      rw [if_pos ⟨c, c2⟩] at h
      exact m_judge isB1 h
theorem m_seen {K : Int32 → Mem → Prop} (hP : MP P M) (hv : PV P) (ht : w 5 = nI t) (htb : t < 2 ^ 29)
    (h0 : ¬ (PF P < t ∧ w (cpl (t - PF P)) = 1) → K 0 (sr M w)) (h1 : PF P < t ∧ w (cpl (t - PF P)) = 1 → K 1 (sr M (gSeen P t w))) : wp_X7_isSeen (sr M w) K := by
  have hv0 := hv
  obtain ⟨v1, v2, v3, v4, v5, v6, v7, v8, -⟩ := hv
  have h2 := (hP.2.2.1 (Pu P - 1) (by omega)).2
  have e1 : (sr M w 131 5 - sr M w 139 (ix (sr M w 130 10 - 1)) - sr M w 142 0) = nI t - nI (PF P) := by
    rw [sr_131, sr_ne (c := 130) (by decide), sr_ne (c := 139) (by decide), sr_ne (c := 142) (by decide), hP.1, show nI (Pu P) - 1 = nI (Pu P - 1) from pk_sub v1, ix_nI (by omega), h2, hP.2.2.2.2.1, ht, dif2]; rfl
  have hF : PF P ≤ 27 := by unfold PF; omega
  unfold wp_X7_isSeen
  rw [e1]
  refine ⟨?_, m_isThere (by omega) (by omega) ⟨fun c => ?_, fun c => ?_⟩⟩
  · rw [sr_ne (c := 130) (by decide), hP.1, show nI (Pu P) - 1 = nI (Pu P - 1) from pk_sub v1]; exact vin (by omega) (by decide)
  · by_cases hc : PF P < t ∧ w (cpl (t - PF P)) = 1
    · rw [pk_sub (by omega)]
      refine m_copyPlace (by omega) ?_
      have b1 := cpl_lt (t - PF P)
      have b2 := cpl_ge (t - PF P)
      have h1 := h1 hc
      unfold gSeen at h1
      generalize cpl (t - PF P) = q at *
      have j0 := ixb (c := 0) 0 (k := q) (z := 349) rfl (by omega) (by decide)
      have j1 := ixb (c := 1) 1 (k := q) (z := 349) rfl (by omega) (by decide)
      have j3 := ixb (c := 3) 3 (k := q) (z := 349) rfl (by omega) (by decide)
      refine ⟨j0.1, ?_⟩
      rintro M4 rfl
      refine ⟨j1.1, ?_⟩
      rintro M5 rfl
      refine ⟨j3.1, ?_⟩
      rintro M6 rfl
      simp only [mw_sr, sr_131, j0.2, j1.2, j3.2]
      have r1 : upd w (q + 0) 0 (q + 1) = w (q + 1) := upd_ne (by omega)
      have r3 : upd (upd w (q + 0) 0) 54 (w (q + 1) + 1) (q + 3) = w (q + 3) := by rw [upd_ne (by omega), upd_ne (by omega)]
      rw [r1, r3]
      exact ⟨5, m_seen84 hP hv0 b2 b1 h1⟩
    · rw [if_neg hc] at c; exact absurd rfl c
  · by_cases hc : PF P < t ∧ w (cpl (t - PF P)) = 1
    · rw [if_pos hc] at c; exact absurd c (by decide)
    · exact h0 hc
theorem m_brk40 {X9 : Int32 → Mem → Prop} {K : Mem → Prop} {q s : Nat} (hq : q + 8 < 349) : ∀ (n x : Nat) (w : Row), x + n = 9 → X9 (nI (s + 1)) (sr M (fun j => if q + x ≤ j ∧ j < q + 9 then 0 else w j)) → L_X7_breaks_40 X9 K (n + 1) (nI s) (nI q) (nI x) (sr M w) := by
  intro n
  induction n with
  | zero =>
    intro x w hx h
    have e : (fun j => if q + x ≤ j ∧ j < q + 9 then 0 else w j) = w := by funext j; rw [if_neg (by omega)]
    rw [e, ← nI_1] at h
    refine ⟨fun _ => h, fun c => absurd ?_ c⟩
    rw [lleN (by decide) (by omega)]
    show 9 ≤ x
    omega
  | succ n ih =>
    intro x w hx h
    refine ⟨fun c => ?_, fun c => ⟨?_, ?_⟩⟩
    · rw [lleN (by decide) (by omega)] at c
      have : 9 ≤ x := c
      omega
    · rw [nI_add]; exact vin (by omega) (by decide)
    · rintro M11 rfl
      rw [nI_add, ix_nI (by omega), mw_sr, nI_1]
      refine ih (x + 1) _ (by omega) ?_
      have e : (fun j => if q + (x + 1) ≤ j ∧ j < q + 9 then 0 else upd w (q + x) 0 j) = (fun j => if q + x ≤ j ∧ j < q + 9 then 0 else w j) := by
        funext j
        by_cases h1 : j = q + x
        · subst h1; rw [if_neg (by omega), if_pos (by omega), upd_at]
        · rw [upd_ne h1]
          by_cases h2 : q + x ≤ j ∧ j < q + 9
          · rw [if_pos h2, if_pos (by omega)]
          · rw [if_neg h2, if_neg (by omega)]
      rw [e]; exact h
theorem m_brk70 {K : Mem → Prop} : ∀ (n x : Nat) (w : Row), x + n = 54 → K (sr M (fun j => if x ≤ j ∧ j < 54 then 0 else w j)) → L_X7_breaks_70 K (n + 1) (nI x) (sr M w) := by
  intro n
  induction n with
  | zero =>
    intro x w hx h
    have e : (fun j => if x ≤ j ∧ j < 54 then 0 else w j) = w := by funext j; rw [if_neg (by omega)]
    rw [e] at h
    refine ⟨fun _ => h, fun c => absurd ?_ c⟩
    rw [lleN (by decide) (by omega)]
    show 54 ≤ x
    omega
  | succ n ih =>
    intro x w hx h
    refine ⟨fun c => ?_, fun c => ⟨vin (by omega) (by decide), ?_⟩⟩
    · rw [lleN (by decide) (by omega)] at c
      have : 54 ≤ x := c
      omega
    · rintro M9 rfl
      rw [ix_nI (by omega), mw_sr, nI_1]
      refine ih (x + 1) _ (by omega) ?_
      have e : (fun j => if (x + 1) ≤ j ∧ j < 54 then 0 else upd w x 0 j) = (fun j => if x ≤ j ∧ j < 54 then 0 else w j) := by
        funext j
        by_cases h1 : j = x
        · subst h1; rw [if_neg (by omega), if_pos (by omega), upd_at]
        · rw [upd_ne h1]
          by_cases h2 : x ≤ j ∧ j < 54
          · rw [if_pos h2, if_pos (by omega)]
          · rw [if_neg h2, if_neg (by omega)]
      rw [e]; exact h
def gBk (s : Nat) (w : Row) : Row := fun j => if j = 8 then w 8 + gSum w s else if 61 ≤ j ∧ j < 61 + 9 * s then 0 else w j
theorem m_brk9 {K : Mem → Prop} (w : Row) (h : ∃ f, L_X7_breaks_70 K f 22 (sr M (gBk 32 w))) : ∀ (n s : Nat), s + n = 32 → L_X7_breaks_9 K (n + 1) (nI s) (sr M (gBk s w)) := by
  intro n
  induction n with
  | zero =>
    intro s hs
    have : s = 32 := by omega
    subst this
    exact ⟨fun _ => h, fun c => absurd (Int32.le_refl _) c⟩
  | succ n ih =>
    intro s hs
    refine ⟨fun c => ?_, fun c => ?_⟩
    · rw [lleN (by decide) (by omega)] at c
      have : 32 ≤ s := c
      omega
    · refine m_copyPlace (by omega) ?_
      have hc : cpl s = 61 + 9 * s := by unfold cpl; rw [Nat.mod_eq_of_lt (by omega)]
      rw [hc]
      have j0 := ixb (c := 0) 0 (k := 61 + 9 * s) (z := 349) rfl (by omega) (by decide)
      refine ⟨j0.1, ?_⟩
      rintro M6 rfl
      rw [j0.2, sr_131, mw_sr]
      refine ⟨10, m_brk40 (by omega) 9 0 _ rfl ?_⟩
      have go := ih (s + 1) (by omega)
      have e : (fun j => if 61 + 9 * s + 0 ≤ j ∧ j < 61 + 9 * s + 9 then 0 else upd (gBk s w) 8 (gBk s w 8 + gBk s w (61 + 9 * s + 0)) j) = gBk (s + 1) w := by
        funext j
        have r1 : gBk s w 8 = w 8 + gSum w s := rfl
        have r2 : gBk s w (61 + 9 * s + 0) = w (61 + 9 * s) := by unfold gBk; rw [if_neg (by omega), if_neg (by omega)]; rfl
        rw [r1, r2]
        by_cases h8 : j = 8
        · subst h8
          rw [if_neg (by omega), upd_at]
          show _ = w 8 + (gSum w s + w (61 + 9 * s))
          rw [Int32.add_assoc]
        · rw [upd_ne h8]
          unfold gBk
          rw [if_neg h8, if_neg h8]
          by_cases h2 : 61 ≤ j ∧ j < 61 + 9 * (s + 1)
          · rw [if_pos h2]
            by_cases h3 : 61 + 9 * s + 0 ≤ j ∧ j < 61 + 9 * s + 9
            · rw [if_pos h3]
            · rw [if_neg h3, if_pos (by omega)]
          · rw [if_neg h2, if_neg (by omega), if_neg (by omega)]
      rw [e]
      exact go
theorem gSum_upd {w : Row} {v : Int32} : ∀ n, gSum (upd w 0 v) n = gSum w n
  | 0 => rfl
  | n + 1 => by show gSum (upd w 0 v) n + upd w 0 v (61 + 9 * n) = _; rw [gSum_upd n, upd_ne (by omega)]; rfl
theorem m_breaks {K : Mem → Prop} (h : K (sr M (gBreak w))) : wp_X7_breaks (sr M w) K := by
  rintro M1 rfl
  rw [mw_sr]
  refine ⟨33, ?_⟩
  have e0 : gBk 0 (upd w 0 0) = upd w 0 0 := by
    funext j; unfold gBk
    by_cases h8 : j = 8
    · subst h8; rw [if_pos rfl]; show _ + (0 : Int32) = _; rw [Int32.add_zero]
    · rw [if_neg h8, if_neg (by omega)]
  have go := m_brk9 (M := M) (K := K) (upd w 0 0) ⟨33, m_brk70 32 22 _ rfl ?_⟩ 32 0 rfl
  · rw [e0] at go; exact go
  · have e : (fun j => if 22 ≤ j ∧ j < 54 then 0 else gBk 32 (upd w 0 0) j) = gBreak w := by
      funext j
      unfold gBk gBreak
      rw [gSum_upd]
      by_cases h0 : j = 0
      · subst h0; rw [if_neg (by omega), if_neg (by omega), if_neg (by omega), if_pos rfl, upd_at]
      · rw [if_neg h0]
        by_cases h8 : j = 8
        · subst h8; rw [if_neg (by omega), if_pos rfl, if_pos rfl, upd_ne (by decide)]
        · rw [if_neg h8, if_neg h8, upd_ne h0]
          by_cases h1 : 22 ≤ j ∧ j < 54
          · rw [if_pos h1, if_pos (Or.inl h1)]
          · rw [if_neg h1]
            by_cases h2 : 61 ≤ j ∧ j < 349
            · rw [if_pos (by omega), if_pos (Or.inr h2)]
            · rw [if_neg (by omega), if_neg (by omega)]
    rw [e]; exact h
end MT
