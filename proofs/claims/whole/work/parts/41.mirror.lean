/-! the reference's row as a mathematical value, and what its methods do to it -/
abbrev Row : Type := Nat → Int32
/-- units, reels, gaps, ways, copies, stretches, eye, limit, idle, spin -/
abbrev PlanT : Type := Nat × Nat × (Nat → Nat) × (Nat → Nat) × (Nat → Int32) × (Nat → Int32) × Nat × Int32 × Int32 × Int32
def Pu (P : PlanT) : Nat := P.1
def Prl (P : PlanT) : Nat := P.2.1
def Pgp (P : PlanT) : Nat → Nat := P.2.2.1
def Pwy (P : PlanT) : Nat → Nat := P.2.2.2.1
def Pcp (P : PlanT) : Nat → Int32 := P.2.2.2.2.1
def Psx (P : PlanT) : Nat → Int32 := P.2.2.2.2.2.1
def Pey (P : PlanT) : Nat := P.2.2.2.2.2.2.1
def Plm (P : PlanT) : Int32 := P.2.2.2.2.2.2.2.1
def Pid (P : PlanT) : Int32 := P.2.2.2.2.2.2.2.2.1
def Psp (P : PlanT) : Int32 := P.2.2.2.2.2.2.2.2.2
/-- copies between the first unit and the camera -/
def PF (P : PlanT) : Nat := Pwy P (Pu P - 1) + Pey P
def PV (P : PlanT) : Prop := 1 ≤ Pu P ∧ Pu P ≤ 4 ∧ Prl P ≤ 8 ∧ Pwy P 0 = 0 ∧ (∀ k, k < Pu P → Pwy P k ≤ Pwy P (Pu P - 1) ∧ Pgp P k ≤ 6) ∧ Pwy P (Pu P - 1) ≤ 18 ∧ 1 ≤ Pey P ∧ Pey P ≤ 9 ∧ 0 ≤ Plm P ∧ 0 ≤ Pid P ∧ 0 < Psp P
def MP (P : PlanT) (M : Mem) : Prop := M 130 10 = nI (Pu P) ∧ M 130 13 = nI (Prl P) ∧ (∀ k, k < Pu P → M 138 k = nI (Pgp P k) ∧ M 139 k = nI (Pwy P k)) ∧ (∀ r, r < Prl P → M 140 r = Pcp P r ∧ M 141 r = Psx P r) ∧ M 142 0 = nI (Pey P) ∧ M 142 1 = Plm P ∧ M 142 2 = Pid P ∧ M 142 3 = Psp P
def sr (M : Mem) (w : Row) : Mem := fun b j => if b = 131 then w j else M b j
theorem sr_131 (M : Mem) (w : Row) : sr M w 131 = w := by funext j; simp [sr]
theorem sr_ne {M : Mem} {w : Row} {c : Nat} (h : c ≠ 131) : sr M w c = M c := by funext j; simp [sr, h]
theorem mw_sr (M : Mem) (w : Row) (k : Nat) (v : Int32) : mw (sr M w) 131 k v = sr M (upd w k v) := by
  funext b j; by_cases hb : b = 131 <;> simp [mw, sr, upd, hb]
theorem sr_self (M : Mem) : sr M (M 131) = M := by funext b j; by_cases hb : b = 131 <;> simp [sr, hb]
theorem sr_sr (M : Mem) (w w' : Row) : sr (sr M w) w' = sr M w' := by funext b j; by_cases hb : b = 131 <;> simp [sr, hb]
theorem MP_sr {P : PlanT} {M : Mem} {w : Row} (h : MP P M) : MP P (sr M w) := by
  unfold MP at *; simpa [sr] using h
def cpl (t : Nat) : Nat := 61 + 9 * (t % 32)
def ppl (k t : Nat) : Nat := 22 + 8 * k + t % 8
def gsz (v : Int32) : Int32 := if 0 ≤ v then v else -v
def gShift (t k : Nat) (w : Row) : Row := upd (upd w (14 + k) (w (14 + k) + w (ppl k t))) (ppl k t) 0
def gErr (q k : Nat) (w : Row) : Row := upd (upd w (q + 4) (w (q + 4) + w (14 + k))) (q + 5 + k) (w (10 + k) + nI k * w (q + 2) - (w (q + 4) + w (14 + k)))
def gPrint (P : PlanT) (t k : Nat) (w : Row) : Row := if Pwy P k < t ∧ gShift t k w (cpl (t - Pwy P k)) = 1 then gErr (cpl (t - Pwy P k)) k (gShift t k w) else gShift t k w
def gPrints (P : PlanT) (t : Nat) : Nat → Nat → Row → Row
  | 0, _, w => w
  | n + 1, k, w => gPrints P t n (k + 1) (gPrint P t k w)
def gBegin (P : PlanT) (t : Nat) (b : Int32) (w : Row) : Row :=
  upd (upd (upd (upd (upd (upd (upd (upd (upd (upd w (cpl t) 1) (cpl t + 1) (w 6)) (cpl t + 2) (Psx P (ix (w 1)))) (cpl t + 3) b) (cpl t + 4) 0) (cpl t + 5) 0) (cpl t + 6) 0) (cpl t + 7) 0) (cpl t + 8) 0) 6 (w 6 + 1)
def gMx (a b : Int32) : Int32 := if b ≤ a then a else b
def gWorst (w : Row) : Nat → Nat → Int32 → Int32
  | 0, _, m => m
  | n + 1, k, m => gWorst w n (k + 1) (gMx m (gsz (w (57 + k))))
def gLast (q : Nat) (w : Row) : Row :=
  upd (upd (upd (upd (upd (upd (upd w q 0) 54 (w (q + 1) + 1)) 55 (w (q + 3))) 57 (w (q + 5))) 58 (w (q + 6))) 59 (w (q + 7))) 60 (w (q + 8))
def gGood (P : PlanT) (w : Row) : Prop := w 55 = 0 ∧ gWorst w (Pu P - 1) 1 0 ≤ Plm P
def gJudge (b : Int32) (w : Row) : Row := upd (upd (upd w 56 b) 7 (w 7 + b)) 8 (w 8 + (1 - b))
def gSeen (P : PlanT) (t : Nat) (w : Row) : Row :=
  gJudge (if gLast (cpl (t - PF P)) w 55 = 0 ∧ gWorst (gLast (cpl (t - PF P)) w) (Pu P - 1) 1 0 ≤ Plm P then 1 else 0) (gLast (cpl (t - PF P)) w)
def gCorr0 (P : PlanT) (k : Nat) (c : Int32) (w : Row) : Row := upd (upd w (14 + k) (w (14 + k) + c)) (18 + k) (nI (Pwy P (Pu P - 1) - Pwy P k + Pey P))
def gCorr (P : PlanT) (t k : Nat) (c : Int32) (w : Row) : Row :=
  if w 4 = 1 ∧ k + 1 < Pu P then upd (gCorr0 P k c w) (ppl (k + 1) (t + 1 + Pgp P (k + 1))) (gCorr0 P k c w (ppl (k + 1) (t + 1 + Pgp P (k + 1))) - c) else gCorr0 P k c w
def gAdj (P : PlanT) (t k : Nat) (w : Row) : Row :=
  if w (18 + k) ≤ 0 then (if gsz (w (57 + k)) ≤ Pid P then w else if w 55 = 0 then gCorr P t k (w (57 + k)) w else w) else upd w (18 + k) (w (18 + k) - 1)
def gAdjs (P : PlanT) (t : Nat) : Nat → Nat → Row → Row
  | 0, _, w => w
  | n + 1, k, w => gAdjs P t n (k + 1) (gAdj P t k w)
def gSpin (w : Row) : Row := upd w 3 (w 3 + (if w 3 ≤ 0 then 0 else 1))
def gCame (P : PlanT) (t : Nat) (w : Row) : Prop := PF P < t ∧ w (cpl (t - PF P)) = 1
def gRun (P : PlanT) (t : Nat) (b lf : Int32) (w : Row) : Row := gPrints P t (Pu P - 1) 1 (upd (gBegin P t b w) 2 (gBegin P t b w 2 - lf))
def gB (P : PlanT) (t : Nat) (b lf : Int32) (w : Row) : Int32 × Row :=
  if PF P < t ∧ gRun P t b lf w (cpl (t - PF P)) = 1 then (1, gSpin (gAdjs P t (Pu P - 1) 1 (gSeen P t (gRun P t b lf w)))) else (0, gSpin (gRun P t b lf w))
def gMount (P : PlanT) (w : Row) : Row := upd (upd (upd w 1 (w 1 + 1)) 2 (Pcp P (ix (w 1 + 1)))) 3 0
def gPaste (P : PlanT) (w : Row) : Row := upd (gMount P w) 9 (w 9 + 1)
def gSum (w : Row) : Nat → Int32
  | 0 => 0
  | n + 1 => gSum w n + w (61 + 9 * n)
def gBreak (w : Row) : Row := fun j => if j = 0 then 0 else if j = 8 then w 8 + gSum w 32 else if (22 ≤ j ∧ j < 54) ∨ (61 ≤ j ∧ j < 349) then 0 else w j
def gNext (P : PlanT) (w : Row) : Int32 := if nI (Prl P) ≤ w 1 + 1 then -9 else w 1 + 1
def gTick (w : Row) : Row := upd w 5 (w 5 + 1)
def gGoes0 (P : PlanT) (w : Row) : Int32 × Row :=
  if gTick w 2 = 0 then (if gNext P (gTick w) = -9 ∨ gTick w 3 ≤ 0 ∨ gTick w 3 < Psp P then (0, gBreak (gTick w)) else gB P (ix (gTick w 5)) 1 1 (gPaste P (gTick w))) else gB P (ix (gTick w 5)) 0 1 (gTick w)
def gGoes1 (P : PlanT) (w : Row) : Int32 × Row := gB P (ix (gTick w 5)) 0 0 (gTick w)
def gGoes2 (P : PlanT) (w : Row) : Int32 × Row := gB P (ix (gTick w 5)) 1 0 (gPaste P (gTick w))
/-! the reference's methods that a tick takes -/
section MM
variable {P : PlanT} {M : Mem} {w : Row} {t k : Nat}
theorem m_size {x : Int32} {M : Mem} {K : Int32 → Mem → Prop} (h : K (gsz x) M) : wp_X7_size x M K := by
  unfold gsz at h
  refine ⟨fun c => ?_, fun c => ?_⟩
  · rw [if_pos c] at h; exact h
  · rw [if_neg c] at h; exact h
theorem m_copyPlace {x : Nat} {M : Mem} {K : Int32 → Mem → Prop} (hx : x < 2 ^ 31) (h : K (nI (cpl x)) M) : wp_X7_copyPlace (nI x) M K := by
  unfold wp_X7_copyPlace
  rw [rem32 hx, lmul, ladd]
  exact h
theorem m_passedPlace {x y : Nat} {M : Mem} {K : Int32 → Mem → Prop} (hy : y < 2 ^ 31) (h : K (nI (ppl x y)) M) : wp_X7_passedPlace (nI x) (nI y) M K := by
  unfold wp_X7_passedPlace
  rw [rem8 hy, lmul, ladd, nI_add]
  exact h
theorem cpl_lt (x : Nat) : cpl x + 8 < 349 := by unfold cpl; omega
theorem cpl_ge (x : Nat) : 61 ≤ cpl x := by unfold cpl; omega
theorem ppl_lt {x y : Nat} (h : x < 4) : ppl x y < 54 := by unfold ppl; omega
theorem ppl_ge (x y : Nat) : 22 ≤ ppl x y := by unfold ppl; omega
theorem m_isThere {a : Nat} {K : Int32 → Mem → Prop} (ht : t < 2 ^ 30) (ha : a < 2 ^ 30) (h : K (if a < t ∧ w (cpl (t - a)) = 1 then 1 else 0) (sr M w)) : wp_X7_isThere (nI t - nI a) (sr M w) K := by
  refine ⟨fun c => ?_, fun c => ?_⟩
  · rw [dif_le ht ha] at c
    rw [if_neg (fun q => by omega)] at h
    exact h
  · rw [dif_le ht ha] at c
    rw [pk_sub (by omega)]
    refine m_copyPlace (by omega) ⟨vin (by have := cpl_lt (t - a); omega) (by decide), ?_⟩
    rw [ix_nI (by have := cpl_lt (t - a); omega), sr_131]
    refine ⟨fun q => ?_, fun q => ?_⟩
    · rw [if_neg (fun z => q z.2)] at h; exact h
    · rw [if_pos ⟨by omega, q⟩] at h; exact h
theorem m_prints {K : Mem → Prop} (hP : MP P M) (hv : PV P) (hk : k < Pu P) (ht : w 5 = nI t) (htb : t < 2 ^ 30) (h : K (sr M (gPrint P t k w))) : wp_X7_prints (nI k) (sr M w) K := by
  obtain ⟨v1, v2, v3, v4, v5, v6, v7, v8, -⟩ := hv
  have hk4 : k < 4 := by omega
  have b1 := ppl_lt (y := t) hk4
  have b2 := ppl_ge k t
  have hw := (hP.2.2.1 k hk).2
  have hwy := (v5 k hk).1
  unfold wp_X7_prints
  rw [sr_131, ht]
  refine m_passedPlace (by omega) ?_
  have ⟨i1, x1⟩ := ixa (c := 14) 14 (k := k) (z := 349) rfl (by omega) (by decide)
  have ⟨i2, x2⟩ := ixn (k := ppl k t) (z := 349) (by omega) (by decide)
  refine ⟨i1, i2, i1, ?_⟩
  rintro M2 rfl
  refine ⟨i2, ?_⟩
  rintro M3 rfl
  rw [sr_131, x1, x2, mw_sr, mw_sr]
  have e1 : upd (upd w (14 + k) (w (14 + k) + w (ppl k t))) (ppl k t) 0 = gShift t k w := rfl
  rw [e1]
  refine ⟨vin hk4 (by decide), ?_⟩
  rw [ix_nI (by omega), sr_ne (c := 139) (by decide), hw, sr_131]
  have e2 : gShift t k w 5 = nI t := by unfold gShift; rw [upd_ne (by omega), upd_ne (by omega)]; exact ht
  rw [e2]
  refine m_isThere htb (by omega) ⟨fun c => ?_, fun c => ?_⟩
  · by_cases hc : Pwy P k < t ∧ gShift t k w (cpl (t - Pwy P k)) = 1
    · rw [if_pos hc] at c; exact absurd c (by decide)
    · unfold gPrint at h; rw [if_neg hc] at h; exact h
  · by_cases hc : Pwy P k < t ∧ gShift t k w (cpl (t - Pwy P k)) = 1
    · unfold gPrint at h; rw [if_pos hc] at h
      rw [pk_sub (by omega)]
      refine m_copyPlace (by omega) ?_
      have b3 := cpl_lt (t - Pwy P k)
      have b4 := cpl_ge (t - Pwy P k)
      generalize hq : cpl (t - Pwy P k) = q at *
      have i4 := ixc (c := 5) 5 (k := q) (i := k) (z := 349) rfl (by omega) (by decide)
      have i5 := ixa (c := 10) 10 (k := k) (z := 349) rfl (by omega) (by decide)
      have j4 := ixb (c := 4) 4 (k := q) (z := 349) rfl (by omega) (by decide)
      have j2 := ixb (c := 2) 2 (k := q) (z := 349) rfl (by omega) (by decide)
      refine ⟨j4.1, i1, j4.1, ?_⟩
      rintro M7 rfl
      refine ⟨i5.1, j2.1, j4.1, i4.1, ?_⟩
      rintro M8 rfl
      rw [sr_131, j4.2, mw_sr, sr_131, i5.2, j2.2, i4.2, mw_sr, upd_at, upd_ne (by omega), upd_ne (by omega)]
      exact h
    · rw [if_neg hc] at c; exact absurd rfl c
end MM
