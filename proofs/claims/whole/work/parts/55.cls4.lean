section C4
variable {P : PlanT} {M : Mem} {p q : Nat} {w : Row} {T t g U k : Nat} {f f' : Nat → Nat} {hc : Prop}
/-- what the reel's and the spin's slots keep -/
def Lsp (p : Nat) (M M' : Mem) : Prop := M' p 6 = M p 6 ∧ M' p 7 = M p 7
theorem Lsp.tr {M1 M2 : Mem} (h : Lsp p M M1) (h2 : Lsp p M1 M2) : Lsp p M M2 := ⟨h2.1.trans h.1, h2.2.trans h.2⟩
theorem Lsp.eq {M1 : Mem} (h : M1 p = M p) : Lsp p M M1 := ⟨by rw [h], by rw [h]⟩
def bCame (M : Mem) (p F g c : Nat) (s : Int32) : Mem := mcp (mw (mw (mw (mw M (p + 5) 5 (nI F)) (p + 5) 6 1) (p + 5) 7 (nI (g - 1 - F))) (p + 5) 8 s) (p + 9) (4 * c) (p + 10) 0 4
theorem gLast_57 {c e : Nat} (hc : 61 ≤ c) (he : e < 4) : gLast c w (57 + e) = w (c + 5 + e) := by
  have : e = 0 ∨ e = 1 ∨ e = 2 ∨ e = 3 := by omega
  unfold gLast
  rcases this with rfl | rfl | rfl | rfl
  · rw [upd_ne (by omega), upd_ne (by omega), upd_ne (by omega)]; exact upd_at _ _ _
  · rw [upd_ne (by omega), upd_ne (by omega)]; exact upd_at _ _ _
  · rw [upd_ne (by omega)]; exact upd_at _ _ _
  · exact upd_at _ _ _
theorem gLast_55 {c : Nat} (hc : 61 ≤ c) : gLast c w 55 = w (c + 3) := by
  unfold gLast
  rw [upd_ne (by omega), upd_ne (by omega), upd_ne (by omega), upd_ne (by omega), upd_at]
theorem c_judge {K : Mem → Prop} {F : Nat} (h : PR P M p w t t g (F + 1) (Pwy P) hc) (hv : PV P) (hP : CP P M q) (hd : q + 5 ≤ p ∨ p + 11 ≤ q) (hF : F = PF P)
    (hK : ∀ M', PR P M' p (gSeen P t w) t t g F (Pwy P) True → Fr p M M' → Lsp p M M' → K M') : wp_X4_judge p q M K := by
  have hn := h.2.2.2.2.2.2.2
  obtain ⟨n1, n2, n3, n4, n5, n6, n7, n8, n9⟩ := hn
  have hv0 := hv
  obtain ⟨v1, v2, v3, v4, v5, v6, v7, v8, v9, v10, v11⟩ := hv
  have qc := cpl_ge (t - F)
  have hs : isB (w (cpl (t - F) + 3)) := h.2.2.2.1.2.2.2 F (by omega)
  generalize hcs : (g - 1 - F) % 32 = c at *
  have hc32 : c < 32 := by omega
  -- the reads of what came
  have cm : ∀ s x j, x ≠ p + 5 → x ≠ p + 10 → bCame M p F g c s x j = M x j := fun s x j h1 h2 => by
    unfold bCame; rw [mcp_ne h2, mw_ne h1, mw_ne h1, mw_ne h1, mw_ne h1]
  have cm5 : ∀ s, bCame M p F g c s (p + 5) 4 = M (p + 5) 4 ∧ bCame M p F g c s (p + 5) 5 = nI F ∧ bCame M p F g c s (p + 5) 6 = 1 ∧ bCame M p F g c s (p + 5) 7 = nI (g - 1 - F) ∧ bCame M p F g c s (p + 5) 8 = s := fun s => by
    unfold bCame
    rw [mcp_ne (by omega)]
    refine ⟨?_, ?_, ?_, ?_, ?_⟩
    · rw [mw_k (by decide), mw_k (by decide), mw_k (by decide), mw_k (by decide)]
    · rw [mw_k (by decide), mw_k (by decide), mw_k (by decide), mw_at]
    · rw [mw_k (by decide), mw_k (by decide), mw_at]
    · rw [mw_k (by decide), mw_at]
    · rw [mw_at]
  have cm10 : ∀ s e, e < 4 → bCame M p F g c s (p + 10) e = M (p + 9) (4 * c + e) := fun s e he => by
    unfold bCame
    simp only [mcp]
    rw [if_pos ⟨trivial, by omega, by omega⟩, mw_ne (by omega), mw_ne (by omega), mw_ne (by omega), mw_ne (by omega), Nat.sub_zero]
  -- the two ends
  have hend : ∀ b, isB b → b = (if gLast (cpl (t - F)) w 55 = 0 ∧ gWorst (gLast (cpl (t - F)) w) (Pu P - 1) 1 0 ≤ Plm P then 1 else 0) →
      ((mw (bCame M p F g c (w (cpl (t - F) + 3))) (p + 5) 9 b (p + 5) 9 = 0 → ∀ M3 : Mem, M3 = mw (mw (bCame M p F g c (w (cpl (t - F) + 3))) (p + 5) 9 b) p 12 (mw (bCame M p F g c (w (cpl (t - F) + 3))) (p + 5) 9 b p 12 + (1 : Int32)) → K M3) ∧
      (¬ mw (bCame M p F g c (w (cpl (t - F) + 3))) (p + 5) 9 b (p + 5) 9 = 0 → ∀ M4 : Mem, M4 = mw (mw (bCame M p F g c (w (cpl (t - F) + 3))) (p + 5) 9 b) p 11 (mw (bCame M p F g c (w (cpl (t - F) + 3))) (p + 5) 9 b p 11 + (1 : Int32)) → K M4)) := by
    intro b hb hbe
    have gs : gSeen P t w = gJudge b (gLast (cpl (t - F)) w) := by unfold gSeen; rw [← hF, ← hbe]
    have rp : ∀ j, mw (bCame M p F g c (w (cpl (t - F) + 3))) (p + 5) 9 b p j = M p j := fun j => by rw [mw_ne (by omega), cm _ _ _ (by omega) (by omega)]
    obtain ⟨c4, c5, c6, c7, c8⟩ := cm5 (w (cpl (t - F) + 3))
    rw [mw_at]
    have core : ∀ (sl : Nat) (v : Int32), (sl = 12 ∨ sl = 11) → mw (mw (bCame M p F g c (w (cpl (t - F) + 3))) (p + 5) 9 b) p sl v p 11 = M p 11 + b → mw (mw (bCame M p F g c (w (cpl (t - F) + 3))) (p + 5) 9 b) p sl v p 12 = M p 12 + (1 - b) → K (mw (mw (bCame M p F g c (w (cpl (t - F) + 3))) (p + 5) 9 b) p sl v) := by
      intro sl v hsl e11 e12
      refine hK _ ?_ ?_ ?_
      · rw [gs]
        refine PR_seen h hv0 hF hb ?_ ?_ e11 e12 ?_ ?_ ?_ ?_ ?_ ?_ ?_
        · intro x j h0 h5 h10
          rw [mw_ne h0, mw_ne h5, cm _ _ _ h5 h10]
        · intro j j1 j2
          rw [mw_k (by omega), rp]
        · rw [mw_ne (by omega), mw_k (by decide), c4]
        · rw [mw_ne (by omega), mw_k (by decide), c5]
        · rw [mw_ne (by omega), mw_k (by decide), c6]
        · rw [mw_ne (by omega), mw_k (by decide), c7]
        · rw [mw_ne (by omega), mw_k (by decide), c8]
        · rw [mw_ne (by omega), mw_at]
        · intro e he
          rw [mw_ne (by omega), mw_ne (by omega), cm10 _ _ he, hcs]
      · intro x hx
        funext j
        rw [mw_ne (by omega), mw_ne (by omega), cm _ _ _ (by omega) (by omega)]
      · exact ⟨by rw [mw_k (by omega), rp], by rw [mw_k (by omega), rp]⟩
    rcases hb with rfl | rfl
    · refine ⟨fun _ => ?_, fun z => absurd rfl z⟩
      rintro M3 rfl
      refine core 12 _ (Or.inl rfl) ?_ ?_
      · rw [mw_k (by decide), rp, Int32.add_zero]
      · rw [mw_at, rp, show (1 : Int32) - 0 = 1 by decide]
    · refine ⟨fun z => absurd z (by decide), fun _ => ?_⟩
      rintro M4 rfl
      refine core 11 _ (Or.inr rfl) ?_ ?_
      · rw [mw_at, rp]
      · rw [mw_k (by decide), rp, show (1 : Int32) - 1 = 0 by decide, Int32.add_zero]
  -- the walk
  unfold wp_X4_judge
  rintro M1 rfl
  have e5 : M (p + 5) 5 - 1 = nI F := by rw [h.2.2.1]; exact nI_pred F
  rw [e5, mw_at]
  refine c_place (g := g) (by rw [mw_k (by decide)]; exact (h.r co_begun).trans n2) (by omega) (by omega) ?_
  rw [hcs]
  rintro M3 rfl
  rintro M4 rfl
  have e7 : mw (mw M (p + 5) 5 (nI F)) (p + 5) 6 1 (p + 5) 4 - 1 - mw (mw M (p + 5) 5 (nI F)) (p + 5) 6 1 (p + 5) 5 = nI (g - 1 - F) := by
    rw [mw_k (by decide), mw_k (by decide), mw_k (by decide), mw_at, show M (p + 5) 4 = nI g from (h.r co_begun).trans n2, show nI g - 1 = nI (g - 1) from pk_sub (show 1 ≤ g by omega), pk_sub (by omega)]
  rw [e7]
  have i1 := ixn (k := c) (z := 32) hc32 (by decide)
  rw [i1.2]
  refine ⟨i1.1, ?_⟩
  have r7 : mw (mw (mw M (p + 5) 5 (nI F)) (p + 5) 6 1) (p + 5) 7 (nI (g - 1 - F)) (p + 5 + 2) c = w (cpl (t - F) + 3) := by
    rw [mw_ne (by omega), mw_ne (by omega), mw_ne (by omega), ← hcs]
    exact h.r (co_isp (by omega))
  rw [r7]
  have i4 : ¬ nI c * (4 : Int32) < 0 ∧ ix (nI c * (4 : Int32)) = 4 * c := by
    rw [show nI c * (4 : Int32) = nI (c * 4) from pk_mul c 4]
    exact ⟨nI_pos (by omega), by rw [ix_nI (by omega)]; omega⟩
  have walk : ∀ s, s = w (cpl (t - F) + 3) → isB s → wp_X0_come_55 (p + 5) (fun M1 => (M1 (p + 5) 9 = 0 → ∀ M3 : Mem, M3 = mw M1 p 12 (M1 p 12 + (1 : Int32)) → K M3) ∧ (¬ M1 (p + 5) 9 = 0 → ∀ M4 : Mem, M4 = mw M1 p 11 (M1 p 11 + (1 : Int32)) → K M4)) (M q 7) (nI c) s (mw (mw (mw M (p + 5) 5 (nI F)) (p + 5) 6 1) (p + 5) 7 (nI (g - 1 - F))) := by
    intro s hse hsb
    refine ⟨hsb, ?_⟩
    rintro M6 rfl
    rw [i4.2]
    refine ⟨⟨i4.1, by omega⟩, ?_⟩
    rintro M7 rfl
    have eB : mcp (mw (mw (mw (mw M (p + 5) 5 (nI F)) (p + 5) 6 1) (p + 5) 7 (nI (g - 1 - F))) (p + 5) 8 s) (p + 5 + 4) (4 * c) (p + 5 + 5) 0 4 = bCame M p F g c (w (cpl (t - F) + 3)) := by rw [hse]; rfl
    rw [eB, (cm5 _).2.2.2.2]
    have g55 := gLast_55 (w := w) qc
    refine ⟨fun z => ?_, fun z => ?_⟩
    · rintro M9 rfl
      refine hend 0 isB0 ?_
      rw [if_neg (fun y => z (by rw [← g55]; exact y.1))]
    · have hfar := far_iff (P := P) (w := gLast (cpl (t - F)) w) (r := fun i => bCame M p F g c (w (cpl (t - F) + 3)) (p + 5 + 5) i) (L := Plm P) hv0 v9 (fun i hi => by
          show bCame M p F g c (w (cpl (t - F) + 3)) (p + 10) i = _
          rw [cm10 _ _ hi, gLast_57 qc hi, ← hcs]
          exact h.r (co_err (by omega) hi (fun z1 z2 => by have := (v5 i z2).1; rw [hF]; unfold PF; omega))) (fun i hi hu => by
          rw [gLast_57 qc hi, ← h.r (co_err (show F < F + 1 by omega) hi (fun z1 z2 => by omega))]
          exact h.2.2.2.2.1 _ i (by omega) hi (Or.inr hu))
      rw [hP.2.2.2.1]
      refine c_fur (fun y => ?_) (fun y => ?_)
      · refine ⟨fun x => absurd rfl x, fun _ => ?_⟩
        rintro M13 rfl
        refine hend 1 isB1 ?_
        rw [if_pos ⟨by rw [g55]; exact z, hfar.mp y⟩]
      · refine ⟨fun _ => ?_, fun x => absurd x (by decide)⟩
        rintro M12 rfl
        refine hend 0 isB0 ?_
        rw [if_neg (fun x => y (hfar.mpr x.2))]
  refine ⟨fun z => walk 0 ?_ isB0, fun z => walk 1 z.symm isB1⟩
  rcases hs with y | y
  · exact y.symm
  · exact absurd y z
end C4
