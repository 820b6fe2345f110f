section O3
variable {P : PlanT} {M X Z N : Mem} {p q pl dr u k : Nat} {w : Row} {T t g U : Nat} {f : Nat → Nat} {hc : Prop}
theorem gB_5 {b lf : Int32} (hv : PV P) : (gB P t b lf w).2 5 = w 5 := by
  have v1 := hv.1
  have v2 := hv.2.1
  have e : gRun P t b lf w 5 = w 5 := by
    unfold gRun
    rw [gPrints_lo (by decide) _ _ _ (by omega), upd_ne (by decide), gBegin_5]
  have eS : ∀ x : Row, gSpin x 5 = x 5 := fun x => upd_ne (by decide)
  unfold gB
  split
  · show gSpin (gAdjs P t (Pu P - 1) 1 (gSeen P t (gRun P t b lf w))) 5 = _
    rw [eS, gAdjs_lo (by decide) _ _ _ (by omega), gSeen_5, e]
  · show gSpin (gRun P t b lf w) 5 = _
    rw [eS, e]
theorem gGoes0_5 (hv : PV P) (ht : w 5 = nI t) : (gGoes0 P w).2 5 = nI (t + 1) := by
  have h5 := gTick_5 ht
  unfold gGoes0
  split
  · split
    · show gBreak (gTick w) 5 = _
      unfold gBreak; rw [if_neg (by decide), if_neg (by decide), if_neg (by omega)]; exact h5
    · rw [gB_5 hv, gPaste_5]; exact h5
  · rw [gB_5 hv]; exact h5
def HO (P : PlanT) (w : Row) : Prop := (w 1 = -1 ∧ Prl P = 0 ∧ w 2 = 0) ∨ ∃ o, w 1 = nI o ∧ o < Prl P
def gTks (P : PlanT) : Nat → Row → Row
  | 0, w => w
  | n + 1, w => if w 0 = 1 then gTks P n (gGoes0 P w).2 else w
def GT (P : PlanT) : Nat → Row → Prop
  | 0, _ => True
  | n + 1, w => w 0 = 1 → (HO P w ∧ GT P n (gGoes0 P w).2)
theorem HO_of (h : PSL P M p w) : HO P w := by
  obtain ⟨⟨t, g, U, hc, hR, hU⟩, e6, e7, e0⟩ := h
  rcases hR.2.1 with ⟨a, b, c⟩ | ⟨o, a, b, c⟩
  · exact Or.inl ⟨a, c, e0 c⟩
  · exact Or.inr ⟨o, b, a⟩
theorem c_ticksL {K : Int32 → Mem → Prop} {Nt : Nat} {x2 : Int32} (hv : PV P) (hpl : Rpl pl dr) (hNt : Nt ≤ 60) : ∀ (n x t : Nat) (X : Mem) (w : Row), x + n = Nt → CP P X pl → PSL P X 13 w → w 5 = nI t → t + n ≤ 9999 →
    (∀ X', PT P X' 13 (gTks P n w) → Fr 13 X X' → GT P n w → K (X' 13 11 - x2) X') → L_X6_ticks_64 pl dr K (n + 1) (nI Nt) x2 (nI x) X := by
  intro n
  induction n with
  | zero =>
    intro x t X w hx hP h ht htn hK
    exact ⟨fun _ => hK X ⟨h, t, by omega, ht⟩ Fr.rf trivial, fun c => absurd (by rw [le_nI (by omega) (by omega)]; omega) c⟩
  | succ n ih =>
    intro x t X w hx hP h ht htn hK
    have hd := pl_apart hpl
    have r8 : X 13 8 = w 0 := by obtain ⟨⟨t, g, U, hc, hR, hU⟩, -⟩ := h; exact hR.r co_runs
    have hb : isB (w 0) := by obtain ⟨⟨t, g, U, hc, hR, hU⟩, -⟩ := h; exact hR.2.2.2.2.2.2.2.2.2.2.2.2.2.2.1
    refine ⟨fun c => ?_, fun _ => ⟨fun z => ?_, fun z => ?_⟩⟩
    · rw [le_nI (by omega) (by omega)] at c; omega
    · rw [r8] at z
      have hn1 : ¬ w 0 = 1 := fun y => by rw [z] at y; exact absurd y (by decide)
      refine hK X ⟨?_, t, by omega, ?_⟩ Fr.rf (fun y => absurd y hn1)
      · unfold gTks; rw [if_neg hn1]; exact h
      · unfold gTks; rw [if_neg hn1]; exact ht
    · rw [r8] at z
      have h1 : w 0 = 1 := by
        rcases hb with y | y
        · exact absurd y z
        · exact y
      refine c_tick0 h hv hP hd ht (by omega) ?_
      intro X1 hX1 f1
      rw [nI_1]
      refine ih (x + 1) (t + 1) X1 _ (by omega) (hP.fr f1 hd) hX1 (gGoes0_5 hv ht) (by omega) ?_
      intro X' a b c
      refine hK X' ?_ (f1.tr b) (fun _ => ⟨HO_of h, c⟩)
      unfold gTks; rw [if_pos h1]; exact a
theorem m_ticksL {K : Int32 → Mem → Prop} {Nt : Nat} {x2 : Int32} (hv : PV P) (hP : MP P M) (hNt : Nt ≤ 60) : ∀ (n x t : Nat) (w : Row), x + n = Nt → GT P n w → w 5 = nI t → t + n ≤ 9999 → K (gTks P n w 7 - x2) (sr M (gTks P n w)) → L_X7_ticks_55 K (n + 1) (nI Nt) x2 (nI x) (sr M w) := by
  intro n
  induction n with
  | zero =>
    intro x t w hx hg ht htn hK
    exact ⟨fun _ => by rw [sr_131]; exact hK, fun c => absurd (by rw [le_nI (by omega) (by omega)]; omega) c⟩
  | succ n ih =>
    intro x t w hx hg ht htn hK
    refine ⟨fun c => ?_, fun _ => ⟨fun z => ?_, fun z => ?_⟩⟩
    · rw [le_nI (by omega) (by omega)] at c; omega
    · rw [sr_131] at z
      unfold gTks at hK
      rw [if_neg z] at hK
      rw [sr_131]; exact hK
    · rw [sr_131] at z
      unfold gTks at hK
      rw [if_pos z] at hK
      obtain ⟨ho, hg1⟩ := hg z
      refine m_goes0 hP hv ht (by omega) ho ?_
      rw [nI_1]
      exact ih (x + 1) (t + 1) _ (by omega) hg1 (gGoes0_5 hv ht) (by omega) hK
theorem op_ticks (M : Mem) (pl dr : Nat) (a1 : Int32) (h : Rel M pl dr) : wp_X6_ticks pl dr a1 M (fun r M1 => wp_X7_ticks a1 M1 (fun q M2 => r = q ∧ Rel M2 pl dr)) := by
  obtain ⟨P, h⟩ := h
  have hr : Rel M pl dr := ⟨P, h⟩
  have hv := h.1
  obtain ⟨t, g, U, hc', hR, hU, ht, hw⟩ := PT_t h.2.2.2.2.1
  have r8 : M 13 8 = M 131 0 := hR.r co_runs
  have r10 : M 13 10 = M 131 5 := hR.r co_ticks
  refine c_within ?_
  by_cases hc : (1 : Int32) ≤ a1 ∧ a1 ≤ 60
  · rw [if_pos hc]
    obtain ⟨Nt, hNt, rfl⟩ := int_nI (Int32.le_trans (show (0 : Int32) ≤ 1 by decide) hc.1)
    have c1 := hc.1
    have c2 := hc.2
    rw [lleN (by decide) hNt] at c1
    rw [leNl (by decide) hNt] at c2
    have c1 : 1 ≤ Nt := c1
    have c2 : Nt ≤ 60 := c2
    rw [r8, r10, hw, nI_add]
    refine ⟨fun _ => ⟨fun z => ⟨fun z2 => ?_, fun z2 => m_in (by rw [if_pos hc]; exact ⟨fun _ => ⟨fun _ => by rw [hw, nI_add]; exact ⟨fun y => absurd y z2, fun _ => ⟨rfl, hr⟩⟩, fun y => absurd y z⟩, fun y => absurd y (by decide)⟩)⟩, fun z => m_in (by rw [if_pos hc]; exact ⟨fun _ => ⟨fun y => absurd z y, fun _ => ⟨rfl, hr⟩⟩, fun y => absurd y (by decide)⟩)⟩, fun y => absurd y (by decide)⟩
    have z2' := z2
    rw [leNl (by decide) (by omega)] at z2
    have z2 : t + Nt ≤ 9999 := z2
    refine c_remember h ?_
    intro X1 u hu6 hu hX fx
    have hp := hX.2.2.2.2.1
    rw [mRem_ne (by decide) (by decide)] at hp
    have g11 : X1 13 11 = M 131 7 := by obtain ⟨t, g, U, hc', hR, -⟩ := PT_t hp; exact hR.r co_good
    refine ⟨Nt + 1, c_ticksL hv hX.2.2.2.1 c2 Nt 0 t X1 (M 131) (by omega) hX.2.2.1 hp.1 hw z2 ?_⟩
    intro X' hp' f' hg
    obtain ⟨o1, o2, o3, o4⟩ := op_rem h hX fx f' hp'
    have g11' : X' 13 11 = gTks P Nt (M 131) 7 := by obtain ⟨t, g, U, hc', hR, -⟩ := PT_t hp'; exact hR.r co_good
    refine m_in ?_
    rw [if_pos hc]
    refine ⟨fun _ => ?_, fun y => absurd y (by decide)⟩
    rw [o1 131 (by omega)]
    refine ⟨fun _ => ?_, fun y => absurd y z⟩
    rw [hw, nI_add]
    refine ⟨fun _ => m_rem hu (by rw [o1 130 (by omega)]; exact hu6) ?_, fun y => absurd z2' y⟩
    refine ⟨Nt + 1, ?_⟩
    rw [mRem_ne (N := X') (c := 131) (by decide) (by decide), o1 131 (by omega)]
    rw [o3]
    refine m_ticksL hv o2 c2 Nt 0 t (M 131) (by omega) hg hw z2 ⟨?_, o4⟩
    rw [g11, g11']
  · rw [if_neg hc]
    refine ⟨fun z => absurd rfl z, fun _ => m_in ?_⟩
    rw [if_neg hc]
    exact ⟨fun z => absurd rfl z, fun _ => ⟨rfl, hr⟩⟩
/-! undone, kept, back -/
theorem R2_hist {M2 : Mem} (h : R2 P M M pl dr) (hx : ∀ c, c < 130 → c ≠ 35 → (c < 13 ∨ 24 ≤ c) → M2 c = M c) (hn : ∀ c, 130 ≤ c → c ≠ 130 → c ≠ 131 → M2 c = M c) (h130 : ∀ j, j ≠ 3 → M2 130 j = M 130 j) (hp : PT P M2 13 (M2 131)) (hh : RH P M2 M2) : Rel M2 pl dr := by
  obtain ⟨a1, a2, a3, a4, a5, a6, a7, a8, a9, a10⟩ := h
  have hpl : pl = 3 ∨ pl = 8 := by rcases a4 with z | z; · exact Or.inl z.1
                                   · exact Or.inr z.1
  refine ⟨P, a1, ?_, CP_cells a3 (fun i hi => hx _ (by omega) (by omega) (by omega)), a4, hp, hh, ?_, ?_, ?_, ?_⟩
  · unfold MP at *
    rw [h130 _ (by decide), h130 _ (by decide), hn 138 (by omega) (by omega) (by omega), hn 139 (by omega) (by omega) (by omega), hn 140 (by omega) (by omega) (by omega), hn 141 (by omega) (by omega) (by omega), hn 142 (by omega) (by omega) (by omega)]
    exact a2
  · intro i hi
    obtain ⟨b1, b2, b3⟩ := a7 i hi
    rw [hx 104 (by omega) (by omega) (by omega), hn 135 (by omega) (by omega) (by omega), hn 134 (by omega) (by omega) (by omega)]
    exact ⟨b1, b2, fun z => PT_cells (b3 z) (fun j hj => hx _ (by omega) (by omega) (by omega))⟩
  · unfold RT at *; rw [hx 1 (by omega) (by omega) (by omega), hx 2 (by omega) (by omega) (by omega), h130 _ (by decide), hn 136 (by omega) (by omega) (by omega)]; exact a8
  · unfold RQ at *; rw [hx 105 (by omega) (by omega) (by omega), hx 106 (by omega) (by omega) (by omega), hx 107 (by omega) (by omega) (by omega), h130 _ (by decide), hn 137 (by omega) (by omega) (by omega)]; exact a9
  · unfold RZ at *; rw [hx 4 (by omega) (by omega) (by omega), hx 5 (by omega) (by omega) (by omega), hx 9 (by omega) (by omega) (by omega), hx 10 (by omega) (by omega) (by omega)]; exact a10
theorem op_undo (M : Mem) (pl dr : Nat) (h : Rel M pl dr) : wp_X6_undo pl dr M (fun r M1 => wp_X7_undo M1 (fun q M2 => r = q ∧ Rel M2 pl dr)) := by
  obtain ⟨P, h⟩ := h
  have hr : Rel M pl dr := ⟨P, h⟩
  obtain ⟨nw, kn, b1, b2, b3, b4, b5, b6⟩ := h.2.2.2.2.2.1
  unfold wp_X6_undo
  rw [b4]
  refine ⟨fun z => ?_, fun z => ?_⟩
  · rw [eq_z (by omega)] at z
    obtain ⟨v, rfl⟩ : ∃ v, kn = v + 1 := ⟨kn - 1, by omega⟩
    unfold wp_X2_restore
    rw [b3, b4]
    have i1 := ixn (k := nw) (z := 6) b1 (by decide)
    refine ⟨fun y => ?_, fun _ => ⟨i1.1, ?_⟩⟩
    · rw [le_z (by omega)] at y; omega
    rw [i1.2]
    have p0 := b6 0 (by omega)
    rw [show (nw + 6 - 0) % 6 = nw by omega, show v + 1 - 1 - 0 = v by omega] at p0
    refine c_take (by omega) p0.1.pb ?_
    intro M3 s3 f3
    -- both ends alike
    have fin : ∀ m, m < 6 → m = (nw + 5) % 6 → wp_X7_undo (mw (mw M3 35 1 (nI m)) 35 2 (nI v)) (fun q M2 => mw (mw M3 35 1 (nI m)) 35 2 (nI v) 35 2 = q ∧ Rel M2 pl dr) := by
      intro m hm6 hm
      have hz : ∀ c, c ≠ 35 → (c < 13 ∨ 24 ≤ c) → mw (mw M3 35 1 (nI m)) 35 2 (nI v) c = M c := fun c c1 c2 => by rw [mw_ne c1, mw_ne c1, f3 c (by omega)]
      have pz : PT P (mw (mw M3 35 1 (nI m)) 35 2 (nI v)) 13 (fun j => M 133 (349 * v + j)) := PT_cells (PT_same p0 s3) (fun j hj => by rw [mw_ne (by omega), mw_ne (by omega)])
      have z351 : mw (mw M3 35 1 (nI m)) 35 2 (nI v) 35 1 = nI m := by rw [mw_k (by decide), mw_at]
      have z352 : mw (mw M3 35 1 (nI m)) 35 2 (nI v) 35 2 = nI v := mw_at _ _ _ _
      generalize mw (mw M3 35 1 (nI m)) 35 2 (nI v) = Z at *
      refine m_undo (u := v + 1) (by omega) (by rw [hz 130 (by decide) (by omega)]; exact b5) (fun y => by omega) (fun v' hv' => ?_)
      have : v' = v := by omega
      subst this
      rw [z352]
      refine ⟨rfl, ?_⟩
      have r131 : ∀ j, j < 349 → mcp (mw Z 130 3 (nI v')) 133 (349 * v') 131 0 349 131 j = M 133 (349 * v' + j) := fun j hj => by
        rw [mcp_in (by omega) (by omega), mw_ne (by decide), hz 133 (by decide) (by omega), Nat.sub_zero]
      have low : ∀ c, c ≠ 131 → c ≠ 130 → mcp (mw Z 130 3 (nI v')) 133 (349 * v') 131 0 349 c = Z c := fun c c1 c2 => by rw [mcp_ne c1, mw_ne c2]
      refine R2_hist h (fun c c1 c2 c3 => by rw [low c (by omega) (by omega), hz c c2 c3]) (fun c c1 c2 c3 => by rw [low c c3 c2, hz c (by omega) (by omega)]) (fun j hj => by rw [mcp_ne (by decide), mw_k hj, hz 130 (by decide) (by omega)]) ?_ ?_
      · exact PT_row (PT_cells pz (fun i hi => low _ (by omega) (by omega))) r131
      · refine ⟨m, v', hm6, by omega, by rw [low 35 (by decide) (by decide)]; exact z351, by rw [low 35 (by decide) (by decide)]; exact z352, by rw [mcp_ne (by decide), mw_at], fun i hi => ?_⟩
        have pi := b6 (i + 1) (by omega)
        rw [show (nw + 6 - (i + 1)) % 6 = (m + 6 - i) % 6 by omega, show v' + 1 - 1 - (i + 1) = v' - 1 - i by omega] at pi
        rw [low 133 (by decide) (by decide), hz 133 (by decide) (by omega)]
        exact PT_cells pi (fun j hj => by rw [low _ (by omega) (by omega), hz _ (by omega) (by omega)])
    have r351 : M3 35 1 = nI nw := by rw [f3 35 (by omega)]; exact b3
    have r352 : ∀ x, mw M3 35 1 x 35 2 - 1 = nI v := fun x => by rw [mw_k (by decide), f3 35 (by omega), b4]; exact nI_pred v
    refine ⟨fun y => ?_, fun y => ?_⟩
    · rw [r351, le_z (by omega)] at y
      rintro M5 rfl
      rintro M6 rfl
      rw [r352]
      exact fin 5 (by omega) (by omega)
    · rw [r351, le_z (by omega)] at y
      rintro M7 rfl
      rw [r351, show nI nw - 1 = nI (nw - 1) from pk_sub (show 1 ≤ nw by omega)]
      rintro M8 rfl
      rw [r352]
      exact fin (nw - 1) (by omega) (by omega)
  · rw [eq_z (by omega)] at z
    subst z
    exact m_undo (u := 0) (by omega) b5 (fun _ => ⟨rfl, hr⟩) (fun v hv => by omega)
theorem im_in {a1 : Int32} (hc : (0 : Int32) ≤ a1 ∧ a1 ≤ 1) : ∃ k, k < 2 ∧ a1 = nI k := by
  obtain ⟨k, hk, rfl⟩ := int_nI hc.1
  have := hc.2
  rw [leNl (by decide) hk] at this
  have : k ≤ 1 := this
  exact ⟨k, by omega, rfl⟩
theorem m_keepL {K : Int32 → Mem → Prop} {k : Nat} (hk : k < 2) (h : ∀ M5, M5 = mw (mcp M 131 0 134 (349 * k) 349) 135 k 1 → K (M5 131 5) M5) : ∃ j, L_X7_keep_13 K j (nI k) 0 M := by
  have i0 := ixn (k := k) (z := 2) hk (by decide)
  have go : ∀ (n x : Nat) (M : Mem), x + n = 349 → (∀ M5, M5 = mw (mcx M 131 0 134 (349 * k) x 349) 135 k 1 → K (M5 131 5) M5) → L_X7_keep_13 K (n + 1) (nI k) (nI x) M := by
    intro n
    induction n with
    | zero =>
      intro x M hx h
      have : x = 349 := by omega
      subst this
      rw [mcx_end] at h
      refine ⟨fun _ => ⟨i0.1, ?_⟩, fun c => absurd (Int32.le_refl _) c⟩
      rw [i0.2]; exact h
    | succ n ih =>
      intro x M hx h
      have i1 := ixn (k := x) (z := 349) (by omega) (by decide)
      have i2 : vp_in ((349 : Int32) * nI k + nI x) 698 ∧ ix ((349 : Int32) * nI k + nI x) = 349 * k + x := by
        rw [show (349 : Int32) * nI k = nI (349 * k) from pk_mul 349 k, nI_add]
        exact ⟨vin (by omega) (by omega), ix_nI (by omega)⟩
      refine ⟨fun c => ?_, fun _ => ⟨i1.1, i2.1, ?_⟩⟩
      · rw [lleN (by decide) (by omega)] at c
        have : 349 ≤ x := c
        omega
      · rintro M6 rfl
        rw [i1.2, i2.2, nI_1]
        refine ih (x + 1) _ (by omega) ?_
        have e := mcx_step (M := M) (a := 131) (sp := 0) (b := 134) (dp := 349 * k) (x := x) (n := 349) (by decide) (by omega)
        rw [Nat.zero_add] at e
        rw [e]; exact h
  exact ⟨350, go 349 0 M rfl h⟩
theorem m_backL {K : Int32 → Mem → Prop} {k : Nat} (hk : k < 2) (h : ∀ M6, M6 = mw (mcp M 134 (349 * k) 131 0 349) 130 3 0 → K (M6 131 5) M6) : ∃ j, L_X7_back_25 K j (nI k) 0 M := by
  have go : ∀ (n x : Nat) (M : Mem), x + n = 349 → (∀ M6, M6 = mw (mcx M 134 (349 * k) 131 0 x 349) 130 3 0 → K (M6 131 5) M6) → L_X7_back_25 K (n + 1) (nI k) (nI x) M := by
    intro n
    induction n with
    | zero =>
      intro x M hx h
      have : x = 349 := by omega
      subst this
      rw [mcx_end] at h
      exact ⟨fun _ => h, fun c => absurd (Int32.le_refl _) c⟩
    | succ n ih =>
      intro x M hx h
      have i1 := ixn (k := x) (z := 349) (by omega) (by decide)
      have i2 : vp_in ((349 : Int32) * nI k + nI x) 698 ∧ ix ((349 : Int32) * nI k + nI x) = 349 * k + x := by
        rw [show (349 : Int32) * nI k = nI (349 * k) from pk_mul 349 k, nI_add]
        exact ⟨vin (by omega) (by omega), ix_nI (by omega)⟩
      refine ⟨fun c => ?_, fun _ => ⟨i2.1, i1.1, ?_⟩⟩
      · rw [lleN (by decide) (by omega)] at c
        have : 349 ≤ x := c
        omega
      · rintro M7 rfl
        rw [i1.2, i2.2, nI_1]
        refine ih (x + 1) _ (by omega) ?_
        have e := mcx_step (M := M) (a := 134) (sp := 349 * k) (b := 131) (dp := 0) (x := x) (n := 349) (by decide) (by omega)
        rw [Nat.zero_add] at e
        rw [e]; exact h
  exact ⟨350, go 349 0 M rfl h⟩
theorem op_keep (M : Mem) (pl dr : Nat) (a1 : Int32) (h : Rel M pl dr) : wp_X6_keep pl dr a1 M (fun r M1 => wp_X7_keep a1 M1 (fun q M2 => r = q ∧ Rel M2 pl dr)) := by
  obtain ⟨P, h⟩ := h
  have hr : Rel M pl dr := ⟨P, h⟩
  obtain ⟨t, g, U, hc', hR, hU, ht, hw⟩ := PT_t h.2.2.2.2.1
  have r10 : M 13 10 = M 131 5 := hR.r co_ticks
  refine c_within ?_
  by_cases hc : (0 : Int32) ≤ a1 ∧ a1 ≤ 1
  · rw [if_pos hc]
    obtain ⟨k, hk, rfl⟩ := im_in hc
    have i1 := ixn (k := k) (z := 2) hk (by decide)
    rw [i1.2]
    refine ⟨fun _ => ⟨i1.1, ?_⟩, fun y => absurd y (by decide)⟩
    refine c_take (by omega) h.2.2.2.2.1.1.pb ?_
    intro M4 s4 f4
    refine ⟨i1.1, ?_⟩
    rintro M5 rfl
    have z1 : ∀ c, c ≠ 104 → (c < 108 + 11 * k ∨ 108 + 11 * k + 11 ≤ c) → mw M4 104 k 1 c = M c := fun c c1 c2 => by rw [mw_ne c1, f4 c c2]
    have hi : ∀ c, 130 ≤ c → mw M4 104 k 1 c = M c := fun c hc => z1 c (by omega) (by omega)
    have pz : PT P (mw M4 104 k 1) (108 + 11 * k) (M 131) := PT_cells (PT_same h.2.2.2.2.1 s4) (fun j hj => mw_ne (by omega))
    have z104 : ∀ j, mw M4 104 k 1 104 j = if j = k then 1 else M 104 j := fun j => by rw [mw_row, f4 104 (by omega)]; rfl
    rw [z1 13 (by decide) (by omega), r10]
    generalize mw M4 104 k 1 = Z at *
    refine m_in ?_
    rw [if_pos hc]
    refine ⟨fun _ => m_keepL hk ?_, fun y => absurd y (by decide)⟩
    rintro M6 rfl
    have low : ∀ c, c ≠ 134 → c ≠ 135 → mw (mcp Z 131 0 134 (349 * k) 349) 135 k 1 c = Z c := fun c c1 c2 => by rw [mw_ne c2, mcp_ne c1]
    refine ⟨by rw [low 131 (by decide) (by decide), hi 131 (by omega)], ?_⟩
    obtain ⟨a1, a2, a3, a4, a5, a6, a7, a8, a9, a10⟩ := h
    have hpl : pl = 3 ∨ pl = 8 := by rcases a4 with z | z; · exact Or.inl z.1
                                     · exact Or.inr z.1
    have lo2 : ∀ c, c ≠ 134 → c ≠ 135 → c ≠ 104 → (c < 108 + 11 * k ∨ 108 + 11 * k + 11 ≤ c) → mw (mcp Z 131 0 134 (349 * k) 349) 135 k 1 c = M c := fun c c1 c2 c3 c4 => by rw [low c c1 c2, z1 c c3 c4]
    refine ⟨P, a1, ?_, CP_cells a3 (fun i hi => lo2 _ (by omega) (by omega) (by omega) (by omega)), a4, ?_, ?_, ?_, ?_, ?_, ?_⟩
    · exact MP_hi (M := M) (M' := sr M (M 131)) (by exact a2) (fun c _ => by rw [sr_self]) |> fun _ => by
        unfold MP at *
        rw [lo2 130 (by omega) (by omega) (by omega) (by omega), lo2 138 (by omega) (by omega) (by omega) (by omega), lo2 139 (by omega) (by omega) (by omega) (by omega), lo2 140 (by omega) (by omega) (by omega) (by omega), lo2 141 (by omega) (by omega) (by omega) (by omega), lo2 142 (by omega) (by omega) (by omega) (by omega)]
        exact a2
    · rw [lo2 131 (by omega) (by omega) (by omega) (by omega)]
      exact PT_cells a5 (fun i hi => lo2 _ (by omega) (by omega) (by omega) (by omega))
    · obtain ⟨nw, kn, b1, b2, b3, b4, b5, b6⟩ := a6
      refine ⟨nw, kn, b1, b2, by rw [lo2 35 (by omega) (by omega) (by omega) (by omega)]; exact b3, by rw [lo2 35 (by omega) (by omega) (by omega) (by omega)]; exact b4, by rw [lo2 130 (by omega) (by omega) (by omega) (by omega)]; exact b5, fun i hi => ?_⟩
      rw [lo2 133 (by omega) (by omega) (by omega) (by omega)]
      exact PT_cells (b6 i hi) (fun j hj => lo2 _ (by omega) (by omega) (by omega) (by omega))
    · intro i hi2
      obtain ⟨b1, b2, b3⟩ := a7 i hi2
      have e135 : mw (mcp Z 131 0 134 (349 * k) 349) 135 k 1 135 i = if i = k then 1 else M 135 i := by rw [mw_row, mcp_ne (by decide), hi 135 (by omega)]; rfl
      rw [low 104 (by decide) (by decide), z104, e135]
      by_cases e : i = k
      · subst e
        rw [if_pos rfl, if_pos rfl]
        refine ⟨rfl, isB1, fun _ => ?_⟩
        refine PT_row (PT_cells pz (fun j hj => low _ (by omega) (by omega))) (fun j hj => ?_)
        rw [mw_ne (by decide), mcp_in (by omega) (by omega), hi 131 (by omega)]
        congr 1; omega
      · rw [if_neg e, if_neg e]
        refine ⟨b1, b2, fun z => ?_⟩
        refine PT_row (PT_cells (b3 z) (fun j hj => lo2 _ (by omega) (by omega) (by omega) (by omega))) (fun j hj => ?_)
        rw [mw_ne (by decide), mcp_off (by omega), hi 134 (by omega)]
    · unfold RT at *; rw [lo2 1 (by omega) (by omega) (by omega) (by omega), lo2 2 (by omega) (by omega) (by omega) (by omega), lo2 130 (by omega) (by omega) (by omega) (by omega), lo2 136 (by omega) (by omega) (by omega) (by omega)]; exact a8
    · unfold RQ at *; rw [lo2 105 (by omega) (by omega) (by omega) (by omega), lo2 106 (by omega) (by omega) (by omega) (by omega), lo2 107 (by omega) (by omega) (by omega) (by omega), lo2 130 (by omega) (by omega) (by omega) (by omega), lo2 137 (by omega) (by omega) (by omega) (by omega)]; exact a9
    · unfold RZ at *; rw [lo2 4 (by omega) (by omega) (by omega) (by omega), lo2 5 (by omega) (by omega) (by omega) (by omega), lo2 9 (by omega) (by omega) (by omega) (by omega), lo2 10 (by omega) (by omega) (by omega) (by omega)]; exact a10
  · rw [if_neg hc]
    refine ⟨fun z => absurd rfl z, fun _ => m_in ?_⟩
    rw [if_neg hc]
    exact ⟨fun z => absurd rfl z, fun _ => ⟨rfl, hr⟩⟩
theorem op_back (M : Mem) (pl dr : Nat) (a1 : Int32) (h : Rel M pl dr) : wp_X6_back pl dr a1 M (fun r M1 => wp_X7_back a1 M1 (fun q M2 => r = q ∧ Rel M2 pl dr)) := by
  obtain ⟨P, h⟩ := h
  have hr : Rel M pl dr := ⟨P, h⟩
  refine c_within ?_
  by_cases hc : (0 : Int32) ≤ a1 ∧ a1 ≤ 1
  · rw [if_pos hc]
    obtain ⟨k, hk, rfl⟩ := im_in hc
    have i1 := ixn (k := k) (z := 2) hk (by decide)
    obtain ⟨b1, b2, b3⟩ := h.2.2.2.2.2.2.1 k hk
    rw [i1.2]
    refine ⟨fun _ => ⟨i1.1, fun z => ⟨i1.1, ?_⟩, fun z => m_in (by rw [if_pos hc, i1.2]; exact ⟨fun _ => ⟨i1.1, fun y => absurd (b1.symm.trans z) y, fun _ => ⟨rfl, hr⟩⟩, fun y => absurd y (by decide)⟩)⟩, fun y => absurd y (by decide)⟩
    have h1 : M 104 k = 1 := by
      rcases b2 with y | y
      · exact absurd y z
      · exact y
    have p0 := b3 h1
    refine c_take (by omega) p0.1.pb ?_
    intro M5 s5 f5
    rintro M6 rfl
    have hz : ∀ c, c ≠ 35 → (c < 13 ∨ 24 ≤ c) → mw M5 35 2 0 c = M c := fun c c1 c2 => by rw [mw_ne c1, f5 c (by omega)]
    have pz : PT P (mw M5 35 2 0) 13 (fun j => M 134 (349 * k + j)) := PT_cells (PT_same p0 s5) (fun j hj => mw_ne (by omega))
    have z352 : mw M5 35 2 0 35 2 = 0 := mw_at _ _ _ _
    have z351 : mw M5 35 2 0 35 1 = M 35 1 := by rw [mw_k (by decide), f5 35 (by omega)]
    have r10 : mw M5 35 2 0 13 10 = M 134 (349 * k + 5) := by obtain ⟨t, g, U, hc', hR, -⟩ := PT_t pz; exact hR.r co_ticks
    rw [r10]
    generalize mw M5 35 2 0 = Z at *
    refine m_in ?_
    rw [if_pos hc, i1.2, hz 135 (by decide) (by omega)]
    refine ⟨fun _ => ⟨i1.1, fun _ => m_backL hk ?_, fun y => absurd (b1.trans y) z⟩, fun y => absurd y (by decide)⟩
    rintro M7 rfl
    have r131 : ∀ j, j < 349 → mw (mcp Z 134 (349 * k) 131 0 349) 130 3 0 131 j = M 134 (349 * k + j) := fun j hj => by
      rw [mw_ne (by decide), mcp_in (by omega) (by omega), hz 134 (by decide) (by omega), Nat.sub_zero]
    have low : ∀ c, c ≠ 131 → c ≠ 130 → mw (mcp Z 134 (349 * k) 131 0 349) 130 3 0 c = Z c := fun c c1 c2 => by rw [mw_ne c2, mcp_ne c1]
    refine ⟨(r131 5 (by decide)).symm, ?_⟩
    obtain ⟨nw, kn, d1, d2, d3, d4, d5, d6⟩ := h.2.2.2.2.2.1
    refine R2_hist h (fun c c1 c2 c3 => by rw [low c (by omega) (by omega), hz c c2 c3]) (fun c c1 c2 c3 => by rw [low c c3 c2, hz c (by omega) (by omega)]) (fun j hj => by rw [mw_k hj, mcp_ne (by decide), hz 130 (by decide) (by omega)]) ?_ ?_
    · exact PT_row (PT_cells pz (fun i hi => low _ (by omega) (by omega))) r131
    · exact ⟨nw, 0, d1, by omega, by rw [low 35 (by decide) (by decide), z351]; exact d3, by rw [low 35 (by decide) (by decide), z352]; rfl, by rw [mw_at]; rfl, fun i hi => by omega⟩
  · rw [if_neg hc]
    refine ⟨fun z => absurd rfl z, fun _ => m_in ?_⟩
    rw [if_neg hc]
    exact ⟨fun z => absurd rfl z, fun _ => ⟨rfl, hr⟩⟩
end O3
