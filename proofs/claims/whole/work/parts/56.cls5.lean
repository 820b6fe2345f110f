section C5
variable {P : PlanT} {M : Mem} {p q : Nat} {w : Row} {T t g U k : Nat} {f f' : Nat → Nat} {hc : Prop}
theorem c_hasUnit {K : Int32 → Mem → Prop} (hP : CP P M q) (hv : PV P) (hk : k < 100) (h : K (if k < Pu P then 1 else 0) M) : wp_X3_hasUnit q (nI k) M K := by
  have v2 := hv.2.1
  refine ⟨fun c => absurd c (nI_pos (by omega)), fun _ => ⟨fun c => ?_, fun c => ?_⟩⟩
  · rw [hP.1, le_nI (by omega) (by omega)] at c
    rw [if_neg (by omega)] at h; exact h
  · rw [hP.1, le_nI (by omega) (by omega)] at c
    rw [if_pos (by omega)] at h; exact h
theorem c_movable {K : Int32 → Mem → Prop} (hP : CP P M q) (hv : PV P) (h1 : 1 ≤ k) (hk : k < Pu P) (h : K 1 M) : wp_X3_isMovable q (nI k) M K := by
  have v2 := hv.2.1
  refine ⟨fun c => ?_, fun _ => ⟨fun c => ?_, fun _ => h⟩⟩
  · rw [ltNl (by decide) (by omega)] at c
    have : k < 1 := c
    omega
  · rw [hP.1, le_nI (by omega) (by omega)] at c; omega
theorem c_correct {K : Mem → Prop} {c : Int32} (h : PR P M p w T t g U f hc) (hv : PV P) (hP : CP P M q) (hd : q + 5 ≤ p ∨ p + 11 ≤ q) (h1 : 1 ≤ k) (hk : k < Pu P)
    (hK : ∀ M', PR P M' p (gCorr P T k c w) T t g U f hc → Fr p M M' → M' p = M p → M' (p + 3) k = nI (Pwy P (Pu P - 1) - Pwy P k + Pey P) → K M') : wp_X4_correct p q (nI k) c M K := by
  have hn := h.2.2.2.2.2.2.2
  obtain ⟨n1, n2, n3, n4, n5, n6, n7, n8, n9⟩ := hn
  have hv0 := hv
  obtain ⟨v1, v2, v3, v4, v5, v6, v7, v8, v9, v10, v11⟩ := hv
  have hk4 : k < 4 := by omega
  have i1 := ixn (k := k) (z := 4) hk4 (by decide)
  refine c_movable hP hv0 h1 hk ⟨fun _ => ⟨i1.1, i1.1, ?_⟩, fun z => absurd z (by decide)⟩
  rintro M3 rfl
  rw [i1.2]
  have r2 : M (p + 2) k = w (14 + k) := h.r (co_shift hk4)
  have p1 := h.wr (M (p + 2) k + c) (co_shift hk4) (qk_shift hk4)
  have f1 : Fr p M (mw M (p + 2) k (M (p + 2) k + c)) := Fr.w (by decide)
  refine c_ttc (hP.fr f1 hd) hv0 hk ⟨i1.1, ?_⟩
  rintro M5 rfl
  have p2 := p1.wr (nI (Pwy P (Pu P - 1) - Pwy P k + Pey P)) (co_wait hk4) (qk_wait hk4)
  have f2 : Fr p M (mw (mw M (p + 2) k (M (p + 2) k + c)) (p + 3) k (nI (Pwy P (Pu P - 1) - Pwy P k + Pey P))) := f1.tr (Fr.w (by decide))
  rw [r2] at p2 f2 ⊢
  have e0 : upd (upd w (14 + k) (w (14 + k) + c)) (18 + k) (nI (Pwy P (Pu P - 1) - Pwy P k + Pey P)) = gCorr0 P k c w := rfl
  rw [e0] at p2
  have hp : mw (mw M (p + 2) k (w (14 + k) + c)) (p + 3) k (nI (Pwy P (Pu P - 1) - Pwy P k + Pey P)) p = M p := by rw [mw_ne (by omega), mw_ne (by omega)]
  have h3 : mw (mw M (p + 2) k (w (14 + k) + c)) (p + 3) k (nI (Pwy P (Pu P - 1) - Pwy P k + Pey P)) (p + 3) k = nI (Pwy P (Pu P - 1) - Pwy P k + Pey P) := mw_at _ _ _ _
  have r9 : M p 9 = w 4 := h.r co_ahead
  have r10 : M p 10 = nI T := (h.r co_ticks).trans n1
  generalize hM5 : mw (mw M (p + 2) k (w (14 + k) + c)) (p + 3) k (nI (Pwy P (Pu P - 1) - Pwy P k + Pey P)) = M5 at *
  rw [hp, r9]
  unfold gCorr at hK
  refine ⟨fun z => ?_, fun z => ?_⟩
  · rw [if_neg (fun y => by rw [z] at y; exact absurd y.1 (by decide))] at hK
    exact hK M5 p2 f2 hp h3
  · have h41 : w 4 = 1 := by rcases n9 with y | y; · exact absurd y z
                             · exact y
    rw [nI_1]
    refine c_hasUnit (hP.fr f2 hd) hv0 (by omega) ⟨fun y => ?_, fun y => ?_⟩
    · by_cases hk1 : k + 1 < Pu P
      · rw [if_pos hk1] at y; exact absurd y (by decide)
      · rw [if_neg (fun x => hk1 x.2)] at hK
        exact hK M5 p2 f2 hp h3
    · by_cases hk1 : k + 1 < Pu P
      · rw [if_pos ⟨h41, hk1⟩] at hK
        have i2 := ixn (k := k + 1) (z := 4) (by omega) (by decide)
        have hg := ((hP.fr f2 hd).2.2.2.2.2.2.1 (k + 1) hk1).1
        have hgl := (v5 (k + 1) hk1).2
        rw [i2.2, hp, r10, hg, nI_1, nI_add]
        refine ⟨i2.1, c_pass (by omega) (by omega) ?_⟩
        have i3 := ixn (k := 8 * (k + 1) + (T + 1 + Pgp P (k + 1)) % 8) (z := 32) (by omega) (by decide)
        refine ⟨i3.1, i3.1, ?_⟩
        rintro M10 rfl
        rw [i3.2]
        have p3 := p2.wr (M5 (p + 4) (8 * (k + 1) + (T + 1 + Pgp P (k + 1)) % 8) - c) (co_pass (show 8 * (k + 1) + (T + 1 + Pgp P (k + 1)) % 8 < 32 by omega)) (qk_pass (by omega))
        have r4 : M5 (p + 4) (8 * (k + 1) + (T + 1 + Pgp P (k + 1)) % 8) = gCorr0 P k c w (ppl (k + 1) (T + 1 + Pgp P (k + 1))) := by
          rw [p2.r (co_pass (show 8 * (k + 1) + (T + 1 + Pgp P (k + 1)) % 8 < 32 by omega))]
          congr 1
          unfold ppl; omega
        have ej : 22 + (8 * (k + 1) + (T + 1 + Pgp P (k + 1)) % 8) = ppl (k + 1) (T + 1 + Pgp P (k + 1)) := by unfold ppl; omega
        rw [ej, r4] at p3
        rw [r4]
        exact hK _ p3 (f2.tr (Fr.w (by decide))) (by rw [mw_ne (by omega)]; exact hp) (by rw [mw_ne (by omega)]; exact h3)
      · rw [if_neg hk1] at y; exact absurd rfl y
theorem c_adjL {K : Mem → Prop} (hv : PV P) (hd : q + 5 ≤ p ∨ p + 11 ≤ q) : ∀ (n k : Nat) (M : Mem) (w : Row), 1 ≤ k → k + n = Pu P → CP P M q → PR P M p w T t g U f True →
    (∀ M', PR P M' p (gAdjs P T n k w) T t g U f True → Fr p M M' → M' p = M p → K M') → L_X4_adjust_2 p q K (n + 1) (nI k) M := by
  intro n
  have hv0 := hv
  obtain ⟨v1, v2, v3, v4, v5, v6, v7, v8, v9, v10, v11⟩ := hv
  induction n with
  | zero =>
    intro k M w h1 hk hP h hK
    refine ⟨fun _ => hK M h Fr.rf rfl, fun c => absurd ?_ c⟩
    rw [hP.1, le_nI (by omega) (by omega)]; omega
  | succ n ih =>
    intro k M w h1 hk hP h hK
    have hku : k < Pu P := by omega
    have hk4 : k < 4 := by omega
    have i1 := ixn (k := k) (z := 4) hk4 (by decide)
    have hK : ∀ M', PR P M' p (gAdjs P T n (k + 1) (gAdj P T k w)) T t g U f True → Fr p M M' → M' p = M p → K M' := hK
    have r3 : M (p + 3) k = w (18 + k) := h.r (co_wait hk4)
    have r10 : M (p + 5 + 5) k = w (57 + k) := h.r (co_cer trivial hk4)
    have r8 : M (p + 5) 8 = w 55 := h.r (co_csp trivial)
    have go : ∀ (M1 : Mem) (w1 : Row), w1 = gAdj P T k w → PR P M1 p w1 T t g U f True → Fr p M M1 → M1 p = M p → wp_X4_adjust_70 p q (fun x2 M => L_X4_adjust_2 p q K (n + 1) x2 M) K (nI k) M1 := by
      intro M1 w1 e1 h1' f1 hp1
      subst e1
      show L_X4_adjust_2 p q K (n + 1) (nI k + 1) M1
      rw [nI_1]
      exact ih (k + 1) M1 _ (by omega) (by omega) (hP.fr f1 hd) h1' (fun M' a b c' => hK M' a (f1.tr b) (c'.trans hp1))
    refine ⟨fun c => ?_, fun c => ⟨i1.1, i1.1, ?_⟩⟩
    · rw [hP.1, le_nI (by omega) (by omega)] at c; omega
    · rw [i1.2, r3, r10, r8, gsz_abs, hP.2.2.2.2.1]
      refine ⟨fun z => ⟨fun z2 => ?_, fun z2 => ⟨fun z3 => ?_, fun z3 => ?_⟩⟩, fun z => ⟨i1.1, i1.1, ?_⟩⟩
      · exact go M w (by unfold gAdj; rw [if_pos z, if_pos z2]) h Fr.rf rfl
      · exact go M w (by unfold gAdj; rw [if_pos z, if_neg z2, if_neg z3]) h Fr.rf rfl
      · exact c_correct h hv0 hP hd h1 hku (fun M' a b c' _ => go M' _ (by unfold gAdj; rw [if_pos z, if_neg z2, if_pos z3]) a b c')
      · rintro M7 rfl
        exact go _ _ (by unfold gAdj; rw [if_neg z]) (h.wr (w (18 + k) - 1) (co_wait hk4) (qk_wait hk4)) (Fr.w (by decide)) (mw_ne (by omega))
theorem c_adj {K : Mem → Prop} (hv : PV P) (hd : q + 5 ≤ p ∨ p + 11 ≤ q) (hP : CP P M q) (h : PR P M p w T t g U f True)
    (hK : ∀ M', PR P M' p (gAdjs P T (Pu P - 1) 1 w) T t g U f True → Fr p M M' → M' p = M p → K M') : wp_X4_adjust p q M K :=
  ⟨Pu P - 1 + 1, c_adjL hv hd (Pu P - 1) 1 M w (by decide) (by have := hv.1; omega) hP h hK⟩
/-! the reel -/
theorem c_next {K : Int32 → Mem → Prop} (hv : PV P) (hP : CP P M q) (ho : Pon P (M p 5) (w 1)) (h : K (gNext P w) M) : wp_X4_nextReel p q M K := by
  have v3 := hv.2.2.1
  unfold gNext at h
  rcases ho with ⟨o1, o2, o3⟩ | ⟨o, hol, o1, o2⟩
  · refine ⟨fun _ => ?_, fun z => absurd o2 z⟩
    rw [o1, o3, if_pos (by decide)] at h
    exact h
  · refine ⟨fun z => ?_, fun z => ?_⟩
    · rw [o2] at z
      have : o = 0 ∨ o = 1 ∨ o = 2 ∨ o = 3 ∨ o = 4 ∨ o = 5 ∨ o = 6 ∨ o = 7 := by omega
      rcases this with rfl | rfl | rfl | rfl | rfl | rfl | rfl | rfl <;> exact absurd z (by decide)
    · rw [o2, nI_1]
      rw [o1, nI_1] at h
      refine c_hasReel hP hv (by omega) ⟨fun y => ?_, fun y => ?_⟩
      · by_cases hl : o + 1 < Prl P
        · rw [if_pos hl] at y; exact absurd y (by decide)
        · rw [if_pos ((le_nI (by omega) (by omega)).mpr (by omega))] at h; exact h
      · by_cases hl : o + 1 < Prl P
        · rw [if_neg (fun x => by rw [le_nI (by omega) (by omega)] at x; omega)] at h
          rw [o2, nI_1]
          exact h
        · rw [if_neg hl] at y; exact absurd rfl y
theorem c_can {K : Int32 → Mem → Prop} (hv : PV P) (hP : CP P M q) (ho : Pon P (M p 5) (w 1)) (h : K (if gNext P w = -9 ∨ M p 7 < Psp P then 0 else 1) M) : wp_X4_canPaste p q M K := by
  refine c_next hv hP ho ⟨fun z => ?_, fun z => ⟨fun z2 => ?_, fun z2 => ?_⟩⟩
  · rw [if_pos (Or.inl z)] at h; exact h
  · rw [hP.2.2.2.2.2.1] at z2; rw [if_pos (Or.inr z2)] at h; exact h
  · rw [hP.2.2.2.2.2.1] at z2; rw [if_neg (fun y => by rcases y with y | y <;> contradiction)] at h; exact h
theorem PR.cls (h : PR P M p w T t g U f hc) {k : Nat} (hk : k = 6 ∨ k = 7) (v : Int32) : PR P (mw M p k v) p w T t g U f hc := by
  obtain ⟨b1, b2, b3, b4, b5, b6, b7, b8⟩ := h
  have e0 : ∀ x j, x ≠ p → mw M p k v x j = M x j := fun x j hx => congrFun (mw_ne hx) j
  refine ⟨b1.c (i := 0) v (fun j c => ?_), ?_, ?_, b4, ?_, ?_, ?_, b8⟩
  · rcases c with ⟨-, z, -⟩ | ⟨-, z, -⟩ | ⟨-, z, -⟩ | ⟨z, -, -⟩ | ⟨-, z, -⟩ | ⟨-, z, -⟩ | ⟨-, z, -⟩ | ⟨z, -, -⟩ | ⟨z, -, -⟩ | ⟨z, -, -⟩ | ⟨z, -, -⟩ | ⟨-, z, -, -⟩ | ⟨-, z, -, -⟩ | ⟨-, z, -, -⟩ | ⟨a, -, z, -, -⟩ | ⟨a, -, z, -, -⟩ | ⟨a, -, z, -, -⟩ | ⟨a, e, -, -, -, z, -, -⟩ <;> omega
  · rw [mw_k (by omega)]; exact b2
  · rw [e0 _ _ (by omega)]; exact b3
  · intro c e h1 h2 h3; rw [e0 _ _ (by omega)]; exact b5 c e h1 h2 h3
  · unfold Pl at *; rw [e0 _ _ (by omega), e0 _ _ (by omega)]; exact b6
  · unfold Pb at *; rw [e0 _ _ (by omega), e0 _ _ (by omega), e0 _ _ (by omega), mw_k (by omega), mw_k (by omega)]; exact b7
theorem PR.row (h : PR P M p w T t g U f hc) {j : Nat} (hj : j = 2 ∨ j = 3) (v : Int32) : PR P M p (upd w j v) T t g U f hc := by
  obtain ⟨b1, b2, b3, b4, b5, b6, b7, b8⟩ := h
  obtain ⟨n1, n2, n3, n4, n5, n6, n7, n8, n9⟩ := b8
  refine ⟨b1.m v (fun i k c => ?_), ?_, b3, b4.ne (fun z => by omega), b5, ?_, b7, ?_⟩
  · rcases c with ⟨-, -, z⟩ | ⟨-, -, z⟩ | ⟨-, -, z⟩ | ⟨-, -, z⟩ | ⟨-, -, z⟩ | ⟨-, -, z⟩ | ⟨-, -, z⟩ | ⟨-, -, z⟩ | ⟨-, -, z⟩ | ⟨-, -, z⟩ | ⟨-, -, z⟩ | ⟨-, -, -, z⟩ | ⟨-, -, -, z⟩ | ⟨-, -, -, z⟩ | ⟨a, -, -, -, z⟩ | ⟨a, -, -, -, z⟩ | ⟨a, -, -, -, z⟩ | ⟨a, e, -, -, -, -, -, z⟩ <;> omega
  · rw [upd_ne (by omega)]; exact b2
  · unfold Pl at *; rw [upd_ne (by omega)]; exact b6
  · exact ⟨by rw [upd_ne (by omega)]; exact n1, by rw [upd_ne (by omega)]; exact n2, n3, n4, n5, n6, n7, by rw [upd_ne (by omega)]; exact n8, by rw [upd_ne (by omega)]; exact n9⟩
theorem PR.on {o : Nat} (h : PR P M p w T t g U f hc) (ho : o < Prl P) : PR P (mw M p 5 (nI o)) p (upd w 1 (nI o)) T t g U f hc := by
  obtain ⟨b1, b2, b3, b4, b5, b6, b7, b8⟩ := h
  obtain ⟨n1, n2, n3, n4, n5, n6, n7, n8, n9⟩ := b8
  have e0 : ∀ x j, x ≠ p → mw M p 5 (nI o) x j = M x j := fun x j hx => congrFun (mw_ne hx) j
  refine ⟨(b1.c (i := 0) (k := 5) (nI o) (fun j c => ?_)).m (nI o) (fun i k c => ?_), ?_, ?_, b4.ne (fun z => by omega), ?_, ?_, ?_, ?_⟩
  · rcases c with ⟨-, z, -⟩ | ⟨-, z, -⟩ | ⟨-, z, -⟩ | ⟨z, -, -⟩ | ⟨-, z, -⟩ | ⟨-, z, -⟩ | ⟨-, z, -⟩ | ⟨z, -, -⟩ | ⟨z, -, -⟩ | ⟨z, -, -⟩ | ⟨z, -, -⟩ | ⟨-, z, -, -⟩ | ⟨-, z, -, -⟩ | ⟨-, z, -, -⟩ | ⟨a, -, z, -, -⟩ | ⟨a, -, z, -, -⟩ | ⟨a, -, z, -, -⟩ | ⟨a, e, -, -, -, z, -, -⟩ <;> omega
  · rcases c with ⟨-, -, z⟩ | ⟨-, -, z⟩ | ⟨-, -, z⟩ | ⟨-, -, z⟩ | ⟨-, -, z⟩ | ⟨-, -, z⟩ | ⟨-, -, z⟩ | ⟨-, -, z⟩ | ⟨-, -, z⟩ | ⟨-, -, z⟩ | ⟨-, -, z⟩ | ⟨-, -, -, z⟩ | ⟨-, -, -, z⟩ | ⟨-, -, -, z⟩ | ⟨a, -, -, -, z⟩ | ⟨a, -, -, -, z⟩ | ⟨a, -, -, -, z⟩ | ⟨a, e, -, -, -, -, -, z⟩ <;> omega
  · rw [mw_at, upd_at]; exact Or.inr ⟨o, ho, rfl, rfl⟩
  · rw [e0 _ _ (by omega)]; exact b3
  · intro c e h1 h2 h3; rw [e0 _ _ (by omega)]; exact b5 c e h1 h2 h3
  · unfold Pl at *; rw [e0 _ _ (by omega), e0 _ _ (by omega), upd_ne (by omega)]; exact b6
  · unfold Pb at *; rw [e0 _ _ (by omega), e0 _ _ (by omega), e0 _ _ (by omega), mw_k (by omega), mw_k (by omega)]; exact b7
  · exact ⟨by rw [upd_ne (by omega)]; exact n1, by rw [upd_ne (by omega)]; exact n2, n3, n4, n5, n6, n7, by rw [upd_ne (by omega)]; exact n8, by rw [upd_ne (by omega)]; exact n9⟩
theorem next_val (hv : PV P) (ho : Pon P (M p 5) (w 1)) (hne : ¬ gNext P w = -9) : ∃ o, o < Prl P ∧ w 1 + 1 = nI o ∧ gNext P w = nI o := by
  have v3 := hv.2.2.1
  obtain ⟨o, ho1, hob⟩ : ∃ o, w 1 + 1 = nI o ∧ o ≤ 8 := by
    rcases ho with ⟨z, -, -⟩ | ⟨o, hol, o1, -⟩
    · exact ⟨0, by rw [z]; decide, by decide⟩
    · exact ⟨o + 1, by rw [o1, nI_1], by omega⟩
  have hol : o < Prl P := by
    rcases Nat.lt_or_ge o (Prl P) with z | z
    · exact z
    · exact absurd ((gNext_no hv ho1 hob).mpr z) hne
  refine ⟨o, hol, ho1, ?_⟩
  unfold gNext
  rw [ho1, if_neg (fun x => by rw [le_nI (by omega) (by omega)] at x; omega)]
theorem c_mount {K : Mem → Prop} {o : Nat} (h : PR P M p w T t g U f hc) (hv : PV P) (hP : CP P M q) (hd : q + 5 ≤ p ∨ p + 11 ≤ q) (hol : o < Prl P) (ho : w 1 + 1 = nI o) (hx : gNext P w = nI o)
    (hK : ∀ M', PR P M' p (gMount P w) T t g U f hc → Fr p M M' → M' p 6 = gMount P w 2 → M' p 7 = 0 → M' p 13 = M p 13 → K M') : wp_X4_mountNext p q M K := by
  have v3 := hv.2.2.1
  refine c_next hv hP h.2.1 ?_
  rw [hx]
  refine ⟨fun z => ?_, fun _ => ?_⟩
  · have : o = 0 ∨ o = 1 ∨ o = 2 ∨ o = 3 ∨ o = 4 ∨ o = 5 ∨ o = 6 ∨ o = 7 := by omega
    rcases this with rfl | rfl | rfl | rfl | rfl | rfl | rfl | rfl <;> exact absurd z (by decide)
  · rintro M3 rfl
    have i1 := ixn (k := o) (z := 8) (by omega) (by decide)
    refine ⟨i1.1, ?_⟩
    rw [i1.2]
    have hcp : mw M p 5 (nI o) (q + 3) o = Pcp P o := by rw [mw_ne (by omega)]; exact (hP.2.2.2.2.2.2.2 o hol).1
    rw [hcp]
    rintro M4 rfl
    rintro M5 rfl
    have p1 := (((h.on hol).cls (Or.inl rfl) (Pcp P o)).cls (Or.inr rfl) 0)
    have p2 := (p1.row (Or.inl rfl) (Pcp P o)).row (Or.inr rfl) 0
    have ew : upd (upd (upd w 1 (nI o)) 2 (Pcp P o)) 3 0 = gMount P w := by unfold gMount; rw [ho, ix_nI (by omega)]
    rw [ew] at p2
    refine hK _ p2 (fun c hc' => by rw [mw_ne (by omega), mw_ne (by omega), mw_ne (by omega)]) ?_ (mw_at _ _ _ _) ?_
    · rw [mw_k (by decide), mw_at, ← ew, upd_ne (by decide), upd_at]
    · rw [mw_k (by decide), mw_k (by decide), mw_k (by decide)]
end C5
