/-! the text, token by token -/
section TX
variable {X N : Mem} {n s b e : Nat} {L : Nat → Int32}
def fig (x : Int32) : Prop := (48 : Int32) ≤ x ∧ x ≤ (57 : Int32)
def IsB (L : Nat → Int32) (n s b : Nat) : Prop := s ≤ b ∧ b ≤ n ∧ (∀ j, s ≤ j → j < b → L j = 32) ∧ (b < n → ¬ L b = 32)
def IsE (L : Nat → Int32) (n b e : Nat) : Prop := b < e ∧ e ≤ n ∧ (∀ j, b ≤ j → j < e → fig (L j)) ∧ (e < n → ¬ fig (L e))
def gV (L : Nat → Int32) (b : Nat) : Nat → Nat
  | 0 => 0
  | m + 1 => if gV L b m ≤ 99 then 10 * gV L b m + (ix (L (b + m)) - 48) else 100
def cap (v : Nat) : Nat := if v ≤ 99 then v else 100
def gdn (L : Nat → Int32) (b e : Nat) : Prop := gV L b (e - b) ≤ 99 ∧ ¬ (L b = 48 ∧ b + 1 < e)
def TXc (L : Nat → Int32) (n : Nat) (X : Mem) : Prop := n ≤ 120 ∧ X 1 1 = nI n ∧ ∀ j, j < n → X 2 j = L j ∧ 0 ≤ L j ∧ L j ≤ 255
def TK (L : Nat → Int32) (n : Nat) (X : Mem) (b : Nat) : Prop := b ≤ n ∧ X 1 3 = nI b ∧ (b = n → X 1 4 = 257) ∧ (b < n → ¬ fig (L b) → X 1 4 = L b ∧ X 1 2 = nI (b + 1)) ∧
  (b < n → fig (L b) → ∃ e, IsE L n b e ∧ X 1 2 = nI e ∧ (gdn L b e → X 1 4 = 256 ∧ X 1 5 = nI (gV L b (e - b))) ∧ (¬ gdn L b e → X 1 4 = 258))
theorem fig_nI {x : Int32} (h : fig x) : ∃ c, x = nI c ∧ 48 ≤ c ∧ c ≤ 57 := by
  obtain ⟨c, hc, rfl⟩ := int_nI (Int32.le_trans (show (0 : Int32) ≤ 48 by decide) h.1)
  have h1 := h.1
  have h2 := h.2
  rw [lleN (by decide) hc] at h1
  rw [leNl (by decide) hc] at h2
  exact ⟨c, rfl, h1, h2⟩
theorem gV_le : ∀ m, (∀ j, j < m → fig (L (b + j))) → gV L b m ≤ 999
  | 0, _ => by show 0 ≤ 999; omega
  | m + 1, h => by
    have := gV_le m (fun j hj => h j (by omega))
    obtain ⟨c, e, c1, c2⟩ := fig_nI (h m (by omega))
    rw [gV, e, ix_nI (by omega)]
    split <;> omega
theorem c_isFig {K : Int32 → Mem → Prop} {x : Int32} (h1 : fig x → K 1 X) (h0 : ¬ fig x → K 0 X) : wp_X5_isFigure x X K := by
  refine ⟨fun c => h0 (fun z => ?_), fun c => ⟨fun c2 => h0 (fun z => ?_), fun c2 => h1 ⟨?_, ?_⟩⟩⟩
  · have := z.1; rw [← Int32.not_lt] at this; exact this c
  · have := z.2; rw [← Int32.not_lt] at this; exact this c2
  · rw [Int32.not_lt] at c; exact c
  · rw [Int32.not_lt] at c2; exact c2
def SC (X X' : Mem) : Prop := (∀ c, c ≠ 1 → X' c = X c) ∧ ∀ j, (j < 2 ∨ 6 ≤ j) → X' 1 j = X 1 j
theorem SC.rf : SC X X := ⟨fun _ _ => rfl, fun _ _ => rfl⟩
theorem SC.tr {X1 X2 : Mem} (h : SC X X1) (h2 : SC X1 X2) : SC X X2 := ⟨fun c hc => (h2.1 c hc).trans (h.1 c hc), fun j hj => (h2.2 j hj).trans (h.2 j hj)⟩
theorem SC.w {k : Nat} {v : Int32} (h : 2 ≤ k) (h2 : k < 6) : SC X (mw X 1 k v) := ⟨fun c hc => mw_ne hc, fun j hj => mw_k (by omega)⟩
theorem TXc.sc {X' : Mem} (h : TXc L n X) (f : SC X X') : TXc L n X' := ⟨h.1, by rw [f.2 1 (by omega)]; exact h.2.1, fun j hj => by rw [f.1 2 (by decide)]; exact h.2.2 j hj⟩
theorem cap_step {v c : Nat} (hv : v ≤ 999) (h1 : 48 ≤ c) (h2 : c ≤ 57) : (if (100 : Int32) < nI (cap v) * 10 + nI c - 48 then (100 : Int32) else nI (cap v) * 10 + nI c - 48) = nI (cap (if v ≤ 99 then 10 * v + (c - 48) else 100)) := by
  have hc : cap v ≤ 100 := by unfold cap; split <;> omega
  have e : nI (cap v) * 10 + nI c - 48 = nI (cap v * 10 + c - 48) := by
    rw [mull, nI_add]; exact pk_sub (show 48 ≤ cap v * 10 + c by omega)
  rw [e]
  have hl : (100 : Int32) < nI (cap v * 10 + c - 48) ↔ 100 < cap v * 10 + c - 48 := lltN (n := 100) (by decide) (by omega)
  by_cases z : 100 < cap v * 10 + c - 48
  · rw [if_pos (hl.mpr z)]
    show nI 100 = _
    congr 1
    unfold cap at *
    by_cases y : v ≤ 99
    · rw [if_pos y] at *
      rw [if_neg (by omega)]
    · rw [if_neg y, if_neg (by omega)]
  · rw [if_neg (fun y => z (hl.mp y))]
    congr 1
    unfold cap at *
    by_cases y : v ≤ 99
    · rw [if_pos y] at *
      by_cases y2 : 10 * v + (c - 48) ≤ 99
      · simp only [if_pos y, if_pos y2]; omega
      · simp only [if_pos y, if_neg y2]; omega
    · rw [if_neg y] at *
      omega
theorem c_numL {K : Mem → Prop} {y0 : Int32} (hb : b < n) (hf : fig (L b)) (hz : (y0 = 1 ∧ L b = 48) ∨ (y0 = 0 ∧ ¬ L b = 48)) (hK : ∀ X', TK L n X' b → SC X X' → K X') : ∀ (r m : Nat) (X1 : Mem), b + m + r = n → (∀ j, j < m → fig (L (b + j))) → TXc L n X1 → SC X X1 → X1 1 2 = nI (b + m) → X1 1 3 = nI b → X1 1 5 = nI (cap (gV L b m)) → (m = 0 → r ≠ 0) → L_X5_stepOverNumber_25 1 K (r + 1) y0 X1 := by
  have fin : ∀ (m : Nat) (X1 : Mem), 1 ≤ m → b + m ≤ n → (∀ j, j < m → fig (L (b + j))) → (b + m < n → ¬ fig (L (b + m))) → TXc L n X1 → SC X X1 → X1 1 2 = nI (b + m) → X1 1 3 = nI b → X1 1 5 = nI (cap (gV L b m)) → wp_X5_stepOverNumber_93 1 K y0 X1 := by
    intro m X1 hm hmn hfm hnf hT hS e2 e3 e5
    have hn := hT.1
    have hE : IsE L n b (b + m) := ⟨by omega, hmn, fun j j1 j2 => by have := hfm (j - b) (by omega); rw [show b + (j - b) = j by omega] at this; exact this, hnf⟩
    have hv := gV_le m hfm
    have em : b + m - b = m := by omega
    have tk : ∀ v : Int32, (gdn L b (b + m) → v = 256) → (¬ gdn L b (b + m) → v = 258) → TK L n (mw X1 1 4 v) b := by
      intro v h1 h0
      refine ⟨by omega, by rw [mw_k (by decide)]; exact e3, fun z => by omega, fun _ z => absurd hf z, fun _ _ => ⟨b + m, hE, by rw [mw_k (by decide)]; exact e2, fun g => ⟨by rw [mw_at]; exact h1 g, ?_⟩, fun g => by rw [mw_at]; exact h0 g⟩⟩
      rw [mw_k (by decide), e5, em]
      have := g.1
      rw [em] at this
      unfold cap
      rw [if_pos this]
    have hcap : cap (gV L b m) ≤ 100 := by unfold cap; split <;> omega
    have wrong : ¬ gdn L b (b + m) → wp_X5_stepOverNumber_130 1 K X1 := by
      intro g
      rintro M14 rfl
      exact hK _ (tk 258 (fun z => absurd z g) (fun _ => rfl)) (hS.tr (SC.w (by omega) (by omega)))
    have big : gV L b m ≤ 99 ↔ ¬ (99 : Int32) < X1 1 5 := by
      rw [e5, lltN (by decide) (by omega)]
      show _ ↔ ¬ 99 < cap (gV L b m)
      unfold cap
      split <;> omega
    have t115 : ∀ y, ((y = 1 ∧ L b = 48 ∧ 1 < m) ∨ (y = 0 ∧ ¬ (L b = 48 ∧ 1 < m))) → wp_X5_stepOverNumber_115 1 K y X1 := by
      intro y hy
      refine ⟨fun c => wrong (fun g => ?_), fun c => ⟨fun c2 => ?_, fun c2 => wrong (fun g => ?_)⟩⟩
      · have := g.1; rw [em, big] at this; exact this c
      · rintro M13 rfl
        refine hK _ (tk 256 (fun _ => rfl) (fun g => absurd ⟨by rw [em]; exact big.mpr c, fun q => ?_⟩ g)) (hS.tr (SC.w (by omega) (by omega)))
        rcases hy with ⟨z, -⟩ | ⟨-, z⟩
        · exact absurd (z.symm.trans c2) (by decide)
        · exact z ⟨q.1, by have := q.2; omega⟩
      · rcases hy with ⟨-, z⟩ | ⟨z, -⟩
        · exact g.2 ⟨z.1, by omega⟩
        · exact c2 z
    have e1 : X1 1 2 - X1 1 3 = nI m := by rw [e2, e3, pk_sub (by omega), em]
    refine ⟨fun c => t115 0 (Or.inr ⟨rfl, ?_⟩), fun c => ⟨fun c2 => t115 0 (Or.inr ⟨rfl, ?_⟩), fun c2 => t115 1 (Or.inl ⟨rfl, ?_⟩)⟩⟩
    · rcases hz with ⟨z, -⟩ | ⟨-, z⟩
      · exact absurd (z.symm.trans c) (by decide)
      · exact fun q => z q.1
    · rw [e1, leNl (by decide) (by omega)] at c2
      have c2 : m ≤ 1 := c2
      exact fun q => by have := q.2; omega
    · rw [e1, leNl (by decide) (by omega)] at c2
      have c2 : ¬ m ≤ 1 := c2
      rcases hz with ⟨-, z⟩ | ⟨z, -⟩
      · exact ⟨z, by omega⟩
      · exact absurd z c
  intro r
  induction r with
  | zero =>
    intro m X1 hm hfm hT hS e2 e3 e5 hr
    have hm0 : m ≠ 0 := fun z => absurd rfl (hr z)
    have hn := hT.1
    refine ⟨fun _ => fin m X1 (by omega) (by omega) hfm (fun z => by omega) hT hS e2 e3 e5, fun c => absurd ?_ c⟩
    rw [hT.2.1, e2, le_nI (by omega) (by omega)]; omega
  | succ r ih =>
    intro m X1 hm hfm hT hS e2 e3 e5 hr
    have hn := hT.1
    have i1 := ixn (k := b + m) (z := 120) (by omega) (by decide)
    have hL := hT.2.2 (b + m) (by omega)
    unfold L_X5_stepOverNumber_25
    rw [hT.2.1, e2, i1.2]
    refine ⟨fun c => ?_, fun _ => ⟨i1.1, ?_⟩⟩
    · rw [le_nI (by omega) (by omega)] at c; omega
    rw [show X1 (1 + 1) (b + m) = L (b + m) from hL.1]
    refine c_isFig (fun z => ⟨fun y => absurd y (by decide), fun _ => ?_⟩) (fun z => ⟨fun _ => ?_, fun y => absurd rfl y⟩)
    · rw [e2, i1.2]
      refine ⟨i1.1, ?_⟩
      rw [show X1 (1 + 1) (b + m) = L (b + m) from hL.1, e5]
      obtain ⟨c, ec, c1, c2⟩ := fig_nI z
      rintro M7 rfl
      rintro M8 rfl
      rw [ec, cap_step (gV_le m hfm) c1 c2, mw_k (by decide), e2, nI_1]
      have sc : SC X1 (mw (mw X1 1 5 (nI (cap (if gV L b m ≤ 99 then 10 * gV L b m + (c - 48) else 100)))) 1 2 (nI (b + m + 1))) := (SC.w (by omega) (by omega)).tr (SC.w (by omega) (by omega))
      refine ih (m + 1) _ (by omega) (fun j hj => ?_) (hT.sc sc) (hS.tr sc) (mw_at _ _ _ _) (by rw [mw_k (by decide), mw_k (by decide)]; exact e3) ?_ (fun q => by omega)
      · rcases Nat.lt_or_ge j m with q | q
        · exact hfm j q
        · rw [show j = m by omega]; exact z
      · rw [mw_k (by decide), mw_at]
        show _ = nI (cap (if gV L b m ≤ 99 then 10 * gV L b m + (ix (L (b + m)) - 48) else 100))
        rw [ec, ix_nI (by omega)]
    · rcases Nat.eq_zero_or_pos m with q | q
      · subst q; exact absurd hf z
      · exact fin m X1 q (by omega) hfm (fun _ => z) hT hS e2 e3 e5
theorem c_on38 {K : Mem → Prop} (hT : TXc L n X) (hb : b ≤ n) (e2 : X 1 2 = nI b) (hK : ∀ X', TK L n X' b → SC X X' → K X') : wp_X5_stepOn_38 1 K X := by
  rintro M5 rfl
  have hn := hT.1
  have sc : SC X (mw X 1 3 (X 1 2)) := SC.w (by omega) (by omega)
  have hT5 := hT.sc sc
  have q2 : mw X 1 3 (X 1 2) 1 2 = nI b := by rw [mw_k (by decide)]; exact e2
  have q3 : mw X 1 3 (X 1 2) 1 3 = nI b := by rw [mw_at]; exact e2
  generalize mw X 1 3 (X 1 2) = M5 at *
  rw [hT5.2.1, q2]
  refine ⟨fun c => ?_, fun c => ?_⟩
  · rw [lt_nI (by omega) (by omega)] at c
    have i1 := ixn (k := b) (z := 120) (by omega) (by decide)
    have hL := hT5.2.2 b c
    rw [i1.2, show M5 (1 + 1) b = L b from hL.1]
    refine ⟨i1.1, c_isFig (fun z => ⟨fun y => absurd y (by decide), fun _ => ?_⟩) (fun z => ⟨fun _ => ?_, fun y => absurd rfl y⟩)⟩
    · unfold wp_X5_stepOverNumber
      rw [q2, i1.2, show M5 (1 + 1) b = L b from hL.1]
      have go : ∀ y0 : Int32, ((y0 = 1 ∧ L b = 48) ∨ (y0 = 0 ∧ ¬ L b = 48)) → wp_X5_stepOverNumber_19 1 K y0 M5 := by
        intro y0 hy
        rintro M2 rfl
        have s2 : SC M5 (mw M5 1 5 0) := SC.w (by omega) (by omega)
        exact ⟨n - b + 1, c_numL (X := X) c z hy hK (n - b) 0 _ (by omega) (fun j hj => by omega) (hT5.sc s2) (sc.tr s2) (by rw [mw_k (by decide)]; exact q2) (by rw [mw_k (by decide)]; exact q3) (by rw [mw_at]; rfl) (fun _ => by omega)⟩
      exact ⟨i1.1, fun y => go 0 (Or.inr ⟨rfl, y⟩), fun y => go 1 (Or.inl ⟨rfl, y⟩)⟩
    · rw [q2, i1.2, show M5 (1 + 1) b = L b from hL.1]
      refine ⟨i1.1, ?_⟩
      rintro M9 rfl
      rintro M10 rfl
      rw [mw_k (by decide), q2, nI_1]
      refine hK _ ⟨hb, by rw [mw_k (by decide), mw_k (by decide)]; exact q3, fun y => by omega, fun _ _ => ⟨by rw [mw_k (by decide), mw_at], mw_at _ _ _ _⟩, fun _ y => absurd y z⟩ ((sc.tr (SC.w (by omega) (by omega))).tr (SC.w (by omega) (by omega)))
  · rw [lt_nI (by omega) (by omega)] at c
    rintro M12 rfl
    refine hK _ ⟨hb, by rw [mw_k (by decide)]; exact q3, fun _ => mw_at _ _ _ _, fun y => by omega, fun y => by omega⟩ (sc.tr (SC.w (by omega) (by omega)))
theorem c_step {K : Mem → Prop} (hT : TXc L n X) (hs : s ≤ n) (e2 : X 1 2 = nI s) (hK : ∀ X' b, IsB L n s b → TK L n X' b → SC X X' → K X') : wp_X5_stepOn 1 X K := by
  have go : ∀ (r x : Nat) (X1 : Mem), x + r = n → s ≤ x → (∀ j, s ≤ j → j < x → L j = 32) → TXc L n X1 → SC X X1 → X1 1 2 = nI x → L_X5_stepOn_0 1 K (r + 1) X1 := by
    intro r
    induction r with
    | zero =>
      intro x X1 hx hsx hl hT1 hS1 q2
      have hn := hT1.1
      refine ⟨fun _ => c_on38 hT1 (by omega) q2 (fun X' a f => hK X' x ⟨hsx, by omega, hl, fun z => by omega⟩ a (hS1.tr f)), fun c => absurd ?_ c⟩
      rw [hT1.2.1, q2, le_nI (by omega) (by omega)]; omega
    | succ r ih =>
      intro x X1 hx hsx hl hT1 hS1 q2
      have hn := hT1.1
      have i1 := ixn (k := x) (z := 120) (by omega) (by decide)
      have hL := hT1.2.2 x (by omega)
      unfold L_X5_stepOn_0
      rw [hT1.2.1, q2, i1.2, show X1 (1 + 1) x = L x from hL.1]
      refine ⟨fun c => ?_, fun _ => ⟨i1.1, fun c => ?_, fun c => ?_⟩⟩
      · rw [le_nI (by omega) (by omega)] at c; omega
      · exact c_on38 hT1 (by omega) q2 (fun X' a f => hK X' x ⟨hsx, by omega, hl, fun _ => c⟩ a (hS1.tr f))
      · rintro M15 rfl
        rw [nI_1]
        have sc : SC X1 (mw X1 1 2 (nI (x + 1))) := SC.w (by omega) (by omega)
        refine ih (x + 1) _ (by omega) (by omega) (fun j j1 j2 => ?_) (hT1.sc sc) (hS1.tr sc) (mw_at _ _ _ _)
        rcases Nat.lt_or_ge j x with q | q
        · exact hl j j1 q
        · rw [show j = x by omega]; exact c
  rcases Nat.lt_or_ge s n with z | z
  · have := go (n - s) s X (by omega) (Nat.le_refl _) (fun j j1 j2 => by omega) hT SC.rf e2
    rw [show n - s = (n - s - 1) + 1 by omega] at this
    refine ⟨this.1, fun c => ⟨(this.2 c).1, (this.2 c).2.1, fun y => ?_⟩⟩
    intro M3 e3
    exact ⟨_, (this.2 c).2.2 y M3 e3⟩
  · have hn := hT.1
    have : s = n := by omega
    subst this
    refine ⟨fun _ => c_on38 hT (by omega) e2 (fun X' a f => hK X' s ⟨by omega, by omega, fun j j1 j2 => by omega, fun z => by omega⟩ a f), fun c => absurd ?_ c⟩
    rw [hT.2.1, e2]; exact Int32.le_refl _
/-! the reference's side -/
def S3 (Y N : Mem) (a b v : Int32) : Mem := fun c j => if c < 130 then Y c j else if c = 130 then (if j = 24 then a else if j = 25 then b else if j = 26 then v else N 130 j) else N c j
variable {Y : Mem} {A B V x : Int32} {c j : Nat}
theorem S3_24 : S3 Y N A B V 130 24 = A := by simp [S3]
theorem S3_25 : S3 Y N A B V 130 25 = B := by simp [S3]
theorem S3_26 : S3 Y N A B V 130 26 = V := by simp [S3]
theorem S3_j (h : j < 24 ∨ 26 < j) : S3 Y N A B V 130 j = N 130 j := by unfold S3; rw [if_neg (by omega), if_pos rfl, if_neg (by omega), if_neg (by omega), if_neg (by omega)]
theorem S3_c (h : 131 ≤ c) : S3 Y N A B V c = N c := by funext j; unfold S3; rw [if_neg (by omega), if_neg (by omega)]
theorem S3_lo (h : c < 130) : S3 Y N A B V c = Y c := by funext j; unfold S3; rw [if_pos h]
theorem mw_S24 : mw (S3 Y N A B V) 130 24 x = S3 Y N x B V := by
  funext c j; unfold S3; simp only [mw]
  by_cases h : c = 130
  · subst h
    by_cases h2 : j = 24
    · simp [h2]
    · simp [h2]
  · rw [if_neg (fun z => h z.1), if_neg h, if_neg h]
theorem mw_S25 : mw (S3 Y N A B V) 130 25 x = S3 Y N A x V := by
  funext c j; unfold S3; simp only [mw]
  by_cases h : c = 130
  · subst h
    by_cases h2 : j = 25
    · simp [h2]
    · simp [h2]
  · rw [if_neg (fun z => h z.1), if_neg h, if_neg h]
theorem mw_S26 : mw (S3 Y N A B V) 130 26 x = S3 Y N A B x := by
  funext c j; unfold S3; simp only [mw]
  by_cases h : c = 130
  · subst h
    by_cases h2 : j = 26
    · simp [h2]
    · simp [h2]
  · rw [if_neg (fun z => h z.1), if_neg h, if_neg h]
theorem mw_Sc (h : 131 ≤ c) : mw (S3 Y N A B V) c j x = S3 Y (mw N c j x) A B V := by
  funext c' j'; unfold S3; simp only [mw]
  by_cases h0 : c' < 130
  · rw [if_neg (by omega), if_pos h0, if_pos h0]
  · rw [if_neg h0, if_neg h0]
    by_cases h1 : c' = 130
    · rw [if_neg (by omega), if_pos h1, if_pos h1]
      by_cases h2 : j' = 24
      · rw [if_pos h2, if_pos h2]
      · rw [if_neg h2, if_neg h2]
        by_cases h3 : j' = 25
        · rw [if_pos h3, if_pos h3]
        · rw [if_neg h3, if_neg h3]
          by_cases h4 : j' = 26
          · rw [if_pos h4, if_pos h4]
          · rw [if_neg h4, if_neg h4, if_neg (by omega)]
    · rw [if_neg h1, if_neg h1]
theorem mw_Sj (h : j < 24 ∨ 26 < j) : mw (S3 Y N A B V) 130 j x = S3 Y (mw N 130 j x) A B V := by
  funext c' j'; unfold S3; simp only [mw]
  by_cases h0 : c' < 130
  · rw [if_neg (by omega), if_pos h0, if_pos h0]
  · rw [if_neg h0, if_neg h0]
    by_cases h1 : c' = 130
    · rw [if_pos h1, if_pos h1]
      by_cases h2 : j' = 24
      · rw [if_neg (by omega), if_pos h2, if_pos h2]
      · rw [if_neg h2, if_neg h2]
        by_cases h3 : j' = 25
        · rw [if_neg (by omega), if_pos h3, if_pos h3]
        · rw [if_neg h3, if_neg h3]
          by_cases h4 : j' = 26
          · rw [if_neg (by omega), if_pos h4, if_pos h4]
          · rw [if_neg h4, if_neg h4]
            by_cases h5 : j' = j
            · rw [if_pos ⟨h1, h5⟩, if_pos ⟨trivial, h5⟩]
            · rw [if_neg (by omega), if_neg (by omega)]
    · rw [if_neg (by omega), if_neg h1, if_neg h1, if_neg (by omega)]
theorem S3_self (h : ∀ c, 130 ≤ c → Y c = N c) : S3 Y N (Y 130 24) (Y 130 25) (Y 130 26) = Y := by
  funext c j; unfold S3
  by_cases h0 : c < 130
  · rw [if_pos h0]
  · rw [if_neg h0]
    by_cases h1 : c = 130
    · subst h1
      rw [if_pos rfl, ← h 130 (by omega)]
      by_cases z : j = 24
      · rw [if_pos z, z]
      · rw [if_neg z]
        by_cases z : j = 25
        · rw [if_pos z, z]
        · rw [if_neg z]
          by_cases z : j = 26
          · rw [if_pos z, z]
          · rw [if_neg z]
    · rw [if_neg h1, h c (by omega)]
def TXm (L : Nat → Int32) (n : Nat) (N : Mem) : Prop := n ≤ 120 ∧ N 130 7 = nI n ∧ ∀ j, j < n → N 136 j = L j
theorem m_bl {K : Mem → Prop} (hT : TXm L n N) (hB : IsB L n s b) (h : K (S3 Y N (nI b) (nI b) V)) : wp_X7_blanks (S3 Y N (nI s) B V) K := by
  have hn := hT.1
  have go : ∀ (r x : Nat), x + r = b → s ≤ x → L_X7_blanks_0 K (r + 1) (S3 Y N (nI x) B V) := by
    intro r
    induction r with
    | zero =>
      intro x hx hsx
      have : x = b := by omega
      subst this
      unfold L_X7_blanks_0
      rw [S3_j (by omega), S3_24, hT.2.1, S3_c (c := 136) (by decide)]
      refine ⟨fun c => ?_, fun c => ?_⟩
      · rintro M8 rfl
        rw [mw_S25]; exact h
      · rw [le_nI (by have := hB.2.1; omega) (by have := hB.2.1; omega)] at c
        have i1 := ixn (k := x) (z := 120) (by omega) (by decide)
        rw [i1.2, hT.2.2 x (by omega)]
        refine ⟨i1.1, fun _ => ?_, fun z => absurd z (hB.2.2.2 (by omega))⟩
        rintro M8 rfl
        rw [mw_S25]; exact h
    | succ r ih =>
      intro x hx hsx
      have hbn := hB.2.1
      unfold L_X7_blanks_0
      have i1 := ixn (k := x) (z := 120) (by omega) (by decide)
      rw [S3_j (by omega), S3_24, hT.2.1, S3_c (c := 136) (by decide), i1.2, hT.2.2 x (by omega)]
      refine ⟨fun c => ?_, fun _ => ⟨i1.1, fun c => absurd (hB.2.2.1 x hsx (by omega)) c, fun _ => ?_⟩⟩
      · rw [le_nI (by omega) (by omega)] at c; omega
      · rintro M11 rfl
        rw [mw_S24, nI_1]
        exact ih (x + 1) (by omega) (by omega)
  have := go (b - s) s (by have := hB.1; omega) (Nat.le_refl _)
  rcases Nat.eq_zero_or_pos (b - s) with z | z
  · rw [z] at this
    refine ⟨this.1, fun c => ⟨(this.2 c).1, (this.2 c).2.1, fun y => ?_⟩⟩
    intro M3 e3
    exact absurd ((this.2 c).2.2 y M3 e3) (fun q => q)
  · rw [show b - s = (b - s - 1) + 1 by omega] at this
    refine ⟨this.1, fun c => ⟨(this.2 c).1, (this.2 c).2.1, fun y => ?_⟩⟩
    intro M3 e3
    exact ⟨_, (this.2 c).2.2 y M3 e3⟩
theorem m_isAt {K : Int32 → Mem → Prop} {lo hi : Int32} (hT : TXm L n N) (hs : s ≤ n) (h1 : s < n → lo ≤ L s → L s ≤ hi → K 1 (S3 Y N (nI s) B V)) (h0 : ¬ (s < n ∧ lo ≤ L s ∧ L s ≤ hi) → K 0 (S3 Y N (nI s) B V)) : wp_X7_isAt lo hi (S3 Y N (nI s) B V) K := by
  have hn := hT.1
  unfold wp_X7_isAt
  rw [S3_j (by omega), S3_24, hT.2.1, S3_c (c := 136) (by decide)]
  refine ⟨fun c => ?_, fun c => ?_⟩
  · rw [le_nI (by omega) (by omega)] at c
    exact h0 (fun z => by omega)
  · rw [le_nI (by omega) (by omega)] at c
    have i1 := ixn (k := s) (z := 120) (by omega) (by decide)
    rw [i1.2, hT.2.2 s (by omega)]
    refine ⟨i1.1, m_in ?_⟩
    by_cases z : lo ≤ L s ∧ L s ≤ hi
    · rw [if_pos z]
      exact ⟨fun y => absurd y (by decide), fun _ => h1 (by omega) z.1 z.2⟩
    · rw [if_neg z]
      exact ⟨fun _ => h0 (fun y => z y.2), fun y => absurd rfl y⟩
theorem m_sign {K : Int32 → Mem → Prop} {c : Int32} (hT : TXm L n N) (hB : IsB L n s b) (h1 : b < n → L b = c → K 1 (S3 Y N (nI (b + 1)) (nI b) V)) (h0 : ¬ (b < n ∧ L b = c) → K 0 (S3 Y N (nI b) (nI b) V)) : wp_X7_takesSign c (S3 Y N (nI s) B V) K := by
  refine m_bl hT hB ?_
  refine m_isAt hT hB.2.1 (fun z1 z2 z3 => ⟨fun y => absurd y (by decide), fun _ => ?_⟩) (fun z => ⟨fun _ => ?_, fun y => absurd rfl y⟩)
  · rintro M5 rfl
    rw [S3_24, mw_S24, nI_1]
    exact ⟨isB1, h1 z1 (Int32.le_antisymm z3 z2)⟩
  · rintro M4 rfl
    rw [S3_24, mw_S24, Int32.add_zero]
    exact ⟨isB0, h0 (fun y => z ⟨y.1, by rw [y.2]; exact Int32.le_refl _, by rw [y.2]; exact Int32.le_refl _⟩)⟩
theorem m_num0 {K : Int32 → Mem → Prop} {lo hi : Int32} (hT : TXm L n N) (hB : IsB L n s b) (hf : ¬ (b < n ∧ fig (L b))) (h : K 0 (S3 Y N (nI b) (nI b) 0)) : wp_X7_takesNumber lo hi (S3 Y N (nI s) B V) K := by
  have hn := hT.1
  have hb := hB.2.1
  refine m_bl hT hB ?_
  rintro M2 rfl
  rw [mw_S26]
  refine ⟨1, m_isAt hT hB.2.1 (fun z1 z2 z3 => absurd ⟨z1, z2, z3⟩ hf) (fun z => ⟨fun _ => ?_, fun y => absurd rfl y⟩)⟩
  rw [S3_24, S3_25]
  refine ⟨fun y => ?_, fun _ => ⟨fun _ => ⟨fun _ => h, fun y => absurd rfl y⟩, fun y => absurd (Int32.le_refl _) y⟩⟩
  rw [nI_1, eq_nI (by omega) (by omega)] at y; omega
theorem m_num1 {K : Int32 → Mem → Prop} {lo hi : Int32} (hT : TXm L n N) (hB : IsB L n s b) (hE : IsE L n b e)
    (h1 : ¬ (L b = 48 ∧ b + 1 < e) → lo ≤ nI (gV L b (e - b)) → nI (gV L b (e - b)) ≤ hi → K 1 (S3 Y N (nI e) (nI b) (nI (gV L b (e - b)))))
    (h0 : ¬ (¬ (L b = 48 ∧ b + 1 < e) ∧ lo ≤ nI (gV L b (e - b)) ∧ nI (gV L b (e - b)) ≤ hi) → K 0 (S3 Y N (nI e) (nI b) (nI (gV L b (e - b))))) : wp_X7_takesNumber lo hi (S3 Y N (nI s) B V) K := by
  have hn := hT.1
  have hb := hB.2.1
  have he := hE.2.1
  have hbe := hE.1
  have go : ∀ (r m : Nat), b + m + r = e → L_X7_takesNumber_9 K (r + 1) lo hi (S3 Y N (nI (b + m)) (nI b) (nI (gV L b m))) := by
    intro r
    induction r with
    | zero =>
      intro m hm
      have em : e - b = m := by omega
      have ee : b + m = e := by omega
      rw [em, ← ee] at h1 h0
      have c114 : ¬ (L b = 48 ∧ b + 1 < b + m) → wp_X7_takesNumber_109 K lo hi (S3 Y N (nI (b + m)) (nI b) (nI (gV L b m))) := by
        intro z
        refine ⟨fun y => absurd y (by decide), fun _ => m_in ?_⟩
        rw [S3_26]
        by_cases q : lo ≤ nI (gV L b m) ∧ nI (gV L b m) ≤ hi
        · rw [if_pos q]
          exact ⟨fun y => absurd y (by decide), fun _ => h1 z q.1 q.2⟩
        · rw [if_neg q]
          exact ⟨fun _ => h0 (fun y => q y.2), fun y => absurd rfl y⟩
      refine m_isAt hT (by omega) (fun z1 z2 z3 => absurd (show fig (L e) by rw [← ee]; exact ⟨z2, z3⟩) (hE.2.2.2 (by omega))) (fun z => ⟨fun _ => ?_, fun y => absurd rfl y⟩)
      rw [S3_24, S3_25, S3_c (c := 136) (by decide)]
      refine ⟨fun y => c114 ?_, fun y => ⟨fun y2 => ?_, fun y2 => ?_⟩⟩
      · rw [nI_1, eq_nI (by omega) (by omega)] at y
        exact fun q => by have := q.2; omega
      · rw [le_nI (by omega) (by omega)] at y2; omega
      · rw [nI_1, eq_nI (by omega) (by omega)] at y
        have i1 := ixn (k := b) (z := 120) (by omega) (by decide)
        rw [i1.2, hT.2.2 b (by omega)]
        refine ⟨i1.1, fun y3 => ?_, fun y3 => c114 (fun q => y3 q.1)⟩
        exact ⟨fun _ => h0 (fun q => q.1 ⟨y3, by omega⟩), fun q => absurd rfl q⟩
    | succ r ih =>
      intro m hm
      have hf := hE.2.2.1 (b + m) (by omega) (by omega)
      obtain ⟨c, ec, c1, c2⟩ := fig_nI hf
      have hv := gV_le (L := L) (b := b) m (fun j hj => hE.2.2.1 (b + j) (by omega) (by omega))
      have i1 := ixn (k := b + m) (z := 120) (by omega) (by decide)
      refine m_isAt hT (by omega) (fun z1 z2 z3 => ⟨fun y => absurd y (by decide), fun _ => ?_⟩) (fun z => absurd ⟨by omega, hf.1, hf.2⟩ z)
      rw [S3_26, S3_24, S3_c (c := 136) (by decide), i1.2, hT.2.2 (b + m) (by omega)]
      have nxt : ∀ v, v = nI (gV L b (m + 1)) → wp_X7_takesNumber_55 (fun x1 x2 M => L_X7_takesNumber_9 K (r + 1) x1 x2 M) K lo hi v (S3 Y N (nI (b + m)) (nI b) (nI (gV L b m))) := by
        rintro v rfl
        rintro M13 rfl
        rintro M14 rfl
        rw [mw_S26, S3_24, mw_S24, nI_1]
        exact ih (m + 1) (by omega)
      refine ⟨fun y => ⟨i1.1, nxt _ ?_⟩, fun y => nxt _ ?_⟩
      · rw [leNl (by decide) (by omega)] at y
        have y : gV L b m ≤ 99 := y
        rw [gV, if_pos y, ec, ix_nI (by omega), lmul, nI_add, show nI (10 * gV L b m + c) - 48 = nI (10 * gV L b m + c - 48) from pk_sub (show 48 ≤ 10 * gV L b m + c by omega)]
        congr 1; omega
      · rw [leNl (by decide) (by omega)] at y
        have y : ¬ gV L b m ≤ 99 := y
        rw [gV, if_neg y]; rfl
  refine m_bl hT hB ?_
  rintro M2 rfl
  rw [mw_S26]
  exact ⟨e - b + 1, go (e - b) 0 (by omega)⟩
end TX
