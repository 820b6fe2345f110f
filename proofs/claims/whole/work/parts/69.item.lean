/-! an item of the text, on both sides -/
section TI
variable {X N M : Mem} {n s b e dr : Nat} {L : Nat → Int32} {A B V x : Int32} {u r m : Nat} {gp : Nat → Nat}
theorem m_item101 {K : Int32 → Mem → Prop} (hv : vp_in (M 130 24) 120) (hL : M 136 (ix (M 130 24)) = 101) (h : wp_X7_takesSetting 0 M (fun r M2 => isB r ∧ K r M2)) : wp_X7_takesItem M K :=
  ⟨hv, fun _ => h, fun y => absurd (hL.symm.trans y) (by decide), fun y => absurd (hL.symm.trans y) (by decide), fun y => absurd (hL.symm.trans y) (by decide), fun y => absurd (hL.symm.trans y) (by decide), fun y => absurd (hL.symm.trans y) (by decide), fun y => absurd (hL.symm.trans y) (by decide), fun y => absurd (hL.symm.trans y) (by decide), fun y => absurd (hL.symm.trans y) (by decide), fun y => absurd (hL.symm.trans y) (by decide), fun y => absurd (hL.symm.trans y) (by decide), fun y => absurd (hL.symm.trans y) (by decide), fun y => absurd (hL.symm.trans y) (by decide), fun y => absurd (hL.symm.trans y) (by decide), fun y => absurd (hL.symm.trans y) (by decide), fun y => absurd (hL.symm.trans y) (by decide), fun y => absurd (hL.symm.trans y) (by decide), fun q _ _ _ _ _ _ _ _ _ _ _ _ _ _ _ _ => absurd hL q⟩
theorem m_item105 {K : Int32 → Mem → Prop} (hv : vp_in (M 130 24) 120) (hL : M 136 (ix (M 130 24)) = 105) (h : wp_X7_takesSetting 2 M (fun r M2 => isB r ∧ K r M2)) : wp_X7_takesItem M K :=
  ⟨hv, fun y => absurd (hL.symm.trans y) (by decide), fun y => absurd (hL.symm.trans y) (by decide), fun y => absurd (hL.symm.trans y) (by decide), fun y => absurd (hL.symm.trans y) (by decide), fun _ => h, fun y => absurd (hL.symm.trans y) (by decide), fun y => absurd (hL.symm.trans y) (by decide), fun y => absurd (hL.symm.trans y) (by decide), fun y => absurd (hL.symm.trans y) (by decide), fun y => absurd (hL.symm.trans y) (by decide), fun y => absurd (hL.symm.trans y) (by decide), fun y => absurd (hL.symm.trans y) (by decide), fun y => absurd (hL.symm.trans y) (by decide), fun y => absurd (hL.symm.trans y) (by decide), fun y => absurd (hL.symm.trans y) (by decide), fun y => absurd (hL.symm.trans y) (by decide), fun y => absurd (hL.symm.trans y) (by decide), fun _ _ _ _ q _ _ _ _ _ _ _ _ _ _ _ _ => absurd hL q⟩
theorem m_item108 {K : Int32 → Mem → Prop} (hv : vp_in (M 130 24) 120) (hL : M 136 (ix (M 130 24)) = 108) (h : wp_X7_takesSetting 1 M (fun r M2 => isB r ∧ K r M2)) : wp_X7_takesItem M K :=
  ⟨hv, fun y => absurd (hL.symm.trans y) (by decide), fun y => absurd (hL.symm.trans y) (by decide), fun y => absurd (hL.symm.trans y) (by decide), fun y => absurd (hL.symm.trans y) (by decide), fun y => absurd (hL.symm.trans y) (by decide), fun y => absurd (hL.symm.trans y) (by decide), fun y => absurd (hL.symm.trans y) (by decide), fun _ => h, fun y => absurd (hL.symm.trans y) (by decide), fun y => absurd (hL.symm.trans y) (by decide), fun y => absurd (hL.symm.trans y) (by decide), fun y => absurd (hL.symm.trans y) (by decide), fun y => absurd (hL.symm.trans y) (by decide), fun y => absurd (hL.symm.trans y) (by decide), fun y => absurd (hL.symm.trans y) (by decide), fun y => absurd (hL.symm.trans y) (by decide), fun y => absurd (hL.symm.trans y) (by decide), fun _ _ _ _ _ _ _ q _ _ _ _ _ _ _ _ _ => absurd hL q⟩
theorem m_item112 {K : Int32 → Mem → Prop} (hv : vp_in (M 130 24) 120) (hL : M 136 (ix (M 130 24)) = 112) (h : wp_X7_takesSetting 3 M (fun r M2 => isB r ∧ K r M2)) : wp_X7_takesItem M K :=
  ⟨hv, fun y => absurd (hL.symm.trans y) (by decide), fun y => absurd (hL.symm.trans y) (by decide), fun y => absurd (hL.symm.trans y) (by decide), fun y => absurd (hL.symm.trans y) (by decide), fun y => absurd (hL.symm.trans y) (by decide), fun y => absurd (hL.symm.trans y) (by decide), fun y => absurd (hL.symm.trans y) (by decide), fun y => absurd (hL.symm.trans y) (by decide), fun y => absurd (hL.symm.trans y) (by decide), fun y => absurd (hL.symm.trans y) (by decide), fun y => absurd (hL.symm.trans y) (by decide), fun _ => h, fun y => absurd (hL.symm.trans y) (by decide), fun y => absurd (hL.symm.trans y) (by decide), fun y => absurd (hL.symm.trans y) (by decide), fun y => absurd (hL.symm.trans y) (by decide), fun y => absurd (hL.symm.trans y) (by decide), fun _ _ _ _ _ _ _ _ _ _ _ q _ _ _ _ _ => absurd hL q⟩
theorem m_item114 {K : Int32 → Mem → Prop} (hv : vp_in (M 130 24) 120) (hL : M 136 (ix (M 130 24)) = 114) (h : wp_X7_takesReel M (fun r M2 => isB r ∧ K r M2)) : wp_X7_takesItem M K :=
  ⟨hv, fun y => absurd (hL.symm.trans y) (by decide), fun y => absurd (hL.symm.trans y) (by decide), fun y => absurd (hL.symm.trans y) (by decide), fun y => absurd (hL.symm.trans y) (by decide), fun y => absurd (hL.symm.trans y) (by decide), fun y => absurd (hL.symm.trans y) (by decide), fun y => absurd (hL.symm.trans y) (by decide), fun y => absurd (hL.symm.trans y) (by decide), fun y => absurd (hL.symm.trans y) (by decide), fun y => absurd (hL.symm.trans y) (by decide), fun y => absurd (hL.symm.trans y) (by decide), fun y => absurd (hL.symm.trans y) (by decide), fun y => absurd (hL.symm.trans y) (by decide), fun _ => h, fun y => absurd (hL.symm.trans y) (by decide), fun y => absurd (hL.symm.trans y) (by decide), fun y => absurd (hL.symm.trans y) (by decide), fun _ _ _ _ _ _ _ _ _ _ _ _ _ q _ _ _ => absurd hL q⟩
theorem m_item117 {K : Int32 → Mem → Prop} (hv : vp_in (M 130 24) 120) (hL : M 136 (ix (M 130 24)) = 117) (h : wp_X7_takesUnit M (fun r M2 => isB r ∧ K r M2)) : wp_X7_takesItem M K :=
  ⟨hv, fun y => absurd (hL.symm.trans y) (by decide), fun y => absurd (hL.symm.trans y) (by decide), fun y => absurd (hL.symm.trans y) (by decide), fun y => absurd (hL.symm.trans y) (by decide), fun y => absurd (hL.symm.trans y) (by decide), fun y => absurd (hL.symm.trans y) (by decide), fun y => absurd (hL.symm.trans y) (by decide), fun y => absurd (hL.symm.trans y) (by decide), fun y => absurd (hL.symm.trans y) (by decide), fun y => absurd (hL.symm.trans y) (by decide), fun y => absurd (hL.symm.trans y) (by decide), fun y => absurd (hL.symm.trans y) (by decide), fun y => absurd (hL.symm.trans y) (by decide), fun y => absurd (hL.symm.trans y) (by decide), fun y => absurd (hL.symm.trans y) (by decide), fun y => absurd (hL.symm.trans y) (by decide), fun _ => h, fun _ _ _ _ _ _ _ _ _ _ _ _ _ _ _ _ q => absurd hL q⟩
theorem m_item0 {K : Int32 → Mem → Prop} (hv : vp_in (M 130 24) 120) (n101 : ¬ M 136 (ix (M 130 24)) = 101) (n105 : ¬ M 136 (ix (M 130 24)) = 105) (n108 : ¬ M 136 (ix (M 130 24)) = 108) (n112 : ¬ M 136 (ix (M 130 24)) = 112) (n114 : ¬ M 136 (ix (M 130 24)) = 114) (n117 : ¬ M 136 (ix (M 130 24)) = 117) (h : K 0 M) : wp_X7_takesItem M K :=
  ⟨hv, fun y => absurd y n101, fun _ => h, fun _ => h, fun _ => h, fun y => absurd y n105, fun _ => h, fun _ => h, fun y => absurd y n108, fun _ => h, fun _ => h, fun _ => h, fun y => absurd y n112, fun _ => h, fun y => absurd y n114, fun _ => h, fun _ => h, fun y => absurd y n117, fun _ _ _ _ _ _ _ _ _ _ _ _ _ _ _ _ _ => h⟩
def wyo (gp : Nat → Nat) : Nat → Nat
  | 0 => 0
  | k + 1 => wyo gp k + gp (k + 1)
def Bd (f : Nat → Int32) : Prop := 1 ≤ f 0 ∧ f 0 ≤ 9 ∧ 0 ≤ f 1 ∧ 0 ≤ f 2 ∧ 0 < f 3
def RPx (L : Nat → Int32) (n : Nat) (dr : Nat) (X N : Mem) (u r m : Nat) (gp : Nat → Nat) : Prop :=
  TXc L n X ∧ TXm L n N ∧ (1 ≤ u ∧ u ≤ 4 ∧ X dr 4 = nI u ∧ N 130 17 = nI u) ∧ (r ≤ 8 ∧ X dr 5 = nI r ∧ N 130 18 = nI r) ∧
  (∀ i, i < 4 → X dr (6 + i) = N 146 i) ∧ Bd (N 146) ∧
  (gp 0 = 0 ∧ ∀ k, k < u → gp k ≤ 6 ∧ X (dr + 1) k = nI (gp k) ∧ X (dr + 2) k = nI (wyo gp k) ∧ (1 ≤ k → N 143 k = nI (gp k))) ∧
  (∀ i, i < r → X (dr + 3) i = N 144 i ∧ X (dr + 4) i = N 145 i) ∧ (m < 16 ∧ X 1 6 = nI m ∧ ∀ i, i < 4 → (m / 2 ^ i % 2 = 1 ↔ ¬ N 147 i = 0))
def FX (dr : Nat) (X X' : Mem) : Prop := (∀ c, c ≠ 1 → (c < dr ∨ dr + 5 ≤ c) → X' c = X c) ∧ X' 1 1 = X 1 1 ∧ X' (dr + 1) 0 = X (dr + 1) 0 ∧ X' (dr + 2) 0 = X (dr + 2) 0
def FN (N N' : Mem) : Prop := (∀ c, (c < 143 ∨ 147 < c) → c ≠ 130 → N' c = N c) ∧ ∀ j, j ≠ 17 → j ≠ 18 → N' 130 j = N 130 j
theorem FX.rf : FX dr X X := ⟨fun _ _ _ => rfl, rfl, rfl, rfl⟩
theorem FX.tr {X1 X2 : Mem} (h : FX dr X X1) (h2 : FX dr X1 X2) : FX dr X X2 := ⟨fun c c1 c2 => (h2.1 c c1 c2).trans (h.1 c c1 c2), h2.2.1.trans h.2.1, h2.2.2.1.trans h.2.2.1, h2.2.2.2.trans h.2.2.2⟩
theorem FX.sc {X' : Mem} (hd : dr = 3 ∨ dr = 8) (f : SC X X') : FX dr X X' := ⟨fun c c1 _ => f.1 c c1, f.2 1 (by omega), by rw [f.1 (dr + 1) (by omega)], by rw [f.1 (dr + 2) (by omega)]⟩
theorem FN.rf : FN N N := ⟨fun _ _ _ => rfl, fun _ _ _ => rfl⟩
theorem FN.tr {N1 N2 : Mem} (h : FN N N1) (h2 : FN N1 N2) : FN N N2 := ⟨fun c c1 c2 => (h2.1 c c1 c2).trans (h.1 c c1 c2), fun j j1 j2 => (h2.2 j j1 j2).trans (h.2 j j1 j2)⟩
theorem FN.w {c k : Nat} {v : Int32} (h : 143 ≤ c) (h2 : c ≤ 147) : FN N (mw N c k v) := ⟨fun d d1 _ => mw_ne (by omega), fun j _ _ => by rw [mw_ne (by omega)]⟩
theorem FN.w1 {k : Nat} {v : Int32} (h : k = 17 ∨ k = 18) : FN N (mw N 130 k v) := ⟨fun d _ d2 => mw_ne d2, fun j j1 j2 => mw_k (by omega)⟩
theorem TXm.fn {N' : Mem} (h : TXm L n N) (f : FN N N') : TXm L n N' := ⟨h.1, by rw [f.2 7 (by omega) (by omega)]; exact h.2.1, fun j hj => by rw [f.1 136 (by omega) (by omega)]; exact h.2.2 j hj⟩
theorem TXc.fx {X' : Mem} (hd : dr = 3 ∨ dr = 8) (h : TXc L n X) (f : FX dr X X') : TXc L n X' := ⟨h.1, by rw [f.2.1]; exact h.2.1, fun j hj => by rw [f.1 2 (by omega) (by omega)]; exact h.2.2 j hj⟩
theorem RPx.sc {X' : Mem} (hd : dr = 3 ∨ dr = 8) (h : RPx L n dr X N u r m gp) (f : SC X X') : RPx L n dr X' N u r m gp := by
  obtain ⟨a1, a2, a3, a4, a5, a6, a7, a8, a9⟩ := h
  refine ⟨a1.sc f, a2, ?_, ?_, ?_, a6, ?_, ?_, ?_⟩
  · rw [f.1 dr (by omega)]; exact a3
  · rw [f.1 dr (by omega)]; exact a4
  · rw [f.1 dr (by omega)]; exact a5
  · rw [f.1 (dr + 1) (by omega), f.1 (dr + 2) (by omega)]; exact a7
  · rw [f.1 (dr + 3) (by omega), f.1 (dr + 4) (by omega)]; exact a8
  · rw [f.2 6 (by omega)]; exact a9
/-- the kind of the token at hand is a letter -/
theorem kind_iff {c : Int32} (hT : TXc L n X) (hk : TK L n X b) (h1 : ¬ fig c) (h2 : c ≤ 255) : X 1 4 = c ↔ b < n ∧ L b = c := by
  obtain ⟨k1, k2, k3, k4, k5⟩ := hk
  have big : ∀ d : Int32, d = 256 ∨ d = 257 ∨ d = 258 → ¬ d = c := by
    rintro d hd rfl
    rcases hd with rfl | rfl | rfl <;> exact absurd h2 (by decide)
  rcases Nat.lt_or_ge b n with z | z
  · by_cases hf : fig (L b)
    · obtain ⟨e, hE, q2, q3, q4⟩ := k5 z hf
      refine ⟨fun y => ?_, fun y => absurd (y.2 ▸ hf) h1⟩
      by_cases g : gdn L b e
      · exact absurd ((q3 g).1.symm.trans y) (big _ (by simp))
      · exact absurd ((q4 g).symm.trans y) (big _ (by simp))
    · rw [(k4 z hf).1]
      exact ⟨fun y => ⟨z, y⟩, fun y => y.2⟩
  · rw [k3 (by omega)]
    exact ⟨fun y => absurd y (big _ (by simp)), fun y => by omega⟩
theorem num_sim {Kc : Int32 → Mem → Prop} {lo hi : Int32} (hT : TXc L n X) (hM : TXm L n N) (hB : IsB L n s b) (hk : TK L n X b) (hlo : 0 ≤ lo) (hhi : hi ≤ 99)
    (h1 : ∀ X' e v b2, v ≤ 99 → lo ≤ nI v → nI v ≤ hi → b < e → e ≤ n → IsB L n e b2 → TK L n X' b2 → SC X X' → (∀ (Y : Mem) (Km : Int32 → Mem → Prop), Km 1 (S3 Y N (nI e) (nI b) (nI v)) → wp_X7_takesNumber lo hi (S3 Y N (nI s) B V) Km) → Kc (nI v) X')
    (h0 : ∀ A' V', (∀ (Y : Mem) (Km : Int32 → Mem → Prop), Km 0 (S3 Y N A' (nI b) V') → wp_X7_takesNumber lo hi (S3 Y N (nI s) B V) Km) → Kc (-1) X) : wp_X5_takeNumber 1 lo hi X Kc := by
  have hn := hT.1
  by_cases hf : b < n ∧ fig (L b)
  · obtain ⟨e, hE, q2, q3, q4⟩ := hk.2.2.2.2 hf.1 hf.2
    have hv := gV_le (L := L) (b := b) (e - b) (fun j hj => hE.2.2.1 (b + j) (by omega) (by omega))
    have fail : ¬ (¬ (L b = 48 ∧ b + 1 < e) ∧ lo ≤ nI (gV L b (e - b)) ∧ nI (gV L b (e - b)) ≤ hi) → Kc (-1) X := fun z =>
      h0 (nI e) (nI (gV L b (e - b))) (fun Y Km hKm => m_num1 hM hB hE (fun y1 y2 y3 => absurd ⟨y1, y2, y3⟩ z) (fun _ => hKm))
    refine ⟨fun c => fail ?_, fun c => c_within ?_⟩
    · intro z
      refine c (q3 ⟨?_, z.1⟩).1
      have := Int32.le_trans z.2.2 hhi
      rw [leNl (by decide) (by omega)] at this
      exact this
    · have g : gdn L b e := by
        by_cases g : gdn L b e
        · exact g
        · exact absurd ((q4 g).symm.trans c) (by decide)
      rw [(q3 g).2]
      by_cases z : lo ≤ nI (gV L b (e - b)) ∧ nI (gV L b (e - b)) ≤ hi
      · rw [if_pos z]
        refine ⟨fun _ => c_step hT hE.2.1 q2 (fun X' b2 hB2 hk2 f => ?_), fun y => absurd y (by decide)⟩
        exact h1 X' e _ b2 g.1 z.1 z.2 hE.1 hE.2.1 hB2 hk2 f (fun Y Km hKm => m_num1 hM hB hE (fun _ _ _ => hKm) (fun y => absurd ⟨g.2, z⟩ y))
      · rw [if_neg z]
        exact ⟨fun y => absurd rfl y, fun _ => fail (fun y => z y.2)⟩
  · have fail : Kc (-1) X := h0 (nI b) 0 (fun Y Km hKm => m_num0 hM hB hf hKm)
    refine ⟨fun _ => fail, fun c => ?_⟩
    rcases Nat.lt_or_ge b n with z | z
    · have hf2 : ¬ fig (L b) := fun y => hf ⟨z, y⟩
      rw [(hk.2.2.2.1 z hf2).1] at c
      have := (hT.2.2 b z).2.2
      rw [c] at this
      exact absurd this (by decide)
    · rw [hk.2.2.1 (by have := hk.1; omega)] at c
      exact absurd c (by decide)
/-- the end of an item -/
theorem end_sim {Kc : Int32 → Mem → Prop} (hT : TXc L n X) (hM : TXm L n N) (hB : IsB L n s b) (hk : TK L n X b)
    (h1 : ∀ X' b2, IsB L n (b + 1) b2 → TK L n X' b2 → SC X X' → b < n → (∀ (Y : Mem) (Km : Int32 → Mem → Prop), Km 1 (S3 Y N (nI (b + 1)) (nI b) V) → wp_X7_takesSign 59 (S3 Y N (nI s) B V) Km) → Kc 1 X')
    (h0 : (∀ (Y : Mem) (Km : Int32 → Mem → Prop), Km 0 (S3 Y N (nI b) (nI b) V) → wp_X7_takesSign 59 (S3 Y N (nI s) B V) Km) → Kc 0 X) : wp_X5_readItem_40 1 dr Kc 1 X := by
  have ki := kind_iff (c := 59) hT hk (fun z => absurd z.2 (by decide)) (by decide)
  refine ⟨fun y => absurd y (by decide), fun _ => ⟨fun c => ?_, fun c => h0 (fun Y Km hKm => m_sign hM hB (fun z1 z2 => absurd (ki.mpr ⟨z1, z2⟩) c) (fun _ => hKm))⟩⟩
  have kk := ki.mp c
  have e2 := (hk.2.2.2.1 kk.1 (by rw [kk.2]; exact fun z => absurd z.2 (by decide))).2
  refine c_step hT (by have := kk.1; omega) e2 (fun X' b2 hB2 hk2 f => ?_)
  exact h1 X' b2 hB2 hk2 f kk.1 (fun Y Km hKm => m_sign hM hB (fun _ _ => hKm) (fun y => absurd kk y))
theorem tok_bits : ∀ m, m < 16 → ∀ i, i < 4 → ((nI m &&& nI (2 ^ i)) = 0 ↔ ¬ m / 2 ^ i % 2 = 1) := by decide +kernel
theorem tok_or1 : ∀ m, m < 16 → ∀ i, i < 4 → (m / 2 ^ i % 2 = 1 ∨ nI m ||| nI (2 ^ i) = nI (m + 2 ^ i)) := by decide +kernel
theorem tok_or2 : ∀ m, m < 16 → ∀ i, i < 4 → (m / 2 ^ i % 2 = 1 ∨ m + 2 ^ i < 16) := by decide +kernel
theorem tok_or3 : ∀ m, m < 16 → ∀ i, i < 4 → ∀ j, j < 4 → (m / 2 ^ i % 2 = 1 ∨ ((m + 2 ^ i) / 2 ^ j % 2 = 1 ↔ (j = i ∨ m / 2 ^ j % 2 = 1))) := by decide +kernel
theorem tok_or (m : Nat) (hm : m < 16) (i : Nat) (hi : i < 4) (h : ¬ m / 2 ^ i % 2 = 1) : nI m ||| nI (2 ^ i) = nI (m + 2 ^ i) ∧ m + 2 ^ i < 16 ∧ ∀ j, j < 4 → ((m + 2 ^ i) / 2 ^ j % 2 = 1 ↔ (j = i ∨ m / 2 ^ j % 2 = 1)) :=
  ⟨(tok_or1 m hm i hi).resolve_left h, (tok_or2 m hm i hi).resolve_left h, fun j hj => (tok_or3 m hm i hi j hj).resolve_left h⟩
def OKp (L : Nat → Int32) (n dr : Nat) (X N : Mem) (b : Nat) (X' N' : Mem) (s' b' : Nat) : Prop := (∃ u r m gp, RPx L n dr X' N' u r m gp) ∧ IsB L n s' b' ∧ TK L n X' b' ∧ b < s' ∧ FX dr X X' ∧ FN N N'
/-- an item of a setting -/
theorem set_sim {Kc : Int32 → Mem → Prop} {c lo hi : Int32} {i : Nat} (hd : dr = 3 ∨ dr = 8) (hi4 : i < 4) (hlo : 0 ≤ lo) (hhi : hi ≤ 99) (hnf : ¬ fig c) (h117 : ¬ c = 117) (h114 : ¬ c = 114)
    (hc1 : ∀ (K : Int32 → Mem → Prop) (X : Mem), K (nI (2 ^ i)) X → wp_X5_onceBit c X K)
    (hc2 : ∀ (K : Int32 → Mem → Prop) (X : Mem), (∀ Kt : Int32 → Mem → Prop, (∀ r3 M3, (0 ≤ r3 → ∀ M6, M6 = mw M3 dr (6 + i) r3 → K 1 M6) ∧ (¬ 0 ≤ r3 → K 0 M3) → Kt r3 M3) → wp_X5_takeNumber 1 lo hi X Kt) → wp_X5_readSetting 1 dr c X K)
    (hm : ∀ (K : Int32 → Mem → Prop) (M : Mem), M 147 i = 0 → (∀ Kt : Int32 → Mem → Prop, (∀ r7 M7, (¬ r7 = 0 → ∀ M9, M9 = mw M7 146 i (M7 130 26) → wp_X7_takesSign 59 M9 (fun r M => isB r ∧ K r M)) ∧ (r7 = 0 → K 0 M7) → Kt r7 M7) → wp_X7_takesNumber lo hi (mw (mw M 147 i 1) 130 24 (mw M 147 i 1 130 24 + 1)) Kt) → wp_X7_takesSetting (nI i) M K)
    (hm0 : ∀ (K : Int32 → Mem → Prop) (M : Mem), ¬ M 147 i = 0 → K 0 M → wp_X7_takesSetting (nI i) M K)
    (hbd : ∀ v f, Bd f → lo ≤ nI v → nI v ≤ hi → Bd (upd f i (nI v)))
    (hit : ∀ (K : Int32 → Mem → Prop) (M : Mem), vp_in (M 130 24) 120 → M 136 (ix (M 130 24)) = c → wp_X7_takesSetting (nI i) M (fun r M2 => isB r ∧ K r M2) → wp_X7_takesItem M K)
    (hR : RPx L n dr X N u r m gp) (hk : TK L n X b) (hb : b < n) (hL : L b = c)
    (h1 : ∀ X' N' s' b' B' V', OKp L n dr X N b X' N' s' b' → (∀ (Y : Mem) (Km : Int32 → Mem → Prop), Km 1 (S3 Y N' (nI s') B' V') → wp_X7_takesItem (S3 Y N (nI b) (nI b) V) Km) → Kc 1 X')
    (h0 : ∀ X' N' tb A' V', X' 1 3 = nI tb → tb ≤ n → FX dr X X' → FN N N' → (∀ (Y : Mem) (Km : Int32 → Mem → Prop), Km 0 (S3 Y N' A' (nI tb) V') → wp_X7_takesItem (S3 Y N (nI b) (nI b) V) Km) → Kc 0 X') : wp_X5_readItem 1 dr X Kc := by
  have hR0 := hR
  obtain ⟨a1, a2, a3, a4, a5, a6, a7, a8, a9⟩ := hR
  have hn := a1.1
  have hkd := hk.2.2.2.1 hb (by rw [hL]; exact hnf)
  have i1 := ixn (k := b) (z := 120) (by omega) (by decide)
  have it : ∀ (Y : Mem) (Km : Int32 → Mem → Prop), wp_X7_takesSetting (nI i) (S3 Y N (nI b) (nI b) V) (fun r M2 => isB r ∧ Km r M2) → wp_X7_takesItem (S3 Y N (nI b) (nI b) V) Km := fun Y Km hh => hit Km _ (by rw [S3_24]; exact i1.1) (by rw [S3_24, S3_c (by decide), i1.2, a2.2.2 b hb]; exact hL) hh
  unfold wp_X5_readItem
  rw [hkd.1, hL]
  have e147 : ∀ (Y : Mem) A B V, S3 Y N A B V 147 i = N 147 i := fun Y A B V => by rw [S3_c (by decide)]
  have i2pos : ¬ nI (2 ^ i) = 0 := by
    have : i = 0 ∨ i = 1 ∨ i = 2 ∨ i = 3 := by omega
    rcases this with rfl | rfl | rfl | rfl <;> decide
  refine ⟨fun _ => ⟨fun _ => hc1 _ _ ⟨fun y => absurd y i2pos, fun _ => ?_⟩, fun y => absurd y h114⟩, fun y => absurd y h117⟩
  rw [a9.2.1]
  have tb := tok_bits m a9.1 i hi4
  refine ⟨fun z => ?_, fun z => ?_⟩
  · have nb := tb.mp z
    have z147 : N 147 i = 0 := Decidable.byContradiction (fun y => nb ((a9.2.2 i hi4).mpr y))
    obtain ⟨o1, o2, o3⟩ := tok_or m a9.1 i hi4 nb
    rintro M6 rfl
    rw [o1]
    refine ⟨fun _ => ?_, fun y => absurd y (by decide)⟩
    have f1 : FX dr X (mw X 1 6 (nI (m + 2 ^ i))) := ⟨fun d d1 _ => mw_ne d1, mw_k (by decide), by rw [mw_ne (by omega)], by rw [mw_ne (by omega)]⟩
    have n1 : FN N (mw N 147 i 1) := FN.w (by omega) (by omega)
    have R1 : RPx L n dr (mw X 1 6 (nI (m + 2 ^ i))) (mw N 147 i 1) u r (m + 2 ^ i) gp := by
      refine ⟨a1.fx hd f1, a2.fn n1, ?_, ?_, ?_, ?_, ?_, ?_, o2, mw_at _ _ _ _, fun j hj => ?_⟩
      · rw [mw_ne (by omega), mw_ne (by omega)]; exact a3
      · rw [mw_ne (by omega), mw_ne (by omega)]; exact a4
      · rw [mw_ne (by omega), mw_ne (by omega)]; exact a5
      · rw [mw_ne (by omega)]; exact a6
      · rw [mw_ne (M := X) (by omega), mw_ne (M := X) (by omega), mw_ne (M := N) (by omega)]; exact a7
      · rw [mw_ne (M := X) (by omega), mw_ne (M := X) (by omega), mw_ne (M := N) (by omega), mw_ne (M := N) (by omega)]; exact a8
      · rw [o3 j hj]
        by_cases y : j = i
        · subst y; rw [mw_at]; exact ⟨fun _ => by decide, fun _ => Or.inl rfl⟩
        · rw [mw_k y]; exact ⟨fun q => by rcases q with q | q; · exact absurd q y
                                          · exact (a9.2.2 j hj).mp q, fun q => Or.inr ((a9.2.2 j hj).mpr q)⟩
    have e2 : mw X 1 6 (nI (m + 2 ^ i)) 1 2 = nI (b + 1) := by rw [mw_k (by decide)]; exact hkd.2
    generalize mw X 1 6 (nI (m + 2 ^ i)) = X1 at *
    refine c_step R1.1 (by omega) e2 (fun X2 b1 hB1 hk1 f2 => ⟨fun _ => hc2 _ _ (fun Kt hKt => ?_), fun y => absurd y h114⟩)
    have R2' := R1.sc hd f2
    have stM : ∀ Y : Mem, mw (mw (S3 Y N (nI b) (nI b) V) 147 i 1) 130 24 (mw (S3 Y N (nI b) (nI b) V) 147 i 1 130 24 + 1) = S3 Y (mw N 147 i 1) (nI (b + 1)) (nI b) V := by
      intro Y
      rw [mw_Sc (by decide), S3_24, mw_S24, nI_1]
    refine num_sim (N := mw N 147 i 1) (B := nI b) (V := V) R2'.1 R1.2.1 hB1 hk1 hlo hhi (fun X3 e v b2 v99 v1 v2 hbe hen hB2 hk2 f3 mm => ?_) (fun A' V' mm => ?_)
    · refine hKt _ _ ⟨fun _ => ?_, fun y => absurd (z_le (by omega)) y⟩
      rintro M6 rfl
      have f6 : FX dr X3 (mw X3 dr (6 + i) (nI v)) := ⟨fun d d1 d2 => mw_ne (by omega), by rw [mw_ne (by omega)], by rw [mw_ne (by omega)], by rw [mw_ne (by omega)]⟩
      have R3 := R2'.sc hd f3
      have n2 : FN (mw N 147 i 1) (mw (mw N 147 i 1) 146 i (nI v)) := FN.w (by omega) (by omega)
      have R4 : RPx L n dr (mw X3 dr (6 + i) (nI v)) (mw (mw N 147 i 1) 146 i (nI v)) u r (m + 2 ^ i) gp := by
        obtain ⟨d1, d2, d3, d4, d5, d6, d7, d8, d9⟩ := R3
        refine ⟨d1.fx hd f6, d2.fn n2, ?_, ?_, fun j hj => ?_, ?_, ?_, ?_, ?_⟩
        · rw [mw_k (by omega), mw_ne (by omega)]; exact d3
        · rw [mw_k (by omega), mw_ne (by omega)]; exact d4
        · by_cases y : j = i
          · subst y; rw [mw_at, mw_at]
          · rw [mw_k (by omega), mw_k y]; exact d5 j hj
        · rw [mw_row]; exact hbd v _ d6 v1 v2
        · rw [mw_ne (M := X3) (by omega), mw_ne (M := X3) (by omega), mw_ne (M := mw N 147 i 1) (by omega)]; exact d7
        · rw [mw_ne (M := X3) (by omega), mw_ne (M := X3) (by omega), mw_ne (M := mw N 147 i 1) (by omega), mw_ne (M := mw N 147 i 1) (by omega)]; exact d8
        · rw [mw_ne (by omega), mw_ne (by omega)]; exact d9
      have hk4 : TK L n (mw X3 dr (6 + i) (nI v)) b2 := by unfold TK at *; rw [mw_ne (by omega)]; exact hk2
      have fx4 : FX dr X (mw X3 dr (6 + i) (nI v)) := ((f1.tr (FX.sc hd f2)).tr (FX.sc hd f3)).tr f6
      generalize mw X3 dr (6 + i) (nI v) = X4 at *
      have mm2 : ∀ (Y : Mem) (Km : Int32 → Mem → Prop), wp_X7_takesSign 59 (S3 Y (mw (mw N 147 i 1) 146 i (nI v)) (nI e) (nI b1) (nI v)) (fun r M => isB r ∧ isB r ∧ Km r M) → wp_X7_takesItem (S3 Y N (nI b) (nI b) V) Km := by
        intro Y Km hh
        refine it Y Km (hm _ _ (by rw [e147]; exact z147) (fun Kt hKt => ?_))
        rw [stM]
        refine mm Y _ (hKt _ _ ⟨fun _ => ?_, fun y => absurd y (by decide)⟩)
        rintro M9 rfl
        rw [S3_26, mw_Sc (by decide)]
        exact hh
      refine end_sim (N := mw (mw N 147 i 1) 146 i (nI v)) (B := nI b1) (V := nI v) R4.1 R4.2.1 hB2 hk4 (fun X5 b3 hB3 hk3 f5 hb2 mS => ?_) (fun mS => ?_)
      · refine h1 X5 _ (b2 + 1) b3 (nI b2) (nI v) ⟨⟨_, _, _, _, R4.sc hd f5⟩, hB3, hk3, by have := hB1.1; have := hB2.1; omega, fx4.tr (FX.sc hd f5), n1.tr n2⟩ (fun Y Km hKm => mm2 Y Km (mS Y _ ⟨isB1, isB1, hKm⟩))
      · exact h0 X4 _ b2 (nI b2) (nI v) hk4.2.1 hk4.1 fx4 (n1.tr n2) (fun Y Km hKm => mm2 Y Km (mS Y _ ⟨isB0, isB0, hKm⟩))
    · refine hKt _ _ ⟨fun y => absurd y (by decide), fun _ => ?_⟩
      refine ⟨fun _ => ?_, fun y => absurd rfl y⟩
      refine h0 X2 (mw N 147 i 1) b1 A' V' hk1.2.1 hk1.1 (f1.tr (FX.sc hd f2)) n1 (fun Y Km hKm => it Y Km (hm _ _ (by rw [e147]; exact z147) (fun Kt hKt => ?_)))
      rw [stM]
      exact mm Y _ (hKt _ _ ⟨fun y => absurd rfl y, fun _ => ⟨isB0, hKm⟩⟩)
  · have z147 : ¬ N 147 i = 0 := (a9.2.2 i hi4).mp (Decidable.byContradiction (fun y => z (tb.mpr y)))
    refine ⟨fun y => absurd rfl y, fun _ => ?_⟩
    exact h0 X N b (nI b) V hk.2.1 hk.1 FX.rf FN.rf (fun Y Km hKm => it Y Km (hm0 _ _ (by rw [e147]; exact z147) ⟨isB0, hKm⟩))
end TI
