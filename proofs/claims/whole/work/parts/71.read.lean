section TL
variable {X N M : Mem} {n s b e dr pl : Nat} {L : Nat → Int32} {A B V x : Int32} {u r m : Nat} {gp : Nat → Nat}
theorem bd_1 {v : Nat} {lo hi : Int32} (h : lo ≤ nI v) (hl : 0 ≤ lo) : 0 ≤ nI v := Int32.le_trans hl h
theorem upd_4 (f : Nat → Int32) (i : Nat) (v : Int32) : ∀ k, upd f i v k = if k = i then v else f k := fun k => by
  by_cases h : k = i
  · rw [if_pos h, h, upd_at]
  · rw [if_neg h, upd_ne h]
theorem item_sim {Kc : Int32 → Mem → Prop} (hd : dr = 3 ∨ dr = 8) (hR : RPx L n dr X N u r m gp) (hk : TK L n X b) (hb : b < n) (hS : Sok L n dr X N b V Kc) : wp_X5_readItem 1 dr X Kc := by
  have a1 := hR.1
  have a2 := hR.2.1
  have hn := a1.1
  have nl : ∀ v : Nat, (1 : Int32) ≤ nI v → (0 : Int32) < nI v := fun v h => by
    rw [← Int32.not_le]; intro z
    exact absurd (Int32.le_trans h z) (by decide)
  by_cases q117 : L b = 117
  · exact unit_sim hd hR hk hb q117 hS
  by_cases q114 : L b = 114
  · exact reel_sim hd hR hk hb q114 hS
  by_cases q101 : L b = 101
  · refine set_sim (i := 0) (c := 101) (lo := 1) (hi := 9) hd (by decide) (by decide) (by decide) (fun z => absurd z.2 (by decide)) (by decide) (by decide) ?_ ?_ ?_ ?_ ?_ ?_ hR hk hb q101 hS.1 hS.2
    · intro K X h
      have h : K 1 X := h
      exact ⟨fun _ => h, fun y => absurd y (by decide), fun y => absurd y (by decide), fun y => absurd y (by decide), fun z => absurd rfl z⟩
    · intro K X h
      refine ⟨fun _ => ⟨fun _ => h _ ?_, fun y => absurd y (by decide), fun y => absurd y (by decide), fun z => absurd rfl z⟩, fun y => absurd y (by decide)⟩
      intro r3 M3 hh
      exact ⟨fun z => ⟨fun _ => hh.1 z, fun y => absurd y (by decide), fun y => absurd y (by decide), fun y => absurd y (by decide), fun q => absurd rfl q⟩, hh.2⟩
    · intro K M z h
      have i1 := ixn (k := 0) (z := 4) (by decide) (by decide)
      refine ⟨i1.1, fun _ => ⟨i1.1, ?_⟩, fun y => absurd z y⟩
      rintro M2 rfl
      rintro M3 rfl
      refine ⟨fun _ => ⟨fun _ => h _ ?_, fun y => absurd rfl y⟩, fun y => absurd y (by decide)⟩
      intro r7 M7 hh
      exact ⟨fun z => ⟨i1.1, hh.1 z⟩, hh.2⟩
    · intro K M z h
      have i1 := ixn (k := 0) (z := 4) (by decide) (by decide)
      exact ⟨i1.1, fun y => absurd y z, fun _ => h⟩
    · intro v f h v1 v2
      unfold Bd at *
      rw [upd_4, upd_4, upd_4, upd_4]
      exact ⟨v1, v2, h.2.2⟩
    · intro K M h1 h2 h3
      exact m_item101 h1 h2 h3
  by_cases q108 : L b = 108
  · refine set_sim (i := 1) (c := 108) (lo := 1) (hi := 20) hd (by decide) (by decide) (by decide) (fun z => absurd z.2 (by decide)) (by decide) (by decide) ?_ ?_ ?_ ?_ ?_ ?_ hR hk hb q108 hS.1 hS.2
    · intro K X h
      have h : K 2 X := h
      exact ⟨fun y => absurd y (by decide), fun y => absurd y (by decide), fun _ => h, fun y => absurd y (by decide), fun _ _ z => absurd rfl z⟩
    · intro K X h
      refine ⟨fun _ => ⟨fun y => absurd y (by decide), fun y => absurd y (by decide), fun y => absurd y (by decide), fun _ _ _ => h _ ?_⟩, fun y => absurd y (by decide)⟩
      intro r3 M3 hh
      exact ⟨fun z => ⟨fun y => absurd y (by decide), fun y => absurd y (by decide), fun _ => hh.1 z, fun y => absurd y (by decide), fun _ _ q => absurd rfl q⟩, hh.2⟩
    · intro K M z h
      have i1 := ixn (k := 1) (z := 4) (by decide) (by decide)
      refine ⟨i1.1, fun _ => ⟨i1.1, ?_⟩, fun y => absurd z y⟩
      rintro M2 rfl
      rintro M3 rfl
      refine ⟨fun _ => ⟨fun y => absurd y (by decide), fun _ => ⟨fun _ => h _ ?_, fun y => absurd y (by decide)⟩⟩, fun y => absurd y (by decide)⟩
      intro r7 M7 hh
      exact ⟨fun z => ⟨i1.1, hh.1 z⟩, hh.2⟩
    · intro K M z h
      have i1 := ixn (k := 1) (z := 4) (by decide) (by decide)
      exact ⟨i1.1, fun y => absurd y z, fun _ => h⟩
    · intro v f h v1 v2
      unfold Bd at *
      rw [upd_4, upd_4, upd_4, upd_4]
      exact ⟨h.1, h.2.1, Int32.le_trans (show (0 : Int32) ≤ 1 by decide) v1, h.2.2.2⟩
    · intro K M h1 h2 h3
      exact m_item108 h1 h2 h3
  by_cases q105 : L b = 105
  · refine set_sim (i := 2) (c := 105) (lo := 0) (hi := 9) hd (by decide) (by decide) (by decide) (fun z => absurd z.2 (by decide)) (by decide) (by decide) ?_ ?_ ?_ ?_ ?_ ?_ hR hk hb q105 hS.1 hS.2
    · intro K X h
      have h : K 4 X := h
      exact ⟨fun y => absurd y (by decide), fun _ => h, fun y => absurd y (by decide), fun y => absurd y (by decide), fun _ z => absurd rfl z⟩
    · intro K X h
      refine ⟨fun y => absurd rfl y, fun _ => ⟨fun y => absurd y (by decide), fun _ => h _ ?_, fun y => absurd y (by decide), fun _ z => absurd rfl z⟩⟩
      intro r3 M3 hh
      exact ⟨fun z => ⟨fun y => absurd y (by decide), fun _ => hh.1 z, fun y => absurd y (by decide), fun y => absurd y (by decide), fun _ q => absurd rfl q⟩, hh.2⟩
    · intro K M z h
      have i1 := ixn (k := 2) (z := 4) (by decide) (by decide)
      refine ⟨i1.1, fun _ => ⟨i1.1, ?_⟩, fun y => absurd z y⟩
      rintro M2 rfl
      rintro M3 rfl
      refine ⟨fun y => absurd rfl y, fun _ => ⟨fun y => absurd y (by decide), fun _ => ⟨fun y => absurd rfl y, fun _ => h _ ?_⟩⟩⟩
      intro r7 M7 hh
      exact ⟨fun z => ⟨i1.1, hh.1 z⟩, hh.2⟩
    · intro K M z h
      have i1 := ixn (k := 2) (z := 4) (by decide) (by decide)
      exact ⟨i1.1, fun y => absurd y z, fun _ => h⟩
    · intro v f h v1 v2
      unfold Bd at *
      rw [upd_4, upd_4, upd_4, upd_4]
      exact ⟨h.1, h.2.1, h.2.2.1, v1, h.2.2.2.2⟩
    · intro K M h1 h2 h3
      exact m_item105 h1 h2 h3
  by_cases q112 : L b = 112
  · refine set_sim (i := 3) (c := 112) (lo := 1) (hi := 20) hd (by decide) (by decide) (by decide) (fun z => absurd z.2 (by decide)) (by decide) (by decide) ?_ ?_ ?_ ?_ ?_ ?_ hR hk hb q112 hS.1 hS.2
    · intro K X h
      have h : K 8 X := h
      exact ⟨fun y => absurd y (by decide), fun y => absurd y (by decide), fun y => absurd y (by decide), fun _ => h, fun _ _ _ z => absurd rfl z⟩
    · intro K X h
      refine ⟨fun _ => ⟨fun y => absurd y (by decide), fun y => absurd y (by decide), fun y => absurd y (by decide), fun _ _ _ => h _ ?_⟩, fun y => absurd y (by decide)⟩
      intro r3 M3 hh
      exact ⟨fun z => ⟨fun y => absurd y (by decide), fun y => absurd y (by decide), fun y => absurd y (by decide), fun y => absurd y (by decide), fun _ _ _ _ => hh.1 z⟩, hh.2⟩
    · intro K M z h
      have i1 := ixn (k := 3) (z := 4) (by decide) (by decide)
      refine ⟨i1.1, fun _ => ⟨i1.1, ?_⟩, fun y => absurd z y⟩
      rintro M2 rfl
      rintro M3 rfl
      refine ⟨fun _ => ⟨fun y => absurd y (by decide), fun _ => ⟨fun _ => h _ ?_, fun y => absurd y (by decide)⟩⟩, fun y => absurd y (by decide)⟩
      intro r7 M7 hh
      exact ⟨fun z => ⟨i1.1, hh.1 z⟩, hh.2⟩
    · intro K M z h
      have i1 := ixn (k := 3) (z := 4) (by decide) (by decide)
      exact ⟨i1.1, fun y => absurd y z, fun _ => h⟩
    · intro v f h v1 v2
      unfold Bd at *
      rw [upd_4, upd_4, upd_4, upd_4]
      exact ⟨h.1, h.2.1, h.2.2.1, h.2.2.2.1, nl v v1⟩
    · intro K M h1 h2 h3
      exact m_item112 h1 h2 h3
  have no : ∀ c : Int32, ¬ fig c → c ≤ 255 → ¬ L b = c → ¬ X 1 4 = c := fun c c1 c2 c3 y => c3 ((kind_iff a1 hk c1 c2).mp y).2
  have i1 := ixn (k := b) (z := 120) (by omega) (by decide)
  have eL : ∀ Y : Mem, S3 Y N (nI b) (nI b) V 136 (ix (S3 Y N (nI b) (nI b) V 130 24)) = L b := fun Y => by rw [S3_24, S3_c (by decide), i1.2, a2.2.2 b hb]
  refine ⟨fun _ => ⟨fun _ => ⟨fun y => absurd y (no 101 (fun z => absurd z.2 (by decide)) (by decide) q101), fun y => absurd y (no 105 (fun z => absurd z.2 (by decide)) (by decide) q105), fun y => absurd y (no 108 (fun z => absurd z.2 (by decide)) (by decide) q108), fun y => absurd y (no 112 (fun z => absurd z.2 (by decide)) (by decide) q112), fun _ _ _ _ => ⟨fun _ => ⟨fun y => absurd rfl y, fun _ => ?_⟩, fun y => absurd rfl y⟩⟩, fun y => absurd y (no 114 (fun z => absurd z.2 (by decide)) (by decide) q114)⟩, fun y => absurd y (no 117 (fun z => absurd z.2 (by decide)) (by decide) q117)⟩
  exact hS.2 X N b (nI b) V hk.2.1 hk.1 FX.rf FN.rf (fun Y Km hKm => m_item0 (by rw [S3_24]; exact i1.1) (by rw [eL]; exact q101) (by rw [eL]; exact q105) (by rw [eL]; exact q108) (by rw [eL]; exact q112) (by rw [eL]; exact q114) (by rw [eL]; exact q117) hKm)
/-- the whole text -/
theorem read_sim {Kc : Int32 → Mem → Prop} (hd : dr = 3 ∨ dr = 8) (Km0 : Mem → (Int32 → Mem → Prop) → Prop) {X0 N0 : Mem}
    (h1 : ∀ X' N' i A' B' V', i ≤ 120 → (∃ u r m gp, RPx L n dr X' N' u r m gp) → FX dr X0 X' → FN N0 N' → (∀ (Y : Mem) (Km : Int32 → Mem → Prop), Km (nI i) (S3 Y N' A' B' V') → Km0 Y Km) → Kc (nI i) X')
    (h0 : ∀ X' N' tb A' V', X' 1 3 = nI tb → tb ≤ 120 → FX dr X0 X' → FN N0 N' → (∀ (Y : Mem) (Km : Int32 → Mem → Prop), Km (-10 - nI tb) (S3 Y N' A' (nI tb) V') → Km0 Y Km) → Kc (-10 - nI tb) X') :
    ∀ (f i b : Nat) (X N : Mem) (V : Int32), i ≤ b → n ≤ b + f → (∃ u r m gp, RPx L n dr X N u r m gp) → IsB L n b b → TK L n X b → FX dr X0 X → FN N0 N → (∀ (Y : Mem) (Km : Int32 → Mem → Prop), (∃ j, L_X7_reads_15 Km j (nI i) (S3 Y N (nI b) (nI b) V)) → Km0 Y Km) → L_X5_readInto_20 1 dr Kc (f + 1) (nI i) X := by
  have fin : ∀ (f i : Nat) (X N : Mem) (V : Int32), i ≤ n → (∃ u r m gp, RPx L n dr X N u r m gp) → TK L n X n → FX dr X0 X → FN N0 N → (∀ (Y : Mem) (Km : Int32 → Mem → Prop), (∃ j, L_X7_reads_15 Km j (nI i) (S3 Y N (nI n) (nI n) V)) → Km0 Y Km) → L_X5_readInto_20 1 dr Kc (f + 1) (nI i) X := by
    intro f i X N V hib hR hk fx fn mm
    obtain ⟨u, r, m, gp, hR⟩ := hR
    have hn := hR.1.1
    have tM := hR.2.1
    have e4 := hk.2.2.1 rfl
    refine ⟨fun _ => h1 X N i (nI n) (nI n) V (by omega) ⟨u, r, m, gp, hR⟩ fx fn (fun Y Km hKm => mm Y Km ⟨1, fun _ => hKm, fun c => absurd ?_ c⟩), fun c => absurd e4 c⟩
    rw [S3_j (by omega), S3_24, tM.2.1]; exact Int32.le_refl _
  intro f
  induction f with
  | zero =>
    intro i b X N V hib hbf hR hBB hk fx fn mm
    have hbn := hk.1
    have : b = n := by omega
    subst this
    exact fin 0 i X N V hib hR hk fx fn mm
  | succ f ih =>
    intro i b X N V hib hbf hR hBB hk fx fn mm
    rcases Nat.lt_or_ge b n with hbn | z
    · obtain ⟨u, r, m, gp, hR⟩ := hR
      have hn := hR.1.1
      have tM := hR.2.1
      have lp : ∀ (Y : Mem) (Km : Int32 → Mem → Prop) (j : Nat), wp_X7_takesItem (S3 Y N (nI b) (nI b) V) (fun r6 M6 => (¬ r6 = 0 → wp_X7_blanks M6 (fun M8 => L_X7_reads_15 Km j (nI i + (1 : Int32)) M8)) ∧ (r6 = 0 → Km ((-10 : Int32) - (M6 130 25)) M6)) → L_X7_reads_15 Km (j + 1) (nI i) (S3 Y N (nI b) (nI b) V) := by
        intro Y Km j hh
        refine ⟨fun c => ?_, fun _ => hh⟩
        rw [S3_j (by omega), S3_24, tM.2.1, le_nI (by omega) (by omega)] at c; omega
      have ne257 : ¬ X 1 4 = 257 := by
        intro y
        by_cases hf : fig (L b)
        · obtain ⟨e, hE, q2, q3, q4⟩ := hk.2.2.2.2 hbn hf
          by_cases g : gdn L b e
          · exact absurd ((q3 g).1.symm.trans y) (by decide)
          · exact absurd ((q4 g).symm.trans y) (by decide)
        · rw [(hk.2.2.2.1 hbn hf).1] at y
          have := (hR.1.2.2 b hbn).2.2
          rw [y] at this
          exact absurd this (by decide)
      refine ⟨fun y => absurd y ne257, fun _ => ⟨fun y => ?_, fun _ => item_sim (V := V) hd hR hk hbn ⟨?_, ?_⟩⟩⟩
      · rw [lleN (by decide) (by omega)] at y
        have y : 120 ≤ i := y
        omega
      · intro X' N' s' b' B' V' ok mI
        obtain ⟨⟨u', r', m', gp', hR'⟩, hB', hk', hbs, fx', fn'⟩ := ok
        refine ⟨fun _ => ?_, fun y => absurd y (by decide)⟩
        rw [nI_1]
        have hb'n := hB'.2.1
        have hsb := hB'.1
        refine ih (i + 1) b' X' N' V' (by omega) (by omega) ⟨u', r', m', gp', hR'⟩ ⟨Nat.le_refl _, hb'n, fun j j1 j2 => by omega, hB'.2.2.2⟩ hk' (fx.tr fx') (fn.tr fn') ?_
        rintro Y Km ⟨j, hj⟩
        exact mm Y Km ⟨j + 1, lp Y Km j (mI Y _ ⟨fun _ => m_bl hR'.2.1 hB' (by rw [nI_1]; exact hj), fun y => absurd y (by decide)⟩)⟩
      · intro X' N' tb A' V' e3 htb fx' fn' mI
        refine ⟨fun y => absurd rfl y, fun _ => ?_⟩
        rw [e3]
        exact h0 X' N' tb A' V' e3 (by omega) (fx.tr fx') (fn.tr fn') (fun Y Km hKm => mm Y Km ⟨1, lp Y Km 0 (mI Y _ ⟨fun y => absurd rfl y, fun _ => hKm⟩)⟩)
    · have hbn := hk.1
      have : b = n := by omega
      subst this
      exact fin (f + 1) i X N V hib hR hk fx fn mm
end TL
