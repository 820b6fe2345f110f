section TJ
variable {X N M : Mem} {n s b e dr : Nat} {L : Nat → Int32} {A B V x : Int32} {u r m : Nat} {gp : Nat → Nat}
def Sok (L : Nat → Int32) (n dr : Nat) (X N : Mem) (b : Nat) (V : Int32) (Kc : Int32 → Mem → Prop) : Prop :=
  (∀ X' N' s' b' B' V', OKp L n dr X N b X' N' s' b' → (∀ (Y : Mem) (Km : Int32 → Mem → Prop), Km 1 (S3 Y N' (nI s') B' V') → wp_X7_takesItem (S3 Y N (nI b) (nI b) V) Km) → Kc 1 X') ∧
  (∀ X' N' tb A' V', X' 1 3 = nI tb → tb ≤ n → FX dr X X' → FN N N' → (∀ (Y : Mem) (Km : Int32 → Mem → Prop), Km 0 (S3 Y N' A' (nI tb) V') → wp_X7_takesItem (S3 Y N (nI b) (nI b) V) Km) → Kc 0 X')
theorem wyo_upd {v u : Nat} : ∀ k, k < u → wyo (fun j => if j = u then v else gp j) k = wyo gp k
  | 0, _ => rfl
  | k + 1, h => by
    show wyo _ k + (if k + 1 = u then v else gp (k + 1)) = _
    rw [wyo_upd k (by omega), if_neg (by omega)]
    rfl
/-- an item of a unit -/
theorem unit_sim {Kc : Int32 → Mem → Prop} (hd : dr = 3 ∨ dr = 8) (hR : RPx L n dr X N u r m gp) (hk : TK L n X b) (hb : b < n) (hL : L b = 117) (hS : Sok L n dr X N b V Kc) : wp_X5_readItem 1 dr X Kc := by
  have hR0 := hR
  obtain ⟨h1, h0⟩ := hS
  obtain ⟨a1, a2, a3, a4, a5, a6, a7, a8, a9⟩ := hR
  have hn := a1.1
  have hkd := hk.2.2.2.1 hb (by rw [hL]; exact fun z => absurd z.2 (by decide))
  have i1 := ixn (k := b) (z := 120) (by omega) (by decide)
  have it : ∀ (Y : Mem) (Km : Int32 → Mem → Prop), wp_X7_takesUnit (S3 Y N (nI b) (nI b) V) (fun r M2 => isB r ∧ Km r M2) → wp_X7_takesItem (S3 Y N (nI b) (nI b) V) Km := fun Y Km hh => m_item117 (by rw [S3_24]; exact i1.1) (by rw [S3_24, S3_c (by decide), i1.2, a2.2.2 b hb]; exact hL) hh
  unfold wp_X5_readItem
  rw [hkd.1, hL]
  refine ⟨fun y => absurd rfl y, fun _ => ?_⟩
  rw [a3.2.2.1]
  refine ⟨fun c => ⟨fun y => absurd rfl y, fun _ => ?_⟩, fun c => ⟨fun _ => ?_, fun y => absurd y (by decide)⟩⟩
  · rw [lleN (by decide) (by omega)] at c
    have c : 4 ≤ u := c
    refine h0 X N b (nI b) V hk.2.1 hk.1 FX.rf FN.rf (fun Y Km hKm => it Y Km ⟨fun y => ?_, fun _ => ⟨isB0, hKm⟩⟩)
    rw [S3_j (by omega), a3.2.2.2, show u = 4 by omega] at y
    exact absurd rfl y
  · rw [lleN (by decide) (by omega)] at c
    have c : ¬ 4 ≤ u := c
    refine c_step a1 (by omega) hkd.2 (fun X2 b1 hB1 hk1 f2 => ⟨fun _ => ?_, fun y => absurd y (by decide)⟩)
    have R2' := hR0.sc hd f2
    have hu : ∀ (Y : Mem) (Km : Int32 → Mem → Prop), wp_X7_takesNumber 1 6 (S3 Y N (nI (b + 1)) (nI b) V) (fun r3 M3 => (¬ r3 = 0 → vp_in (M3 130 17) 4 ∧ (∀ M5 : Mem, M5 = mw M3 143 (ix (M3 130 17)) (M3 130 26) → (∀ M6 : Mem, M6 = mw M5 130 17 ((M5 130 17) + (1 : Int32)) → wp_X7_takesSign ((59 : Int32)) M6 (fun r7 M7 => (isB r7 ∧ isB r7 ∧ Km r7 M7))))) ∧ (r3 = 0 → isB 0 ∧ Km (0 : Int32) M3)) → wp_X7_takesItem (S3 Y N (nI b) (nI b) V) Km := by
      intro Y Km hh
      refine it Y Km ⟨fun _ => ?_, fun y => ?_⟩
      · rintro M2 rfl
        rw [S3_24, mw_S24, nI_1]
        exact hh
      · rw [S3_j (by omega), a3.2.2.2, eqNl (by decide) (by omega)] at y
        have y : u = 4 := y
        omega
    refine ⟨fun _ => ⟨fun y => absurd y (by decide), fun y => absurd y (by decide), fun _ => ?_, fun _ _ n => absurd rfl n⟩, fun y => absurd y (by decide)⟩
    refine num_sim (N := N) (B := nI b) (V := V) (lo := 1) (hi := 6) R2'.1 a2 hB1 hk1 (by decide) (by decide) (fun X3 e v b2 v99 v1 v2 hbe hen hB2 hk2 f3 mm => ?_) (fun A' V' mm => ?_)
    · rw [leNl (by decide) (by omega)] at v2
      have v2 : v ≤ 6 := v2
      refine ⟨fun _ => ⟨fun y => absurd y (by decide), fun y => absurd y (by decide), fun y => absurd y (by decide), fun _ => ?_, fun _ _ _ n => absurd rfl n⟩, fun y => absurd (z_le (by omega)) y⟩
      have R3 := R2'.sc hd f3
      refine c_within ?_
      have e4 : X3 dr 4 = nI u := R3.2.2.1.2.2.1
      have i2 := ixn (k := u) (z := 4) (by omega) (by decide)
      have i3 := ixn (k := u - 1) (z := 4) (by omega) (by decide)
      rw [e4, if_pos ⟨(lleN (n := 1) (by decide) (by omega)).mpr a3.1, (leNl (n := 3) (by decide) (by omega)).mpr (show u ≤ 3 by omega)⟩, i2.2]
      refine ⟨fun y => absurd y (by decide), fun _ => ⟨i2.1, ?_⟩⟩
      rintro M3 rfl
      have e4b : mw X3 (dr + 1) u (nI v) dr 4 = nI u := by rw [mw_ne (by omega)]; exact e4
      rw [e4b, show nI u - 1 = nI (u - 1) from pk_sub (show 1 ≤ u by omega), i3.2, i2.2]
      refine ⟨i3.1, i2.1, ?_⟩
      have ew : mw X3 (dr + 1) u (nI v) (dr + 2) (u - 1) = nI (wyo gp (u - 1)) := by rw [mw_ne (by omega)]; exact (R3.2.2.2.2.2.2.1.2 (u - 1) (by omega)).2.2.1
      rw [ew, nI_add]
      rintro M4 rfl
      rintro M5 rfl
      have e4c : mw (mw X3 (dr + 1) u (nI v)) (dr + 2) u (nI (wyo gp (u - 1) + v)) dr 4 = nI u := by rw [mw_ne (by omega)]; exact e4b
      rw [e4c, nI_1]
      have fx : FX dr X3 (mw (mw (mw X3 (dr + 1) u (nI v)) (dr + 2) u (nI (wyo gp (u - 1) + v))) dr 4 (nI (u + 1))) := ⟨fun d d1 d2 => by rw [mw_ne (by omega), mw_ne (by omega), mw_ne (by omega)], by rw [mw_ne (by omega), mw_ne (by omega), mw_ne (by omega)], by rw [mw_ne (by omega), mw_ne (by omega), mw_k (by omega)], by rw [mw_ne (by omega), mw_k (by omega), mw_ne (by omega)]⟩
      have n2 : FN N (mw (mw N 143 u (nI v)) 130 17 (nI (u + 1))) := (FN.w (by omega) (by omega)).tr (FN.w1 (by omega))
      have R4 : RPx L n dr (mw (mw (mw X3 (dr + 1) u (nI v)) (dr + 2) u (nI (wyo gp (u - 1) + v))) dr 4 (nI (u + 1))) (mw (mw N 143 u (nI v)) 130 17 (nI (u + 1))) (u + 1) r m (fun j => if j = u then v else gp j) := by
        obtain ⟨d1, d2, d3, d4, d5, d6, d7, d8, d9⟩ := R3
        refine ⟨d1.fx hd fx, d2.fn n2, ⟨by omega, by omega, mw_at _ _ _ _, mw_at _ _ _ _⟩, ⟨d4.1, ?_, ?_⟩, fun j hj => ?_, ?_, ⟨?_, fun k hk' => ?_⟩, ?_, ?_⟩
        · rw [mw_k (by decide), mw_ne (by omega), mw_ne (by omega)]; exact d4.2.1
        · rw [mw_k (by decide), mw_ne (by omega)]; exact d4.2.2
        · rw [mw_k (by omega), mw_ne (by omega), mw_ne (by omega), mw_ne (by omega), mw_ne (by omega)]; exact d5 j hj
        · rw [mw_ne (by omega), mw_ne (by omega)]; exact d6
        · show (if 0 = u then v else gp 0) = 0
          rw [if_neg (by omega)]; exact d7.1
        · have q0 : mw (mw (mw X3 (dr + 1) u (nI v)) (dr + 2) u (nI (wyo gp (u - 1) + v))) dr 4 (nI (u + 1)) (dr + 1) = mw X3 (dr + 1) u (nI v) (dr + 1) := by rw [mw_ne (by omega), mw_ne (by omega)]
          have q1 : mw (mw (mw X3 (dr + 1) u (nI v)) (dr + 2) u (nI (wyo gp (u - 1) + v))) dr 4 (nI (u + 1)) (dr + 2) = mw (mw X3 (dr + 1) u (nI v)) (dr + 2) u (nI (wyo gp (u - 1) + v)) (dr + 2) := by rw [mw_ne (by omega)]
          have q2 : mw (mw N 143 u (nI v)) 130 17 (nI (u + 1)) 143 = mw N 143 u (nI v) 143 := by rw [mw_ne (by omega)]
          rw [q0, q1, q2]
          by_cases y : k = u
          · subst y
            refine ⟨?_, ?_, ?_, fun _ => ?_⟩
            · show (if k = k then v else gp k) ≤ 6
              rw [if_pos rfl]; exact v2
            · show _ = nI (if k = k then v else gp k)
              rw [if_pos rfl, mw_at]
            · rw [mw_at]
              obtain ⟨k', rfl⟩ : ∃ k', k = k' + 1 := ⟨k - 1, by omega⟩
              show _ = nI (wyo _ k' + (if k' + 1 = k' + 1 then v else gp (k' + 1)))
              rw [wyo_upd k' (by omega), if_pos rfl]; rfl
            · show _ = nI (if k = k then v else gp k)
              rw [if_pos rfl, mw_at]
          · obtain ⟨g1, g2, g3, g4⟩ := d7.2 k (by omega)
            refine ⟨?_, ?_, ?_, fun z => ?_⟩
            · show (if k = u then v else gp k) ≤ 6
              rw [if_neg y]; exact g1
            · show _ = nI (if k = u then v else gp k)
              rw [if_neg y, mw_k y]; exact g2
            · rw [mw_k y, mw_ne (by omega), wyo_upd k (by omega)]; exact g3
            · show _ = nI (if k = u then v else gp k)
              rw [if_neg y, mw_k y]; exact g4 z
        · rw [mw_ne (by omega), mw_ne (by omega), mw_ne (by omega), mw_ne (by omega), mw_ne (by omega), mw_ne (by omega), mw_ne (by omega), mw_ne (by omega), mw_ne (by omega), mw_ne (by omega)]; exact d8
        · rw [mw_ne (by omega), mw_ne (by omega), mw_ne (by omega), mw_ne (by omega), mw_ne (by omega)]; exact d9
      have hk4 : TK L n (mw (mw (mw X3 (dr + 1) u (nI v)) (dr + 2) u (nI (wyo gp (u - 1) + v))) dr 4 (nI (u + 1))) b2 := by unfold TK at *; rw [mw_ne (by omega), mw_ne (by omega), mw_ne (by omega)]; exact hk2
      have fx4 : FX dr X (mw (mw (mw X3 (dr + 1) u (nI v)) (dr + 2) u (nI (wyo gp (u - 1) + v))) dr 4 (nI (u + 1))) := ((FX.sc hd f2).tr (FX.sc hd f3)).tr fx
      generalize mw (mw (mw X3 (dr + 1) u (nI v)) (dr + 2) u (nI (wyo gp (u - 1) + v))) dr 4 (nI (u + 1)) = X4 at *
      have mm2 : ∀ (Y : Mem) (Km : Int32 → Mem → Prop), wp_X7_takesSign 59 (S3 Y (mw (mw N 143 u (nI v)) 130 17 (nI (u + 1))) (nI e) (nI b1) (nI v)) (fun r M => isB r ∧ isB r ∧ Km r M) → wp_X7_takesItem (S3 Y N (nI b) (nI b) V) Km := by
        intro Y Km hh
        refine hu Y Km (mm Y _ ⟨fun _ => ?_, fun y => absurd y (by decide)⟩)
        rw [S3_j (by omega), a3.2.2.2, S3_26, i2.2]
        refine ⟨i2.1, ?_⟩
        rintro M5 rfl
        rintro M6 rfl
        rw [mw_Sc (by decide), S3_j (by omega), mw_ne (by decide), a3.2.2.2, nI_1, mw_Sj (by omega)]
        exact hh
      refine end_sim (N := mw (mw N 143 u (nI v)) 130 17 (nI (u + 1))) (B := nI b1) (V := nI v) R4.1 R4.2.1 hB2 hk4 (fun X5 b3 hB3 hk3 f5 hb2 mS => ?_) (fun mS => ?_)
      · refine h1 X5 _ (b2 + 1) b3 (nI b2) (nI v) ⟨⟨_, _, _, _, R4.sc hd f5⟩, hB3, hk3, by have := hB1.1; have := hB2.1; omega, fx4.tr (FX.sc hd f5), n2⟩ (fun Y Km hKm => mm2 Y Km (mS Y _ ⟨isB1, isB1, hKm⟩))
      · exact h0 X4 _ b2 (nI b2) (nI v) hk4.2.1 hk4.1 fx4 n2 (fun Y Km hKm => mm2 Y Km (mS Y _ ⟨isB0, isB0, hKm⟩))
    · refine ⟨fun y => absurd y (by decide), fun _ => ?_⟩
      refine ⟨fun _ => ?_, fun y => absurd rfl y⟩
      exact h0 X2 N b1 A' V' hk1.2.1 hk1.1 (FX.sc hd f2) FN.rf (fun Y Km hKm => hu Y Km (mm Y _ ⟨fun y => absurd rfl y, fun _ => ⟨isB0, hKm⟩⟩))
/-- an item of a reel -/
theorem reel_sim {Kc : Int32 → Mem → Prop} (hd : dr = 3 ∨ dr = 8) (hR : RPx L n dr X N u r m gp) (hk : TK L n X b) (hb : b < n) (hL : L b = 114) (hS : Sok L n dr X N b V Kc) : wp_X5_readItem 1 dr X Kc := by
  have hR0 := hR
  obtain ⟨h1, h0⟩ := hS
  obtain ⟨a1, a2, a3, a4, a5, a6, a7, a8, a9⟩ := hR
  have hn := a1.1
  have hkd := hk.2.2.2.1 hb (by rw [hL]; exact fun z => absurd z.2 (by decide))
  have i1 := ixn (k := b) (z := 120) (by omega) (by decide)
  have it : ∀ (Y : Mem) (Km : Int32 → Mem → Prop), wp_X7_takesReel (S3 Y N (nI b) (nI b) V) (fun r M2 => isB r ∧ Km r M2) → wp_X7_takesItem (S3 Y N (nI b) (nI b) V) Km := fun Y Km hh => m_item114 (by rw [S3_24]; exact i1.1) (by rw [S3_24, S3_c (by decide), i1.2, a2.2.2 b hb]; exact hL) hh
  unfold wp_X5_readItem
  rw [hkd.1, hL]
  refine ⟨fun _ => ⟨fun y => absurd rfl y, fun _ => ?_⟩, fun y => absurd y (by decide)⟩
  rw [a4.2.1]
  refine ⟨fun c => ⟨fun y => absurd rfl y, fun _ => ?_⟩, fun c => ⟨fun _ => ?_, fun y => absurd y (by decide)⟩⟩
  · rw [lleN (by decide) (by omega)] at c
    have c : 8 ≤ r := c
    refine h0 X N b (nI b) V hk.2.1 hk.1 FX.rf FN.rf (fun Y Km hKm => it Y Km ⟨fun y => ?_, fun _ => ⟨isB0, hKm⟩⟩)
    rw [S3_j (by omega), a4.2.2, show r = 8 by omega] at y
    exact absurd rfl y
  · rw [lleN (by decide) (by omega)] at c
    have c : ¬ 8 ≤ r := c
    have i2 := ixn (k := r) (z := 8) (by omega) (by decide)
    refine c_step a1 (by omega) hkd.2 (fun X2 b1 hB1 hk1 f2 => ⟨fun y => absurd rfl y, fun _ => ?_⟩)
    have R2' := hR0.sc hd f2
    have hu : ∀ (Y : Mem) (Km : Int32 → Mem → Prop), wp_X7_takesNumber 1 99 (S3 Y N (nI (b + 1)) (nI b) V) (fun r3 M3 => (¬ r3 = 0 → vp_in (M3 130 18) 8 ∧ (∀ M5 : Mem, M5 = mw M3 144 (ix (M3 130 18)) (M3 130 26) → wp_X7_takesSign ((45 : Int32)) M5 (fun r6 M6 => wp_X7_takesNumber ((0 : Int32)) ((9 : Int32)) M6 (fun r7 M7 => (¬ r7 = 0 → (r6 = 0 → wp_X7_takesReel_89 (fun r M2 => isB r ∧ Km r M2) ((M7 130 26)) ((M7 130 18)) M7) ∧ (¬ r6 = 0 → wp_X7_takesReel_89 (fun r M2 => isB r ∧ Km r M2) ((-(M7 130 26))) ((M7 130 18)) M7)) ∧ (r7 = 0 → isB 0 ∧ Km (0 : Int32) M7))))) ∧ (r3 = 0 → isB 0 ∧ Km (0 : Int32) M3)) → wp_X7_takesItem (S3 Y N (nI b) (nI b) V) Km := by
      intro Y Km hh
      refine it Y Km ⟨fun _ => ?_, fun y => ?_⟩
      · rintro M2 rfl
        rw [S3_24, mw_S24, nI_1]
        exact hh
      · rw [S3_j (by omega), a4.2.2, eqNl (by decide) (by omega)] at y
        have y : r = 8 := y
        omega
    refine num_sim (N := N) (B := nI b) (V := V) (lo := 1) (hi := 99) R2'.1 a2 hB1 hk1 (by decide) (by decide) (fun X3 e v b2 v99 v1 v2 hbe hen hB2 hk2 f3 mm => ?_) (fun A' V' mm => ?_)
    · refine ⟨fun _ => ?_, fun y => absurd (z_le (by omega)) y⟩
      have R3 := R2'.sc hd f3
      have n1 : FN N (mw N 144 r (nI v)) := FN.w (by omega) (by omega)
      have hM1 := a2.fn n1
      have f13 : FX dr X X3 := (FX.sc hd f2).tr (FX.sc hd f3)
      -- the second number, and the end
      have tail : ∀ (y0 : Int32) (X4 : Mem) (s4 b4 : Nat) (B4 V4 : Int32), isB y0 → SC X3 X4 → IsB L n s4 b4 → TK L n X4 b4 → b < s4 → (∀ (Y : Mem) (Km : Int32 → Mem → Prop), wp_X7_takesNumber 0 9 (S3 Y (mw N 144 r (nI v)) (nI s4) B4 V4) (fun r7 M7 => (¬ r7 = 0 → (y0 = 0 → wp_X7_takesReel_89 (fun r M2 => isB r ∧ Km r M2) ((M7 130 26)) ((M7 130 18)) M7) ∧ (¬ y0 = 0 → wp_X7_takesReel_89 (fun r M2 => isB r ∧ Km r M2) ((-(M7 130 26))) ((M7 130 18)) M7)) ∧ (r7 = 0 → isB 0 ∧ Km (0 : Int32) M7)) → wp_X7_takesItem (S3 Y N (nI b) (nI b) V) Km) → wp_X5_readReel_37 1 dr (fun r6 M6 => wp_X5_readItem_40 1 dr Kc r6 M6) (nI v) y0 X4 := by
        intro y0 X4 s4 b4 B4 V4 hy0 f4 hB4 hk4 hbs mm4
        have R4 := R3.sc hd f4
        refine num_sim (N := mw N 144 r (nI v)) (B := B4) (V := V4) (lo := 0) (hi := 9) R4.1 hM1 hB4 hk4 (by decide) (by decide) (fun X5 e5 v5 b5 v599 v51 v52 hbe5 hen5 hB5 hk5 f5 mm5 => ?_) (fun A' V' mm5 => ?_)
        · have R5 := R4.sc hd f5
          have add : ∀ w : Int32, ((y0 = 0 ∧ w = nI v5) ∨ (¬ y0 = 0 ∧ w = -(nI v5))) → wp_X5_readReel_67 1 dr (fun r6 M6 => wp_X5_readItem_40 1 dr Kc r6 M6) w (nI v) X5 := by
            intro w hw
            unfold wp_X5_readReel_67 wp_X3_addReel
            refine c_within ?_
            have e5' : X5 dr 5 = nI r := R5.2.2.2.1.2.1
            rw [e5', if_pos ⟨z_le (by omega), (leNl (n := 7) (by decide) (by omega)).mpr (show r ≤ 7 by omega)⟩, i2.2]
            refine ⟨fun y => absurd y (by decide), fun _ => ⟨i2.1, ?_⟩⟩
            rintro M3 rfl
            have e5b : mw X5 (dr + 3) r (nI v) dr 5 = nI r := by rw [mw_ne (by omega)]; exact e5'
            rw [e5b, i2.2]
            refine ⟨i2.1, ?_⟩
            rintro M4 rfl
            rintro M5 rfl
            have e5c : mw (mw X5 (dr + 3) r (nI v)) (dr + 4) r w dr 5 = nI r := by rw [mw_ne (by omega)]; exact e5b
            rw [e5c, nI_1]
            have fx : FX dr X5 (mw (mw (mw X5 (dr + 3) r (nI v)) (dr + 4) r w) dr 5 (nI (r + 1))) := ⟨fun d d1 d2 => by rw [mw_ne (by omega), mw_ne (by omega), mw_ne (by omega)], by rw [mw_ne (by omega), mw_ne (by omega), mw_ne (by omega)], by rw [mw_ne (by omega), mw_ne (by omega), mw_ne (by omega)], by rw [mw_ne (by omega), mw_ne (by omega), mw_ne (by omega)]⟩
            have n2 : FN N (mw (mw (mw N 144 r (nI v)) 145 r w) 130 18 (nI (r + 1))) := (n1.tr (FN.w (by omega) (by omega))).tr (FN.w1 (by omega))
            have R6 : RPx L n dr (mw (mw (mw X5 (dr + 3) r (nI v)) (dr + 4) r w) dr 5 (nI (r + 1))) (mw (mw (mw N 144 r (nI v)) 145 r w) 130 18 (nI (r + 1))) u (r + 1) m gp := by
              obtain ⟨d1, d2, d3, d4, d5, d6, d7, d8, d9⟩ := R5
              refine ⟨d1.fx hd fx, d2.fn n2, ⟨d3.1, d3.2.1, ?_, ?_⟩, ⟨by omega, mw_at _ _ _ _, mw_at _ _ _ _⟩, fun j hj => ?_, ?_, ?_, fun i hi => ?_, ?_⟩
              · rw [mw_k (by decide), mw_ne (by omega), mw_ne (by omega)]; exact d3.2.2.1
              · rw [mw_k (by decide), mw_ne (by omega), mw_ne (by omega)]; exact d3.2.2.2
              · rw [mw_k (by omega), mw_ne (by omega), mw_ne (by omega), mw_ne (by omega), mw_ne (by omega), mw_ne (by omega)]; exact d5 j hj
              · rw [mw_ne (by omega), mw_ne (by omega), mw_ne (by omega)]; exact d6
              · rw [mw_ne (by omega), mw_ne (by omega), mw_ne (by omega), mw_ne (by omega), mw_ne (by omega), mw_ne (by omega), mw_ne (by omega), mw_ne (by omega), mw_ne (by omega)]; exact d7
              · have q0 : mw (mw (mw X5 (dr + 3) r (nI v)) (dr + 4) r w) dr 5 (nI (r + 1)) (dr + 3) = mw X5 (dr + 3) r (nI v) (dr + 3) := by rw [mw_ne (by omega), mw_ne (by omega)]
                have q1 : mw (mw (mw X5 (dr + 3) r (nI v)) (dr + 4) r w) dr 5 (nI (r + 1)) (dr + 4) = mw (mw X5 (dr + 3) r (nI v)) (dr + 4) r w (dr + 4) := by rw [mw_ne (by omega)]
                have q2 : mw (mw (mw N 144 r (nI v)) 145 r w) 130 18 (nI (r + 1)) 144 = mw N 144 r (nI v) 144 := by rw [mw_ne (by omega), mw_ne (by omega)]
                have q3 : mw (mw (mw N 144 r (nI v)) 145 r w) 130 18 (nI (r + 1)) 145 = mw (mw N 144 r (nI v)) 145 r w 145 := by rw [mw_ne (by omega)]
                rw [q0, q1, q2, q3]
                by_cases y : i = r
                · subst y; rw [mw_at, mw_at, mw_at, mw_at]; exact ⟨rfl, rfl⟩
                · rw [mw_k y, mw_k y, mw_k y, mw_k y, mw_ne (by omega), mw_ne (by omega)]; exact d8 i (by omega)
              · rw [mw_ne (by omega), mw_ne (by omega), mw_ne (by omega), mw_ne (by omega), mw_ne (by omega), mw_ne (by omega)]; exact d9
            have hk6 : TK L n (mw (mw (mw X5 (dr + 3) r (nI v)) (dr + 4) r w) dr 5 (nI (r + 1))) b5 := by unfold TK at *; rw [mw_ne (by omega), mw_ne (by omega), mw_ne (by omega)]; exact hk5
            have fx6 : FX dr X (mw (mw (mw X5 (dr + 3) r (nI v)) (dr + 4) r w) dr 5 (nI (r + 1))) := ((f13.tr (FX.sc hd f4)).tr (FX.sc hd f5)).tr fx
            generalize mw (mw (mw X5 (dr + 3) r (nI v)) (dr + 4) r w) dr 5 (nI (r + 1)) = X6 at *
            have m89 : ∀ (Y : Mem) (K : Int32 → Mem → Prop), wp_X7_takesSign 59 (S3 Y (mw (mw (mw N 144 r (nI v)) 145 r w) 130 18 (nI (r + 1))) (nI e5) (nI b4) (nI v5)) (fun r M => isB r ∧ K r M) → wp_X7_takesReel_89 K w (nI r) (S3 Y (mw N 144 r (nI v)) (nI e5) (nI b4) (nI v5)) := by
              intro Y K hh
              unfold wp_X7_takesReel_89
              rw [i2.2]
              refine ⟨i2.1, ?_⟩
              rintro M10 rfl
              rintro M11 rfl
              rw [mw_Sc (by decide), S3_j (by omega), mw_ne (by decide), mw_ne (by decide), a4.2.2, nI_1, mw_Sj (by omega)]
              exact hh
            have mm2 : ∀ (Y : Mem) (Km : Int32 → Mem → Prop), wp_X7_takesSign 59 (S3 Y (mw (mw (mw N 144 r (nI v)) 145 r w) 130 18 (nI (r + 1))) (nI e5) (nI b4) (nI v5)) (fun r M => isB r ∧ isB r ∧ Km r M) → wp_X7_takesItem (S3 Y N (nI b) (nI b) V) Km := by
              intro Y Km hh
              refine mm4 Y Km (mm5 Y _ ⟨fun _ => ?_, fun y => absurd y (by decide)⟩)
              rw [S3_26, S3_j (by omega), mw_ne (M := N) (by decide), a4.2.2]
              rcases hw with ⟨w1, w2⟩ | ⟨w1, w2⟩
              · exact ⟨fun _ => by have q := m89 Y _ hh; rw [w2] at q; exact q, fun y => absurd w1 y⟩
              · exact ⟨fun y => absurd y w1, fun _ => by have q := m89 Y _ hh; rw [w2] at q; exact q⟩
            refine end_sim (N := mw (mw (mw N 144 r (nI v)) 145 r w) 130 18 (nI (r + 1))) (B := nI b4) (V := nI v5) R6.1 R6.2.1 hB5 hk6 (fun X7 b7 hB7 hk7 f7 hb7 mS => ?_) (fun mS => ?_)
            · refine h1 X7 _ (b5 + 1) b7 (nI b5) (nI v5) ⟨⟨_, _, _, _, R6.sc hd f7⟩, hB7, hk7, by have := hB4.1; have := hB5.1; omega, fx6.tr (FX.sc hd f7), n2⟩ (fun Y Km hKm => mm2 Y Km (mS Y _ ⟨isB1, isB1, hKm⟩))
            · exact h0 X6 _ b5 (nI b5) (nI v5) hk6.2.1 hk6.1 fx6 n2 (fun Y Km hKm => mm2 Y Km (mS Y _ ⟨isB0, isB0, hKm⟩))
          exact ⟨fun _ => ⟨fun y => add _ (Or.inl ⟨y, rfl⟩), fun y => add _ (Or.inr ⟨y, rfl⟩)⟩, fun y => absurd (z_le (by omega)) y⟩
        · refine ⟨fun y => absurd y (by decide), fun _ => ⟨fun _ => ?_, fun y => absurd rfl y⟩⟩
          exact h0 X4 (mw N 144 r (nI v)) b4 A' V' hk4.2.1 hk4.1 (f13.tr (FX.sc hd f4)) n1 (fun Y Km hKm => mm4 Y Km (mm5 Y _ ⟨fun y => absurd rfl y, fun _ => ⟨isB0, hKm⟩⟩))
      have ki := kind_iff (c := 45) R3.1 hk2 (fun z => absurd z.1 (by decide)) (by decide)
      have mmS : ∀ (Y : Mem) (Km : Int32 → Mem → Prop), wp_X7_takesSign 45 (S3 Y (mw N 144 r (nI v)) (nI e) (nI b1) (nI v)) (fun r6 M6 => wp_X7_takesNumber ((0 : Int32)) ((9 : Int32)) M6 (fun r7 M7 => (¬ r7 = 0 → (r6 = 0 → wp_X7_takesReel_89 (fun r M2 => isB r ∧ Km r M2) ((M7 130 26)) ((M7 130 18)) M7) ∧ (¬ r6 = 0 → wp_X7_takesReel_89 (fun r M2 => isB r ∧ Km r M2) ((-(M7 130 26))) ((M7 130 18)) M7)) ∧ (r7 = 0 → isB 0 ∧ Km (0 : Int32) M7))) → wp_X7_takesItem (S3 Y N (nI b) (nI b) V) Km := by
        intro Y Km hh
        refine hu Y Km (mm Y _ ⟨fun _ => ?_, fun y => absurd y (by decide)⟩)
        rw [S3_j (by omega), a4.2.2, S3_26, i2.2]
        refine ⟨i2.1, ?_⟩
        rintro M5 rfl
        rw [mw_Sc (by decide)]
        exact hh
      refine ⟨fun y => ⟨fun _ => ?_, fun q => absurd rfl q⟩, fun y => ⟨fun q => absurd q (by decide), fun _ => ?_⟩⟩
      · have hno : ¬ (b2 < n ∧ L b2 = 45) := fun q => y (ki.mpr q)
        refine tail 0 X3 b2 b2 (nI b2) (nI v) isB0 SC.rf ⟨Nat.le_refl _, hB2.2.1, fun j j1 j2 => by omega, hB2.2.2.2⟩ hk2 (by have := hB1.1; have := hB2.1; omega) (fun Y Km hh => mmS Y Km (m_sign hM1 hB2 (fun z1 z2 => absurd ⟨z1, z2⟩ hno) (fun _ => hh)))
      · have kk := ki.mp y
        have e2 := (hk2.2.2.2.1 kk.1 (by rw [kk.2]; exact fun z => absurd z.1 (by decide))).2
        refine c_step R3.1 (by have := kk.1; omega) e2 (fun X4 b4 hB4 hk4 f4 => ?_)
        exact tail 1 X4 (b2 + 1) b4 (nI b2) (nI v) isB1 f4 hB4 hk4 (by have := hB1.1; have := hB2.1; omega) (fun Y Km hh => mmS Y Km (m_sign hM1 hB2 (fun _ _ => hh) (fun q => absurd kk q)))
    · refine ⟨fun y => absurd y (by decide), fun _ => ⟨fun _ => ?_, fun y => absurd rfl y⟩⟩
      exact h0 X2 N b1 A' V' hk1.2.1 hk1.1 (FX.sc hd f2) FN.rf (fun Y Km hKm => hu Y Km (mm Y _ ⟨fun y => absurd rfl y, fun _ => ⟨isB0, hKm⟩⟩))
end TJ
