section O6
variable {P : PlanT} {M X Z N : Mem} {p q pl dr u k : Nat} {w : Row} {T t g U : Nat}
def bcF (x0 : Int32) : Int32 := ((((((((x0 - ((((x0).toUInt32 >>> (((1 : Int32)).toUInt32 &&& Int32.toUInt32 31)).toInt32) &&& (1431655765 : Int32))) &&& (858993459 : Int32)) + (((((x0 - ((((x0).toUInt32 >>> (((1 : Int32)).toUInt32 &&& Int32.toUInt32 31)).toInt32) &&& (1431655765 : Int32)))).toUInt32 >>> (((2 : Int32)).toUInt32 &&& Int32.toUInt32 31)).toInt32) &&& (858993459 : Int32))) + ((((((x0 - ((((x0).toUInt32 >>> (((1 : Int32)).toUInt32 &&& Int32.toUInt32 31)).toInt32) &&& (1431655765 : Int32))) &&& (858993459 : Int32)) + (((((x0 - ((((x0).toUInt32 >>> (((1 : Int32)).toUInt32 &&& Int32.toUInt32 31)).toInt32) &&& (1431655765 : Int32)))).toUInt32 >>> (((2 : Int32)).toUInt32 &&& Int32.toUInt32 31)).toInt32) &&& (858993459 : Int32)))).toUInt32 >>> (((4 : Int32)).toUInt32 &&& Int32.toUInt32 31)).toInt32)) &&& (252645135 : Int32)) + ((((((((x0 - ((((x0).toUInt32 >>> (((1 : Int32)).toUInt32 &&& Int32.toUInt32 31)).toInt32) &&& (1431655765 : Int32))) &&& (858993459 : Int32)) + (((((x0 - ((((x0).toUInt32 >>> (((1 : Int32)).toUInt32 &&& Int32.toUInt32 31)).toInt32) &&& (1431655765 : Int32)))).toUInt32 >>> (((2 : Int32)).toUInt32 &&& Int32.toUInt32 31)).toInt32) &&& (858993459 : Int32))) + ((((((x0 - ((((x0).toUInt32 >>> (((1 : Int32)).toUInt32 &&& Int32.toUInt32 31)).toInt32) &&& (1431655765 : Int32))) &&& (858993459 : Int32)) + (((((x0 - ((((x0).toUInt32 >>> (((1 : Int32)).toUInt32 &&& Int32.toUInt32 31)).toInt32) &&& (1431655765 : Int32)))).toUInt32 >>> (((2 : Int32)).toUInt32 &&& Int32.toUInt32 31)).toInt32) &&& (858993459 : Int32)))).toUInt32 >>> (((4 : Int32)).toUInt32 &&& Int32.toUInt32 31)).toInt32)) &&& (252645135 : Int32))).toUInt32 >>> (((8 : Int32)).toUInt32 &&& Int32.toUInt32 31)).toInt32)) + (((((((((x0 - ((((x0).toUInt32 >>> (((1 : Int32)).toUInt32 &&& Int32.toUInt32 31)).toInt32) &&& (1431655765 : Int32))) &&& (858993459 : Int32)) + (((((x0 - ((((x0).toUInt32 >>> (((1 : Int32)).toUInt32 &&& Int32.toUInt32 31)).toInt32) &&& (1431655765 : Int32)))).toUInt32 >>> (((2 : Int32)).toUInt32 &&& Int32.toUInt32 31)).toInt32) &&& (858993459 : Int32))) + ((((((x0 - ((((x0).toUInt32 >>> (((1 : Int32)).toUInt32 &&& Int32.toUInt32 31)).toInt32) &&& (1431655765 : Int32))) &&& (858993459 : Int32)) + (((((x0 - ((((x0).toUInt32 >>> (((1 : Int32)).toUInt32 &&& Int32.toUInt32 31)).toInt32) &&& (1431655765 : Int32)))).toUInt32 >>> (((2 : Int32)).toUInt32 &&& Int32.toUInt32 31)).toInt32) &&& (858993459 : Int32)))).toUInt32 >>> (((4 : Int32)).toUInt32 &&& Int32.toUInt32 31)).toInt32)) &&& (252645135 : Int32)) + ((((((((x0 - ((((x0).toUInt32 >>> (((1 : Int32)).toUInt32 &&& Int32.toUInt32 31)).toInt32) &&& (1431655765 : Int32))) &&& (858993459 : Int32)) + (((((x0 - ((((x0).toUInt32 >>> (((1 : Int32)).toUInt32 &&& Int32.toUInt32 31)).toInt32) &&& (1431655765 : Int32)))).toUInt32 >>> (((2 : Int32)).toUInt32 &&& Int32.toUInt32 31)).toInt32) &&& (858993459 : Int32))) + ((((((x0 - ((((x0).toUInt32 >>> (((1 : Int32)).toUInt32 &&& Int32.toUInt32 31)).toInt32) &&& (1431655765 : Int32))) &&& (858993459 : Int32)) + (((((x0 - ((((x0).toUInt32 >>> (((1 : Int32)).toUInt32 &&& Int32.toUInt32 31)).toInt32) &&& (1431655765 : Int32)))).toUInt32 >>> (((2 : Int32)).toUInt32 &&& Int32.toUInt32 31)).toInt32) &&& (858993459 : Int32)))).toUInt32 >>> (((4 : Int32)).toUInt32 &&& Int32.toUInt32 31)).toInt32)) &&& (252645135 : Int32))).toUInt32 >>> (((8 : Int32)).toUInt32 &&& Int32.toUInt32 31)).toInt32))).toUInt32 >>> (((16 : Int32)).toUInt32 &&& Int32.toUInt32 31)).toInt32)) &&& (63 : Int32))
def pcN (m : Nat) : Nat → Nat
  | 0 => 0
  | n + 1 => pcN m n + (if m / 2 ^ n % 2 = 1 then 1 else 0)
theorem bc_eq : ∀ m, m < 128 → bcF (nI m) = nI (pcN m 7) := by decide +kernel
theorem bit_a : ∀ m, m < 128 → ∀ c, c < 7 → (((nI m >>> (nI c &&& 31)) &&& (1 : Int32)) = (1 : Int32) ↔ m / 2 ^ c % 2 = 1) := by decide +kernel
theorem bit_b : ∀ m, m < 128 → ∀ c, c < 7 → ((nI m &&& ((1 : Int32) <<< (nI c &&& 31))) = 0 ↔ ¬ m / 2 ^ c % 2 = 1) := by decide +kernel
theorem bit_c : ∀ m, m < 128 → ((nI m &&& (nI m - (1 : Int32))) = 0 ↔ pcN m 7 ≤ 1) := by decide +kernel
theorem bit_o : ∀ n, n < 7 → ∀ m, m < 2 ^ n → nI m ||| ((1 : Int32) <<< (nI n &&& 31)) = nI (m + 2 ^ n) := by decide +kernel
theorem R2_clue {M2 : Mem} (h : R2 P M M pl dr) (hx : ∀ c, c < 130 → c ≠ 105 → c ≠ 106 → c ≠ 107 → M2 c = M c) (hn : ∀ c, 130 ≤ c → c ≠ 130 → c ≠ 137 → M2 c = M c) (h130 : ∀ j, j ≠ 9 → M2 130 j = M 130 j) (hq : RQ M2 M2) : Rel M2 pl dr := by
  obtain ⟨a1, a2, a3, a4, a5, a6, a7, a8, a9, a10⟩ := h
  have hpl : pl = 3 ∨ pl = 8 := by rcases a4 with z | z; · exact Or.inl z.1
                                   · exact Or.inr z.1
  refine ⟨P, a1, ?_, CP_cells a3 (fun i hi => hx _ (by omega) (by omega) (by omega) (by omega)), a4, ?_, ?_, ?_, ?_, hq, ?_⟩
  · unfold MP at *
    rw [h130 _ (by decide), h130 _ (by decide), hn 138 (by omega) (by omega) (by omega), hn 139 (by omega) (by omega) (by omega), hn 140 (by omega) (by omega) (by omega), hn 141 (by omega) (by omega) (by omega), hn 142 (by omega) (by omega) (by omega)]
    exact a2
  · rw [hn 131 (by omega) (by omega) (by omega)]
    exact PT_cells a5 (fun i hi => hx _ (by omega) (by omega) (by omega) (by omega))
  · obtain ⟨nw, kn, b1, b2, b3, b4, b5, b6⟩ := a6
    refine ⟨nw, kn, b1, b2, by rw [hx 35 (by omega) (by omega) (by omega) (by omega)]; exact b3, by rw [hx 35 (by omega) (by omega) (by omega) (by omega)]; exact b4, by rw [h130 _ (by decide)]; exact b5, fun i hi => ?_⟩
    rw [hn 133 (by omega) (by omega) (by omega)]
    exact PT_cells (b6 i hi) (fun j hj => hx _ (by omega) (by omega) (by omega) (by omega))
  · intro i hi
    obtain ⟨b1, b2, b3⟩ := a7 i hi
    rw [hx 104 (by omega) (by omega) (by omega) (by omega), hn 135 (by omega) (by omega) (by omega), hn 134 (by omega) (by omega) (by omega)]
    exact ⟨b1, b2, fun z => PT_cells (b3 z) (fun j hj => hx _ (by omega) (by omega) (by omega) (by omega))⟩
  · unfold RT at *; rw [hx 1 (by omega) (by omega) (by omega) (by omega), hx 2 (by omega) (by omega) (by omega) (by omega), h130 _ (by decide), hn 136 (by omega) (by omega) (by omega)]; exact a8
  · unfold RZ at *; rw [hx 4 (by omega) (by omega) (by omega) (by omega), hx 5 (by omega) (by omega) (by omega) (by omega), hx 9 (by omega) (by omega) (by omega) (by omega), hx 10 (by omega) (by omega) (by omega) (by omega)]; exact a10
theorem op_forget (M : Mem) (pl dr : Nat) (h : Rel M pl dr) : wp_X6_forget pl dr M (fun r M1 => wp_X7_forget M1 (fun q M2 => r = q ∧ Rel M2 pl dr)) := by
  obtain ⟨P, h⟩ := h
  obtain ⟨n, q1, q2, q3, q4⟩ := h.2.2.2.2.2.2.2.2.1
  rintro M1 rfl
  rintro M2 rfl
  rw [mw_ne (by decide)]
  refine ⟨q2.trans q3.symm, R2_clue h (fun c c1 c2 c3 c4 => by rw [mw_ne (by omega), mw_ne c2]) (fun c c1 c2 c3 => by rw [mw_ne c2, mw_ne (by omega)]) (fun j hj => by rw [mw_k hj, mw_ne (by decide)]) ?_⟩
  exact ⟨0, by omega, by rw [mw_ne (by decide), mw_at]; rfl, by rw [mw_at]; rfl, fun i hi => by omega⟩
theorem op_sees (M : Mem) (pl dr : Nat) (a1 a2 : Int32) (h : Rel M pl dr) : wp_X6_sees pl dr a1 a2 M (fun r M1 => wp_X7_sees a1 a2 M1 (fun q M2 => r = q ∧ Rel M2 pl dr)) := by
  obtain ⟨P, h⟩ := h
  have hr : Rel M pl dr := ⟨P, h⟩
  have hv := h.1
  have hm := h.2.1
  obtain ⟨n, q1, q2, q3, q4⟩ := h.2.2.2.2.2.2.2.2.1
  have N1 : ∀ {q : Prop}, (1 : Int32) = 0 → q := fun y => absurd y (by decide)
  refine c_mov h.2.2.1 hv (fun k hk k1 k2 => ⟨N1, fun _ => c_within ?_⟩) (fun hno => ⟨fun _ => m_later hm hv (fun k hk k1 k2 => absurd ⟨k, hk, k1, k2⟩ hno) (fun _ => ⟨fun _ => ⟨rfl, hr⟩, fun y => absurd rfl y⟩), fun y => absurd rfl y⟩)
  have u : ∀ {K : Int32 → Mem → Prop} {X : Mem}, MP P X → K 1 X → wp_X7_isLater a1 X K := fun hX hK => m_later hX hv (fun _ _ _ _ => hK) (fun y => absurd ⟨k, hk, k1, k2⟩ y)
  by_cases hc : (-99 : Int32) ≤ a2 ∧ a2 ≤ 99
  · rw [if_pos hc]
    refine ⟨fun _ => ?_, N1⟩
    unfold wp_X1_add
    rw [q2]
    by_cases hn6 : n = 6
    · subst hn6
      refine ⟨fun y => absurd y (by decide), fun _ => ⟨fun _ => u hm ⟨N1, fun _ => m_in ?_⟩, fun y => absurd rfl y⟩⟩
      rw [if_pos hc, q3]
      exact ⟨fun _ => ⟨fun y => absurd rfl y, fun _ => ⟨rfl, hr⟩⟩, N1⟩
    · have i1 := ixn (k := n) (z := 6) (by omega) (by decide)
      rw [i1.2]
      refine ⟨fun _ => ⟨i1.1, ?_⟩, fun y => absurd ?_ y⟩
      · rintro M2 rfl
        rw [mw_ne (M := M) (b := 105) (by decide), q2, i1.2]
        refine ⟨i1.1, ?_⟩
        rintro M3 rfl
        rintro M4 rfl
        refine ⟨N1, fun _ => ?_⟩
        have e2 : mw (mw M 106 n a1) 107 n a2 105 2 = nI n := by rw [mw_ne (by decide), mw_ne (by decide)]; exact q2
        rw [show mw (mw M (105 + 1) n a1) (105 + 2) n a2 105 2 = nI n from e2, mw_at, nI_1]
        have hi : ∀ c, 130 ≤ c → mw (mw (mw M (105 + 1) n a1) (105 + 2) n a2) 105 2 (nI (n + 1)) c = M c := fun c hc => by rw [mw_ne (by omega), mw_ne (by omega), mw_ne (by omega)]
        have lo : ∀ c, c < 130 → c ≠ 105 → c ≠ 106 → c ≠ 107 → mw (mw (mw M (105 + 1) n a1) (105 + 2) n a2) 105 2 (nI (n + 1)) c = M c := fun c _ c1 c2 c3 => by rw [mw_ne c1, mw_ne c3, mw_ne c2]
        have l5 : mw (mw (mw M (105 + 1) n a1) (105 + 2) n a2) 105 2 (nI (n + 1)) 105 2 = nI (n + 1) := mw_at _ _ _ _
        have l6 : ∀ i, mw (mw (mw M (105 + 1) n a1) (105 + 2) n a2) 105 2 (nI (n + 1)) 106 i = if i = n then a1 else M 106 i := fun i => by
          rw [mw_ne (by decide), mw_ne (by decide)]
          by_cases z : i = n
          · rw [if_pos z, z]; exact mw_at _ _ _ _
          · rw [if_neg z]; exact mw_k z
        have l7 : ∀ i, mw (mw (mw M (105 + 1) n a1) (105 + 2) n a2) 105 2 (nI (n + 1)) 107 i = if i = n then a2 else M 107 i := fun i => by
          rw [mw_ne (by decide)]
          by_cases z : i = n
          · rw [if_pos z, z]; exact mw_at _ _ _ _
          · rw [if_neg z]
            have : mw (mw M (105 + 1) n a1) (105 + 2) n a2 107 i = mw M (105 + 1) n a1 107 i := mw_k z
            rw [this, mw_ne (by decide)]
        generalize mw (mw (mw M (105 + 1) n a1) (105 + 2) n a2) 105 2 (nI (n + 1)) = X at *
        refine u (MP_hi hm hi) ⟨N1, fun _ => m_in ?_⟩
        have j1 := ixn (k := 2 * n) (z := 12) (by omega) (by decide)
        have j2 := ixn (k := 2 * n + 1) (z := 12) (by omega) (by decide)
        rw [if_pos hc, hi 130 (by omega), q3, lmul, j1.2]
        refine ⟨fun _ => ⟨fun _ => ⟨j1.1, ?_⟩, fun y => ?_⟩, N1⟩
        · rintro M6 rfl
          rw [mw_ne (M := X) (b := 130) (by decide), hi 130 (by omega), q3, lmul, nI_1, j2.2]
          refine ⟨j2.1, ?_⟩
          rintro M7 rfl
          rintro M8 rfl
          have e9 : mw (mw X 137 (2 * n) a1) 137 (2 * n + 1) a2 130 9 = nI n := by rw [mw_ne (by decide), mw_ne (by decide), hi 130 (by omega)]; exact q3
          rw [e9, mw_at, nI_1]
          refine ⟨rfl, R2_clue h (fun c c1 c2 c3 c4 => by rw [mw_ne (by omega), mw_ne (by omega), mw_ne (by omega), lo c c1 c2 c3 c4]) (fun c c1 c2 c3 => by rw [mw_ne c2, mw_ne c3, mw_ne c3, hi c c1]) (fun j hj => by rw [mw_k hj, mw_ne (by decide), mw_ne (by decide), hi 130 (by omega)]) ?_⟩
          refine ⟨n + 1, by omega, by rw [mw_ne (by decide), mw_ne (by decide), mw_ne (by decide)]; exact l5, by rw [mw_at], fun i hi2 => ?_⟩
          rw [mw_ne (b := 106) (by decide), mw_ne (b := 106) (by decide), mw_ne (b := 106) (by decide), mw_ne (b := 107) (by decide), mw_ne (b := 107) (by decide), mw_ne (b := 107) (by decide), l6, l7, mw_ne (b := 137) (by decide)]
          by_cases z : i = n
          · subst z
            rw [if_pos rfl, if_pos rfl, mw_k (by omega), mw_at, mw_at]
            exact ⟨rfl, rfl⟩
          · rw [if_neg z, if_neg z, mw_k (by omega), mw_k (by omega), mw_k (by omega), mw_k (by omega), hi 137 (by omega)]
            exact q4 i (by omega)
        · rw [eqNl (by decide) (by omega)] at y
          have y : n = 6 := y
          omega
      · rw [ltNl (by decide) (by omega)]
        show n < 6
        omega
  · rw [if_neg hc]
    refine ⟨fun y => absurd rfl y, fun _ => u hm ⟨N1, fun _ => m_in ?_⟩⟩
    rw [if_neg hc]
    exact ⟨fun y => absurd rfl y, fun _ => ⟨rfl, hr⟩⟩
/-! the causes -/
def gTm (c : Nat) (x : Int32) : Int32 := if c = 0 then x else if 4 ≤ c then (if x < nI (c - 3) then 0 else 1) else (if x = nI c then 1 else 0)
theorem m_times {K : Int32 → Mem → Prop} {c : Nat} {x : Int32} (hc : c < 7) (h : K (gTm c x) M) : wp_X7_times (nI c) x M K := by
  unfold gTm at h
  refine ⟨fun z => ⟨fun z2 => ?_, fun z2 => ?_⟩, fun z => ?_⟩
  · rw [eq_z (by omega)] at z
    rw [lleN (by decide) (by omega)] at z2
    have z2 : 4 ≤ c := z2
    rw [if_neg z, if_pos z2] at h
    rw [show nI c - 3 = nI (c - 3) from pk_sub (show 3 ≤ c by omega)]
    exact ⟨fun y => by rw [if_pos y] at h; exact h, fun y => by rw [if_neg y] at h; exact h⟩
  · rw [eq_z (by omega)] at z
    rw [lleN (by decide) (by omega)] at z2
    have z2 : ¬ 4 ≤ c := z2
    rw [if_neg z, if_neg z2] at h
    exact ⟨fun y => by rw [if_neg y] at h; exact h, fun y => by rw [if_pos y] at h; exact h⟩
  · rw [eq_z (by omega)] at z
    rw [if_pos z] at h; exact h
theorem c_unitOf {K : Int32 → Mem → Prop} {c : Nat} (hc : c < 7) (h : K (nI (if 4 ≤ c then c - 3 else c)) M) : wp_X1_unitOf (nI c) M K := by
  refine ⟨fun z => ?_, fun z => ?_⟩
  · rw [lleN (by decide) (by omega)] at z
    have z : 4 ≤ c := z
    rw [if_pos z] at h
    rw [show nI c - 4 = nI (c - 4) from pk_sub z, nI_1, show c - 4 + 1 = c - 3 by omega]; exact h
  · rw [lleN (by decide) (by omega)] at z
    have z : ¬ 4 ≤ c := z
    rw [if_neg z] at h; exact h
theorem c_eff {K : Int32 → Mem → Prop} {c : Nat} {x y : Int32} (hc : c < 7) (h : K (gTm c x * y) M) : wp_X1_effect (nI c) x y M K := by
  unfold gTm at h
  have f0 : (K (0 * y) M) → wp_X1_effect_39 K y 0 M := fun hh => ⟨fun _ => by rw [Int32.zero_mul] at hh; exact hh, fun z => absurd rfl z⟩
  have f1 : (K (1 * y) M) → wp_X1_effect_39 K y 1 M := fun hh => ⟨fun z => absurd z (by decide), fun _ => by rw [Int32.one_mul] at hh; exact hh⟩
  refine ⟨fun z => ⟨fun z2 => c_unitOf hc ?_, fun z2 => ?_⟩, fun z => ?_⟩
  · rw [eq_z (by omega)] at z
    rw [lleN (by decide) (by omega)] at z2
    have z2 : 4 ≤ c := z2
    rw [if_neg z, if_pos z2] at h
    rw [if_pos z2]
    exact ⟨fun y => f0 (by rw [if_pos y] at h; exact h), fun y => f1 (by rw [if_neg y] at h; exact h)⟩
  · rw [eq_z (by omega)] at z
    rw [lleN (by decide) (by omega)] at z2
    have z2 : ¬ 4 ≤ c := z2
    rw [if_neg z, if_neg z2] at h
    exact ⟨fun y => f0 (by rw [if_neg y] at h; exact h), fun y => f1 (by rw [if_pos y] at h; exact h)⟩
  · rw [eq_z (by omega)] at z
    rw [if_pos z] at h; exact h
/-- what is seen fits -/
def gFit (n : Nat) (a b : Nat → Int32) (c : Nat) (y : Int32) : Prop := ∀ i, i < n → gTm c (a i) * y = b i
def gAny (n : Nat) (a b : Nat → Int32) (c : Nat) : Prop := ∃ s, s < 41 ∧ s ≠ 20 ∧ gFit n a b c (nI s - nI 20)
theorem yv_gt {s : Nat} (h : s ≤ 41) : (20 : Int32) < nI s - nI 20 ↔ s = 41 := by
  rw [Int32.lt_iff_toInt_lt, pk_sub_toInt (by omega) (by omega)]
  rw [show (20 : Int32).toInt = 20 from by decide]
  omega
theorem yv_z {s : Nat} (h : s ≤ 41) : nI s - nI 20 = 0 ↔ s = 20 := by
  rw [← Int32.toInt_inj, pk_sub_toInt (by omega) (by omega), Int32.toInt_zero]
  omega
theorem yv_1 {s : Nat} : nI s - nI 20 + 1 = nI (s + 1) - nI 20 := by
  rw [← nI_1 s, Int32.sub_eq_add_neg, Int32.sub_eq_add_neg, Int32.add_assoc, Int32.add_comm (-nI 20) 1, ← Int32.add_assoc]
section CA
variable {n : Nat} {a b : Nat → Int32}
theorem c_fitsL {K : Int32 → Mem → Prop} {c : Nat} {y : Int32} (hn : n ≤ 6) (e2 : M 105 2 = nI n) (ea : ∀ i, i < n → M 106 i = a i ∧ M 107 i = b i) (hc : c < 7) (h1 : gFit n a b c y → K 1 M) (h0 : ¬ gFit n a b c y → K 0 M) : ∀ (r x : Nat), x + r = n → (∀ i, i < x → gTm c (a i) * y = b i) → L_X1_fits_2 105 K (r + 1) (nI c) y (nI x) M := by
  intro r
  induction r with
  | zero =>
    intro x hx hf
    unfold L_X1_fits_2
    rw [e2]
    refine ⟨fun _ => h1 (fun i hi => hf i (by omega)), fun z => absurd ?_ z⟩
    rw [le_nI (by omega) (by omega)]; omega
  | succ r ih =>
    intro x hx hf
    unfold L_X1_fits_2
    rw [e2]
    have i1 := ixn (k := x) (z := 6) (by omega) (by decide)
    refine ⟨fun z => ?_, fun _ => ⟨i1.1, ?_⟩⟩
    · rw [le_nI (by omega) (by omega)] at z; omega
    rw [i1.2, show M (105 + 1) x = a x from (ea x (by omega)).1]
    refine c_eff hc ⟨i1.1, ?_⟩
    rw [show M (105 + 2) x = b x from (ea x (by omega)).2, nI_1]
    refine ⟨fun z => ih (x + 1) (by omega) (fun i hi => ?_), fun z => h0 (fun y => z (y x (by omega)))⟩
    rcases Nat.lt_or_ge i x with y | y
    · exact hf i y
    · rw [show i = x by omega]; exact z
theorem c_fits {K : Int32 → Mem → Prop} {c : Nat} {y : Int32} (hn : n ≤ 6) (e2 : M 105 2 = nI n) (ea : ∀ i, i < n → M 106 i = a i ∧ M 107 i = b i) (hc : c < 7) (h1 : gFit n a b c y → K 1 M) (h0 : ¬ gFit n a b c y → K 0 M) : wp_X1_fits 105 (nI c) y M K :=
  ⟨n + 1, c_fitsL hn e2 ea hc h1 h0 n 0 (by omega) (fun i hi => by omega)⟩
theorem c_anyL {K : Int32 → Mem → Prop} {c : Nat} (hn : n ≤ 6) (e2 : M 105 2 = nI n) (ea : ∀ i, i < n → M 106 i = a i ∧ M 107 i = b i) (hc : c < 7) (h1 : gAny n a b c → K 1 M) (h0 : ¬ gAny n a b c → K 0 M) : ∀ (r s : Nat), s + r = 41 → (∀ i, i < s → i ≠ 20 → ¬ gFit n a b c (nI i - nI 20)) → L_X1_fitsAny_3 105 K (r + 1) (nI c) (nI s - nI 20) M := by
  intro r
  induction r with
  | zero =>
    intro s hs hf
    exact ⟨fun _ => h0 (fun ⟨i, i1, i2, i3⟩ => hf i (by omega) i2 i3), fun z => absurd ((yv_gt (by omega)).mpr (by omega)) z⟩
  | succ r ih =>
    intro s hs hf
    have step : (s ≠ 20 → ¬ gFit n a b c (nI s - nI 20)) → L_X1_fitsAny_3 105 K (r + 1) (nI c) (nI s - nI 20 + 1) M := by
      intro hh
      rw [yv_1]
      refine ih (s + 1) (by omega) (fun i hi i2 => ?_)
      rcases Nat.lt_or_ge i s with y | y
      · exact hf i y i2
      · have : i = s := by omega
        subst this
        exact hh i2
    refine ⟨fun z => ?_, fun _ => ⟨fun z => step (fun y => absurd ((yv_z (by omega)).mp z) y), fun z => c_fits hn e2 ea hc (fun y => ⟨fun q => absurd q (by decide), fun _ => h1 ⟨s, by omega, fun q => z ((yv_z (by omega)).mpr q), y⟩⟩) (fun y => ⟨fun _ => step (fun _ => y), fun q => absurd rfl q⟩)⟩⟩
    have := (yv_gt (by omega)).mp z
    omega
theorem c_any {K : Int32 → Mem → Prop} {c : Nat} (hn : n ≤ 6) (e2 : M 105 2 = nI n) (ea : ∀ i, i < n → M 106 i = a i ∧ M 107 i = b i) (hc : c < 7) (h1 : gAny n a b c → K 1 M) (h0 : ¬ gAny n a b c → K 0 M) : wp_X1_fitsAny 105 (nI c) M K := by
  refine ⟨42, ?_⟩
  have := c_anyL hn e2 ea hc h1 h0 41 0 (by omega) (fun i hi => by omega)
  rw [show nI 0 - nI 20 = (-20 : Int32) from by decide] at this
  exact this
theorem m_soL {K : Int32 → Mem → Prop} {X3 : Int32 → Int32 → Mem → Prop} {c : Nat} {y : Int32} (hn : n ≤ 6) (e2 : M 130 9 = nI n) (ea : ∀ i, i < n → M 137 (2 * i) = a i ∧ M 137 (2 * i + 1) = b i) (hc : c < 7) (h1 : gFit n a b c y → K 1 M) (h0 : ¬ gFit n a b c y → X3 (nI c) (y + 1) M) : ∀ (r x : Nat) (v : Int32), x + r = n → (v = 1 ∧ (∀ i, i < x → gTm c (a i) * y = b i) ∨ v = 0 ∧ ¬ gFit n a b c y) → L_X7_isSo_22 X3 K (r + 1) (nI c) y v (nI x) M := by
  intro r
  have fin : ∀ v, (v = 1 ∧ gFit n a b c y ∨ v = 0 ∧ ¬ gFit n a b c y) → wp_X7_isSo_76 X3 K (nI c) y v M := by
    intro v hv
    rcases hv with ⟨rfl, z⟩ | ⟨rfl, z⟩
    · exact ⟨fun q => absurd q (by decide), fun _ => h1 z⟩
    · exact ⟨fun _ => h0 z, fun q => absurd rfl q⟩
  induction r with
  | zero =>
    intro x v hx hf
    unfold L_X7_isSo_22
    rw [e2]
    refine ⟨fun _ => fin v ?_, fun z => absurd ?_ z⟩
    · rcases hf with ⟨z1, z2⟩ | z
      · exact Or.inl ⟨z1, fun i hi => z2 i (by omega)⟩
      · exact Or.inr z
    · rw [le_nI (by omega) (by omega)]; omega
  | succ r ih =>
    intro x v hx hf
    unfold L_X7_isSo_22
    rw [e2]
    have j1 := ixn (k := 2 * x) (z := 12) (by omega) (by decide)
    have j2 := ixn (k := 2 * x + 1) (z := 12) (by omega) (by decide)
    refine ⟨fun z => ?_, fun _ => ⟨fun z => ?_, fun z => ?_⟩⟩
    · rw [le_nI (by omega) (by omega)] at z; omega
    · rcases hf with ⟨z1, z2⟩ | ⟨z1, z2⟩
      · exact absurd (z1.symm.trans z) (by decide)
      · exact fin v (Or.inr ⟨z, z2⟩)
    · rcases hf with ⟨z1, z2⟩ | ⟨z1, z2⟩
      · rw [lmul, nI_1, j1.2, j2.2, (ea x (by omega)).1]
        refine ⟨j1.1, m_times hc ⟨j2.1, ?_⟩⟩
        rw [(ea x (by omega)).2]
        refine ⟨fun q => ?_, fun q => ?_⟩
        · show L_X7_isSo_22 X3 K (r + 1) (nI c) y 0 (nI x + 1) M
          rw [nI_1]
          exact ih (x + 1) 0 (by omega) (Or.inr ⟨rfl, fun z => q (z x (by omega))⟩)
        · show L_X7_isSo_22 X3 K (r + 1) (nI c) y 1 (nI x + 1) M
          rw [nI_1]
          refine ih (x + 1) 1 (by omega) (Or.inl ⟨rfl, fun i hi => ?_⟩)
          rcases Nat.lt_or_ge i x with y | y
          · exact z2 i y
          · rw [show i = x by omega]; exact q
      · exact absurd z1 z
theorem m_so0 {K : Int32 → Mem → Prop} {X3 : Int32 → Int32 → Mem → Prop} {c : Nat} {y : Int32} (hn : n ≤ 6) (e2 : M 130 9 = nI n) (h0 : X3 (nI c) (y + 1) M) : wp_X7_isSo_18 X3 K (nI c) y 0 M :=
  ⟨1, fun _ => ⟨fun _ => h0, fun q => absurd rfl q⟩, fun _ => ⟨fun _ => ⟨fun _ => h0, fun q => absurd rfl q⟩, fun q => absurd rfl q⟩⟩
theorem m_isSoL {K : Int32 → Mem → Prop} {c : Nat} (hn : n ≤ 6) (e2 : M 130 9 = nI n) (ea : ∀ i, i < n → M 137 (2 * i) = a i ∧ M 137 (2 * i + 1) = b i) (hc : c < 7) (h1 : gAny n a b c → K 1 M) (h0 : ¬ gAny n a b c → K 0 M) : ∀ (r s : Nat), s + r = 41 → (∀ i, i < s → i ≠ 20 → ¬ gFit n a b c (nI i - nI 20)) → L_X7_isSo_3 K (r + 1) (nI c) (nI s - nI 20) M := by
  intro r
  induction r with
  | zero =>
    intro s hs hf
    exact ⟨fun _ => h0 (fun ⟨i, i1, i2, i3⟩ => hf i (by omega) i2 i3), fun z => absurd ((yv_gt (by omega)).mpr (by omega)) z⟩
  | succ r ih =>
    intro s hs hf
    have step : (s ≠ 20 → ¬ gFit n a b c (nI s - nI 20)) → L_X7_isSo_3 K (r + 1) (nI c) (nI s - nI 20 + 1) M := by
      intro hh
      rw [yv_1]
      refine ih (s + 1) (by omega) (fun i hi i2 => ?_)
      rcases Nat.lt_or_ge i s with y | y
      · exact hf i y i2
      · have : i = s := by omega
        subst this
        exact hh i2
    refine ⟨fun z => ?_, fun _ => ⟨fun z => m_so0 hn e2 (step (fun y => absurd ((yv_z (by omega)).mp z) y)), fun z => ?_⟩⟩
    · have := (yv_gt (by omega)).mp z
      omega
    · exact ⟨n + 1, m_soL hn e2 ea hc (fun y => h1 ⟨s, by omega, fun q => z ((yv_z (by omega)).mpr q), y⟩) (fun y => step (fun _ => y)) n 0 1 (by omega) (Or.inl ⟨rfl, fun i hi => by omega⟩)⟩
theorem m_isSo {K : Int32 → Mem → Prop} {c : Nat} (hn : n ≤ 6) (e2 : M 130 9 = nI n) (ea : ∀ i, i < n → M 137 (2 * i) = a i ∧ M 137 (2 * i + 1) = b i) (hc : c < 7) (h1 : gAny n a b c → K 1 M) (h0 : ¬ gAny n a b c → K 0 M) : wp_X7_isSo (nI c) M K := by
  refine ⟨42, ?_⟩
  have := m_isSoL hn e2 ea hc h1 h0 41 0 (by omega) (fun i hi => by omega)
  rw [show nI 0 - nI 20 = (-20 : Int32) from by decide] at this
  exact this
def gIs (P : PlanT) (c : Nat) : Prop := (if 4 ≤ c then c - 3 else c) < Pu P
theorem m_isCause {K : Int32 → Mem → Prop} {c : Nat} (hv : PV P) (hm : MP P M) (hc : c < 7) (h1 : gIs P c → K 1 M) (h0 : ¬ gIs P c → K 0 M) : wp_X7_isCause (nI c) M K := by
  have v1 := hv.1
  have v2 := hv.2.1
  have e : M 130 10 - 1 = nI (Pu P - 1) := by rw [hm.1]; exact pk_sub v1
  unfold gIs at h1 h0
  refine ⟨fun z => h1 ?_, fun z => m_in ?_⟩
  · rw [eq_z (by omega)] at z; rw [if_neg (by omega)]; omega
  rw [eq_z (by omega)] at z
  rw [e]
  by_cases z1 : (1 : Int32) ≤ nI c ∧ nI c ≤ nI (Pu P - 1)
  · rw [if_pos z1]
    have z2 := z1.2
    rw [le_nI (by omega) (by omega)] at z2
    refine ⟨fun _ => h1 ?_, fun y => absurd y (by decide)⟩
    rw [if_neg (by omega)]; omega
  · rw [if_neg z1]
    have z2 : Pu P ≤ c := by
      rcases Nat.lt_or_ge c (Pu P) with y | y
      · exact absurd ⟨(lleN (n := 1) (by decide) (by omega)).mpr (show 1 ≤ c by omega), by rw [le_nI (by omega) (by omega)]; omega⟩ z1
      · exact y
    refine ⟨fun y => absurd rfl y, fun _ => m_in ?_⟩
    by_cases z3 : 4 ≤ c
    · rw [show nI c - 3 = nI (c - 3) from pk_sub (show 3 ≤ c by omega)]
      rw [if_pos z3] at h1 h0
      by_cases z4 : c - 3 < Pu P
      · rw [if_pos ⟨(lleN (n := 1) (by decide) (by omega)).mpr (show 1 ≤ c - 3 by omega), by rw [le_nI (by omega) (by omega)]; omega⟩]
        exact ⟨fun y => absurd y (by decide), fun _ => h1 z4⟩
      · rw [if_neg (fun y => by have := y.2; rw [le_nI (by omega) (by omega)] at this; omega)]
        exact ⟨fun _ => h0 z4, fun y => absurd rfl y⟩
    · rw [if_neg z3] at h1 h0
      have : c = 1 ∨ c = 2 ∨ c = 3 := by omega
      rw [if_neg (fun y => by have := y.1; rcases ‹c = 1 ∨ c = 2 ∨ c = 3› with rfl | rfl | rfl <;> exact absurd this (by decide))]
      exact ⟨fun _ => h0 (by omega), fun y => absurd rfl y⟩
/-- the set of the causes -/
def gCs (P : PlanT) (n : Nat) (a b : Nat → Int32) (c : Nat) : Prop := gIs P c ∧ gAny n a b c
noncomputable def gSet (P : PlanT) (n : Nat) (a b : Nat → Int32) : Nat → Nat
  | 0 => 0
  | c + 1 => @ite Nat (gCs P n a b c) (Classical.propDecidable _) (gSet P n a b c + 2 ^ c) (gSet P n a b c)
theorem gSet_lt : ∀ c, gSet P n a b c < 2 ^ c
  | 0 => by show 0 < 1; omega
  | c + 1 => by
    have := gSet_lt c
    have e : (2 : Nat) ^ (c + 1) = 2 * 2 ^ c := by rw [Nat.pow_succ, Nat.mul_comm]
    rw [gSet]
    split <;> omega
theorem gSet_y {c : Nat} (h : gCs P n a b c) : gSet P n a b (c + 1) = gSet P n a b c + 2 ^ c := by
  rw [gSet]
  exact if_pos h
theorem gSet_n {c : Nat} (h : ¬ gCs P n a b c) : gSet P n a b (c + 1) = gSet P n a b c := by
  rw [gSet]
  exact if_neg h
theorem c_causes {K : Int32 → Mem → Prop} (hv : PV P) (hn : n ≤ 6) (e2 : M 105 2 = nI n) (ea : ∀ i, i < n → M 106 i = a i ∧ M 107 i = b i) (h : K (nI (gSet P n a b 7)) M) : wp_X1_causes 105 (nI (Pu P)) M K := by
  have v2 := hv.2.1
  have go : ∀ (r x : Nat), x + r = 7 → L_X1_causes_4 105 K (r + 1) (nI (Pu P)) (nI (gSet P n a b x)) (nI x) M := by
    intro r
    induction r with
    | zero =>
      intro x hx
      have : x = 7 := by omega
      subst this
      exact ⟨fun _ => h, fun c => absurd (Int32.le_refl _) c⟩
    | succ r ih =>
      intro x hx
      have hx7 : x < 7 := by omega
      refine ⟨fun c => ?_, fun _ => c_unitOf hx7 ⟨fun y => ?_, fun y => ?_⟩⟩
      · rw [lleN (by decide) (by omega)] at c
        have : 7 ≤ x := c
        omega
      · rw [le_nI (by omega) (by split <;> omega)] at y
        show L_X1_causes_4 105 K (r + 1) (nI (Pu P)) (nI (gSet P n a b x)) (nI x + 1) M
        rw [nI_1]
        have := ih (x + 1) (by omega)
        rw [gSet_n (fun z => by have := z.1; unfold gIs at this; omega)] at this
        exact this
      · rw [le_nI (by omega) (by split <;> omega)] at y
        refine c_any hn e2 ea hx7 (fun z => ⟨fun q => absurd q (by decide), fun _ => ?_⟩) (fun z => ⟨fun _ => ?_, fun q => absurd rfl q⟩)
        · show L_X1_causes_4 105 K (r + 1) (nI (Pu P)) (nI (gSet P n a b x) ||| ((1 : Int32) <<< (nI x &&& 31))) (nI x + 1) M
          rw [nI_1, bit_o x hx7 _ (gSet_lt x)]
          have := ih (x + 1) (by omega)
          rw [gSet_y ⟨by unfold gIs; omega, z⟩] at this
          exact this
        · show L_X1_causes_4 105 K (r + 1) (nI (Pu P)) (nI (gSet P n a b x)) (nI x + 1) M
          rw [nI_1]
          have := ih (x + 1) (by omega)
          rw [gSet_n (fun q => z q.2)] at this
          exact this
  exact ⟨8, go 7 0 rfl⟩
theorem m_causes {K : Int32 → Mem → Prop} (hv : PV P) (hm : MP P M) (hn : n ≤ 6) (e2 : M 130 9 = nI n) (ea : ∀ i, i < n → M 137 (2 * i) = a i ∧ M 137 (2 * i + 1) = b i) (h : K (nI (gSet P n a b 7)) M) : wp_X7_causes M K := by
  have go : ∀ (r x : Nat), x + r = 7 → L_X7_causes_4 K (r + 1) (nI (gSet P n a b x)) (nI x) M := by
    intro r
    induction r with
    | zero =>
      intro x hx
      have : x = 7 := by omega
      subst this
      exact ⟨fun _ => h, fun c => absurd (Int32.le_refl _) c⟩
    | succ r ih =>
      intro x hx
      have hx7 : x < 7 := by omega
      have no : ¬ gCs P n a b x → L_X7_causes_4 K (r + 1) (nI (gSet P n a b x) ||| 0) (nI x + 1) M := by
        intro z
        rw [nI_1, Int32.or_zero]
        have := ih (x + 1) (by omega)
        rw [gSet_n z] at this
        exact this
      refine ⟨fun c => ?_, fun _ => m_isCause hv hm hx7 (fun y => ⟨fun q => absurd q (by decide), fun _ => m_isSo hn e2 ea hx7 (fun z => ⟨fun q => absurd q (by decide), fun _ => ?_⟩) (fun z => ⟨fun _ => no (fun q => z q.2), fun q => absurd rfl q⟩)⟩) (fun y => ⟨fun _ => no (fun q => y q.1), fun q => absurd rfl q⟩)⟩
      · rw [lleN (by decide) (by omega)] at c
        have : 7 ≤ x := c
        omega
      · show L_X7_causes_4 K (r + 1) (nI (gSet P n a b x) ||| ((1 : Int32) <<< (nI x &&& 31))) (nI x + 1) M
        rw [nI_1, bit_o x hx7 _ (gSet_lt x)]
        have := ih (x + 1) (by omega)
        rw [gSet_y ⟨y, z⟩] at this
        exact this
  exact ⟨8, go 7 0 rfl⟩
end CA
theorem op_which (M : Mem) (pl dr : Nat) (h : Rel M pl dr) : wp_X6_which pl dr M (fun r M1 => wp_X7_which M1 (fun q M2 => r = q ∧ Rel M2 pl dr)) := by
  obtain ⟨P, h⟩ := h
  have hr : Rel M pl dr := ⟨P, h⟩
  have hv := h.1
  have hm := h.2.1
  obtain ⟨n, q1, q2, q3, q4⟩ := h.2.2.2.2.2.2.2.2.1
  unfold wp_X6_which
  rw [h.2.2.1.1]
  refine c_causes (a := M 106) (b := M 107) hv q1 q2 (fun i hi => ⟨rfl, rfl⟩) ?_
  exact m_causes (a := M 106) (b := M 107) hv hm q1 q3 (fun i hi => ⟨(q4 i hi).1.symm, (q4 i hi).2.symm⟩) ⟨rfl, hr⟩
/-! the unit to look at -/
def gSil (m : Nat) (x : Int32) : Nat → Nat
  | 0 => 0
  | c + 1 => gSil m x c + (if m / 2 ^ c % 2 = 1 then (if gTm c x = 0 then 1 else 0) else 0)
def gNon (m : Nat) (x : Int32) : Nat → Nat
  | 0 => 0
  | c + 1 => gNon m x c + (if m / 2 ^ c % 2 = 1 then (if gTm c x = 0 then 0 else 1) else 0)
theorem gSN (m : Nat) (x : Int32) : ∀ c, gSil m x c + gNon m x c = pcN m c
  | 0 => rfl
  | c + 1 => by
    have := gSN m x c
    show (gSil m x c + _) + (gNon m x c + _) = pcN m c + _
    split
    · split <;> omega
    · omega
theorem pcN_le (m : Nat) : ∀ c, pcN m c ≤ c
  | 0 => Nat.le_refl _
  | c + 1 => by
    have := pcN_le m c
    show pcN m c + _ ≤ c + 1
    split <;> omega
def gMax (m : Nat) (x : Int32) : Nat := if gSil m x 7 ≤ gNon m x 7 then gNon m x 7 else gSil m x 7
def gBst (m : Nat) : Nat → Nat → Int32 → Nat → Int32
  | 0, _, z, _ => z
  | n + 1, u, z, b => if b ≤ gMax m (nI u) then gBst m n (u + 1) z b else gBst m n (u + 1) (nI u) (gMax m (nI u))
theorem c_silent {K : Int32 → Mem → Prop} {m : Nat} {x : Int32} (hm : m < 128) (h : K (nI (gSil m x 7)) M) : wp_X1_silentAt (nI m) x M K := by
  have go : ∀ (r c : Nat), c + r = 7 → L_X1_silentAt_4 K (r + 1) (nI m) x (nI (gSil m x c)) (nI c) M := by
    intro r
    induction r with
    | zero =>
      intro c hc
      have : c = 7 := by omega
      subst this
      exact ⟨fun _ => h, fun c => absurd (Int32.le_refl _) c⟩
    | succ r ih =>
      intro c hc
      have hc7 : c < 7 := by omega
      have step : ∀ v, v = gSil m x (c + 1) → L_X1_silentAt_4 K (r + 1) (nI m) x (nI v) (nI c + 1) M := by
        rintro v rfl
        rw [nI_1]
        exact ih (c + 1) (by omega)
      refine ⟨fun y => ?_, fun _ => ⟨fun y => step _ ?_, fun y => c_eff hc7 ?_⟩⟩
      · rw [lleN (by decide) (by omega)] at y
        have : 7 ≤ c := y
        omega
      · rw [bit_b m hm c hc7] at y
        show _ = gSil m x c + _
        rw [if_neg y]
        rfl
      · rw [bit_b m hm c hc7] at y
        have y : m / 2 ^ c % 2 = 1 := Decidable.not_not.mp y
        rw [Int32.mul_one]
        refine ⟨fun z => step _ ?_, fun z => ?_⟩
        · show _ = gSil m x c + _
          rw [if_pos y, if_neg z]
          rfl
        · show L_X1_silentAt_4 K (r + 1) (nI m) x (nI (gSil m x c) + 1) (nI c + 1) M
          rw [nI_1 (gSil m x c)]
          refine step _ ?_
          show _ = gSil m x c + _
          rw [if_pos y, if_pos z]
  exact ⟨8, go 7 0 rfl⟩
theorem c_bestL {K : Int32 → Mem → Prop} {m : Nat} (hv : PV P) (hm : m < 128) (hp : ¬ pcN m 7 ≤ 1) : ∀ (r u : Nat) (z : Int32) (b : Nat), u + r = Pu P → b ≤ 100 → K (gBst m r u z b) M → L_X1_bestUnit_22 105 K (r + 1) (nI (Pu P)) (nI m) (nI (pcN m 7)) z (nI b) (nI u) M := by
  have v2 := hv.2.1
  have hp7 := pcN_le m 7
  intro r
  induction r with
  | zero =>
    intro u z b hu hb h
    exact ⟨fun _ => h, fun c => absurd (by rw [le_nI (by omega) (by omega)]; omega) c⟩
  | succ r ih =>
    intro u z b hu hb h
    have hs := gSN m (nI u) 7
    refine ⟨fun c => ?_, fun _ => ⟨fun c => ?_, fun _ => c_silent hm ?_⟩⟩
    · rw [le_nI (by omega) (by omega)] at c; omega
    · rw [leNl (by decide) (by omega)] at c
      exact absurd c hp
    have e1 : (if nI (gSil m (nI u) 7) < nI (pcN m 7) - nI (gSil m (nI u) 7) then nI (pcN m 7) - nI (gSil m (nI u) 7) else nI (gSil m (nI u) 7)) = nI (gMax m (nI u)) := by
      rw [pk_sub (show gSil m (nI u) 7 ≤ pcN m 7 by omega), show pcN m 7 - gSil m (nI u) 7 = gNon m (nI u) 7 by omega]
      unfold gMax
      have hl : nI (gSil m (nI u) 7) < nI (gNon m (nI u) 7) ↔ gSil m (nI u) 7 < gNon m (nI u) 7 := lt_nI (by omega) (by omega)
      by_cases y : gSil m (nI u) 7 < gNon m (nI u) 7
      · rw [if_pos (hl.mpr y), if_pos (by omega)]
      · rw [if_neg (fun q => y (hl.mp q))]
        by_cases y2 : gSil m (nI u) 7 ≤ gNon m (nI u) 7
        · rw [if_pos y2]; congr 1; omega
        · rw [if_neg y2]
    have hmx : gMax m (nI u) ≤ 7 := by unfold gMax; split <;> omega
    rw [e1]
    unfold gBst at h
    refine ⟨fun c => ?_, fun c => ?_⟩
    · rw [le_nI (by omega) (by omega)] at c
      rw [if_pos c] at h
      show L_X1_bestUnit_22 105 K (r + 1) (nI (Pu P)) (nI m) (nI (pcN m 7)) z (nI b) (nI u + 1) M
      rw [nI_1]
      exact ih (u + 1) z b (by omega) hb h
    · rw [le_nI (by omega) (by omega)] at c
      rw [if_neg c] at h
      show L_X1_bestUnit_22 105 K (r + 1) (nI (Pu P)) (nI m) (nI (pcN m 7)) (nI u) (nI (gMax m (nI u))) (nI u + 1) M
      rw [nI_1]
      exact ih (u + 1) (nI u) _ (by omega) (by omega) h
theorem m_look43 {K : Int32 → Mem → Prop} {X25 : Int32 → Int32 → Int32 → Int32 → Mem → Prop} {m b : Nat} {z x : Int32} (hm : m < 128) (hb : b ≤ 100) (h : if b ≤ gMax m x then X25 (nI m) z (nI b) (x + 1) M else X25 (nI m) x (nI (gMax m x)) (x + 1) M) : ∀ (r c : Nat), c + r = 7 → L_X7_look_43 X25 K (r + 1) (nI m) z (nI b) x (nI (gSil m x c)) (nI (gNon m x c)) (nI c) M := by
  intro r
  have hs := gSN m x 7
  have hp7 := pcN_le m 7
  have hmx : gMax m x ≤ 7 := by unfold gMax; split <;> omega
  induction r with
  | zero =>
    intro c hc
    have : c = 7 := by omega
    subst this
    have fin : wp_X7_look_120 X25 K (nI m) z (nI b) x (nI (gMax m x)) M := by
      have hl : nI b ≤ nI (gMax m x) ↔ b ≤ gMax m x := le_nI (by omega) (by omega)
      refine ⟨fun y => ⟨fun _ => ?_, fun y2 => absurd y y2⟩, fun y => ⟨fun y2 => absurd y2 y, fun _ => ?_⟩⟩
      · rw [hl] at y
        rw [if_pos y] at h; exact h
      · rw [hl] at y
        rw [if_neg y] at h; exact h
    unfold gMax at fin
    refine ⟨fun _ => ⟨fun y => ?_, fun y => ?_⟩, fun c => absurd (Int32.le_refl _) c⟩
    · rw [le_nI (by omega) (by omega)] at y
      rw [if_pos y] at fin; exact fin
    · rw [le_nI (by omega) (by omega)] at y
      rw [if_neg y] at fin; exact fin
  | succ r ih =>
    intro c hc
    have hc7 : c < 7 := by omega
    have step : ∀ v v', v = gSil m x (c + 1) → v' = gNon m x (c + 1) → L_X7_look_43 X25 K (r + 1) (nI m) z (nI b) x (nI v) (nI v') (nI c + 1) M := by
      rintro v v' rfl rfl
      rw [nI_1]
      exact ih (c + 1) (by omega)
    refine ⟨fun y => ?_, fun _ => ⟨fun y => step _ _ ?_ ?_, fun y => m_times hc7 ⟨fun y2 => m_times hc7 ⟨fun _ => ?_, fun y3 => absurd y3 y2⟩, fun y2 => m_times hc7 ⟨fun y3 => absurd y2 y3, fun _ => ?_⟩⟩⟩⟩
    · rw [lleN (by decide) (by omega)] at y
      have : 7 ≤ c := y
      omega
    · rw [bit_a m hm c hc7] at y
      show _ = gSil m x c + _
      rw [if_neg y]; rfl
    · rw [bit_a m hm c hc7] at y
      show _ = gNon m x c + _
      rw [if_neg y]; rfl
    · rw [bit_a m hm c hc7] at y
      show L_X7_look_43 X25 K (r + 1) (nI m) z (nI b) x (nI (gSil m x c) + 0) (nI (gNon m x c) + 1) (nI c + 1) M
      rw [Int32.add_zero, nI_1 (gNon m x c)]
      refine step _ _ ?_ ?_
      · show _ = gSil m x c + _
        rw [if_pos y, if_neg y2]; rfl
      · show _ = gNon m x c + _
        rw [if_pos y, if_neg y2]
    · rw [bit_a m hm c hc7] at y
      show L_X7_look_43 X25 K (r + 1) (nI m) z (nI b) x (nI (gSil m x c) + 1) (nI (gNon m x c) + 0) (nI c + 1) M
      rw [Int32.add_zero, nI_1 (gSil m x c)]
      refine step _ _ ?_ ?_
      · show _ = gSil m x c + _
        rw [if_pos y, if_pos y2]
      · show _ = gNon m x c + _
        rw [if_pos y, if_pos y2]; rfl
theorem m_lookL {K : Int32 → Mem → Prop} {m : Nat} (hv : PV P) (hM : MP P M) (hm : m < 128) : ∀ (r u : Nat) (z : Int32) (b : Nat), u + r = Pu P → b ≤ 100 → K (gBst m r u z b) M → L_X7_look_25 K (r + 1) (nI m) z (nI b) (nI u) M := by
  have v2 := hv.2.1
  intro r
  induction r with
  | zero =>
    intro u z b hu hb h
    unfold L_X7_look_25
    rw [hM.1]
    exact ⟨fun _ => h, fun c => absurd (by rw [le_nI (by omega) (by omega)]; omega) c⟩
  | succ r ih =>
    intro u z b hu hb h
    unfold L_X7_look_25
    rw [hM.1]
    refine ⟨fun c => ?_, fun _ => ⟨8, ?_⟩⟩
    · rw [le_nI (by omega) (by omega)] at c; omega
    have hp7 := pcN_le m 7
    have hs := gSN m (nI u) 7
    have hmx : gMax m (nI u) ≤ 7 := by unfold gMax; split <;> omega
    refine m_look43 hm hb ?_ 7 0 rfl
    unfold gBst at h
    split
    · rename_i c
      rw [if_pos c] at h
      rw [nI_1]
      exact ih (u + 1) z b (by omega) hb h
    · rename_i c
      rw [if_neg c] at h
      rw [nI_1]
      exact ih (u + 1) (nI u) _ (by omega) (by omega) h
theorem op_look (M : Mem) (pl dr : Nat) (h : Rel M pl dr) : wp_X6_look pl dr M (fun r M1 => wp_X7_look M1 (fun q M2 => r = q ∧ Rel M2 pl dr)) := by
  obtain ⟨P, h⟩ := h
  have hr : Rel M pl dr := ⟨P, h⟩
  have hv := h.1
  have hm := h.2.1
  have v1 := hv.1
  have v2 := hv.2.1
  obtain ⟨n, q1, q2, q3, q4⟩ := h.2.2.2.2.2.2.2.2.1
  unfold wp_X6_look
  rw [h.2.2.1.1]
  refine c_causes (a := M 106) (b := M 107) hv q1 q2 (fun i hi => ⟨rfl, rfl⟩) ?_
  have mc : ∀ {K : Int32 → Mem → Prop}, K (nI (gSet P n (M 106) (M 107) 7)) M → wp_X7_causes M K := fun hK => m_causes (a := M 106) (b := M 107) hv hm q1 q3 (fun i hi => ⟨(q4 i hi).1.symm, (q4 i hi).2.symm⟩) hK
  have hlt : gSet P n (M 106) (M 107) 7 < 128 := gSet_lt 7
  generalize gSet P n (M 106) (M 107) 7 = m at *
  show (fun r2 M2 => ∃ j3 : Nat, L_X1_bestUnit_22 105 _ j3 (nI (Pu P)) (nI m) r2 (-9 : Int32) (8 : Int32) (1 : Int32) M2) (bcF (nI m)) M
  rw [bc_eq m hlt]
  by_cases hp : pcN m 7 ≤ 1
  · have fin : wp_X7_look M (fun q M2 => -9 = q ∧ Rel M2 pl dr) := by
      refine mc ⟨fun y => absurd ((bit_c m hlt).mpr hp) y, fun _ => ⟨rfl, hr⟩⟩
    refine ⟨1, fun _ => fin, fun c => ⟨fun _ => fin, fun c2 => absurd ((leNl (n := 1) (by decide) (by omega)).mpr hp) c2⟩⟩
  · refine ⟨Pu P - 1 + 1, c_bestL hv hlt hp (Pu P - 1) 1 (-9) 8 (by omega) (by omega) ?_⟩
    refine mc ⟨fun _ => ⟨Pu P - 1 + 1, m_lookL hv hm hlt (Pu P - 1) 1 (-9) 8 (by omega) (by omega) ⟨rfl, hr⟩⟩, fun y => absurd ((bit_c m hlt).mp y) hp⟩
end O6
