/-! numbers -/
theorem ix_nI {k : Nat} (h : k < 2 ^ 31) : ix (nI k) = k := nI_clamp h
theorem ladd (n k : Nat) : (OfNat.ofNat n : Int32) + nI k = nI (n + k) := nI_add n k
theorem addl (n k : Nat) : nI k + (OfNat.ofNat n : Int32) = nI (k + n) := nI_add k n
theorem lmul (n k : Nat) : (OfNat.ofNat n : Int32) * nI k = nI (n * k) := pk_mul n k
theorem mull (n k : Nat) : nI k * (OfNat.ofNat n : Int32) = nI (k * n) := pk_mul k n
theorem lsub {n k : Nat} (h : n ≤ k) : nI k - (OfNat.ofNat n : Int32) = nI (k - n) := pk_sub h
theorem l_eq (n : Nat) : (OfNat.ofNat n : Int32) = nI n := rfl
theorem vin {k n : Nat} (h : k < n) (hn : n < 2 ^ 31) : vp_in (nI k) n := vp_in_nI h hn
theorem rem_l {a : Nat} (d : Nat) (ha : a < 2 ^ 31) (h0 : 0 < d) (hd : d < 2 ^ 31) : nI a - nI a / nI d * nI d = nI (a % d) := pk_rem ha h0 hd
theorem rem32 {a : Nat} (ha : a < 2 ^ 31) : nI a - nI a / (32 : Int32) * (32 : Int32) = nI (a % 32) := pk_rem ha (by decide) (by decide)
theorem rem8 {a : Nat} (ha : a < 2 ^ 31) : nI a - nI a / (8 : Int32) * (8 : Int32) = nI (a % 8) := pk_rem ha (by decide) (by decide)
theorem le_nI {a b : Nat} (ha : a < 2 ^ 31) (hb : b < 2 ^ 31) : nI a ≤ nI b ↔ a ≤ b := nI_leI ha hb
theorem lt_nI {a b : Nat} (ha : a < 2 ^ 31) (hb : b < 2 ^ 31) : nI a < nI b ↔ a < b := nI_ltI ha hb
theorem eq_nI {a b : Nat} (ha : a < 2 ^ 31) (hb : b < 2 ^ 31) : nI a = nI b ↔ a = b := nI_eq ha hb
/-- comparisons with written numbers -/
theorem lleN {n k : Nat} (hn : n < 2 ^ 31) (hk : k < 2 ^ 31) : (OfNat.ofNat n : Int32) ≤ nI k ↔ n ≤ k := nI_leI hn hk
theorem lltN {n k : Nat} (hn : n < 2 ^ 31) (hk : k < 2 ^ 31) : (OfNat.ofNat n : Int32) < nI k ↔ n < k := nI_ltI hn hk
theorem leNl {n k : Nat} (hn : n < 2 ^ 31) (hk : k < 2 ^ 31) : nI k ≤ (OfNat.ofNat n : Int32) ↔ k ≤ n := nI_leI hk hn
theorem ltNl {n k : Nat} (hn : n < 2 ^ 31) (hk : k < 2 ^ 31) : nI k < (OfNat.ofNat n : Int32) ↔ k < n := nI_ltI hk hn
theorem eqNl {n k : Nat} (hn : n < 2 ^ 31) (hk : k < 2 ^ 31) : nI k = (OfNat.ofNat n : Int32) ↔ k = n := nI_eq hk hn
theorem z_le {k : Nat} (hk : k < 2 ^ 31) : 0 ≤ nI k := nI_pos' hk
theorem le_z {k : Nat} (hk : k < 2 ^ 31) : nI k ≤ 0 ↔ k = 0 := by
  rw [show (0 : Int32) = nI 0 from rfl, nI_leI hk (by decide)]; omega
theorem eq_z {k : Nat} (hk : k < 2 ^ 31) : nI k = 0 ↔ k = 0 := by
  rw [show (0 : Int32) = nI 0 from rfl, nI_eq hk (by decide)]
/-- a difference, against 0 -/
theorem dif_le {t a : Nat} (ht : t < 2 ^ 30) (ha : a < 2 ^ 30) : nI t - nI a ≤ 0 ↔ t ≤ a := by
  rw [Int32.le_iff_toInt_le, pk_sub_toInt ht ha, Int32.toInt_zero]; omega
theorem dif2 {t a b : Nat} : nI t - nI a - nI b = nI t - nI (a + b) := by
  rw [← nI_add]; exact Int32.sub_sub _ _ _
theorem and31 {n : Nat} (h : n < 2 ^ 32) : nI n &&& (31 : Int32) = nI (n % 32) := pk_andN h 5 (by decide)
theorem and7 {n : Nat} (h : n < 2 ^ 32) : nI n &&& (7 : Int32) = nI (n % 8) := pk_andN h 3 (by decide)
theorem and3 {n : Nat} (h : n < 2 ^ 32) : nI n &&& (3 : Int32) = nI (n % 4) := pk_andN h 2 (by decide)
/-- a memory write, read -/
theorem mw_at (M : Mem) (a k : Nat) (v : Int32) : mw M a k v a k = v := by simp [mw]
theorem mw_k {M : Mem} {a k j : Nat} {v : Int32} (h : j ≠ k) : mw M a k v a j = M a j := by simp [mw, h]
theorem upd_at (f : Nat → Int32) (k : Nat) (v : Int32) : upd f k v k = v := by simp [upd]
theorem upd_ne {f : Nat → Int32} {k j : Nat} {v : Int32} (h : j ≠ k) : upd f k v j = f j := by simp [upd, h]
theorem int_nI {x : Int32} (h : 0 ≤ x) : ∃ k : Nat, k < 2 ^ 31 ∧ x = nI k := nI_of (by rw [Int32.not_lt]; exact h)
/-- an index with a written number -/
theorem ixa {c : Int32} (n : Nat) {k z : Nat} (hc : c = nI n) (h : n + k < z) (hz : z < 2 ^ 31) : vp_in (c + nI k) z ∧ ix (c + nI k) = n + k := by
  subst hc; rw [nI_add]; exact ⟨vin h hz, ix_nI (by omega)⟩
theorem ixb {c : Int32} (n : Nat) {k z : Nat} (hc : c = nI n) (h : k + n < z) (hz : z < 2 ^ 31) : vp_in (nI k + c) z ∧ ix (nI k + c) = k + n := by
  subst hc; rw [nI_add]; exact ⟨vin h hz, ix_nI (by omega)⟩
theorem ixc {c : Int32} (n : Nat) {k i z : Nat} (hc : c = nI n) (h : k + n + i < z) (hz : z < 2 ^ 31) : vp_in (nI k + c + nI i) z ∧ ix (nI k + c + nI i) = k + n + i := by
  subst hc; rw [nI_add, nI_add]; exact ⟨vin h hz, ix_nI (by omega)⟩
theorem ixn {k z : Nat} (h : k < z) (hz : z < 2 ^ 31) : vp_in (nI k) z ∧ ix (nI k) = k := ⟨vin h hz, ix_nI (by omega)⟩
