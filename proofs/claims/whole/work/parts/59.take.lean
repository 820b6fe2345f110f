section C8
theorem mcp_f {M M1 : Mem} {a b n : Nat} (e : M1 = mcp M a 0 b 0 n) : ∀ c j, c ≠ b → M1 c j = M c j := fun c j h => by rw [e, mcp_ne h]
theorem mcp_v {M M1 : Mem} {a b n : Nat} (e : M1 = mcp M a 0 b 0 n) : ∀ k, k < n → M1 b k = M a k := fun k h => by rw [e, mcp_row, pk_cpy_in (by omega) (by omega)]; congr 1; omega
theorem mw_f {M M1 : Mem} {a s : Nat} {v : Int32} (e : M1 = mw M a s v) : ∀ c j, (c ≠ a ∨ j ≠ s) → M1 c j = M c j := fun c j h => by
  rw [e]; simp only [mw]; rw [if_neg (by omega)]
theorem mw_v {M M1 : Mem} {a s : Nat} {v : Int32} (e : M1 = mw M a s v) : M1 a s = v := by rw [e, mw_at]
/-- one Press as another -/
def SameP (M : Mem) (p : Nat) (M' : Mem) (p' : Nat) : Prop :=
  (∀ k, 5 ≤ k → k ≤ 13 → M' p' k = M p k) ∧ (∀ k, k < 4 → M' (p' + 1) k = M (p + 1) k) ∧ (∀ k, k < 4 → M' (p' + 2) k = M (p + 2) k) ∧ (∀ k, k < 4 → M' (p' + 3) k = M (p + 3) k) ∧ (∀ k, k < 32 → M' (p' + 4) k = M (p + 4) k) ∧
  (∀ k, 4 ≤ k → k ≤ 9 → M' (p' + 5) k = M (p + 5) k) ∧ (∀ k, k < 32 → M' (p' + 6) k = M (p + 6) k) ∧ (∀ k, k < 32 → M' (p' + 7) k = M (p + 7) k) ∧ (∀ k, k < 32 → M' (p' + 8) k = M (p + 8) k) ∧ (∀ k, k < 128 → M' (p' + 9) k = M (p + 9) k) ∧ (∀ k, k < 4 → M' (p' + 10) k = M (p + 10) k)
theorem c_take {M : Mem} {K : Mem → Prop} {o0 o1 : Nat} (hd : o0 + 11 ≤ o1 ∨ o1 + 11 ≤ o0) (hb : Pb M o1) (hK : ∀ M', SameP M o1 M' o0 → Fr o0 M M' → K M') : wp_X4_takeFrom o0 o1 M K := by
  obtain ⟨hb6, hb8, hb9, hb58, hb59⟩ := hb
  intro M1 e1
  have f1 : ∀ c j, c ≠ o0 + 1 → M1 c j = M c j := mcp_f e1
  have v1 : ∀ k, k < 4 → M1 (o0 + 1) k = M (o1 + 1) k := mcp_v e1
  intro M2 e2
  have f2 : ∀ c j, c ≠ o0 + 2 → M2 c j = M1 c j := mcp_f e2
  have v2 : ∀ k, k < 4 → M2 (o0 + 2) k = M1 (o1 + 2) k := mcp_v e2
  intro M3 e3
  have f3 : ∀ c j, c ≠ o0 + 3 → M3 c j = M2 c j := mcp_f e3
  have v3 : ∀ k, k < 4 → M3 (o0 + 3) k = M2 (o1 + 3) k := mcp_v e3
  intro M4 e4
  have f4 : ∀ c j, c ≠ o0 + 4 → M4 c j = M3 c j := mcp_f e4
  have v4 : ∀ k, k < 32 → M4 (o0 + 4) k = M3 (o1 + 4) k := mcp_v e4
  intro M5 e5
  have f5 : ∀ c j, c ≠ o0 + 6 → M5 c j = M4 c j := mcp_f e5
  have v5 : ∀ k, k < 32 → M5 (o0 + 6) k = M4 (o1 + 6) k := mcp_v e5
  intro M6 e6
  have f6 : ∀ c j, c ≠ o0 + 7 → M6 c j = M5 c j := mcp_f e6
  have v6 : ∀ k, k < 32 → M6 (o0 + 7) k = M5 (o1 + 7) k := mcp_v e6
  intro M7 e7
  have f7 : ∀ c j, c ≠ o0 + 8 → M7 c j = M6 c j := mcp_f e7
  have v7 : ∀ k, k < 32 → M7 (o0 + 8) k = M6 (o1 + 8) k := mcp_v e7
  intro M8 e8
  have f8 : ∀ c j, c ≠ o0 + 9 → M8 c j = M7 c j := mcp_f e8
  have v8 : ∀ k, k < 128 → M8 (o0 + 9) k = M7 (o1 + 9) k := mcp_v e8
  intro M9 e9
  have f9 : ∀ c j, (c ≠ (o0 + 5) ∨ j ≠ 4) → M9 c j = M8 c j := mw_f e9
  have v9 : M9 (o0 + 5) 4 = M8 (o1 + 5) 4 := mw_v e9
  intro M10 e10
  have f10 : ∀ c j, (c ≠ (o0 + 5) ∨ j ≠ 5) → M10 c j = M9 c j := mw_f e10
  have v10 : M10 (o0 + 5) 5 = M9 (o1 + 5) 5 := mw_v e10
  refine ⟨by rw [show M10 (o1 + 5) 6 = M (o1 + 5) 6 from by rw [f10 _ _ (Or.inl (by omega)), f9 _ _ (Or.inl (by omega)), f8 _ _ (by omega), f7 _ _ (by omega), f6 _ _ (by omega), f5 _ _ (by omega), f4 _ _ (by omega), f3 _ _ (by omega), f2 _ _ (by omega), f1 _ _ (by omega)]]; exact hb6, ?_⟩
  intro M11 e11
  have f11 : ∀ c j, (c ≠ (o0 + 5) ∨ j ≠ 6) → M11 c j = M10 c j := mw_f e11
  have v11 : M11 (o0 + 5) 6 = M10 (o1 + 5) 6 := mw_v e11
  intro M12 e12
  have f12 : ∀ c j, (c ≠ (o0 + 5) ∨ j ≠ 7) → M12 c j = M11 c j := mw_f e12
  have v12 : M12 (o0 + 5) 7 = M11 (o1 + 5) 7 := mw_v e12
  refine ⟨by rw [show M12 (o1 + 5) 8 = M (o1 + 5) 8 from by rw [f12 _ _ (Or.inl (by omega)), f11 _ _ (Or.inl (by omega)), f10 _ _ (Or.inl (by omega)), f9 _ _ (Or.inl (by omega)), f8 _ _ (by omega), f7 _ _ (by omega), f6 _ _ (by omega), f5 _ _ (by omega), f4 _ _ (by omega), f3 _ _ (by omega), f2 _ _ (by omega), f1 _ _ (by omega)]]; exact hb8, ?_⟩
  intro M13 e13
  have f13 : ∀ c j, (c ≠ (o0 + 5) ∨ j ≠ 8) → M13 c j = M12 c j := mw_f e13
  have v13 : M13 (o0 + 5) 8 = M12 (o1 + 5) 8 := mw_v e13
  refine ⟨by rw [show M13 (o1 + 5) 9 = M (o1 + 5) 9 from by rw [f13 _ _ (Or.inl (by omega)), f12 _ _ (Or.inl (by omega)), f11 _ _ (Or.inl (by omega)), f10 _ _ (Or.inl (by omega)), f9 _ _ (Or.inl (by omega)), f8 _ _ (by omega), f7 _ _ (by omega), f6 _ _ (by omega), f5 _ _ (by omega), f4 _ _ (by omega), f3 _ _ (by omega), f2 _ _ (by omega), f1 _ _ (by omega)]]; exact hb9, ?_⟩
  intro M14 e14
  have f14 : ∀ c j, (c ≠ (o0 + 5) ∨ j ≠ 9) → M14 c j = M13 c j := mw_f e14
  have v14 : M14 (o0 + 5) 9 = M13 (o1 + 5) 9 := mw_v e14
  intro M15 e15
  have f15 : ∀ c j, c ≠ o0 + 10 → M15 c j = M14 c j := mcp_f e15
  have v15 : ∀ k, k < 4 → M15 (o0 + 10) k = M14 (o1 + 10) k := mcp_v e15
  intro M16 e16
  have f16 : ∀ c j, (c ≠ o0 ∨ j ≠ 5) → M16 c j = M15 c j := mw_f e16
  have v16 : M16 o0 5 = M15 o1 5 := mw_v e16
  intro M17 e17
  have f17 : ∀ c j, (c ≠ o0 ∨ j ≠ 6) → M17 c j = M16 c j := mw_f e17
  have v17 : M17 o0 6 = M16 o1 6 := mw_v e17
  intro M18 e18
  have f18 : ∀ c j, (c ≠ o0 ∨ j ≠ 7) → M18 c j = M17 c j := mw_f e18
  have v18 : M18 o0 7 = M17 o1 7 := mw_v e18
  refine ⟨by rw [show M18 o1 8 = M o1 8 from by rw [f18 _ _ (Or.inl (by omega)), f17 _ _ (Or.inl (by omega)), f16 _ _ (Or.inl (by omega)), f15 _ _ (by omega), f14 _ _ (Or.inl (by omega)), f13 _ _ (Or.inl (by omega)), f12 _ _ (Or.inl (by omega)), f11 _ _ (Or.inl (by omega)), f10 _ _ (Or.inl (by omega)), f9 _ _ (Or.inl (by omega)), f8 _ _ (by omega), f7 _ _ (by omega), f6 _ _ (by omega), f5 _ _ (by omega), f4 _ _ (by omega), f3 _ _ (by omega), f2 _ _ (by omega), f1 _ _ (by omega)]]; exact hb58, ?_⟩
  intro M19 e19
  have f19 : ∀ c j, (c ≠ o0 ∨ j ≠ 8) → M19 c j = M18 c j := mw_f e19
  have v19 : M19 o0 8 = M18 o1 8 := mw_v e19
  refine ⟨by rw [show M19 o1 9 = M o1 9 from by rw [f19 _ _ (Or.inl (by omega)), f18 _ _ (Or.inl (by omega)), f17 _ _ (Or.inl (by omega)), f16 _ _ (Or.inl (by omega)), f15 _ _ (by omega), f14 _ _ (Or.inl (by omega)), f13 _ _ (Or.inl (by omega)), f12 _ _ (Or.inl (by omega)), f11 _ _ (Or.inl (by omega)), f10 _ _ (Or.inl (by omega)), f9 _ _ (Or.inl (by omega)), f8 _ _ (by omega), f7 _ _ (by omega), f6 _ _ (by omega), f5 _ _ (by omega), f4 _ _ (by omega), f3 _ _ (by omega), f2 _ _ (by omega), f1 _ _ (by omega)]]; exact hb59, ?_⟩
  intro M20 e20
  have f20 : ∀ c j, (c ≠ o0 ∨ j ≠ 9) → M20 c j = M19 c j := mw_f e20
  have v20 : M20 o0 9 = M19 o1 9 := mw_v e20
  intro M21 e21
  have f21 : ∀ c j, (c ≠ o0 ∨ j ≠ 10) → M21 c j = M20 c j := mw_f e21
  have v21 : M21 o0 10 = M20 o1 10 := mw_v e21
  intro M22 e22
  have f22 : ∀ c j, (c ≠ o0 ∨ j ≠ 11) → M22 c j = M21 c j := mw_f e22
  have v22 : M22 o0 11 = M21 o1 11 := mw_v e22
  intro M23 e23
  have f23 : ∀ c j, (c ≠ o0 ∨ j ≠ 12) → M23 c j = M22 c j := mw_f e23
  have v23 : M23 o0 12 = M22 o1 12 := mw_v e23
  intro M24 e24
  have f24 : ∀ c j, (c ≠ o0 ∨ j ≠ 13) → M24 c j = M23 c j := mw_f e24
  have v24 : M24 o0 13 = M23 o1 13 := mw_v e24
  refine hK _ ⟨?_, ?_, ?_, ?_, ?_, ?_, ?_, ?_, ?_, ?_, ?_⟩ ?_
  · exact fun k h1 h2 => by
      have : k = 5 ∨ k = 6 ∨ k = 7 ∨ k = 8 ∨ k = 9 ∨ k = 10 ∨ k = 11 ∨ k = 12 ∨ k = 13 := by omega
      rcases this with rfl | rfl | rfl | rfl | rfl | rfl | rfl | rfl | rfl
      · rw [f24 _ _ (Or.inr (by decide)), f23 _ _ (Or.inr (by decide)), f22 _ _ (Or.inr (by decide)), f21 _ _ (Or.inr (by decide)), f20 _ _ (Or.inr (by decide)), f19 _ _ (Or.inr (by decide)), f18 _ _ (Or.inr (by decide)), f17 _ _ (Or.inr (by decide)), v16, f15 _ _ (by omega), f14 _ _ (Or.inl (by omega)), f13 _ _ (Or.inl (by omega)), f12 _ _ (Or.inl (by omega)), f11 _ _ (Or.inl (by omega)), f10 _ _ (Or.inl (by omega)), f9 _ _ (Or.inl (by omega)), f8 _ _ (by omega), f7 _ _ (by omega), f6 _ _ (by omega), f5 _ _ (by omega), f4 _ _ (by omega), f3 _ _ (by omega), f2 _ _ (by omega), f1 _ _ (by omega)]
      · rw [f24 _ _ (Or.inr (by decide)), f23 _ _ (Or.inr (by decide)), f22 _ _ (Or.inr (by decide)), f21 _ _ (Or.inr (by decide)), f20 _ _ (Or.inr (by decide)), f19 _ _ (Or.inr (by decide)), f18 _ _ (Or.inr (by decide)), v17, f16 _ _ (Or.inl (by omega)), f15 _ _ (by omega), f14 _ _ (Or.inl (by omega)), f13 _ _ (Or.inl (by omega)), f12 _ _ (Or.inl (by omega)), f11 _ _ (Or.inl (by omega)), f10 _ _ (Or.inl (by omega)), f9 _ _ (Or.inl (by omega)), f8 _ _ (by omega), f7 _ _ (by omega), f6 _ _ (by omega), f5 _ _ (by omega), f4 _ _ (by omega), f3 _ _ (by omega), f2 _ _ (by omega), f1 _ _ (by omega)]
      · rw [f24 _ _ (Or.inr (by decide)), f23 _ _ (Or.inr (by decide)), f22 _ _ (Or.inr (by decide)), f21 _ _ (Or.inr (by decide)), f20 _ _ (Or.inr (by decide)), f19 _ _ (Or.inr (by decide)), v18, f17 _ _ (Or.inl (by omega)), f16 _ _ (Or.inl (by omega)), f15 _ _ (by omega), f14 _ _ (Or.inl (by omega)), f13 _ _ (Or.inl (by omega)), f12 _ _ (Or.inl (by omega)), f11 _ _ (Or.inl (by omega)), f10 _ _ (Or.inl (by omega)), f9 _ _ (Or.inl (by omega)), f8 _ _ (by omega), f7 _ _ (by omega), f6 _ _ (by omega), f5 _ _ (by omega), f4 _ _ (by omega), f3 _ _ (by omega), f2 _ _ (by omega), f1 _ _ (by omega)]
      · rw [f24 _ _ (Or.inr (by decide)), f23 _ _ (Or.inr (by decide)), f22 _ _ (Or.inr (by decide)), f21 _ _ (Or.inr (by decide)), f20 _ _ (Or.inr (by decide)), v19, f18 _ _ (Or.inl (by omega)), f17 _ _ (Or.inl (by omega)), f16 _ _ (Or.inl (by omega)), f15 _ _ (by omega), f14 _ _ (Or.inl (by omega)), f13 _ _ (Or.inl (by omega)), f12 _ _ (Or.inl (by omega)), f11 _ _ (Or.inl (by omega)), f10 _ _ (Or.inl (by omega)), f9 _ _ (Or.inl (by omega)), f8 _ _ (by omega), f7 _ _ (by omega), f6 _ _ (by omega), f5 _ _ (by omega), f4 _ _ (by omega), f3 _ _ (by omega), f2 _ _ (by omega), f1 _ _ (by omega)]
      · rw [f24 _ _ (Or.inr (by decide)), f23 _ _ (Or.inr (by decide)), f22 _ _ (Or.inr (by decide)), f21 _ _ (Or.inr (by decide)), v20, f19 _ _ (Or.inl (by omega)), f18 _ _ (Or.inl (by omega)), f17 _ _ (Or.inl (by omega)), f16 _ _ (Or.inl (by omega)), f15 _ _ (by omega), f14 _ _ (Or.inl (by omega)), f13 _ _ (Or.inl (by omega)), f12 _ _ (Or.inl (by omega)), f11 _ _ (Or.inl (by omega)), f10 _ _ (Or.inl (by omega)), f9 _ _ (Or.inl (by omega)), f8 _ _ (by omega), f7 _ _ (by omega), f6 _ _ (by omega), f5 _ _ (by omega), f4 _ _ (by omega), f3 _ _ (by omega), f2 _ _ (by omega), f1 _ _ (by omega)]
      · rw [f24 _ _ (Or.inr (by decide)), f23 _ _ (Or.inr (by decide)), f22 _ _ (Or.inr (by decide)), v21, f20 _ _ (Or.inl (by omega)), f19 _ _ (Or.inl (by omega)), f18 _ _ (Or.inl (by omega)), f17 _ _ (Or.inl (by omega)), f16 _ _ (Or.inl (by omega)), f15 _ _ (by omega), f14 _ _ (Or.inl (by omega)), f13 _ _ (Or.inl (by omega)), f12 _ _ (Or.inl (by omega)), f11 _ _ (Or.inl (by omega)), f10 _ _ (Or.inl (by omega)), f9 _ _ (Or.inl (by omega)), f8 _ _ (by omega), f7 _ _ (by omega), f6 _ _ (by omega), f5 _ _ (by omega), f4 _ _ (by omega), f3 _ _ (by omega), f2 _ _ (by omega), f1 _ _ (by omega)]
      · rw [f24 _ _ (Or.inr (by decide)), f23 _ _ (Or.inr (by decide)), v22, f21 _ _ (Or.inl (by omega)), f20 _ _ (Or.inl (by omega)), f19 _ _ (Or.inl (by omega)), f18 _ _ (Or.inl (by omega)), f17 _ _ (Or.inl (by omega)), f16 _ _ (Or.inl (by omega)), f15 _ _ (by omega), f14 _ _ (Or.inl (by omega)), f13 _ _ (Or.inl (by omega)), f12 _ _ (Or.inl (by omega)), f11 _ _ (Or.inl (by omega)), f10 _ _ (Or.inl (by omega)), f9 _ _ (Or.inl (by omega)), f8 _ _ (by omega), f7 _ _ (by omega), f6 _ _ (by omega), f5 _ _ (by omega), f4 _ _ (by omega), f3 _ _ (by omega), f2 _ _ (by omega), f1 _ _ (by omega)]
      · rw [f24 _ _ (Or.inr (by decide)), v23, f22 _ _ (Or.inl (by omega)), f21 _ _ (Or.inl (by omega)), f20 _ _ (Or.inl (by omega)), f19 _ _ (Or.inl (by omega)), f18 _ _ (Or.inl (by omega)), f17 _ _ (Or.inl (by omega)), f16 _ _ (Or.inl (by omega)), f15 _ _ (by omega), f14 _ _ (Or.inl (by omega)), f13 _ _ (Or.inl (by omega)), f12 _ _ (Or.inl (by omega)), f11 _ _ (Or.inl (by omega)), f10 _ _ (Or.inl (by omega)), f9 _ _ (Or.inl (by omega)), f8 _ _ (by omega), f7 _ _ (by omega), f6 _ _ (by omega), f5 _ _ (by omega), f4 _ _ (by omega), f3 _ _ (by omega), f2 _ _ (by omega), f1 _ _ (by omega)]
      · rw [v24, f23 _ _ (Or.inl (by omega)), f22 _ _ (Or.inl (by omega)), f21 _ _ (Or.inl (by omega)), f20 _ _ (Or.inl (by omega)), f19 _ _ (Or.inl (by omega)), f18 _ _ (Or.inl (by omega)), f17 _ _ (Or.inl (by omega)), f16 _ _ (Or.inl (by omega)), f15 _ _ (by omega), f14 _ _ (Or.inl (by omega)), f13 _ _ (Or.inl (by omega)), f12 _ _ (Or.inl (by omega)), f11 _ _ (Or.inl (by omega)), f10 _ _ (Or.inl (by omega)), f9 _ _ (Or.inl (by omega)), f8 _ _ (by omega), f7 _ _ (by omega), f6 _ _ (by omega), f5 _ _ (by omega), f4 _ _ (by omega), f3 _ _ (by omega), f2 _ _ (by omega), f1 _ _ (by omega)]
  · intro k hk; rw [f24 _ _ (Or.inl (by omega)), f23 _ _ (Or.inl (by omega)), f22 _ _ (Or.inl (by omega)), f21 _ _ (Or.inl (by omega)), f20 _ _ (Or.inl (by omega)), f19 _ _ (Or.inl (by omega)), f18 _ _ (Or.inl (by omega)), f17 _ _ (Or.inl (by omega)), f16 _ _ (Or.inl (by omega)), f15 _ _ (by omega), f14 _ _ (Or.inl (by omega)), f13 _ _ (Or.inl (by omega)), f12 _ _ (Or.inl (by omega)), f11 _ _ (Or.inl (by omega)), f10 _ _ (Or.inl (by omega)), f9 _ _ (Or.inl (by omega)), f8 _ _ (by omega), f7 _ _ (by omega), f6 _ _ (by omega), f5 _ _ (by omega), f4 _ _ (by omega), f3 _ _ (by omega), f2 _ _ (by omega), v1 _ hk]
  · intro k hk; rw [f24 _ _ (Or.inl (by omega)), f23 _ _ (Or.inl (by omega)), f22 _ _ (Or.inl (by omega)), f21 _ _ (Or.inl (by omega)), f20 _ _ (Or.inl (by omega)), f19 _ _ (Or.inl (by omega)), f18 _ _ (Or.inl (by omega)), f17 _ _ (Or.inl (by omega)), f16 _ _ (Or.inl (by omega)), f15 _ _ (by omega), f14 _ _ (Or.inl (by omega)), f13 _ _ (Or.inl (by omega)), f12 _ _ (Or.inl (by omega)), f11 _ _ (Or.inl (by omega)), f10 _ _ (Or.inl (by omega)), f9 _ _ (Or.inl (by omega)), f8 _ _ (by omega), f7 _ _ (by omega), f6 _ _ (by omega), f5 _ _ (by omega), f4 _ _ (by omega), f3 _ _ (by omega), v2 _ hk, f1 _ _ (by omega)]
  · intro k hk; rw [f24 _ _ (Or.inl (by omega)), f23 _ _ (Or.inl (by omega)), f22 _ _ (Or.inl (by omega)), f21 _ _ (Or.inl (by omega)), f20 _ _ (Or.inl (by omega)), f19 _ _ (Or.inl (by omega)), f18 _ _ (Or.inl (by omega)), f17 _ _ (Or.inl (by omega)), f16 _ _ (Or.inl (by omega)), f15 _ _ (by omega), f14 _ _ (Or.inl (by omega)), f13 _ _ (Or.inl (by omega)), f12 _ _ (Or.inl (by omega)), f11 _ _ (Or.inl (by omega)), f10 _ _ (Or.inl (by omega)), f9 _ _ (Or.inl (by omega)), f8 _ _ (by omega), f7 _ _ (by omega), f6 _ _ (by omega), f5 _ _ (by omega), f4 _ _ (by omega), v3 _ hk, f2 _ _ (by omega), f1 _ _ (by omega)]
  · intro k hk; rw [f24 _ _ (Or.inl (by omega)), f23 _ _ (Or.inl (by omega)), f22 _ _ (Or.inl (by omega)), f21 _ _ (Or.inl (by omega)), f20 _ _ (Or.inl (by omega)), f19 _ _ (Or.inl (by omega)), f18 _ _ (Or.inl (by omega)), f17 _ _ (Or.inl (by omega)), f16 _ _ (Or.inl (by omega)), f15 _ _ (by omega), f14 _ _ (Or.inl (by omega)), f13 _ _ (Or.inl (by omega)), f12 _ _ (Or.inl (by omega)), f11 _ _ (Or.inl (by omega)), f10 _ _ (Or.inl (by omega)), f9 _ _ (Or.inl (by omega)), f8 _ _ (by omega), f7 _ _ (by omega), f6 _ _ (by omega), f5 _ _ (by omega), v4 _ hk, f3 _ _ (by omega), f2 _ _ (by omega), f1 _ _ (by omega)]
  · exact fun k h1 h2 => by
      have : k = 4 ∨ k = 5 ∨ k = 6 ∨ k = 7 ∨ k = 8 ∨ k = 9 := by omega
      rcases this with rfl | rfl | rfl | rfl | rfl | rfl
      · rw [f24 _ _ (Or.inl (by omega)), f23 _ _ (Or.inl (by omega)), f22 _ _ (Or.inl (by omega)), f21 _ _ (Or.inl (by omega)), f20 _ _ (Or.inl (by omega)), f19 _ _ (Or.inl (by omega)), f18 _ _ (Or.inl (by omega)), f17 _ _ (Or.inl (by omega)), f16 _ _ (Or.inl (by omega)), f15 _ _ (by omega), f14 _ _ (Or.inr (by decide)), f13 _ _ (Or.inr (by decide)), f12 _ _ (Or.inr (by decide)), f11 _ _ (Or.inr (by decide)), f10 _ _ (Or.inr (by decide)), v9, f8 _ _ (by omega), f7 _ _ (by omega), f6 _ _ (by omega), f5 _ _ (by omega), f4 _ _ (by omega), f3 _ _ (by omega), f2 _ _ (by omega), f1 _ _ (by omega)]
      · rw [f24 _ _ (Or.inl (by omega)), f23 _ _ (Or.inl (by omega)), f22 _ _ (Or.inl (by omega)), f21 _ _ (Or.inl (by omega)), f20 _ _ (Or.inl (by omega)), f19 _ _ (Or.inl (by omega)), f18 _ _ (Or.inl (by omega)), f17 _ _ (Or.inl (by omega)), f16 _ _ (Or.inl (by omega)), f15 _ _ (by omega), f14 _ _ (Or.inr (by decide)), f13 _ _ (Or.inr (by decide)), f12 _ _ (Or.inr (by decide)), f11 _ _ (Or.inr (by decide)), v10, f9 _ _ (Or.inl (by omega)), f8 _ _ (by omega), f7 _ _ (by omega), f6 _ _ (by omega), f5 _ _ (by omega), f4 _ _ (by omega), f3 _ _ (by omega), f2 _ _ (by omega), f1 _ _ (by omega)]
      · rw [f24 _ _ (Or.inl (by omega)), f23 _ _ (Or.inl (by omega)), f22 _ _ (Or.inl (by omega)), f21 _ _ (Or.inl (by omega)), f20 _ _ (Or.inl (by omega)), f19 _ _ (Or.inl (by omega)), f18 _ _ (Or.inl (by omega)), f17 _ _ (Or.inl (by omega)), f16 _ _ (Or.inl (by omega)), f15 _ _ (by omega), f14 _ _ (Or.inr (by decide)), f13 _ _ (Or.inr (by decide)), f12 _ _ (Or.inr (by decide)), v11, f10 _ _ (Or.inl (by omega)), f9 _ _ (Or.inl (by omega)), f8 _ _ (by omega), f7 _ _ (by omega), f6 _ _ (by omega), f5 _ _ (by omega), f4 _ _ (by omega), f3 _ _ (by omega), f2 _ _ (by omega), f1 _ _ (by omega)]
      · rw [f24 _ _ (Or.inl (by omega)), f23 _ _ (Or.inl (by omega)), f22 _ _ (Or.inl (by omega)), f21 _ _ (Or.inl (by omega)), f20 _ _ (Or.inl (by omega)), f19 _ _ (Or.inl (by omega)), f18 _ _ (Or.inl (by omega)), f17 _ _ (Or.inl (by omega)), f16 _ _ (Or.inl (by omega)), f15 _ _ (by omega), f14 _ _ (Or.inr (by decide)), f13 _ _ (Or.inr (by decide)), v12, f11 _ _ (Or.inl (by omega)), f10 _ _ (Or.inl (by omega)), f9 _ _ (Or.inl (by omega)), f8 _ _ (by omega), f7 _ _ (by omega), f6 _ _ (by omega), f5 _ _ (by omega), f4 _ _ (by omega), f3 _ _ (by omega), f2 _ _ (by omega), f1 _ _ (by omega)]
      · rw [f24 _ _ (Or.inl (by omega)), f23 _ _ (Or.inl (by omega)), f22 _ _ (Or.inl (by omega)), f21 _ _ (Or.inl (by omega)), f20 _ _ (Or.inl (by omega)), f19 _ _ (Or.inl (by omega)), f18 _ _ (Or.inl (by omega)), f17 _ _ (Or.inl (by omega)), f16 _ _ (Or.inl (by omega)), f15 _ _ (by omega), f14 _ _ (Or.inr (by decide)), v13, f12 _ _ (Or.inl (by omega)), f11 _ _ (Or.inl (by omega)), f10 _ _ (Or.inl (by omega)), f9 _ _ (Or.inl (by omega)), f8 _ _ (by omega), f7 _ _ (by omega), f6 _ _ (by omega), f5 _ _ (by omega), f4 _ _ (by omega), f3 _ _ (by omega), f2 _ _ (by omega), f1 _ _ (by omega)]
      · rw [f24 _ _ (Or.inl (by omega)), f23 _ _ (Or.inl (by omega)), f22 _ _ (Or.inl (by omega)), f21 _ _ (Or.inl (by omega)), f20 _ _ (Or.inl (by omega)), f19 _ _ (Or.inl (by omega)), f18 _ _ (Or.inl (by omega)), f17 _ _ (Or.inl (by omega)), f16 _ _ (Or.inl (by omega)), f15 _ _ (by omega), v14, f13 _ _ (Or.inl (by omega)), f12 _ _ (Or.inl (by omega)), f11 _ _ (Or.inl (by omega)), f10 _ _ (Or.inl (by omega)), f9 _ _ (Or.inl (by omega)), f8 _ _ (by omega), f7 _ _ (by omega), f6 _ _ (by omega), f5 _ _ (by omega), f4 _ _ (by omega), f3 _ _ (by omega), f2 _ _ (by omega), f1 _ _ (by omega)]
  · intro k hk; rw [f24 _ _ (Or.inl (by omega)), f23 _ _ (Or.inl (by omega)), f22 _ _ (Or.inl (by omega)), f21 _ _ (Or.inl (by omega)), f20 _ _ (Or.inl (by omega)), f19 _ _ (Or.inl (by omega)), f18 _ _ (Or.inl (by omega)), f17 _ _ (Or.inl (by omega)), f16 _ _ (Or.inl (by omega)), f15 _ _ (by omega), f14 _ _ (Or.inl (by omega)), f13 _ _ (Or.inl (by omega)), f12 _ _ (Or.inl (by omega)), f11 _ _ (Or.inl (by omega)), f10 _ _ (Or.inl (by omega)), f9 _ _ (Or.inl (by omega)), f8 _ _ (by omega), f7 _ _ (by omega), f6 _ _ (by omega), v5 _ hk, f4 _ _ (by omega), f3 _ _ (by omega), f2 _ _ (by omega), f1 _ _ (by omega)]
  · intro k hk; rw [f24 _ _ (Or.inl (by omega)), f23 _ _ (Or.inl (by omega)), f22 _ _ (Or.inl (by omega)), f21 _ _ (Or.inl (by omega)), f20 _ _ (Or.inl (by omega)), f19 _ _ (Or.inl (by omega)), f18 _ _ (Or.inl (by omega)), f17 _ _ (Or.inl (by omega)), f16 _ _ (Or.inl (by omega)), f15 _ _ (by omega), f14 _ _ (Or.inl (by omega)), f13 _ _ (Or.inl (by omega)), f12 _ _ (Or.inl (by omega)), f11 _ _ (Or.inl (by omega)), f10 _ _ (Or.inl (by omega)), f9 _ _ (Or.inl (by omega)), f8 _ _ (by omega), f7 _ _ (by omega), v6 _ hk, f5 _ _ (by omega), f4 _ _ (by omega), f3 _ _ (by omega), f2 _ _ (by omega), f1 _ _ (by omega)]
  · intro k hk; rw [f24 _ _ (Or.inl (by omega)), f23 _ _ (Or.inl (by omega)), f22 _ _ (Or.inl (by omega)), f21 _ _ (Or.inl (by omega)), f20 _ _ (Or.inl (by omega)), f19 _ _ (Or.inl (by omega)), f18 _ _ (Or.inl (by omega)), f17 _ _ (Or.inl (by omega)), f16 _ _ (Or.inl (by omega)), f15 _ _ (by omega), f14 _ _ (Or.inl (by omega)), f13 _ _ (Or.inl (by omega)), f12 _ _ (Or.inl (by omega)), f11 _ _ (Or.inl (by omega)), f10 _ _ (Or.inl (by omega)), f9 _ _ (Or.inl (by omega)), f8 _ _ (by omega), v7 _ hk, f6 _ _ (by omega), f5 _ _ (by omega), f4 _ _ (by omega), f3 _ _ (by omega), f2 _ _ (by omega), f1 _ _ (by omega)]
  · intro k hk; rw [f24 _ _ (Or.inl (by omega)), f23 _ _ (Or.inl (by omega)), f22 _ _ (Or.inl (by omega)), f21 _ _ (Or.inl (by omega)), f20 _ _ (Or.inl (by omega)), f19 _ _ (Or.inl (by omega)), f18 _ _ (Or.inl (by omega)), f17 _ _ (Or.inl (by omega)), f16 _ _ (Or.inl (by omega)), f15 _ _ (by omega), f14 _ _ (Or.inl (by omega)), f13 _ _ (Or.inl (by omega)), f12 _ _ (Or.inl (by omega)), f11 _ _ (Or.inl (by omega)), f10 _ _ (Or.inl (by omega)), f9 _ _ (Or.inl (by omega)), v8 _ hk, f7 _ _ (by omega), f6 _ _ (by omega), f5 _ _ (by omega), f4 _ _ (by omega), f3 _ _ (by omega), f2 _ _ (by omega), f1 _ _ (by omega)]
  · intro k hk; rw [f24 _ _ (Or.inl (by omega)), f23 _ _ (Or.inl (by omega)), f22 _ _ (Or.inl (by omega)), f21 _ _ (Or.inl (by omega)), f20 _ _ (Or.inl (by omega)), f19 _ _ (Or.inl (by omega)), f18 _ _ (Or.inl (by omega)), f17 _ _ (Or.inl (by omega)), f16 _ _ (Or.inl (by omega)), v15 _ hk, f14 _ _ (Or.inl (by omega)), f13 _ _ (Or.inl (by omega)), f12 _ _ (Or.inl (by omega)), f11 _ _ (Or.inl (by omega)), f10 _ _ (Or.inl (by omega)), f9 _ _ (Or.inl (by omega)), f8 _ _ (by omega), f7 _ _ (by omega), f6 _ _ (by omega), f5 _ _ (by omega), f4 _ _ (by omega), f3 _ _ (by omega), f2 _ _ (by omega), f1 _ _ (by omega)]
  · intro c hc
    funext j
    rw [f24 _ _ (Or.inl (by omega)), f23 _ _ (Or.inl (by omega)), f22 _ _ (Or.inl (by omega)), f21 _ _ (Or.inl (by omega)), f20 _ _ (Or.inl (by omega)), f19 _ _ (Or.inl (by omega)), f18 _ _ (Or.inl (by omega)), f17 _ _ (Or.inl (by omega)), f16 _ _ (Or.inl (by omega)), f15 _ _ (by omega), f14 _ _ (Or.inl (by omega)), f13 _ _ (Or.inl (by omega)), f12 _ _ (Or.inl (by omega)), f11 _ _ (Or.inl (by omega)), f10 _ _ (Or.inl (by omega)), f9 _ _ (Or.inl (by omega)), f8 _ _ (by omega), f7 _ _ (by omega), f6 _ _ (by omega), f5 _ _ (by omega), f4 _ _ (by omega), f3 _ _ (by omega), f2 _ _ (by omega), f1 _ _ (by omega)]
theorem PR_same {P : PlanT} {M M' : Mem} {p p' : Nat} {w : Row} {T t g U : Nat} {f : Nat → Nat} {hc : Prop} (h : PR P M p w T t g U f hc) (s : SameP M p M' p') : PR P M' p' w T t g U f hc := by
  obtain ⟨s0, s1, s2, s3, s4, s5, s6, s7, s8, s9, s10⟩ := s
  obtain ⟨b1, b2, b3, b4, b5, b6, b7, b8⟩ := h
  refine ⟨?_, ?_, ?_, b4, ?_, ?_, ?_, b8⟩
  · intro i k j c
    rcases c with ⟨rfl, rfl, rfl⟩ | ⟨rfl, rfl, rfl⟩ | ⟨rfl, rfl, rfl⟩ | ⟨rfl, rfl, rfl⟩ | ⟨rfl, rfl, rfl⟩ | ⟨rfl, rfl, rfl⟩ | ⟨rfl, rfl, rfl⟩ | ⟨rfl, q, rfl⟩ | ⟨rfl, q, rfl⟩ | ⟨rfl, q, rfl⟩ | ⟨rfl, q, rfl⟩ | ⟨z, rfl, rfl, rfl⟩ | ⟨z, rfl, rfl, rfl⟩ | ⟨z, rfl, q, rfl⟩ | ⟨a, ha, rfl, rfl, rfl⟩ | ⟨a, ha, rfl, rfl, rfl⟩ | ⟨a, ha, rfl, rfl, rfl⟩ | ⟨a, e, ha, he, hf, rfl, rfl, rfl⟩
    · exact (s0 8 (by omega) (by omega)).trans (b1 _ _ _ co_runs)
    · exact (s0 9 (by omega) (by omega)).trans (b1 _ _ _ co_ahead)
    · exact (s0 10 (by omega) (by omega)).trans (b1 _ _ _ co_ticks)
    · exact (s5 4 (by omega) (by omega)).trans (b1 _ _ _ co_begun)
    · exact (s0 11 (by omega) (by omega)).trans (b1 _ _ _ co_good)
    · exact (s0 12 (by omega) (by omega)).trans (b1 _ _ _ co_waste)
    · exact (s0 13 (by omega) (by omega)).trans (b1 _ _ _ co_spl)
    · exact (s1 _ q).trans (b1 _ _ _ (co_off q))
    · exact (s2 _ q).trans (b1 _ _ _ (co_shift q))
    · exact (s3 _ q).trans (b1 _ _ _ (co_wait q))
    · exact (s4 _ q).trans (b1 _ _ _ (co_pass q))
    · exact (s5 8 (by omega) (by omega)).trans (b1 _ _ _ (co_csp z))
    · exact (s5 9 (by omega) (by omega)).trans (b1 _ _ _ (co_cgd z))
    · exact (s10 _ q).trans (b1 _ _ _ (co_cer z q))
    · exact (s6 _ (by omega)).trans (b1 _ _ _ (co_str ha))
    · exact (s7 _ (by omega)).trans (b1 _ _ _ (co_isp ha))
    · exact (s8 _ (by omega)).trans (b1 _ _ _ (co_sum ha))
    · exact (s9 _ (by omega)).trans (b1 _ _ _ (co_err ha he hf))
  · rw [s0 5 (by omega) (by omega)]; exact b2
  · rw [s5 5 (by omega) (by omega)]; exact b3
  · intro c e h1 h2 h3; rw [s9 _ (by omega)]; exact b5 c e h1 h2 h3
  · unfold Pl at *; rw [s5 6 (by omega) (by omega), s5 7 (by omega) (by omega)]; exact b6
  · unfold Pb at *; rw [s5 6 (by omega) (by omega), s5 8 (by omega) (by omega), s5 9 (by omega) (by omega), s0 8 (by omega) (by omega), s0 9 (by omega) (by omega)]; exact b7
theorem PSL_same {P : PlanT} {M M' : Mem} {p p' : Nat} {w : Row} (h : PSL P M p w) (s : SameP M p M' p') : PSL P M' p' w := by
  obtain ⟨⟨t, g, U, hc, hR, hU⟩, e6, e7, e0⟩ := h
  exact ⟨⟨t, g, U, hc, PR_same hR s, hU⟩, by rw [s.1 6 (by omega) (by omega)]; exact e6, by rw [s.1 7 (by omega) (by omega)]; exact e7, e0⟩
theorem SameP.of_eq {M M' : Mem} {p : Nat} (h : ∀ i, i < 11 → M' (p + i) = M (p + i)) : SameP M p M' p :=
  ⟨fun k _ _ => by rw [show M' p = M p from h 0 (by decide)], fun k _ => by rw [h 1 (by decide)], fun k _ => by rw [h 2 (by decide)], fun k _ => by rw [h 3 (by decide)], fun k _ => by rw [h 4 (by decide)], fun k _ _ => by rw [h 5 (by decide)], fun k _ => by rw [h 6 (by decide)], fun k _ => by rw [h 7 (by decide)], fun k _ => by rw [h 8 (by decide)], fun k _ => by rw [h 9 (by decide)], fun k _ => by rw [h 10 (by decide)]⟩
theorem PSL.pb {P : PlanT} {M : Mem} {p : Nat} {w : Row} (h : PSL P M p w) : Pb M p := by
  obtain ⟨⟨t, g, U, hc, hR, hU⟩, -⟩ := h; exact hR.2.2.2.2.2.2.1
/-- the row's numbers below 349 are all that counts -/
theorem PR_row {P : PlanT} {M : Mem} {p : Nat} {w w' : Row} {T t g U : Nat} {f : Nat → Nat} {hc : Prop} (h : PR P M p w T t g U f hc) (s : ∀ j, j < 349 → w' j = w j) : PR P M p w' T t g U f hc := by
  obtain ⟨b1, b2, b3, b4, b5, b6, b7, b8⟩ := h
  obtain ⟨n1, n2, n3, n4, n5, n6, n7, n8, n9⟩ := b8
  refine ⟨?_, ?_, b3, ⟨?_, ?_, ?_, ?_⟩, b5, ?_, b7, ?_⟩
  · intro i k j c
    rw [s j]
    · exact b1 i k j c
    · rcases c with ⟨rfl, rfl, rfl⟩ | ⟨rfl, rfl, rfl⟩ | ⟨rfl, rfl, rfl⟩ | ⟨rfl, rfl, rfl⟩ | ⟨rfl, rfl, rfl⟩ | ⟨rfl, rfl, rfl⟩ | ⟨rfl, rfl, rfl⟩ | ⟨rfl, q, rfl⟩ | ⟨rfl, q, rfl⟩ | ⟨rfl, q, rfl⟩ | ⟨rfl, q, rfl⟩ | ⟨z, rfl, rfl, rfl⟩ | ⟨z, rfl, rfl, rfl⟩ | ⟨z, rfl, q, rfl⟩ | ⟨a, ha, rfl, rfl, rfl⟩ | ⟨a, ha, rfl, rfl, rfl⟩ | ⟨a, ha, rfl, rfl, rfl⟩ | ⟨a, e, ha, he, hf, rfl, rfl, rfl⟩ <;> omega
  · rw [s 1 (by decide)]; exact b2
  · intro a ha; rw [s _ (by have := cpl_lt (t - a); omega)]; exact b4.1 a ha
  · intro x hx hq; rw [s _ (by omega)]; exact b4.2.1 x hx hq
  · intro a ha; rw [s _ (by have := cpl_lt (t - a); omega)]; exact b4.2.2.1 a ha
  · intro a ha; rw [s _ (by have := cpl_lt (t - a); omega)]; exact b4.2.2.2 a ha
  · unfold Pl at *; rw [s 54 (by decide)]; exact b6
  · exact ⟨by rw [s 5 (by decide)]; exact n1, by rw [s 6 (by decide)]; exact n2, n3, n4, n5, n6, n7, by rw [s 0 (by decide)]; exact n8, by rw [s 4 (by decide)]; exact n9⟩
theorem PSL_row {P : PlanT} {M : Mem} {p : Nat} {w w' : Row} (h : PSL P M p w) (s : ∀ j, j < 349 → w' j = w j) : PSL P M p w' := by
  obtain ⟨⟨t, g, U, hc, hR, hU⟩, e6, e7, e0⟩ := h
  exact ⟨⟨t, g, U, hc, PR_row hR s, hU⟩, by rw [s 2 (by decide)]; exact e6, by rw [s 3 (by decide)]; exact e7, fun z => by rw [s 2 (by decide)]; exact e0 z⟩
end C8
