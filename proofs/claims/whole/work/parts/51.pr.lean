def Pm (P : PlanT) (M : Mem) (p : Nat) (w : Row) (t g U : Nat) (f : Nat → Nat) (hc : Prop) : Prop := ∀ i k j, Co (Pu P) t g U f hc i k j → M (p + i) k = w j
def Pon (P : PlanT) (x y : Int32) : Prop := (y = -1 ∧ x = -9 ∧ Prl P = 0) ∨ ∃ o, o < Prl P ∧ y = nI o ∧ x = nI o
/-- what an empty column holds; whether a copy came; what is true or false -/
def Pz (P : PlanT) (M : Mem) (p : Nat) : Prop := ∀ c e, c < 32 → e < 4 → (e = 0 ∨ Pu P ≤ e) → M (p + 9) (4 * c + e) = 0
def Pl (M : Mem) (p : Nat) (w : Row) (hc : Prop) : Prop := (¬ hc → w 54 = 0 ∧ M (p + 5) 6 = 0) ∧ (hc → ¬ w 54 = 0 ∧ M (p + 5) 6 = 1 ∧ M (p + 5) 7 = w 54 - 1)
def Pb (M : Mem) (p : Nat) : Prop := isB (M (p + 5) 6) ∧ isB (M (p + 5) 8) ∧ isB (M (p + 5) 9) ∧ isB (M p 8) ∧ isB (M p 9)
def Pc (w : Row) (t g U : Nat) : Prop := (∀ a, a < U → w (cpl (t - a)) = 1) ∧ (∀ s, s < 32 → (∀ a, a < U → (t - a) % 32 ≠ s) → w (61 + 9 * s) = 0) ∧ (∀ a, a < U → w (cpl (t - a) + 1) = nI (g - 1 - a)) ∧ (∀ a, a < U → isB (w (cpl (t - a) + 3)))
def Pn (w : Row) (T t g U : Nat) : Prop := w 5 = nI T ∧ w 6 = nI g ∧ T < 2 ^ 28 ∧ U ≤ g ∧ g ≤ t ∧ t ≤ T ∧ U ≤ 28 ∧ isB (w 0) ∧ isB (w 4)
def PR (P : PlanT) (M : Mem) (p : Nat) (w : Row) (T t g U : Nat) (f : Nat → Nat) (hc : Prop) : Prop :=
  Pm P M p w t g U f hc ∧ Pon P (M p 5) (w 1) ∧ M (p + 5) 5 = nI U ∧ Pc w t g U ∧ Pz P M p ∧ Pl M p w hc ∧ Pb M p ∧ Pn w T t g U
/-- nothing outside the Press moves -/
def Fr (p : Nat) (M M' : Mem) : Prop := ∀ c, (c < p ∨ p + 11 ≤ c) → M' c = M c
theorem Fr.rf {p : Nat} {M : Mem} : Fr p M M := fun _ _ => rfl
theorem Fr.tr {p : Nat} {M M1 M2 : Mem} (h : Fr p M M1) (h2 : Fr p M1 M2) : Fr p M M2 := fun c hc => (h2 c hc).trans (h c hc)
theorem Fr.w {p i k : Nat} {M : Mem} {v : Int32} (hi : i < 11) : Fr p M (mw M (p + i) k v) := fun c hc => mw_ne (by omega)
theorem Fr.w0 {p k : Nat} {M : Mem} {v : Int32} : Fr p M (mw M p k v) := fun c hc => mw_ne (by omega)
section PP
variable {P : PlanT} {M : Mem} {p : Nat} {w : Row} {T t g U : Nat} {f : Nat → Nat} {hc : Prop}
theorem Pm.wr (h : Pm P M p w t g U f hc) (h1 : U ≤ 32) (h2 : U ≤ g) (h3 : U ≤ t) {i k j : Nat} (v : Int32) (c : Co (Pu P) t g U f hc i k j) : Pm P (mw M (p + i) k v) p (upd w j v) t g U f hc := by
  intro i' k' j' c'
  have q := Co_inj h1 h2 h3 c' c
  by_cases hj : j' = j
  · obtain ⟨rfl, rfl⟩ := q.mpr hj
    subst hj
    rw [mw_at, upd_at]
  · rw [upd_ne hj]
    have : ¬ (p + i' = p + i ∧ k' = k) := fun z => hj (q.mp ⟨by omega, z.2⟩)
    simp only [mw, if_neg this]
    exact h i' k' j' c'
theorem Pm.c (h : Pm P M p w t g U f hc) {i k : Nat} (v : Int32) (c : ∀ j, ¬ Co (Pu P) t g U f hc i k j) : Pm P (mw M (p + i) k v) p w t g U f hc := by
  intro i' k' j' c'
  have : ¬ (p + i' = p + i ∧ k' = k) := fun z => by
    have e : i' = i := by omega
    obtain ⟨-, rfl⟩ := z
    subst e
    exact c j' c'
  simp only [mw, if_neg this]
  exact h i' k' j' c'
theorem Pm.m (h : Pm P M p w t g U f hc) {j : Nat} (v : Int32) (c : ∀ i k, ¬ Co (Pu P) t g U f hc i k j) : Pm P M p (upd w j v) t g U f hc := by
  intro i' k' j' c'
  rw [upd_ne (fun z => by subst z; exact c i' k' c')]
  exact h i' k' j' c'
/-- a slot and its number, both written, that nothing else speaks of -/
def Qk (u i k j : Nat) : Prop := j ≠ 0 ∧ j ≠ 1 ∧ j ≠ 4 ∧ j ≠ 5 ∧ j ≠ 6 ∧ j ≠ 54 ∧ (61 ≤ j → (j - 61) % 9 ≠ 0 ∧ (j - 61) % 9 ≠ 1 ∧ (j - 61) % 9 ≠ 3) ∧ i ≠ 5 ∧ (i = 0 → k ≠ 5 ∧ k ≠ 8 ∧ k ≠ 9) ∧ (i = 9 → k % 4 ≠ 0 ∧ k % 4 < u)
theorem Pc.ne {v : Int32} {j : Nat} (h : Pc w t g U) (hj : 61 ≤ j → (j - 61) % 9 ≠ 0 ∧ (j - 61) % 9 ≠ 1 ∧ (j - 61) % 9 ≠ 3) : Pc (upd w j v) t g U := by
  obtain ⟨a1, a2, a3, a4⟩ := h
  refine ⟨fun a ha => ?_, fun s hs q => ?_, fun a ha => ?_, fun a ha => ?_⟩
  · rw [upd_ne (by unfold cpl; omega)]; exact a1 a ha
  · rw [upd_ne (by omega)]; exact a2 s hs q
  · rw [upd_ne (by unfold cpl; omega)]; exact a3 a ha
  · rw [upd_ne (by unfold cpl; omega)]; exact a4 a ha
theorem PR.wr (h : PR P M p w T t g U f hc) {i k j : Nat} (v : Int32) (c : Co (Pu P) t g U f hc i k j) (q : Qk (Pu P) i k j) : PR P (mw M (p + i) k v) p (upd w j v) T t g U f hc := by
  obtain ⟨b1, b2, b3, b4, b5, b6, b7, b8⟩ := h
  obtain ⟨n1, n2, n3, n4, n5, n6, n7, n8, n9⟩ := b8
  obtain ⟨q0, q1, q4, q5, q6, q54, q61, qi, qo, qn⟩ := q
  have e5 : ∀ x, mw M (p + i) k v (p + 5) x = M (p + 5) x := fun x => congrFun (mw_ne (by omega)) x
  have e0 : ∀ x, (x = 5 ∨ x = 8 ∨ x = 9) → mw M (p + i) k v p x = M p x := fun x hx => by
    simp only [mw]
    rw [if_neg]
    rintro ⟨z1, z2⟩
    have hi : i = 0 := by omega
    have := qo hi
    omega
  refine ⟨b1.wr (by omega) (by omega) (by omega) v c, ?_, ?_, b4.ne q61, ?_, ?_, ?_, ?_⟩
  · rw [e0 5 (Or.inl rfl), upd_ne (Ne.symm q1)]; exact b2
  · rw [e5]; exact b3
  · intro c' e' hc' he' hz
    simp only [mw]
    rw [if_neg]
    · exact b5 c' e' hc' he' hz
    · rintro ⟨z1, z2⟩
      have := qn (by omega)
      omega
  · unfold Pl at *
    rw [e5, e5, upd_ne (Ne.symm q54)]; exact b6
  · unfold Pb at *
    rw [e5, e5, e5, e0 8 (by omega), e0 9 (by omega)]; exact b7
  · exact ⟨by rw [upd_ne (Ne.symm q5)]; exact n1, by rw [upd_ne (Ne.symm q6)]; exact n2, n3, n4, n5, n6, n7, by rw [upd_ne (Ne.symm q0)]; exact n8, by rw [upd_ne (Ne.symm q4)]; exact n9⟩
/-- reading -/
theorem PR.r (h : PR P M p w T t g U f hc) {i k j : Nat} (c : Co (Pu P) t g U f hc i k j) : M (p + i) k = w j := h.1 i k j c
theorem co_runs : Co (Pu P) t g U f hc 0 8 0 := Or.inl ⟨rfl, rfl, rfl⟩
theorem co_ahead : Co (Pu P) t g U f hc 0 9 4 := Or.inr (Or.inl ⟨rfl, rfl, rfl⟩)
theorem co_ticks : Co (Pu P) t g U f hc 0 10 5 := Or.inr (Or.inr (Or.inl ⟨rfl, rfl, rfl⟩))
theorem co_begun : Co (Pu P) t g U f hc 5 4 6 := Or.inr (Or.inr (Or.inr (Or.inl ⟨rfl, rfl, rfl⟩)))
theorem co_good : Co (Pu P) t g U f hc 0 11 7 := Or.inr (Or.inr (Or.inr (Or.inr (Or.inl ⟨rfl, rfl, rfl⟩))))
theorem co_waste : Co (Pu P) t g U f hc 0 12 8 := Or.inr (Or.inr (Or.inr (Or.inr (Or.inr (Or.inl ⟨rfl, rfl, rfl⟩)))))
theorem co_spl : Co (Pu P) t g U f hc 0 13 9 := Or.inr (Or.inr (Or.inr (Or.inr (Or.inr (Or.inr (Or.inl ⟨rfl, rfl, rfl⟩))))))
theorem co_off {k : Nat} (h : k < 4) : Co (Pu P) t g U f hc 1 k (10 + k) := Or.inr (Or.inr (Or.inr (Or.inr (Or.inr (Or.inr (Or.inr (Or.inl ⟨rfl, h, rfl⟩)))))))
theorem co_shift {k : Nat} (h : k < 4) : Co (Pu P) t g U f hc 2 k (14 + k) := Or.inr (Or.inr (Or.inr (Or.inr (Or.inr (Or.inr (Or.inr (Or.inr (Or.inl ⟨rfl, h, rfl⟩))))))))
theorem co_wait {k : Nat} (h : k < 4) : Co (Pu P) t g U f hc 3 k (18 + k) := Or.inr (Or.inr (Or.inr (Or.inr (Or.inr (Or.inr (Or.inr (Or.inr (Or.inr (Or.inl ⟨rfl, h, rfl⟩)))))))))
theorem co_pass {k : Nat} (h : k < 32) : Co (Pu P) t g U f hc 4 k (22 + k) := Or.inr (Or.inr (Or.inr (Or.inr (Or.inr (Or.inr (Or.inr (Or.inr (Or.inr (Or.inr (Or.inl ⟨rfl, h, rfl⟩))))))))))
theorem co_csp (h : hc) : Co (Pu P) t g U f hc 5 8 55 := Or.inr (Or.inr (Or.inr (Or.inr (Or.inr (Or.inr (Or.inr (Or.inr (Or.inr (Or.inr (Or.inr (Or.inl ⟨h, rfl, rfl, rfl⟩)))))))))))
theorem co_cgd (h : hc) : Co (Pu P) t g U f hc 5 9 56 := Or.inr (Or.inr (Or.inr (Or.inr (Or.inr (Or.inr (Or.inr (Or.inr (Or.inr (Or.inr (Or.inr (Or.inr (Or.inl ⟨h, rfl, rfl, rfl⟩))))))))))))
theorem co_cer (h : hc) {k : Nat} (hk : k < 4) : Co (Pu P) t g U f hc 10 k (57 + k) := Or.inr (Or.inr (Or.inr (Or.inr (Or.inr (Or.inr (Or.inr (Or.inr (Or.inr (Or.inr (Or.inr (Or.inr (Or.inr (Or.inl ⟨h, rfl, hk, rfl⟩)))))))))))))
theorem co_str {a : Nat} (h : a < U) : Co (Pu P) t g U f hc 6 ((g - 1 - a) % 32) (cpl (t - a) + 2) := Or.inr (Or.inr (Or.inr (Or.inr (Or.inr (Or.inr (Or.inr (Or.inr (Or.inr (Or.inr (Or.inr (Or.inr (Or.inr (Or.inr (Or.inl ⟨a, h, rfl, rfl, rfl⟩))))))))))))))
theorem co_isp {a : Nat} (h : a < U) : Co (Pu P) t g U f hc 7 ((g - 1 - a) % 32) (cpl (t - a) + 3) := Or.inr (Or.inr (Or.inr (Or.inr (Or.inr (Or.inr (Or.inr (Or.inr (Or.inr (Or.inr (Or.inr (Or.inr (Or.inr (Or.inr (Or.inr (Or.inl ⟨a, h, rfl, rfl, rfl⟩)))))))))))))))
theorem co_sum {a : Nat} (h : a < U) : Co (Pu P) t g U f hc 8 ((g - 1 - a) % 32) (cpl (t - a) + 4) := Or.inr (Or.inr (Or.inr (Or.inr (Or.inr (Or.inr (Or.inr (Or.inr (Or.inr (Or.inr (Or.inr (Or.inr (Or.inr (Or.inr (Or.inr (Or.inr (Or.inl ⟨a, h, rfl, rfl, rfl⟩))))))))))))))))
theorem co_err {a e : Nat} (h : a < U) (he : e < 4) (hf : 1 ≤ e → e < Pu P → f e ≤ a) : Co (Pu P) t g U f hc 9 (4 * ((g - 1 - a) % 32) + e) (cpl (t - a) + 5 + e) := Or.inr (Or.inr (Or.inr (Or.inr (Or.inr (Or.inr (Or.inr (Or.inr (Or.inr (Or.inr (Or.inr (Or.inr (Or.inr (Or.inr (Or.inr (Or.inr (Or.inr ⟨a, e, h, he, hf, rfl, rfl, rfl⟩))))))))))))))))
end PP
