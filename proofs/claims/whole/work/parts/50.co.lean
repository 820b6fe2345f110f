/-! a Press at place p holds a row: which of its slots is which number of the row -/
def Co (u t g U : Nat) (f : Nat → Nat) (hc : Prop) (i k j : Nat) : Prop :=
  (i = 0 ∧ k = 8 ∧ j = 0) ∨ (i = 0 ∧ k = 9 ∧ j = 4) ∨ (i = 0 ∧ k = 10 ∧ j = 5) ∨ (i = 5 ∧ k = 4 ∧ j = 6) ∨ (i = 0 ∧ k = 11 ∧ j = 7) ∨ (i = 0 ∧ k = 12 ∧ j = 8) ∨ (i = 0 ∧ k = 13 ∧ j = 9) ∨
  (i = 1 ∧ k < 4 ∧ j = 10 + k) ∨ (i = 2 ∧ k < 4 ∧ j = 14 + k) ∨ (i = 3 ∧ k < 4 ∧ j = 18 + k) ∨ (i = 4 ∧ k < 32 ∧ j = 22 + k) ∨
  (hc ∧ i = 5 ∧ k = 8 ∧ j = 55) ∨ (hc ∧ i = 5 ∧ k = 9 ∧ j = 56) ∨ (hc ∧ i = 10 ∧ k < 4 ∧ j = 57 + k) ∨
  (∃ a, a < U ∧ i = 6 ∧ k = (g - 1 - a) % 32 ∧ j = 61 + 9 * ((t - a) % 32) + 2) ∨
  (∃ a, a < U ∧ i = 7 ∧ k = (g - 1 - a) % 32 ∧ j = 61 + 9 * ((t - a) % 32) + 3) ∨
  (∃ a, a < U ∧ i = 8 ∧ k = (g - 1 - a) % 32 ∧ j = 61 + 9 * ((t - a) % 32) + 4) ∨
  (∃ a e, a < U ∧ e < 4 ∧ (1 ≤ e → e < u → f e ≤ a) ∧ i = 9 ∧ k = 4 * ((g - 1 - a) % 32) + e ∧ j = 61 + 9 * ((t - a) % 32) + 5 + e)
/-- a code of a slot: the row's number, but for the copies' places -/
theorem Co_inj {u t g U : Nat} {f : Nat → Nat} {hc : Prop} (h1 : U ≤ 32) (h2 : U ≤ g) (h3 : U ≤ t) {i k j i' k' j' : Nat} (h : Co u t g U f hc i k j) (h' : Co u t g U f hc i' k' j') : (i = i' ∧ k = k') ↔ j = j' := by
  rcases h with ⟨rfl, rfl, rfl⟩ | ⟨rfl, rfl, rfl⟩ | ⟨rfl, rfl, rfl⟩ | ⟨rfl, rfl, rfl⟩ | ⟨rfl, rfl, rfl⟩ | ⟨rfl, rfl, rfl⟩ | ⟨rfl, rfl, rfl⟩ | ⟨rfl, q, rfl⟩ | ⟨rfl, q, rfl⟩ | ⟨rfl, q, rfl⟩ | ⟨rfl, q, rfl⟩ | ⟨-, rfl, rfl, rfl⟩ | ⟨-, rfl, rfl, rfl⟩ | ⟨-, rfl, q, rfl⟩ | ⟨a, ha, rfl, rfl, rfl⟩ | ⟨a, ha, rfl, rfl, rfl⟩ | ⟨a, ha, rfl, rfl, rfl⟩ | ⟨a, e, ha, he, -, rfl, rfl, rfl⟩ <;>
  rcases h' with ⟨rfl, rfl, rfl⟩ | ⟨rfl, rfl, rfl⟩ | ⟨rfl, rfl, rfl⟩ | ⟨rfl, rfl, rfl⟩ | ⟨rfl, rfl, rfl⟩ | ⟨rfl, rfl, rfl⟩ | ⟨rfl, rfl, rfl⟩ | ⟨rfl, q', rfl⟩ | ⟨rfl, q', rfl⟩ | ⟨rfl, q', rfl⟩ | ⟨rfl, q', rfl⟩ | ⟨-, rfl, rfl, rfl⟩ | ⟨-, rfl, rfl, rfl⟩ | ⟨-, rfl, q', rfl⟩ | ⟨a', ha', rfl, rfl, rfl⟩ | ⟨a', ha', rfl, rfl, rfl⟩ | ⟨a', ha', rfl, rfl, rfl⟩ | ⟨a', e', ha', he', -, rfl, rfl, rfl⟩ <;> omega
