/-! TESTS OF INTS within bounds -/
def rng (lo hi : Nat) (x r : Int32) : Prop := (∃ k, lo ≤ k ∧ k ≤ hi ∧ x = nI k ∧ r = nI 1) ∨ ((∀ k, lo ≤ k → k ≤ hi → k < 2 ^ 31 → x ≠ nI k) ∧ r = nI 0)
theorem rng_neg {lo hi : Nat} {x : Int32} (h : x < 0) : rng lo hi x (nI 0) := Or.inr ⟨fun k _ _ h2 e => nI_pos h2 (e ▸ h), rfl⟩
theorem rng_in {lo hi i : Nat} (h1 : lo ≤ i) (h2 : i ≤ hi) : rng lo hi (nI i) (nI 1) := Or.inl ⟨i, h1, h2, rfl, rfl⟩
theorem rng_out {lo hi i : Nat} (hi0 : i < 2 ^ 31) (h : i < lo ∨ hi < i) : rng lo hi (nI i) (nI 0) := Or.inr ⟨fun k h1 h2 h3 e => by
  have := (nI_eq hi0 h3).mp e
  omega, rfl⟩
theorem neg_lt {x : Int32} (h : x < 0) (k : Nat) (hk : k < 2 ^ 31) : x < nI k := by
  rw [Int32.lt_iff_toInt_lt] at h ⊢
  rw [nI_toInt hk]
  rw [Int32.toInt_zero] at h
  omega
theorem pow_fit {x c i : Nat} (h : 2 ^ (i + 1) < 10 ^ 330) (hv : x + c * 10 ^ 330 = 2 ^ i * 2 + 0) : x = 2 ^ (i + 1) := by
  rw [Nat.pow_succ] at h ⊢
  rcases Nat.eq_zero_or_pos c with h0 | h0
  · rw [h0, Nat.zero_mul] at hv; omega
  · have : 1 * 10 ^ 330 ≤ c * 10 ^ 330 := Nat.mul_le_mul_right _ h0
    omega
def worthN (c : Nat) : Nat := if 48 ≤ c ∧ c ≤ 57 then c - 48 else if 97 ≤ c ∧ c ≤ 122 then c - 97 + 10 else if 65 ≤ c ∧ c ≤ 90 then c - 65 + 10 else 99
theorem if0 {a : Nat} (ha : a < 2 ^ 31) (h : nI a ≤ 0) : a = 0 := by
  rw [← nI_0] at h
  have := (nI_leI ha (by decide)).mp h
  omega
theorem ifn0 {a : Nat} (h : ¬ nI a ≤ 0) : a ≠ 0 := fun e => h (by rw [e, nI_0]; decide)
theorem fit_z {a : Nat} (ha : a < 2) : fits .boolean (.int (nI a)) = true := by
  have : ∀ a, a < 2 → fits .boolean (.int (nI a)) = true := by decide +kernel
  exact this a ha
