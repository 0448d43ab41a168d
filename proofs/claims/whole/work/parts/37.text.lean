/-! NUMBERS WRITTEN as digits -/
def chd (d : Nat) : Nat := if d < 10 then 48 + d else 97 + d - 10
theorem chd_lt {d : Nat} (h : d < 36) : chd d < 128 := by unfold chd; split <;> omega
/-- how many digits a number has in a base -/
def isND (n b A : Nat) : Prop := 1 ≤ n ∧ A < b ^ n ∧ (n = 1 ∨ b ^ (n - 1) ≤ A)
theorem nd_ex {b : Nat} (hb : 2 ≤ b) : ∀ {A : Nat}, 0 < A → ∃ n, 1 ≤ n ∧ A < b ^ n ∧ b ^ (n - 1) ≤ A := by
  intro A
  induction A using Nat.strongRecOn with
  | _ A ih =>
    intro hA
    by_cases h : A < b
    · exact ⟨1, Nat.le_refl 1, by rw [Nat.pow_one]; exact h, by simp; omega⟩
    · have hd : A / b < A := Nat.div_lt_self hA (by omega)
      obtain ⟨n, h1, h2, h3⟩ := ih (A / b) hd (Nat.div_pos (by omega) (by omega))
      refine ⟨n + 1, by omega, ?_, ?_⟩
      · rw [Nat.pow_succ]
        exact (Nat.div_lt_iff_lt_mul (by omega)).mp h2
      · rw [Nat.add_sub_cancel, show n = n - 1 + 1 by omega, Nat.pow_succ]
        exact (Nat.le_div_iff_mul_le (by omega)).mp h3
theorem nd_uq {b A n m : Nat} (hb : 2 ≤ b) (h : isND n b A) (h' : isND m b A) : n = m := by
  have key : ∀ {n m : Nat}, isND n b A → isND m b A → ¬ n < m := by
    intro n m h h' hl
    have h1 : b ^ n ≤ b ^ (m - 1) := Nat.pow_le_pow_right (by omega) (by omega)
    have h2 := h.2.1
    have h3 := h'.2.2.resolve_left (by have := h.1; omega)
    omega
  have a := key h h'
  have c := key h' h
  omega
theorem pow_lt_of {b i j : Nat} (hb : 2 ≤ b) (h : b ^ i < b ^ j) : i < j := by
  rcases Nat.lt_or_ge i j with h1 | h1
  · exact h1
  · have : b ^ j ≤ b ^ i := Nat.pow_le_pow_right (by omega) h1
    omega
theorem two_le_pow {b n : Nat} (hb : 2 ≤ b) : 2 ^ n ≤ b ^ n := Nat.pow_le_pow_left hb n
theorem div_zero_of {A b e : Nat} (hb : 2 ≤ b) (hA : A < 2 ^ 512) (he : 512 ≤ e) : A / b ^ e = 0 := by
  apply Nat.div_eq_of_lt
  have h1 : 2 ^ 512 ≤ 2 ^ e := Nat.pow_le_pow_right (by decide) he
  have h2 := two_le_pow (n := e) hb
  generalize 2 ^ 512 = P at *
  omega
theorem lt_512 {A b e : Nat} (hb : 2 ≤ b) (hA : A < 2 ^ 512) (h : A / b ^ e ≠ 0) : e < 512 := by
  rcases Nat.lt_or_ge e 512 with h1 | h1
  · exact h1
  · exact absurd (div_zero_of hb hA h1) h
theorem div_pow_add (A b e n : Nat) : A / b ^ (e + n) = A / b ^ e / b ^ n := by rw [Nat.pow_add, Nat.div_div_eq_div_mul]
theorem dig_mod {x b n i : Nat} (hi : i < n) : x % b ^ n / b ^ i % b = x / b ^ i % b := by
  have e : b ^ n = b ^ i * b ^ (n - i) := by rw [← Nat.pow_add]; congr 1; omega
  rw [e, Nat.mod_mul_right_div_self]
  obtain ⟨k, hk⟩ : ∃ k, n - i = k + 1 := ⟨n - i - 1, by omega⟩
  rw [hk, Nat.pow_succ, Nat.mul_comm, Nat.mod_mul_right_mod]
theorem full_n {g b n l : Nat} (hb : 2 ≤ b) (hg : g < b ^ l) (h1 : l ≤ n) (h2 : n = l ∨ b ^ (n - 1) ≤ g) : n = l := by
  rcases h2 with h2 | h2
  · exact h2
  · have := pow_lt_of hb (Nat.lt_of_le_of_lt h2 hg)
    omega
theorem pow_s (b i : Nat) : b ^ i * b = b ^ (i + 1) := (Nat.pow_succ b i).symm
theorem vq {A b e l x z : Nat} (hz : z < b ^ l) (hv : A / b ^ e = b ^ l * x + z) : x = A / b ^ (e + l) ∧ z = A / b ^ e % b ^ l := by
  have hP : 0 < b ^ l := by omega
  rw [div_pow_add, hv]
  constructor
  · rw [Nat.mul_add_div hP, Nat.div_eq_of_lt hz, Nat.add_zero]
  · rw [Nat.mul_add_mod, Nat.mod_eq_of_lt hz]
theorem div_s {g b i : Nat} : g / b ^ i / b = g / b ^ (i + 1) := by rw [Nat.div_div_eq_div_mul, pow_s]
