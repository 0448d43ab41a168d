/-! WHAT WRITE LEAVES -/
def tch (b : Nat) (V : Int) (n e : Nat) : Nat := if e < n then chd (V.natAbs / b ^ e % b) else 45
theorem txt_step {w2 wr2 : Nat → Nat} {A b e n gl z : Nat} (hn : n ≤ gl) (hen : e + n ≤ 513) (hz : z = A / b ^ e % b ^ gl) (hk : ∀ i, i < e → w2 (512 - i) = chd (A / b ^ i % b)) (h1 : ∀ j, 513 - e ≤ j → wr2 j = w2 j) (h2 : ∀ i, i < n → wr2 (513 - e - 1 - i) = chd (z / b ^ i % b)) : ∀ i, i < e + n → wr2 (512 - i) = chd (A / b ^ i % b) := by
  intro i hi
  by_cases h : i < e
  · rw [h1 _ (by omega)]
    exact hk i h
  · obtain ⟨d, rfl⟩ : ∃ d, i = e + d := ⟨i - e, by omega⟩
    rw [show 512 - (e + d) = 513 - e - 1 - d by omega, h2 d (by omega), hz, dig_mod (by omega), ← div_pow_add]
theorem us_div {F F2 : Nat → Nat} {d z : Nat} (hF : lim F 17) (hv : vl F (us F 17) = d * vl F2 (us F 17) + z) (hh : ∀ j, us F 17 ≤ j → F2 j = F j) : vl F 17 = d * vl F2 17 + z := by
  rw [vl_us F 17, hv, vl_ext (f := F2) (us_le F 17) (fun j h1 h2 => by rw [hh j h1]; exact us_hi F 17 j h1 h2)]
theorem n0_fit {A b e n0 : Nat} (hb : 2 ≤ b) (hA : A < 2 ^ 512) (hn : 1 ≤ n0) (h : b ^ (n0 - 1) ≤ A / b ^ e) : e + n0 ≤ 512 := by
  have h1 : A / b ^ (e + (n0 - 1)) ≠ 0 := by
    rw [div_pow_add]
    exact Nat.ne_of_gt (Nat.div_pos h (Nat.pow_pos (by omega)))
  have := lt_512 hb hA h1
  omega
theorem min_add {A b e n : Nat} (hb : 2 ≤ b) (hn : 1 ≤ n) (h : b ^ (n - 1) ≤ A / b ^ e) : b ^ (e + n - 1) ≤ A := by
  rw [show e + n - 1 = n - 1 + e by omega, Nat.pow_add]
  exact (Nat.le_div_iff_mul_le (Nat.pow_pos (by omega))).mp h
theorem min_gl {A b e gl : Nat} (hb : 2 ≤ b) (hgl : 1 ≤ gl) (h : A / b ^ (e + gl) ≠ 0) : b ^ (e + gl - 1) ≤ A := by
  have h1 : b ^ (e + gl) ≤ A := by
    rcases Nat.lt_or_ge A (b ^ (e + gl)) with h2 | h2
    · exact absurd (Nat.div_eq_of_lt h2) h
    · exact h2
  exact Nat.le_trans (Nat.pow_le_pow_right (by omega) (by omega)) h1
theorem nd_of {A b e : Nat} (hb : 2 ≤ b) (h0 : A / b ^ e = 0) (he : e ≠ 0) (hm : e = 0 ∨ b ^ (e - 1) ≤ A) : isND e b A := by
  refine ⟨by omega, ?_, Or.inr (hm.resolve_left he)⟩
  rcases Nat.lt_or_ge A (b ^ e) with h | h
  · exact h
  · exact absurd h0 (Nat.ne_of_gt (Nat.div_pos h (Nat.pow_pos (by omega))))
theorem nd_1 {b : Nat} (hb : 2 ≤ b) : isND 1 b 0 := ⟨Nat.le_refl 1, by rw [Nat.pow_one]; omega, Or.inl rfl⟩
theorem tch_zero {w2 : Nat → Nat} {b e0 e : Nat} {V : Int} (hE : e0 = 0) (hV : V.natAbs = 0) (he : e < 1) : fup w2 (513 - e0 - 1) 48 (512 - e) = tch b V 1 e := by
  obtain rfl : e = 0 := by omega
  subst hE
  rw [show 512 - 0 = 513 - 0 - 1 from rfl, fup_s]
  unfold tch
  rw [if_pos he, hV, Nat.zero_div, Nat.zero_mod]
  decide
theorem RX_wf {G : gG} {b0 o : Nat} {ad : Nat → Nat} {H : Heap} {V : Nat → Int} {dv wr : Nat → Nat} {dc a c : Nat} {H1 : Heap} (e : a = c) (h : RX G b0 o ad H V dv dc wr a H1) : RX G b0 o ad H V dv dc wr c H1 := e ▸ h
