/-! BITS, one by one -/
theorem bop_dv (op a b k : Nat) : bop op a b / 2 ^ k = bop op (a / 2 ^ k) (b / 2 ^ k) := by
  unfold bop
  (repeat' split) <;> simp only [Nat.and_div_two_pow, Nat.or_div_two_pow, Nat.xor_div_two_pow]
theorem bop_md (op a b k : Nat) : bop op a b % 2 ^ k = bop op (a % 2 ^ k) (b % 2 ^ k) := by
  unfold bop
  (repeat' split) <;> simp only [Nat.and_mod_two_pow, Nat.or_mod_two_pow, Nat.xor_mod_two_pow]
theorem bop_b (op a b k : Nat) : bop op a b / 2 ^ k % 2 = bop op (a / 2 ^ k % 2) (b / 2 ^ k % 2) := by
  have h := bop_md op (a / 2 ^ k) (b / 2 ^ k) 1
  rw [Nat.pow_one] at h
  rw [bop_dv, h]
theorem bw5 {op x y : Nat} (h : op = 5) (hx : x ≤ 1) (hy : y ≤ 1) : nI x &&& nI y = nI (bop op x y) := by
  subst h
  rcases (show x = 0 ∨ x = 1 by omega) with rfl | rfl <;> rcases (show y = 0 ∨ y = 1 by omega) with rfl | rfl <;> decide
theorem bw6 {op x y : Nat} (h : op = 6) (hx : x ≤ 1) (hy : y ≤ 1) : nI x ||| nI y = nI (bop op x y) := by
  subst h
  rcases (show x = 0 ∨ x = 1 by omega) with rfl | rfl <;> rcases (show y = 0 ∨ y = 1 by omega) with rfl | rfl <;> decide
theorem bw7 {op x y : Nat} (h : op = 7) (hx : x ≤ 1) (hy : y ≤ 1) : nI x ^^^ nI y = nI (bop op x y) := by
  subst h
  rcases (show x = 0 ∨ x = 1 by omega) with rfl | rfl <;> rcases (show y = 0 ∨ y = 1 by omega) with rfl | rfl <;> decide
theorem bw8 {op x y : Nat} (h : op = 8) (hx : x ≤ 1) (hy : y ≤ 1) : nI x &&& nI (1 - y) = nI (bop op x y) := by
  subst h
  rcases (show x = 0 ∨ x = 1 by omega) with rfl | rfl <;> rcases (show y = 0 ∨ y = 1 by omega) with rfl | rfl <;> decide
theorem ishr1 {a : Nat} (h : a ≤ 2) : nI a >>> (nI 1 &&& 31) = nI (a / 2) := by
  rcases (show a = 0 ∨ a = 1 ∨ a = 2 by omega) with rfl | rfl | rfl <;> decide
theorem iand1 {a : Nat} (h : a ≤ 2) : nI a &&& nI 1 = nI (a % 2) := by
  rcases (show a = 0 ∨ a = 1 ∨ a = 2 by omega) with rfl | rfl | rfl <;> decide
theorem p514 : 2 ^ 514 = 4 * 2 ^ 512 := by decide +kernel
theorem p513 : 2 ^ 513 = 2 * 2 ^ 512 := by decide +kernel
theorem p544b : 2 ^ 544 = 4294967296 * 2 ^ 512 := by decide +kernel
theorem p543b : 2 ^ 543 = 2147483648 * 2 ^ 512 := by decide +kernel
theorem tc_514 {b A : Nat} (hb : b ≤ 1) (hA : A < 2 ^ 512) (hz : b = 1 → A ≠ 0) : tcN 514 (sg b A) = if b = 1 then 2 ^ 514 - A else A := by
  have h := p514
  unfold tcN
  by_cases e : b = 1
  · have hz := hz e
    rw [if_pos e, e, sg_1]
    generalize 2 ^ 514 = P at *
    generalize 2 ^ 512 = Q at *
    have h1 : (-(A : Int)) % (P : Int) = ((P - A : Nat) : Int) := by
      apply (Int.ediv_emod_unique (a := -(A : Int)) (b := (P : Int)) (r := ((P - A : Nat) : Int)) (q := -1) (by omega)).mpr ?_ |>.2
      refine ⟨?_, by omega, by omega⟩
      rw [Int.mul_neg, Int.mul_one]
      omega
    rw [h1]
    omega
  · rw [if_neg e, show b = 0 by omega, sg_0]
    generalize 2 ^ 514 = P at *
    generalize 2 ^ 512 = Q at *
    have h1 : ((A : Int)) % (P : Int) = (A : Int) := Int.emod_eq_of_lt (by omega) (by omega)
    rw [h1]
    omega
/-- a number of 512 bits with bits of its sign in front: what lies above, what lies below -/
theorem tc_up {b A K : Nat} (hb : b ≤ 1) (hA : A < 2 ^ 512) (hz : b = 1 → A ≠ 0) (hK : 1 ≤ K) {T : Nat} (hT : T = if b = 1 then K * 2 ^ 512 - A else A) : T / 2 ^ 512 = (if b = 1 then K - 1 else 0) ∧ T % 2 ^ 512 = if b = 1 then 2 ^ 512 - A else A := by
  generalize 2 ^ 512 = Q at *
  by_cases e : b = 1
  · have hz := hz e
    rw [if_pos e] at hT ⊢
    rw [if_pos e]
    obtain ⟨k, rfl⟩ : ∃ k, K = k + 1 := ⟨K - 1, by omega⟩
    rw [Nat.add_mul, Nat.one_mul] at hT
    have h1 : T = Q * k + (Q - A) := by rw [Nat.mul_comm Q k]; generalize k * Q = z at *; omega
    obtain ⟨h2, h3⟩ := div_uq h1 (by omega)
    exact ⟨by rw [← h2]; omega, h3.symm⟩
  · rw [if_neg e] at hT ⊢
    rw [if_neg e]
    subst hT
    exact ⟨Nat.div_eq_of_lt hA, Nat.mod_eq_of_lt hA⟩
theorem bop_tops {op b c : Nat} (hb : b ≤ 1) (hc : c ≤ 1) : (bop op (if b = 1 then 4294967296 - 1 else 0) (if c = 1 then 4294967296 - 1 else 0) = 0 ∧ bop op (if b = 1 then 4 - 1 else 0) (if c = 1 then 4 - 1 else 0) = 0) ∨ (bop op (if b = 1 then 4294967296 - 1 else 0) (if c = 1 then 4294967296 - 1 else 0) = 4294967295 ∧ bop op (if b = 1 then 4 - 1 else 0) (if c = 1 then 4 - 1 else 0) = 3) := by
  rcases (show b = 0 ∨ b = 1 by omega) with rfl | rfl <;> rcases (show c = 0 ∨ c = 1 by omega) with rfl | rfl <;> unfold bop <;> (repeat' split) <;> first | exact Or.inl (by decide) | exact Or.inr (by decide) | contradiction
/-- bits of two numbers put together: 514 of them are enough -/
theorem bt_eq {op b c A D : Nat} (hb : b ≤ 1) (hA : A < 2 ^ 512) (hz : b = 1 → A ≠ 0) (hc : c ≤ 1) (hD : D < 2 ^ 512) (hz2 : c = 1 → D ≠ 0) : btI 514 op (sg b A) (sg c D) = btI 544 op (sg b A) (sg c D) := by
  have t1 := tc_544 hb hA
  have t2 := tc_544 hc hD
  have t3 := tc_514 hb hA hz
  have t4 := tc_514 hc hD hz2
  have m544 : ∀ {b A : Nat}, A < 2 ^ 512 → (b = 1 → A ≠ 0) → (if b = 1 then (2 ^ 544 - A) % 2 ^ 544 else A) = if b = 1 then 4294967296 * 2 ^ 512 - A else A := by
    intro b A hA hz
    have h := p544b
    generalize 2 ^ 544 = P at *
    generalize 2 ^ 512 = Q at *
    by_cases e : b = 1
    · have := hz e
      rw [if_pos e, if_pos e, Nat.mod_eq_of_lt (by omega), h]
    · rw [if_neg e, if_neg e]
  rw [m544 hA hz] at t1
  rw [m544 hD hz2] at t2
  rw [p514] at t3 t4
  obtain ⟨u1, v1⟩ := tc_up hb hA hz (by decide) t1
  obtain ⟨u2, v2⟩ := tc_up hc hD hz2 (by decide) t2
  obtain ⟨u3, v3⟩ := tc_up hb hA hz (by decide) t3
  obtain ⟨u4, v4⟩ := tc_up hc hD hz2 (by decide) t4
  have d1 := bop_dv op (tcN 544 (sg b A)) (tcN 544 (sg c D)) 512
  have d2 := bop_dv op (tcN 514 (sg b A)) (tcN 514 (sg c D)) 512
  have e1 := bop_md op (tcN 544 (sg b A)) (tcN 544 (sg c D)) 512
  have e2 := bop_md op (tcN 514 (sg b A)) (tcN 514 (sg c D)) 512
  rw [u1, u2] at d1
  rw [u3, u4] at d2
  rw [v1, v2] at e1
  rw [v3, v4] at e2
  unfold btI fromN
  have h1 := p514
  have h2 := p513
  have h3 := p544b
  have h4 := p543b
  generalize bop op (tcN 544 (sg b A)) (tcN 544 (sg c D)) = X at *
  generalize bop op (tcN 514 (sg b A)) (tcN 514 (sg c D)) = Y at *
  rw [show (514 - 1 : Nat) = 513 from rfl, show (544 - 1 : Nat) = 543 from rfl, h1, h2, h3, h4]
  have f1 := Nat.div_add_mod X (2 ^ 512)
  have f2 := Nat.div_add_mod Y (2 ^ 512)
  have g1 := Nat.mod_lt X (show 0 < 2 ^ 512 from Nat.pow_pos (by decide))
  rw [← e1] at e2
  rw [e2] at f2
  rw [d1] at f1
  rw [d2] at f2
  generalize X % 2 ^ 512 = m at *
  clear t1 t2 t3 t4 u1 u2 u3 u4 v1 v2 v3 v4 d1 d2 e1 e2 h1 h2 h3 h4 m544
  generalize 2 ^ 512 = Q at *
  rcases bop_tops (op := op) hb hc with ⟨w1, w2⟩ | ⟨w1, w2⟩ <;> rw [w1] at f1 <;> rw [w2] at f2
  · rw [Nat.mul_zero] at f1 f2
    rw [if_pos (by omega), if_pos (by omega)]
    omega
  · rw [if_neg (by omega), if_neg (by omega)]
    omega
theorem cpl_dv {A n i : Nat} (hA : A < 2 ^ n) (hi : i ≤ n) : (2 ^ n - 1 - A) / 2 ^ i = 2 ^ (n - i) - 1 - A / 2 ^ i := by
  have hP : 0 < 2 ^ i := Nat.pow_pos (by decide)
  have e : 2 ^ n = 2 ^ i * 2 ^ (n - i) := by rw [← Nat.pow_add]; congr 1; omega
  have h1 := Nat.div_add_mod A (2 ^ i)
  have h2 := Nat.mod_lt A hP
  have h3 : A / 2 ^ i < 2 ^ (n - i) := by
    apply Nat.div_lt_of_lt_mul
    rw [← e]; exact hA
  rw [e]
  generalize A % 2 ^ i = r at *
  generalize A / 2 ^ i = a at *
  generalize 2 ^ i = P at *
  obtain ⟨d, hd⟩ : ∃ d, 2 ^ (n - i) = a + 1 + d := ⟨2 ^ (n - i) - (a + 1), by omega⟩
  rw [hd]
  have h4 : P * (a + 1 + d) - 1 - A = P * d + (P - 1 - r) := by
    rw [Nat.mul_add, Nat.mul_add, Nat.mul_one]
    generalize P * a = u at *
    generalize P * d = v at *
    omega
  rw [h4, Nat.mul_add_div hP, Nat.div_eq_of_lt (by omega)]
  omega
theorem cpl_b {A n i : Nat} (hA : A < 2 ^ n) (hi : i < n) : (2 ^ n - 1 - A) / 2 ^ i % 2 = 1 - A / 2 ^ i % 2 := by
  rw [cpl_dv hA (by omega)]
  have h3 : A / 2 ^ i < 2 ^ (n - i) := by
    apply Nat.div_lt_of_lt_mul
    rw [← Nat.pow_add, show i + (n - i) = n by omega]; exact hA
  obtain ⟨k, hk⟩ : ∃ k, n - i = k + 1 := ⟨n - i - 1, by omega⟩
  rw [hk, Nat.pow_succ] at h3 ⊢
  generalize 2 ^ k = K at *
  generalize A / 2 ^ i = a at *
  omega
/-- bits of the two's complement: the carry behind i bits -/
theorem tcb_step {E D i c : Nat} (h : D / 2 ^ i = E / 2 ^ i + c) : D / 2 ^ (i + 1) = E / 2 ^ (i + 1) + (E / 2 ^ i % 2 + c) / 2 ∧ D / 2 ^ i % 2 = (E / 2 ^ i % 2 + c) % 2 := by
  have h1 := dv2 D i
  have h2 := dv2 E i
  generalize D / 2 ^ i = x at *
  generalize E / 2 ^ i = y at *
  generalize D / 2 ^ (i + 1) = x' at *
  generalize E / 2 ^ (i + 1) = y' at *
  omega
theorem shr_bit {A i r z : Nat} (h : A / 2 ^ i = 2 * r + z) (hz : z < 2) : r = A / 2 ^ (i + 1) ∧ z = A / 2 ^ i % 2 := by
  have := dv2 A i
  omega
theorem fromN_0 {c : Nat} (hc : c < 2 ^ 514) (h : c / 2 ^ 513 % 2 ≠ 1) : (c : Int) = fromN 514 c := by
  have h1 : c / 2 ^ 513 < 2 := Nat.div_lt_of_lt_mul (by rw [← Nat.pow_succ]; exact hc)
  have h2 : c / 2 ^ 513 = 0 := by omega
  have h3 : c < 2 ^ 513 := by
    rcases Nat.lt_or_ge c (2 ^ 513) with h3 | h3
    · exact h3
    · exact absurd (Nat.div_pos h3 (Nat.pow_pos (by decide))) (by omega)
  unfold fromN
  rw [show (514 - 1 : Nat) = 513 from rfl, if_pos h3]
theorem fromN_1 {c : Nat} (hc : c < 2 ^ 514) (h : c / 2 ^ 513 % 2 = 1) : sg 1 (2 ^ 514 - 1 - c + 1) = fromN 514 c := by
  have h3 : ¬ c < 2 ^ 513 := fun h3 => by rw [Nat.div_eq_of_lt h3] at h; omega
  unfold fromN
  rw [show (514 - 1 : Nat) = 513 from rfl, if_neg h3, sg_1]
  generalize 2 ^ 514 = P at *
  omega
theorem p514a : 2 ^ 514 + 2 < 1000 * 2 ^ 512 := by decide +kernel
theorem p514l : 2 ^ 512 < 2 ^ 514 := by decide +kernel
theorem tc_lt {b A : Nat} (hb : b ≤ 1) (hA : A < 2 ^ 512) (hz : b = 1 → A ≠ 0) : tcN 514 (sg b A) < 2 ^ 514 := by
  have h := p514
  rw [tc_514 hb hA hz]
  generalize 2 ^ 514 = P at *
  generalize 2 ^ 512 = Q at *
  split
  · rename_i e
    have := hz e
    omega
  · omega
