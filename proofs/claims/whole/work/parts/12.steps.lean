/-! ONE STEP OF EACH LOOP over limbs, as numbers -/
def ordP (r : Int32) (x y : Nat) : Prop := (x < y ∧ r = -1) ∨ (x = y ∧ r = 0) ∨ (y < x ∧ r = 1)
theorem vl_hi {f g : Nat → Nat} {k : Nat} : ∀ {n : Nat}, k ≤ n → (∀ j, k ≤ j → j < n → f j = g j) → vl f n + vl g k = vl g n + vl f k
  | 0, h, _ => by rw [show k = 0 by omega, Nat.add_comm]
  | n + 1, h, he => by
    by_cases hk : k = n + 1
    · rw [hk]; omega
    · have h1 := vl_hi (f := f) (g := g) (k := k) (n := n) (by omega) (fun j h1 h2 => he j h1 (by omega))
      rw [vl_succ, vl_succ, he n (by omega) (by omega)]
      omega
theorem ord_lt {f g : Nat → Nat} {q n : Nat} (hq : q + 1 ≤ n) (hf : lim f n) (he : ∀ j, q + 1 ≤ j → j < n → f j = g j) (h : f q < g q) : vl f n < vl g n := by
  have h1 := vl_top (n := q) (lim_le hf (by omega)) h
  have h2 := vl_hi (f := f) (g := g) hq he
  omega
theorem inc_step {f g : Nat → Nat} {n i : Nat} (hg : lim g n) (hi : i < n) (hv : vl g n + 4294967296 ^ i = vl f n + 1) (h : (g i + 1) % 4294967296 = 0) : vl (fup g i ((g i + 1) % 4294967296)) n + 4294967296 ^ (i + 1) = vl f n + 1 := by
  have h1 := vl_fup (f := g) ((g i + 1) % 4294967296) hi
  have h2 : g i = 4294967295 := by have := hg i hi; omega
  rw [h] at h1 ⊢
  rw [h2] at h1
  rw [Nat.pow_succ]
  omega
theorem inc_exit {f g : Nat → Nat} {n i : Nat} (hg : lim g n) (hi : i < n) (hv : vl g n + 4294967296 ^ i = vl f n + 1) (h : (g i + 1) % 4294967296 ≠ 0) : vl (fup g i ((g i + 1) % 4294967296)) n = (vl f n + 1) % 4294967296 ^ n := by
  have h1 := vl_fup (f := g) ((g i + 1) % 4294967296) hi
  have h3 := vl_lt (lim_fup (i := i) hg (Nat.mod_lt (g i + 1) (show 0 < 4294967296 by decide)))
  have h2 : (g i + 1) % 4294967296 = g i + 1 := by have := hg i hi; omega
  rw [h2] at h1 h3 ⊢
  rw [Nat.add_mul] at h1
  rw [← hv, Nat.mod_eq_of_lt (by omega)]
  omega
theorem inc_end {f g : Nat → Nat} {n : Nat} (h0 : ∀ j, j < n → g j = 0) (hv : vl g n + 4294967296 ^ n = vl f n + 1) : vl g n = (vl f n + 1) % 4294967296 ^ n := by
  rw [vl_zero_iff.mpr h0] at hv ⊢
  rw [← hv, Nat.zero_add, Nat.mod_self]
theorem dec_step {f g : Nat → Nat} {n i : Nat} (hg : lim g n) (hi : i < n) (hv : vl g n + 1 = vl f n + 4294967296 ^ i) (h : (g i + 4294967296 - 1) % 4294967296 = 4294967295) : g i = 0 ∧ vl (fup g i ((g i + 4294967296 - 1) % 4294967296)) n + 1 = vl f n + 4294967296 ^ (i + 1) := by
  have h1 := vl_fup (f := g) ((g i + 4294967296 - 1) % 4294967296) hi
  have h2 : g i = 0 := by have := hg i hi; omega
  rw [h] at h1 ⊢
  rw [h2] at h1
  rw [Nat.pow_succ]
  exact ⟨h2, by omega⟩
theorem dec_exit {f g : Nat → Nat} {n i : Nat} (hg : lim g n) (hi : i < n) (hv : vl g n + 1 = vl f n + 4294967296 ^ i) (h : (g i + 4294967296 - 1) % 4294967296 ≠ 4294967295) : vl (fup g i ((g i + 4294967296 - 1) % 4294967296)) n + 1 = vl f n := by
  have h1 := vl_fup (f := g) ((g i + 4294967296 - 1) % 4294967296) hi
  have h2 : (g i + 4294967296 - 1) % 4294967296 + 1 = g i := by have := hg i hi; omega
  have h4 := congrArg (fun z => z * 4294967296 ^ i) h2
  simp only [Nat.add_mul] at h4
  omega
theorem neg_step {f g : Nat → Nat} {i : Nat} (hf : f i < 4294967296) (hg : g i = f i) (hv : vl g i + vl f i + 1 = 4294967296 ^ i) : vl (fup g i (4294967295 - g i)) (i + 1) + vl f (i + 1) + 1 = 4294967296 ^ (i + 1) := by
  rw [vl_succ, vl_succ, vl_fup_ge g _ (Nat.le_refl i), fup_s, Nat.pow_succ, hg]
  have h4 := congrArg (fun z => z * 4294967296 ^ i) (show 4294967295 - f i + f i = 4294967295 by omega)
  simp only [Nat.add_mul] at h4
  omega
theorem add_step {A D h : Nat → Nat} {i c : Nat} (hv : vl h i + c * 4294967296 ^ i = vl A i + vl D i) : vl (fup h i ((A i + D i + c) % 4294967296)) (i + 1) + (A i + D i + c) / 4294967296 * 4294967296 ^ (i + 1) = vl A (i + 1) + vl D (i + 1) := by
  have h1 := carry_st (A i + D i + c) (4294967296 ^ i)
  rw [Nat.add_mul, Nat.add_mul] at h1
  rw [vl_succ, vl_succ, vl_succ, vl_fup_ge h _ (Nat.le_refl i), fup_s, Nat.pow_succ]
  omega
theorem sub_step1 {A D h : Nat → Nat} {i c : Nat} (hA : A i < 4294967296) (hD : D i + c ≤ 4294967296) (hc : A i < D i + c) (hv : vl h i + vl D i = vl A i + c * 4294967296 ^ i) : vl (fup h i ((A i + 4294967296 - (D i + c)) % 4294967296)) (i + 1) + vl D (i + 1) = vl A (i + 1) + 1 * 4294967296 ^ (i + 1) := by
  rw [vl_succ, vl_succ, vl_succ, vl_fup_ge h _ (Nat.le_refl i), fup_s, Nat.pow_succ]
  have h2 : (A i + 4294967296 - (D i + c)) % 4294967296 + D i + c = A i + 4294967296 := by omega
  have h4 := congrArg (fun z => z * 4294967296 ^ i) h2
  simp only [Nat.add_mul] at h4
  omega
theorem sub_step0 {A D h : Nat → Nat} {i c : Nat} (hA : A i < 4294967296) (hc : D i + c ≤ A i) (hv : vl h i + vl D i = vl A i + c * 4294967296 ^ i) : vl (fup h i ((A i + 4294967296 - (D i + c)) % 4294967296)) (i + 1) + vl D (i + 1) = vl A (i + 1) + 0 * 4294967296 ^ (i + 1) := by
  rw [vl_succ, vl_succ, vl_succ, vl_fup_ge h _ (Nat.le_refl i), fup_s, Nat.pow_succ]
  have h2 : (A i + 4294967296 - (D i + c)) % 4294967296 + D i + c = A i := by omega
  have h4 := congrArg (fun z => z * 4294967296 ^ i) h2
  simp only [Nat.add_mul] at h4
  omega
/-- row times a factor and more -/
theorem mad_step {f g : Nat → Nat} {i c x q : Nat} (hg : g i = f i) (hv : vl g i + c * 4294967296 ^ i = vl f i * x + q) : vl (fup g i ((g i * x + c) % 4294967296)) (i + 1) + (g i * x + c) / 4294967296 * 4294967296 ^ (i + 1) = vl f (i + 1) * x + q := by
  have h1 := carry_st (g i * x + c) (4294967296 ^ i)
  have h5 : f i * 4294967296 ^ i * x = f i * x * 4294967296 ^ i := by rw [Nat.mul_assoc, Nat.mul_comm (4294967296 ^ i), ← Nat.mul_assoc]
  rw [vl_succ, vl_succ, vl_fup_ge g _ (Nat.le_refl i), fup_s, Nat.pow_succ, Nat.add_mul, h5]
  rw [hg] at h1 ⊢
  rw [Nat.add_mul] at h1
  omega
theorem mul_lt_B2 {a b c d : Nat} (ha : a < 4294967296) (hb : b < 4294967296) (hc : c < 4294967296) (hd : d < 4294967296) : a * b + c + d < 18446744073709551616 := by
  have h1 : a * b ≤ 4294967295 * 4294967295 := Nat.mul_le_mul (by omega) (by omega)
  omega
theorem mul_div_B {a b c d : Nat} (ha : a < 4294967296) (hb : b < 4294967296) (hc : c < 4294967296) (hd : d < 4294967296) : (a * b + c + d) / 4294967296 < 4294967296 := by
  have := mul_lt_B2 ha hb hc hd
  omega
/-- the digits of V are the row -/
theorem vl_digits {h : Nat → Nat} {V : Nat} : ∀ {k : Nat}, (∀ i, i < k → h i = V / 4294967296 ^ i % 4294967296) → vl h k = V % 4294967296 ^ k
  | 0, _ => by simp [vl, Nat.mod_one]
  | k + 1, hd => by
    rw [vl_succ, vl_digits (k := k) (fun i hi => hd i (by omega)), hd k (by omega), Nat.pow_succ, Nat.mod_mul, Nat.mul_comm (4294967296 ^ k)]
theorem lim_digits {h : Nat → Nat} {V k : Nat} (hd : ∀ i, i < k → h i = V / 4294967296 ^ i % 4294967296) : lim h k := by
  intro i hi
  rw [hd i hi]
  exact Nat.mod_lt _ (by decide)
theorem dbs_lt {z d x : Nat} (hz : z < d) (hx : x < 4294967296) : (z * 4294967296 + x) / d < 4294967296 := by
  rw [Nat.div_lt_iff_lt_mul (by omega)]
  have h : (z + 1) * 4294967296 ≤ d * 4294967296 := Nat.mul_le_mul_right _ hz
  rw [Nat.mul_comm 4294967296 d]
  omega
theorem dbs_step {f g : Nat → Nat} {u k z d : Nat} (hk : k < u) (hg : g k = f k) (hv : vl f u + d * vl g (k + 1) = d * vl g u + z * 4294967296 ^ (k + 1) + vl f (k + 1)) :
    vl f u + d * vl (fup g k ((z * 4294967296 + g k) / d)) k = d * vl (fup g k ((z * 4294967296 + g k) / d)) u + (z * 4294967296 + g k) % d * 4294967296 ^ k + vl f k := by
  have h1 := congrArg (fun q => d * q) (vl_fup (f := g) ((z * 4294967296 + g k) / d) hk)
  have h2 := congrArg (fun q => q * 4294967296 ^ k) (Nat.div_add_mod (z * 4294967296 + g k) d)
  simp only [Nat.mul_add, Nat.add_mul] at h1 h2
  rw [vl_succ, vl_succ, Nat.mul_add, Nat.pow_succ] at hv
  rw [vl_fup_ge g _ (Nat.le_refl k)]
  rw [← hg] at hv
  have h3 : d * ((z * 4294967296 + g k) / d) * 4294967296 ^ k = d * ((z * 4294967296 + g k) / d * 4294967296 ^ k) := Nat.mul_assoc _ _ _
  have h4 : z * 4294967296 * 4294967296 ^ k = z * (4294967296 ^ k * 4294967296) := by rw [Nat.mul_assoc, Nat.mul_comm (4294967296 ^ k)]
  omega
theorem gs_le {u1 u0 v : Nat} (h0 : u0 < 4294967296) (h : u1 < v) : (u1 * 4294967296 + u0) / 2 ^ 1 / v * 2 ^ 1 * v ≤ u1 * 4294967296 + u0 := by
  rw [Nat.pow_one]
  generalize u1 * 4294967296 + u0 = x
  have h1 := Nat.div_mul_le_self (x / 2) v
  have h2 : x / 2 / v * 2 * v = 2 * (x / 2 / v * v) := by rw [Nat.mul_comm (x / 2 / v) 2, Nat.mul_assoc]
  omega
theorem gs_rem {x v : Nat} (hv : 0 < v) : x - x / 2 ^ 1 / v * 2 ^ 1 * v < 2 * v ∧ x / 2 ^ 1 / v * 2 ^ 1 * v ≤ x := by
  rw [Nat.pow_one]
  have h1 := Nat.div_add_mod (x / 2) v
  have h3 := Nat.mod_lt (x / 2) hv
  have h2 : x / 2 / v * 2 * v = 2 * (v * (x / 2 / v)) := by rw [Nat.mul_comm (x / 2 / v) 2, Nat.mul_assoc, Nat.mul_comm (x / 2 / v)]
  omega
theorem gs_lt {u1 u0 v : Nat} (h0 : u0 < 4294967296) (hv : v < 4294967296) (h : u1 < v) : u1 * 4294967296 + u0 - (u1 * 4294967296 + u0) / 2 ^ 1 / v * 2 ^ 1 * v < 8589934592 := by
  have := (gs_rem (x := u1 * 4294967296 + u0) (v := v) (by omega)).1
  omega
theorem gs_eq0 {x v : Nat} (hv : 0 < v) (h : x - x / 2 ^ 1 / v * 2 ^ 1 * v < v) : x / 2 ^ 1 / v * 2 ^ 1 = x / v := by
  have h1 := (gs_rem (x := x) hv).2
  symm
  apply Nat.div_eq_of_lt_le
  · exact h1
  · rw [Nat.add_mul, Nat.one_mul]
    omega
theorem gs_eq1 {x v : Nat} (hv : 0 < v) (h : v ≤ x - x / 2 ^ 1 / v * 2 ^ 1 * v) : x / 2 ^ 1 / v * 2 ^ 1 + 1 = x / v := by
  have h1 := gs_rem (x := x) hv
  symm
  apply Nat.div_eq_of_lt_le
  · rw [Nat.add_mul, Nat.one_mul]; omega
  · rw [Nat.add_mul, Nat.add_mul, Nat.one_mul]; omega
/-- a row seen from place p on -/
def shf (f : Nat → Nat) (p : Nat) : Nat → Nat := fun j => f (p + j)
theorem shf_fup (f : Nat → Nat) (p i x : Nat) : shf (fup f (p + i) x) p = fup (shf f p) i x := by
  funext j
  unfold shf fup
  by_cases h : j = i
  · rw [if_pos (by omega), if_pos h]
  · rw [if_neg (by omega), if_neg h]
theorem lim_shf {f : Nat → Nat} {n p k : Nat} (h : lim f n) (hk : p + k ≤ n) : lim (shf f p) k := fun j hj => h (p + j) (by omega)
/-- product taken off: the low limb of the product is x, the difference is masked -/
theorem sp_step1 {u v h : Nat → Nat} {i c q : Nat} (hu : u i < 4294967296) (hc : u i < (v i * q + c) % 4294967296) (hv : vl h i + q * vl v i = vl u i + c * 4294967296 ^ i) : vl (fup h i ((u i + 4294967296 - (v i * q + c) % 4294967296) % 4294967296)) (i + 1) + q * vl v (i + 1) = vl u (i + 1) + ((v i * q + c) / 4294967296 + 1) * 4294967296 ^ (i + 1) := by
  have hx : (v i * q + c) % 4294967296 < 4294967296 := Nat.mod_lt _ (by decide)
  have h2 : (u i + 4294967296 - (v i * q + c) % 4294967296) % 4294967296 + (v i * q + c) % 4294967296 = u i + 4294967296 := by omega
  have h4 := congrArg (fun z => z * 4294967296 ^ i) h2
  have h1 := carry_st (v i * q + c) (4294967296 ^ i)
  have h5 : q * (v i * 4294967296 ^ i) = v i * q * 4294967296 ^ i := by rw [← Nat.mul_assoc, Nat.mul_comm q]
  simp only [Nat.add_mul] at h4 h1
  rw [vl_succ, vl_succ, vl_succ, vl_fup_ge h _ (Nat.le_refl i), fup_s, Nat.pow_succ, Nat.mul_add, Nat.add_mul, Nat.one_mul, h5]
  omega
theorem sp_step0 {u v h : Nat → Nat} {i c q : Nat} (hu : u i < 4294967296) (hc : (v i * q + c) % 4294967296 ≤ u i) (hv : vl h i + q * vl v i = vl u i + c * 4294967296 ^ i) : vl (fup h i ((u i + 4294967296 - (v i * q + c) % 4294967296) % 4294967296)) (i + 1) + q * vl v (i + 1) = vl u (i + 1) + ((v i * q + c) / 4294967296 + 0) * 4294967296 ^ (i + 1) := by
  have hx : (v i * q + c) % 4294967296 < 4294967296 := Nat.mod_lt _ (by decide)
  have h2 : (u i + 4294967296 - (v i * q + c) % 4294967296) % 4294967296 + (v i * q + c) % 4294967296 = u i := by omega
  have h4 := congrArg (fun z => z * 4294967296 ^ i) h2
  have h1 := carry_st (v i * q + c) (4294967296 ^ i)
  have h5 : q * (v i * 4294967296 ^ i) = v i * q * 4294967296 ^ i := by rw [← Nat.mul_assoc, Nat.mul_comm q]
  simp only [Nat.add_mul] at h4 h1
  rw [Nat.add_zero ((v i * q + c) / 4294967296), vl_succ, vl_succ, vl_succ, vl_fup_ge h _ (Nat.le_refl i), fup_s, Nat.pow_succ, Nat.mul_add, h5]
  omega
theorem sp_end1 {u h : Nat → Nat} {i c Y : Nat} (hu : u i < 4294967296) (hcB : c ≤ 4294967296) (hc : u i < c) (hv : vl h i + Y = vl u i + c * 4294967296 ^ i) : vl (fup h i ((u i + 4294967296 - c) % 4294967296)) (i + 1) + Y = vl u (i + 1) + 4294967296 ^ (i + 1) := by
  have h2 : (u i + 4294967296 - c) % 4294967296 + c = u i + 4294967296 := by omega
  have h4 := congrArg (fun z => z * 4294967296 ^ i) h2
  simp only [Nat.add_mul] at h4
  rw [vl_succ, vl_succ, vl_fup_ge h _ (Nat.le_refl i), fup_s, Nat.pow_succ]
  omega
theorem sp_end0 {u h : Nat → Nat} {i c Y : Nat} (hu : u i < 4294967296) (hc : c ≤ u i) (hv : vl h i + Y = vl u i + c * 4294967296 ^ i) : vl (fup h i ((u i + 4294967296 - c) % 4294967296)) (i + 1) + Y = vl u (i + 1) := by
  have h2 : (u i + 4294967296 - c) % 4294967296 + c = u i := by omega
  have h4 := congrArg (fun z => z * 4294967296 ^ i) h2
  simp only [Nat.add_mul] at h4
  rw [vl_succ, vl_succ, vl_fup_ge h _ (Nat.le_refl i), fup_s]
  omega
theorem sp_lt {v q c : Nat} (hv : v < 4294967296) (hq : q < 4294967296) (hc : c ≤ 4294967296) : v * q + c < 18446744073709551616 ∧ (v * q + c) / 4294967296 < 4294967296 := by
  have h1 : v * q ≤ 4294967295 * 4294967295 := Nat.mul_le_mul (by omega) (by omega)
  omega
theorem knuth {u v : Nat → Nat} {m : Nat} (hm : 1 ≤ m) (hu : lim u (m + 1)) (hv : lim v m) (ht : 2147483648 ≤ v (m - 1)) (hlt : vl u (m + 1) < vl v m * 4294967296) {qh : Nat} (hq : qh = if v (m - 1) ≤ u m then 4294967295 else (u m * 4294967296 + u (m - 1)) / v (m - 1)) :
    qh < 4294967296 ∧ vl u (m + 1) / vl v m ≤ qh ∧ qh ≤ vl u (m + 1) / vl v m + 2 := by
  obtain ⟨k, rfl⟩ : ∃ k, m = k + 1 := ⟨m - 1, by omega⟩
  rw [Nat.add_sub_cancel] at ht hq
  have hP := powB_pos k
  have hL := vl_lt (lim_le hu (show k ≤ k + 1 + 1 by omega))
  have hL2 := vl_lt (lim_le hv (show k ≤ k + 1 by omega))
  have hU : vl u (k + 1 + 1) = vl u k + (u (k + 1) * 4294967296 + u k) * 4294967296 ^ k := by
    rw [vl_succ, vl_succ, Nat.pow_succ, Nat.add_mul, Nat.mul_assoc, Nat.mul_comm 4294967296]
    omega
  have hV : vl v (k + 1) = vl v k + v k * 4294967296 ^ k := vl_succ v k
  have hVpos : 0 < vl v (k + 1) := by
    have : 1 * 4294967296 ^ k ≤ v k * 4294967296 ^ k := Nat.mul_le_mul_right _ (by omega)
    omega
  have hqB : qh < 4294967296 := by
    rw [hq]
    split
    · decide
    · next h => exact dbs_lt (by omega) (hu k (by omega))
  have hqv : qh * v k ≤ u (k + 1) * 4294967296 + u k := by
    rw [hq]
    split
    · next h =>
      have h1 : 4294967295 * v k ≤ 4294967295 * u (k + 1) := Nat.mul_le_mul_left _ h
      omega
    · exact Nat.div_mul_le_self _ _
  refine ⟨hqB, ?_, ?_⟩
  · apply Nat.le_of_lt_succ
    rw [Nat.div_lt_iff_lt_mul hVpos]
    by_cases h : v k ≤ u (k + 1)
    · rw [if_pos h] at hq
      rw [hq, Nat.mul_comm]
      exact hlt
    · rw [if_neg h] at hq
      have h1 : u (k + 1) * 4294967296 + u k < v k * (qh + 1) := by
        rw [hq]; exact Nat.lt_mul_div_succ _ (by omega)
      have h2 : (u (k + 1) * 4294967296 + u k + 1) * 4294967296 ^ k ≤ v k * (qh + 1) * 4294967296 ^ k := Nat.mul_le_mul_right _ h1
      have h3 : v k * (qh + 1) * 4294967296 ^ k ≤ (qh + 1) * vl v (k + 1) := by
        rw [hV, Nat.mul_add (qh + 1), Nat.mul_comm (v k), Nat.mul_assoc]
        omega
      rw [Nat.add_mul, Nat.one_mul] at h2
      show vl u (k + 1 + 1) < (qh + 1) * vl v (k + 1)
      omega
  · rw [← Nat.not_lt]
    intro hbad
    have h5 := Nat.lt_mul_div_succ (vl u (k + 1 + 1)) hVpos
    generalize hqq : vl u (k + 1 + 1) / vl v (k + 1) = q at hbad h5
    have h6 : (q + 3) * vl v (k + 1) ≤ qh * vl v (k + 1) := Nat.mul_le_mul_right _ (by omega)
    have h1 : qh * vl v (k + 1) = qh * vl v k + qh * v k * 4294967296 ^ k := by rw [hV, Nat.mul_add, Nat.mul_assoc]
    have h2 : qh * v k * 4294967296 ^ k ≤ (u (k + 1) * 4294967296 + u k) * 4294967296 ^ k := Nat.mul_le_mul_right _ hqv
    have h3 : qh * vl v k ≤ 4294967295 * 4294967296 ^ k := Nat.mul_le_mul (by omega) (by omega)
    have h7 : 2147483648 * 4294967296 ^ k ≤ v k * 4294967296 ^ k := Nat.mul_le_mul_right _ ht
    rw [Nat.add_mul] at h6
    rw [Nat.mul_add, Nat.mul_one, Nat.mul_comm (vl v (k + 1)) q] at h5
    omega
theorem ab_end1 {u h : Nat → Nat} {i c Y : Nat} (hu : u i < 4294967296) (hcB : c ≤ 1) (hc : 4294967295 < u i + c) (hv : vl h i + c * 4294967296 ^ i = vl u i + Y) : vl (fup h i ((u i + c) % 4294967296)) (i + 1) + 4294967296 ^ (i + 1) = vl u (i + 1) + Y := by
  have h2 : (u i + c) % 4294967296 + 4294967296 = u i + c := by omega
  have h4 := congrArg (fun z => z * 4294967296 ^ i) h2
  simp only [Nat.add_mul] at h4
  rw [vl_succ, vl_succ, vl_fup_ge h _ (Nat.le_refl i), fup_s, Nat.pow_succ]
  omega
theorem ab_end0 {u h : Nat → Nat} {i c Y : Nat} (hc : u i + c ≤ 4294967295) (hv : vl h i + c * 4294967296 ^ i = vl u i + Y) : vl (fup h i ((u i + c) % 4294967296)) (i + 1) = vl u (i + 1) + Y := by
  have h2 : (u i + c) % 4294967296 = u i + c := by omega
  have h4 := congrArg (fun z => z * 4294967296 ^ i) h2
  simp only [Nat.add_mul] at h4
  rw [vl_succ, vl_succ, vl_fup_ge h _ (Nat.le_refl i), fup_s]
  omega
theorem to_done {U V q U' : Nat} (hV : 0 < V) (h : U' + q * V = U) (hq : U / V ≤ q) : q = U / V ∧ U' = U % V := by
  have h1 : q ≤ U / V := (Nat.le_div_iff_mul_le hV).mpr (by omega)
  have h2 : q = U / V := by omega
  refine ⟨h2, ?_⟩
  have h3 := Nat.div_add_mod U V
  rw [← h2, Nat.mul_comm] at h3
  omega
theorem to_le {U V q : Nat} (hV : 0 < V) (h : U < q * V) : U / V + 1 ≤ q := (Nat.div_lt_iff_lt_mul hV).mpr h
theorem to_back {U V q U1 U2 T : Nat} (h : U1 + q * V = U + T) (h2 : U2 + T = U1 + V) (hq : 1 ≤ q) : U2 + (q - 1) * V = U := by
  obtain ⟨k, rfl⟩ : ∃ k, q = k + 1 := ⟨q - 1, by omega⟩
  rw [Nat.add_mul, Nat.one_mul] at h
  rw [Nat.add_sub_cancel]
  omega
theorem to_more {U V q U1 U2 T : Nat} (h : U1 + q * V = U + T) (h2 : U2 = U1 + V) (hq : 1 ≤ q) : U2 + (q - 1) * V = U + T := by
  obtain ⟨k, rfl⟩ : ∃ k, q = k + 1 := ⟨q - 1, by omega⟩
  rw [Nat.add_mul, Nat.one_mul] at h
  rw [Nat.add_sub_cancel]
  omega
theorem vl_getL {f : Nat → Nat} {n : Nat} (hf : lim f n) (j : Nat) : vl f n / 4294967296 ^ j % 4294967296 = lat n f j := by
  by_cases hj : j < n
  · rw [lat_lt hj, vl_get hf hj]
  · rw [lat_ge (by omega), Nat.div_eq_of_lt (Nat.lt_of_lt_of_le (vl_lt hf) (Nat.pow_le_pow_right (by decide) (by omega)))]
theorem B_pow2 {p : Nat} (hp : p ≤ 32) : 4294967296 = 2 ^ (32 - p) * 2 ^ p := by
  rw [← Nat.pow_add, show 32 - p + p = 32 by omega]
theorem two_s (s : Nat) : 2 ^ s = 4294967296 ^ (s / 32) * 2 ^ (s % 32) := by
  rw [show 4294967296 = 2 ^ 32 from rfl, ← Nat.pow_mul, ← Nat.pow_add, Nat.div_add_mod]
/-- one limb of a row moved up -/
theorem up_limb {f : Nat → Nat} {n : Nat} (hf : lim f n) (s i : Nat) : vl f n * 2 ^ s / 4294967296 ^ i % 4294967296 = (latI n f ((i : Int) - ((s / 32 : Nat) : Int)) * 2 ^ (s % 32) + latI n f ((i : Int) - ((s / 32 : Nat) : Int) - 1) / 2 ^ (32 - s % 32)) % 4294967296 := by
  have hp : s % 32 < 32 := Nat.mod_lt _ (by decide)
  rw [two_s s]
  generalize s / 32 = L at *
  generalize s % 32 = p at *
  rw [Nat.mul_comm (4294967296 ^ L), ← Nat.mul_assoc]
  by_cases hi : i < L
  · rw [latI_neg n f (by omega), latI_neg n f (by omega), Nat.zero_mul, Nat.zero_div]
    rw [show L = i + (L - i - 1 + 1) by omega, Nat.pow_add, Nat.mul_comm (4294967296 ^ i), ← Nat.mul_assoc, Nat.mul_div_cancel _ (powB_pos i), Nat.pow_succ, ← Nat.mul_assoc, Nat.mul_mod_left]
  · obtain ⟨t, rfl⟩ : ∃ t, i = L + t := ⟨i - L, by omega⟩
    rw [Nat.pow_add, ← Nat.div_div_eq_div_mul, Nat.mul_div_cancel _ (powB_pos L)]
    rw [show ((L + t : Nat) : Int) - (L : Int) = (t : Int) by omega, latI_nat]
    cases t with
    | zero =>
      rw [latI_neg n f (by omega), Nat.zero_div, Nat.add_zero, Nat.pow_zero, Nat.div_one, Nat.mul_mod, ← vl_getL hf 0, Nat.pow_zero, Nat.div_one]
      conv => rhs; rw [Nat.mul_mod]
      rw [Nat.mod_mod]
    | succ t =>
      rw [show ((t + 1 : Nat) : Int) - 1 = (t : Int) by omega, latI_nat]
      have h1 : vl f n * 2 ^ p / 4294967296 ^ (t + 1) = vl f n / 4294967296 ^ t / 2 ^ (32 - p) := by
        rw [Nat.pow_succ]
        conv => lhs; rw [show 4294967296 ^ t * 4294967296 = 4294967296 ^ t * (2 ^ (32 - p) * 2 ^ p) from congrArg (fun z => 4294967296 ^ t * z) (B_pow2 (by omega))]
        rw [← Nat.mul_assoc, Nat.mul_div_mul_right _ _ (Nat.pow_pos (by decide)), Nat.div_div_eq_div_mul]
      rw [h1]
      have h2 := vl_getL hf t
      have h3 := vl_getL hf (t + 1)
      rw [Nat.pow_succ, ← Nat.div_div_eq_div_mul] at h3
      generalize vl f n / 4294967296 ^ t = w at h2 h3 ⊢
      rw [← h2, ← h3]
      have h4 : w / 2 ^ (32 - p) = w % 4294967296 / 2 ^ (32 - p) + 2 ^ p * (w / 4294967296) := by
        conv => lhs; rw [← Nat.mod_add_div w 4294967296]
        conv => lhs; rw [show 4294967296 * (w / 4294967296) = 2 ^ (32 - p) * (2 ^ p * (w / 4294967296)) by rw [← Nat.mul_assoc, ← B_pow2 (by omega)]]
        rw [Nat.add_mul_div_left _ _ (Nat.pow_pos (by decide))]
      rw [h4, Nat.add_comm, Nat.add_mod, Nat.mul_comm (2 ^ p), Nat.mul_mod]
      conv => rhs; rw [Nat.add_mod, Nat.mul_mod, Nat.mod_mod]
theorem dn_limb {f : Nat → Nat} {n : Nat} (hf : lim f n) (s i : Nat) : vl f n / 2 ^ s / 4294967296 ^ i % 4294967296 = (lat n f (i + s / 32 + 1) * 2 ^ (32 - s % 32) + lat n f (i + s / 32) / 2 ^ (s % 32)) % 4294967296 := by
  have hp : s % 32 < 32 := Nat.mod_lt _ (by decide)
  rw [two_s s]
  generalize s / 32 = L at *
  generalize s % 32 = p at *
  have h1 : vl f n / (4294967296 ^ L * 2 ^ p) / 4294967296 ^ i = vl f n / 4294967296 ^ (i + L) / 2 ^ p := by
    rw [Nat.div_div_eq_div_mul, Nat.div_div_eq_div_mul, Nat.pow_add]
    congr 1
    rw [Nat.mul_comm (4294967296 ^ i), Nat.mul_assoc, Nat.mul_assoc, Nat.mul_comm (2 ^ p)]
  rw [h1]
  have h2 := vl_getL hf (i + L)
  have h3 := vl_getL hf (i + L + 1)
  rw [Nat.pow_succ, ← Nat.div_div_eq_div_mul] at h3
  generalize vl f n / 4294967296 ^ (i + L) = w at h2 h3 ⊢
  rw [← h2, ← h3]
  have h4 : w / 2 ^ p = w % 4294967296 / 2 ^ p + 2 ^ (32 - p) * (w / 4294967296) := by
    conv => lhs; rw [← Nat.mod_add_div w 4294967296]
    conv => lhs; rw [show 4294967296 * (w / 4294967296) = 2 ^ p * (2 ^ (32 - p) * (w / 4294967296)) by rw [← Nat.mul_assoc, Nat.mul_comm (2 ^ p), ← B_pow2 (by omega)]]
    rw [Nat.add_mul_div_left _ _ (Nat.pow_pos (by decide))]
  rw [h4, Nat.add_comm, Nat.add_mod, Nat.mul_comm (2 ^ (32 - p)), Nat.mul_mod]
  conv => rhs; rw [Nat.add_mod, Nat.mul_mod, Nat.mod_mod]
/-- parts that do not overlap: 'or' is a sum -/
theorem or_sum {a b p : Nat} (hb : b < 2 ^ p) : a * 2 ^ p ||| b = a * 2 ^ p + b := by
  rw [Nat.mul_comm, Nat.two_pow_add_eq_or_of_lt hb]
theorem div_lt_pow {x p : Nat} (hx : x < 4294967296) (hp : p ≤ 32) : x / 2 ^ (32 - p) < 2 ^ p := by
  rw [Nat.div_lt_iff_lt_mul (Nat.pow_pos (by decide)), Nat.mul_comm, ← B_pow2 hp]
  exact hx
theorem div_lt_pow2 {x p : Nat} (hx : x < 4294967296) (hp : p ≤ 32) : x / 2 ^ p < 2 ^ (32 - p) := by
  rw [Nat.div_lt_iff_lt_mul (Nat.pow_pos (by decide)), ← B_pow2 hp]
  exact hx
theorem mul_pow_lt {x p : Nat} (hx : x < 4294967296) (hp : p ≤ 32) : x * 2 ^ p < 18446744073709551616 := by
  have h1 : 2 ^ p ≤ 2 ^ 32 := Nat.pow_le_pow_right (by decide) hp
  have h2 : x * 2 ^ p ≤ 4294967295 * 2 ^ 32 := Nat.mul_le_mul (by omega) h1
  omega
/-- one column of a product -/
theorem mul_step {f g t : Nat → Nat} {i j c bu Z : Nat} (hij : i + j < 32) (hv : vl t 32 + c * 4294967296 ^ (i + j) = Z + f i * 4294967296 ^ i * vl g j) :
    vl (fup t (i + j) ((f i * g j + t (i + j) + c) % 4294967296)) 32 + (f i * g j + t (i + j) + c) / 4294967296 * 4294967296 ^ (i + (j + 1)) = Z + f i * 4294967296 ^ i * vl g (j + 1) := by
  have h1 := carry_st (f i * g j + t (i + j) + c) (4294967296 ^ (i + j))
  have h2 := vl_fup (f := t) ((f i * g j + t (i + j) + c) % 4294967296) hij
  have h3 : f i * 4294967296 ^ i * (g j * 4294967296 ^ j) = f i * g j * 4294967296 ^ (i + j) := by
    rw [Nat.pow_add, Nat.mul_assoc, Nat.mul_assoc, Nat.mul_left_comm (4294967296 ^ i)]
  simp only [Nat.add_mul] at h1
  rw [vl_succ g j, Nat.mul_add, h3, ← Nat.add_assoc i j 1, Nat.pow_succ]
  omega
theorem mul_row {f g t : Nat → Nat} {i bu c : Nat} (hib : i + bu < 32) (h0 : t (i + bu) = 0) (hv : vl t 32 + c * 4294967296 ^ (i + bu) = vl f i * vl g bu + f i * 4294967296 ^ i * vl g bu) : vl (fup t (i + bu) c) 32 = vl f (i + 1) * vl g bu := by
  have h2 := vl_fup (f := t) c hib
  rw [h0] at h2
  rw [vl_succ f i, Nat.add_mul]
  omega
theorem sub1_toInt {a b : Nat} (ha : a < 2 ^ 29) (hb : b < 2 ^ 29) : (nI a - nI b - nI 1).toInt = (a : Int) - b - 1 := by
  have h : nI a - nI b - nI 1 = nI a - nI (b + 1) := by rw [← nI_add]; grind
  rw [h, pk_sub_toInt (by omega) (by omega)]
  omega
