/-! DECIMAL ROWS of the reference: dl f n is the number of the first n digits -/
def dl (f : Nat → Nat) : Nat → Nat
  | 0 => 0
  | n + 1 => dl f n + f n * 10 ^ n
def dlm (f : Nat → Nat) (n : Nat) : Prop := ∀ j, j < n → f j < 10
theorem dlm_le {f : Nat → Nat} {n k : Nat} (h : dlm f n) (hk : k ≤ n) : dlm f k := fun j hj => h j (Nat.lt_of_lt_of_le hj hk)
theorem dlm_fup {f : Nat → Nat} {n i x : Nat} (h : dlm f n) (hx : x < 10) : dlm (fup f i x) n := by
  intro j hj
  unfold fup
  split
  · exact hx
  · exact h j hj
theorem dl_succ (f : Nat → Nat) (n : Nat) : dl f (n + 1) = dl f n + f n * 10 ^ n := rfl
theorem dl_congr {f g : Nat → Nat} : ∀ {n : Nat}, (∀ j, j < n → f j = g j) → dl f n = dl g n
  | 0, _ => rfl
  | n + 1, h => by rw [dl_succ, dl_succ, dl_congr (fun j hj => h j (by omega)), h n (by omega)]
theorem powT_pos (n : Nat) : 0 < 10 ^ n := Nat.pow_pos (by decide)
theorem dl_lt {f : Nat → Nat} : ∀ {n : Nat}, dlm f n → dl f n < 10 ^ n
  | 0, _ => by show 0 < 10 ^ 0; decide
  | n + 1, h => by
    have h1 := dl_lt (dlm_le h (Nat.le_succ n))
    have h2 : f n * 10 ^ n ≤ 9 * 10 ^ n := Nat.mul_le_mul_right _ (by have := h n (by omega); omega)
    rw [dl_succ, Nat.pow_succ]
    generalize 10 ^ n = P at *
    omega
theorem dl_fup_ge (f : Nat → Nat) (x : Nat) {n i : Nat} (h : n ≤ i) : dl (fup f i x) n = dl f n := dl_congr (fun j hj => fup_n f x (by omega))
theorem dl_fup {f : Nat → Nat} {i : Nat} (x : Nat) : ∀ {n : Nat}, i < n → dl (fup f i x) n + f i * 10 ^ i = dl f n + x * 10 ^ i
  | 0, h => absurd h (by omega)
  | n + 1, h => by
    rw [dl_succ, dl_succ]
    by_cases hi : i = n
    · subst hi
      rw [dl_fup_ge f x (Nat.le_refl i), fup_s]
      omega
    · have := dl_fup (f := f) x (show i < n by omega)
      rw [fup_n f x (by omega)]
      omega
theorem dl_ext {f : Nat → Nat} {n : Nat} : ∀ {k : Nat}, n ≤ k → (∀ j, n ≤ j → j < k → f j = 0) → dl f k = dl f n
  | 0, h, _ => by rw [show n = 0 by omega]
  | k + 1, h, h0 => by
    by_cases hk : n = k + 1
    · rw [hk]
    · rw [dl_succ, h0 k (by omega) (by omega), dl_ext (n := n) (k := k) (by omega) (fun j h1 h2 => h0 j h1 (by omega))]
      simp
theorem dl_zero_iff {f : Nat → Nat} : ∀ {n : Nat}, dl f n = 0 ↔ ∀ j, j < n → f j = 0
  | 0 => ⟨fun _ j hj => absurd hj (by omega), fun _ => rfl⟩
  | n + 1 => by
    rw [dl_succ]
    have hP := powT_pos n
    constructor
    · intro h j hj
      have h1 : dl f n = 0 := by omega
      have h2 : f n * 10 ^ n = 0 := by omega
      by_cases hjn : j = n
      · subst hjn
        rcases Nat.mul_eq_zero.mp h2 with h3 | h3
        · exact h3
        · omega
      · exact dl_zero_iff.mp h1 j (by omega)
    · intro h
      rw [dl_zero_iff.mpr (fun j hj => h j (by omega)), h n (by omega)]
      simp
theorem dl_split (f : Nat → Nat) (k : Nat) : ∀ (m : Nat), dl f (k + m) = dl f k + dl (fun j => f (k + j)) m * 10 ^ k
  | 0 => by simp [dl]
  | m + 1 => by
    rw [← Nat.add_assoc, dl_succ, dl_succ, dl_split f k m, Nat.add_mul, Nat.pow_add, Nat.mul_assoc, Nat.mul_comm (10 ^ m), Nat.add_assoc]
theorem dl_top {f g : Nat → Nat} {n : Nat} (hf : dlm f n) (h : f n < g n) : dl f (n + 1) < dl g (n + 1) := by
  have h1 := dl_lt hf
  have h2 : (f n + 1) * 10 ^ n ≤ g n * 10 ^ n := Nat.mul_le_mul_right _ h
  rw [dl_succ, dl_succ]
  rw [Nat.add_mul] at h2
  omega
theorem carry_d (t P : Nat) : t % 10 * P + t / 10 * (P * 10) = t * P := by
  rw [Nat.mul_comm P, ← Nat.mul_assoc, Nat.mul_comm (t / 10), ← Nat.add_mul, Nat.mod_add_div]
theorem dlm_succ {g : Nat → Nat} {i x : Nat} (hg : dlm g i) (hx : x < 10) : dlm (fup g i x) (i + 1) := by
  intro j hj
  by_cases h : j = i
  · rw [h, fup_s]; exact hx
  · rw [fup_n _ _ h]; exact hg j (by omega)
theorem dl_hi {f g : Nat → Nat} {k : Nat} : ∀ {n : Nat}, k ≤ n → (∀ j, k ≤ j → j < n → f j = g j) → dl f n + dl g k = dl g n + dl f k
  | 0, h, _ => by rw [show k = 0 by omega, Nat.add_comm]
  | n + 1, h, he => by
    by_cases hk : k = n + 1
    · rw [hk]; omega
    · have h1 := dl_hi (f := f) (g := g) (k := k) (n := n) (by omega) (fun j h1 h2 => he j h1 (by omega))
      rw [dl_succ, dl_succ, he n (by omega) (by omega)]
      omega
theorem ord_ltd {f g : Nat → Nat} {q n : Nat} (hq : q + 1 ≤ n) (hf : dlm f n) (he : ∀ j, q + 1 ≤ j → j < n → f j = g j) (h : f q < g q) : dl f n < dl g n := by
  have h1 := dl_top (n := q) (dlm_le hf (by omega)) h
  have h2 := dl_hi (f := f) (g := g) hq he
  omega
theorem add_stepd {A D h : Nat → Nat} {i c : Nat} (hv : dl h i + c * 10 ^ i = dl A i + dl D i) : dl (fup h i ((A i + D i + c) % 10)) (i + 1) + (A i + D i + c) / 10 * 10 ^ (i + 1) = dl A (i + 1) + dl D (i + 1) := by
  have h1 := carry_d (A i + D i + c) (10 ^ i)
  rw [Nat.add_mul, Nat.add_mul] at h1
  rw [dl_succ, dl_succ, dl_succ, dl_fup_ge h _ (Nat.le_refl i), fup_s, Nat.pow_succ]
  omega
theorem mad_stepd {f g : Nat → Nat} {i c x q : Nat} (hg : g i = f i) (hv : dl g i + c * 10 ^ i = dl f i * x + q) : dl (fup g i ((g i * x + c) % 10)) (i + 1) + (g i * x + c) / 10 * 10 ^ (i + 1) = dl f (i + 1) * x + q := by
  have h1 := carry_d (g i * x + c) (10 ^ i)
  have h5 : f i * 10 ^ i * x = f i * x * 10 ^ i := by rw [Nat.mul_assoc, Nat.mul_comm (10 ^ i), ← Nat.mul_assoc]
  rw [dl_succ, dl_succ, dl_fup_ge g _ (Nat.le_refl i), fup_s, Nat.pow_succ, Nat.add_mul, h5]
  rw [hg] at h1 ⊢
  rw [Nat.add_mul] at h1
  omega
theorem dbs_ltd {z d x : Nat} (hz : z < d) (hx : x < 10) : (z * 10 + x) / d < 10 := by
  rw [Nat.div_lt_iff_lt_mul (by omega)]
  have h : (z + 1) * 10 ≤ d * 10 := Nat.mul_le_mul_right _ hz
  rw [Nat.mul_comm 10 d]
  omega
theorem dbs_stepd {f g : Nat → Nat} {u k z d : Nat} (hk : k < u) (hg : g k = f k) (hv : dl f u + d * dl g (k + 1) = d * dl g u + z * 10 ^ (k + 1) + dl f (k + 1)) :
    dl f u + d * dl (fup g k ((z * 10 + g k) / d)) k = d * dl (fup g k ((z * 10 + g k) / d)) u + (z * 10 + g k) % d * 10 ^ k + dl f k := by
  have h1 := congrArg (fun q => d * q) (dl_fup (f := g) ((z * 10 + g k) / d) hk)
  have h2 := congrArg (fun q => q * 10 ^ k) (Nat.div_add_mod (z * 10 + g k) d)
  simp only [Nat.mul_add, Nat.add_mul] at h1 h2
  rw [dl_succ, dl_succ, Nat.mul_add, Nat.pow_succ] at hv
  rw [dl_fup_ge g _ (Nat.le_refl k)]
  rw [← hg] at hv
  have h3 : d * ((z * 10 + g k) / d) * 10 ^ k = d * ((z * 10 + g k) / d * 10 ^ k) := Nat.mul_assoc _ _ _
  have h4 : z * 10 * 10 ^ k = z * (10 ^ k * 10) := by rw [Nat.mul_assoc, Nat.mul_comm (10 ^ k)]
  omega
theorem sub_stepd1 {A D h : Nat → Nat} {i c : Nat} (hD : D i + c ≤ A i + 10) (hv : dl h i + dl D i = dl A i + c * 10 ^ i) : dl (fup h i (A i + 10 - (D i + c))) (i + 1) + dl D (i + 1) = dl A (i + 1) + 1 * 10 ^ (i + 1) := by
  rw [dl_succ, dl_succ, dl_succ, dl_fup_ge h _ (Nat.le_refl i), fup_s, Nat.pow_succ]
  have h4 := congrArg (fun z => z * 10 ^ i) (show A i + 10 - (D i + c) + D i + c = A i + 10 by omega)
  simp only [Nat.add_mul] at h4
  omega
theorem sub_stepd0 {A D h : Nat → Nat} {i c : Nat} (hc : D i + c ≤ A i) (hv : dl h i + dl D i = dl A i + c * 10 ^ i) : dl (fup h i (A i - (D i + c))) (i + 1) + dl D (i + 1) = dl A (i + 1) + 0 * 10 ^ (i + 1) := by
  rw [dl_succ, dl_succ, dl_succ, dl_fup_ge h _ (Nat.le_refl i), fup_s, Nat.pow_succ]
  have h4 := congrArg (fun z => z * 10 ^ i) (show A i - (D i + c) + D i + c = A i by omega)
  simp only [Nat.add_mul] at h4
  omega
theorem isb1 {a b c : Nat} (h : b + c ≤ a + 10) : nI a - nI b - nI c + nI (10 * 1) = nI (a + 10 - (b + c)) := by
  rw [← pk_sub h, ← nI_add, ← nI_add]
  grind
theorem isb0 {a b c : Nat} (h : b + c ≤ a) : nI a - nI b - nI c + nI (10 * 0) = nI (a - (b + c)) := by
  rw [← pk_sub h, ← nI_add, show nI (10 * 0) = 0 from rfl]
  grind
theorem isb_ge {a b c : Nat} (ha : a < 2 ^ 28) (hb : b < 2 ^ 28) (hc : c < 2 ^ 28) : 0 ≤ nI a - nI b - nI c ↔ b + c ≤ a := by
  have h : nI a - nI b - nI c = nI a - nI (b + c) := by rw [← nI_add]; grind
  rw [h, Int32.le_iff_toInt_le, Int32.toInt_zero, pk_sub_toInt (by omega) (by omega)]
  omega
theorem dl0 (n : Nat) : dl (fun _ => 0) n = 0 := dl_zero_iff.mpr (fun _ _ => rfl)
theorem dl_one : ∀ n, dl (fup (fun _ => 0) 0 1) (n + 1) = 1
  | 0 => by simp [dl, fup]
  | n + 1 => by rw [dl_succ, dl_one n]; simp [fup]
theorem pw10 {k : Nat} (h : k ≤ 512) : 2 ^ k < 10 ^ 330 := Nat.lt_of_le_of_lt (Nat.pow_le_pow_right (by decide) h) (by decide +kernel)
