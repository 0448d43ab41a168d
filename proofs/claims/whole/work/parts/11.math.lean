/-! NUMBERS AS ROWS OF LIMBS of 32 bits, the lowest first: vl f n is the number of the first n limbs -/
def vl (f : Nat → Nat) : Nat → Nat
  | 0 => 0
  | n + 1 => vl f n + f n * 4294967296 ^ n
/-- limbs are limbs -/
def lim (f : Nat → Nat) (n : Nat) : Prop := ∀ j, j < n → f j < 4294967296
theorem lim_le {f : Nat → Nat} {n k : Nat} (h : lim f n) (hk : k ≤ n) : lim f k := fun j hj => h j (Nat.lt_of_lt_of_le hj hk)
theorem lim_fup {f : Nat → Nat} {n i x : Nat} (h : lim f n) (hx : x < 4294967296) : lim (fup f i x) n := by
  intro j hj
  unfold fup
  split
  · exact hx
  · exact h j hj
theorem vl_succ (f : Nat → Nat) (n : Nat) : vl f (n + 1) = vl f n + f n * 4294967296 ^ n := rfl
theorem vl_congr {f g : Nat → Nat} : ∀ {n : Nat}, (∀ j, j < n → f j = g j) → vl f n = vl g n
  | 0, _ => rfl
  | n + 1, h => by rw [vl_succ, vl_succ, vl_congr (fun j hj => h j (by omega)), h n (by omega)]
theorem powB_pos (n : Nat) : 0 < 4294967296 ^ n := Nat.pow_pos (by decide)
theorem vl_lt {f : Nat → Nat} : ∀ {n : Nat}, lim f n → vl f n < 4294967296 ^ n
  | 0, _ => by show 0 < 4294967296 ^ 0; decide
  | n + 1, h => by
    have h1 := vl_lt (lim_le h (Nat.le_succ n))
    have h2 : f n * 4294967296 ^ n ≤ 4294967295 * 4294967296 ^ n := Nat.mul_le_mul_right _ (by have := h n (by omega); omega)
    rw [vl_succ, Nat.pow_succ]
    generalize 4294967296 ^ n = P at *
    omega
theorem vl_fup_ge (f : Nat → Nat) (x : Nat) {n i : Nat} (h : n ≤ i) : vl (fup f i x) n = vl f n := vl_congr (fun j hj => fup_n f x (by omega))
theorem vl_fup {f : Nat → Nat} {i : Nat} (x : Nat) : ∀ {n : Nat}, i < n → vl (fup f i x) n + f i * 4294967296 ^ i = vl f n + x * 4294967296 ^ i
  | 0, h => absurd h (by omega)
  | n + 1, h => by
    rw [vl_succ, vl_succ]
    by_cases hi : i = n
    · subst hi
      rw [vl_fup_ge f x (Nat.le_refl i), fup_s]
      omega
    · have := vl_fup (f := f) x (show i < n by omega)
      rw [fup_n f x (by omega)]
      omega
theorem vl_ext {f : Nat → Nat} {n : Nat} : ∀ {k : Nat}, n ≤ k → (∀ j, n ≤ j → j < k → f j = 0) → vl f k = vl f n
  | 0, h, _ => by rw [show n = 0 by omega]
  | k + 1, h, h0 => by
    by_cases hk : n = k + 1
    · rw [hk]
    · rw [vl_succ, h0 k (by omega) (by omega), vl_ext (n := n) (k := k) (by omega) (fun j h1 h2 => h0 j h1 (by omega))]
      simp
theorem vl_zero_iff {f : Nat → Nat} : ∀ {n : Nat}, vl f n = 0 ↔ ∀ j, j < n → f j = 0
  | 0 => ⟨fun _ j hj => absurd hj (by omega), fun _ => rfl⟩
  | n + 1 => by
    rw [vl_succ]
    have hP := powB_pos n
    constructor
    · intro h j hj
      have h1 : vl f n = 0 := by omega
      have h2 : f n * 4294967296 ^ n = 0 := by omega
      by_cases hjn : j = n
      · subst hjn
        rcases Nat.mul_eq_zero.mp h2 with h3 | h3
        · exact h3
        · omega
      · exact vl_zero_iff.mp h1 j (by omega)
    · intro h
      rw [vl_zero_iff.mpr (fun j hj => h j (by omega)), h n (by omega)]
      simp
theorem vl_split (f : Nat → Nat) (k : Nat) : ∀ (m : Nat), vl f (k + m) = vl f k + vl (fun j => f (k + j)) m * 4294967296 ^ k
  | 0 => by simp [vl]
  | m + 1 => by
    rw [← Nat.add_assoc, vl_succ, vl_succ, vl_split f k m, Nat.add_mul, Nat.pow_add, Nat.mul_assoc, Nat.mul_comm (4294967296 ^ m), Nat.add_assoc]
theorem vl_top {f g : Nat → Nat} {n : Nat} (hf : lim f n) (h : f n < g n) : vl f (n + 1) < vl g (n + 1) := by
  have h1 := vl_lt hf
  have h2 : (f n + 1) * 4294967296 ^ n ≤ g n * 4294967296 ^ n := Nat.mul_le_mul_right _ h
  rw [vl_succ, vl_succ]
  rw [Nat.add_mul] at h2
  omega
theorem vl_get {f : Nat → Nat} {n : Nat} (hf : lim f n) {j : Nat} (hj : j < n) : vl f n / 4294967296 ^ j % 4294967296 = f j := by
  have e : n = j + (n - j - 1 + 1) := by omega
  have h1 : vl f j < 4294967296 ^ j := vl_lt (lim_le hf (by omega))
  have hs : ∀ m, vl (fun i => f (j + i)) (m + 1) = f j + 4294967296 * vl (fun i => f (j + 1 + i)) m := by
    intro m
    have := vl_split (fun i => f (j + i)) 1 m
    rw [Nat.add_comm 1 m] at this
    rw [this]
    simp only [vl, Nat.add_zero, Nat.pow_zero, Nat.pow_one, Nat.mul_one, Nat.zero_add]
    rw [Nat.mul_comm]
    congr 2
    exact vl_congr (fun i _ => by rw [Nat.add_assoc])
  rw [e, vl_split f j, hs, Nat.add_mul_div_right _ _ (powB_pos j), Nat.div_eq_of_lt h1, Nat.zero_add, Nat.add_mul_mod_self_left]
  exact Nat.mod_eq_of_lt (hf j hj)
theorem vl_inj {f g : Nat → Nat} {n : Nat} (hf : lim f n) (hg : lim g n) (h : vl f n = vl g n) : ∀ j, j < n → f j = g j := by
  intro j hj
  rw [← vl_get hf hj, ← vl_get hg hj, h]
theorem vl_ge_top {f : Nat → Nat} {n : Nat} (h : f n ≠ 0) : 4294967296 ^ n ≤ vl f (n + 1) := by
  rw [vl_succ]
  have : 1 * 4294967296 ^ n ≤ f n * 4294967296 ^ n := Nat.mul_le_mul_right _ (by omega)
  omega
/-- a total laid down: its low limb here, the rest carried -/
theorem carry_st (t P : Nat) : t % 4294967296 * P + t / 4294967296 * (P * 4294967296) = t * P := by
  rw [Nat.mul_comm P, ← Nat.mul_assoc, Nat.mul_comm (t / 4294967296), ← Nat.add_mul, Nat.mod_add_div]
/-- how many limbs there are up to the highest that is not 0 -/
def us (f : Nat → Nat) : Nat → Nat
  | 0 => 0
  | n + 1 => if f n = 0 then us f n else n + 1
theorem us_le (f : Nat → Nat) : ∀ n, us f n ≤ n
  | 0 => Nat.le_refl 0
  | n + 1 => by
    unfold us
    split
    · exact Nat.le_succ_of_le (us_le f n)
    · exact Nat.le_refl _
theorem us_hi (f : Nat → Nat) : ∀ n j, us f n ≤ j → j < n → f j = 0
  | 0, j, _, h => absurd h (by omega)
  | n + 1, j, h1, h2 => by
    unfold us at h1
    split at h1
    · next h0 =>
      by_cases hj : j = n
      · rw [hj]; exact h0
      · exact us_hi f n j h1 (by omega)
    · omega
theorem us_top (f : Nat → Nat) : ∀ n, us f n ≠ 0 → f (us f n - 1) ≠ 0
  | 0, h => absurd rfl h
  | n + 1, h => by
    unfold us at h ⊢
    split at h
    · next h0 => rw [if_pos h0]; exact us_top f n h
    · next h0 => rw [if_neg h0]; exact h0
theorem vl_us (f : Nat → Nat) (n : Nat) : vl f n = vl f (us f n) := vl_ext (us_le f n) (fun j h1 h2 => us_hi f n j h1 h2)
theorem us_0 (f : Nat → Nat) (n : Nat) : us f n = 0 ↔ vl f n = 0 := by
  constructor
  · intro h; rw [vl_us, h]; rfl
  · intro h
    by_cases h0 : us f n = 0
    · exact h0
    · have h1 := us_top f n h0
      have h2 := us_le f n
      exact absurd (vl_zero_iff.mp h _ (by omega)) h1
theorem us_le_iff {f : Nat → Nat} {n : Nat} (hf : lim f n) (k : Nat) : us f n ≤ k ↔ vl f n < 4294967296 ^ k := by
  constructor
  · intro h
    rw [vl_us]
    exact Nat.lt_of_lt_of_le (vl_lt (lim_le hf (us_le f n))) (Nat.pow_le_pow_right (by decide) h)
  · intro h
    by_cases hk : us f n ≤ k
    · exact hk
    · have h1 := us_top f n (by omega)
      have h2 := vl_ge_top h1
      rw [show us f n - 1 + 1 = us f n by omega, ← vl_us] at h2
      have h3 : 4294967296 ^ k ≤ 4294967296 ^ (us f n - 1) := Nat.pow_le_pow_right (by decide) (by omega)
      omega
theorem us_eq {f g : Nat → Nat} : ∀ {n : Nat}, (∀ j, j < n → f j = g j) → us f n = us g n
  | 0, _ => rfl
  | n + 1, h => by
    unfold us
    rw [h n (by omega), us_eq (fun j hj => h j (by omega))]
/-- a limb, 0 where the row has ended -/
def lat (n : Nat) (f : Nat → Nat) (k : Nat) : Nat := if k < n then f k else 0
theorem lat_lt {n : Nat} {f : Nat → Nat} {k : Nat} (h : k < n) : lat n f k = f k := by simp [lat, h]
theorem lat_ge {n : Nat} {f : Nat → Nat} {k : Nat} (h : n ≤ k) : lat n f k = 0 := by simp [lat, Nat.not_lt.mpr h]
theorem lim_lat {n : Nat} {f : Nat → Nat} (h : lim f n) (k : Nat) : lim (lat n f) k := by
  intro j _
  unfold lat
  split
  · next h1 => exact h j h1
  · decide
theorem lat_lim {n : Nat} {f : Nat → Nat} (h : lim f n) (k : Nat) : lat n f k < 4294967296 := lim_lat h (k + 1) k (by omega)
theorem vl_lat {n : Nat} {f : Nat → Nat} {k : Nat} (h : n ≤ k) : vl (lat n f) k = vl f n := by
  rw [vl_ext (n := n) h (fun j h1 _ => lat_ge h1)]
  exact vl_congr (fun j hj => lat_lt hj)
theorem vl_lat_le {n : Nat} {f : Nat → Nat} {k : Nat} (h : k ≤ n) : vl (lat n f) k = vl f k := vl_congr (fun j hj => lat_lt (by omega))
def latI (n : Nat) (f : Nat → Nat) (z : Int) : Nat := if 0 ≤ z ∧ z < n then f z.toNat else 0
theorem latI_nat (n : Nat) (f : Nat → Nat) (k : Nat) : latI n f (k : Int) = lat n f k := by
  unfold latI lat
  by_cases h : k < n
  · rw [if_pos ⟨by omega, by omega⟩, if_pos h]; rfl
  · rw [if_neg (by omega), if_neg h]
theorem latI_neg (n : Nat) (f : Nat → Nat) {z : Int} (h : z < 0) : latI n f z = 0 := by
  unfold latI
  rw [if_neg (by omega)]
theorem latI_lim {n : Nat} {f : Nat → Nat} (h : lim f n) (z : Int) : latI n f z < 4294967296 := by
  unfold latI
  split
  · next h1 => exact h _ (by omega)
  · decide
theorem lim_succ {g : Nat → Nat} {i x : Nat} (hg : lim g i) (hx : x < 4294967296) : lim (fup g i x) (i + 1) := by
  intro j hj
  by_cases h : j = i
  · rw [h, fup_s]; exact hx
  · rw [fup_n _ _ h]; exact hg j (by omega)
theorem fup_eq {g E : Nat → Nat} {i x : Nat} (h : ∀ j, j < i → g j = E j) (hx : x = E i) : ∀ j, j < i + 1 → fup g i x j = E j := by
  intro j hj
  by_cases e : j = i
  · rw [e, fup_s]; exact hx
  · rw [fup_n _ _ e]; exact h j (by omega)
theorem us_s0 {f : Nat → Nat} {k : Nat} (h : f k = 0) : us f (k + 1) = us f k := by
  rw [us, if_pos h]
theorem us_s1 {f : Nat → Nat} {k : Nat} (h : f k ≠ 0) : us f (k + 1) = k + 1 := by
  rw [us, if_neg h]
