/-! WHAT THE JDK'S COUNTS OF ZEROS rest on -/
theorem nI_decK {n : Nat} {z : Int} (k : Nat) (hz : Int32.ofInt z = -nI k) (h : k ≤ n) : nI n + Int32.ofInt z = nI (n - k) := by
  rw [hz, ← Int32.sub_eq_add_neg, pk_sub h]
theorem nI_gt0 {x : Nat} (h0 : 0 < x) (h : x < 2 ^ 31) : 0 < nI x := by
  rw [← nI_0]; exact nI_lt h0 h
theorem nI_neg {x : Nat} (h0 : 2 ^ 31 ≤ x) (h : x < 2 ^ 32) : ¬ 0 < nI x := by
  rw [Int32.lt_iff_toInt_lt, Int32.toInt_zero]
  have h1 : (nI x).toInt = (x : Int) - 2 ^ 32 := by
    show (Int32.ofNat x).toInt = _
    rw [Int32.toInt_ofNat', show Int32.size = 4294967296 from rfl, Int.bmod_def]
    split <;> omega
  omega
theorem nI_nez {x : Nat} (h0 : 0 < x) (h : x < 2 ^ 32) : ¬ nI x = 0 := by
  intro h1
  have h2 := congrArg (fun z : Int32 => z.toBitVec.toNat) h1
  simp only [pk_tn h] at h2
  have h3 : (0 : Int32).toBitVec.toNat = 0 := rfl
  omega
theorem nlz_step {x y n k : Nat} (hn : n ≤ 31) (hk : k ≤ n) (hy : y = x / 2 ^ (31 - n)) : y / 2 ^ k = x / 2 ^ (31 - (n - k)) := by
  rw [hy, Nat.div_div_eq_div_mul, ← Nat.pow_add]
  congr 2
  omega
theorem nlz_pos {y k : Nat} (h : 2 ^ k ≤ y) : 0 < y / 2 ^ k := Nat.div_pos h (Nat.pow_pos (by decide))
theorem nlz_eq {n y : Nat} (hn : n ≤ 31) (hyb : y < 4) (hy0 : 0 < y) : n - y / 2 ^ 1 = 31 - (31 - n + y / 2) := by omega
theorem nlz_end {x y n : Nat} (hn : n ≤ 31) (hy : y = x / 2 ^ (31 - n)) (hyb : y < 4) (hy0 : 0 < y) (hnk : 1 ≤ n) : 31 - n + y / 2 ≤ 31 ∧ 2 ^ (31 - n + y / 2) ≤ x ∧ x < 2 ^ (31 - n + y / 2 + 1) := by
  have hP : 0 < 2 ^ (31 - n) := Nat.pow_pos (by decide)
  have h1 := Nat.div_add_mod x (2 ^ (31 - n))
  have h2 := Nat.mod_lt x hP
  rw [← hy] at h1
  refine ⟨by omega, ?_, ?_⟩
  · rw [Nat.pow_add]
    rcases (show y = 1 ∨ y = 2 ∨ y = 3 by omega) with rfl | rfl | rfl <;> simp <;> omega
  · rw [Nat.pow_succ, Nat.pow_add]
    rcases (show y = 1 ∨ y = 2 ∨ y = 3 by omega) with rfl | rfl | rfl <;> simp <;> omega
/-- how many bits a number has -/
def isBL (b V : Nat) : Prop := V < 2 ^ b ∧ (b = 0 ∨ 2 ^ (b - 1) ≤ V)
theorem bl_top {f : Nat → Nat} {n k : Nat} (hf : lim f n) (h0 : us f n ≠ 0) (hk : k ≤ 31) (h1 : 2 ^ k ≤ f (us f n - 1)) (h2 : f (us f n - 1) < 2 ^ (k + 1)) : isBL ((us f n - 1) * 32 + k + 1) (vl f n) := by
  have hu := us_le f n
  rw [vl_us]
  obtain ⟨u, hu2⟩ : ∃ u, us f n = u + 1 := ⟨us f n - 1, by omega⟩
  rw [hu2] at hu h1 h2 ⊢
  rw [Nat.add_sub_cancel] at h1 h2 ⊢
  have hl := vl_lt (lim_le hf (show u ≤ n by omega))
  have hp : 2 ^ (u * 32 + k) = 4294967296 ^ u * 2 ^ k := by rw [Nat.pow_add, Nat.mul_comm u 32, Nat.pow_mul]
  refine ⟨?_, Or.inr ?_⟩
  · rw [Nat.pow_succ, hp, vl_succ]
    have h3 : (f u + 1) * 4294967296 ^ u ≤ 2 ^ (k + 1) * 4294967296 ^ u := Nat.mul_le_mul_right _ h2
    rw [Nat.add_mul, Nat.one_mul, Nat.pow_succ, Nat.mul_assoc, Nat.mul_comm 2, ← Nat.mul_assoc, Nat.mul_comm (2 ^ k)] at h3
    omega
  · rw [Nat.add_sub_cancel, hp, vl_succ]
    have h3 : 2 ^ k * 4294967296 ^ u ≤ f u * 4294967296 ^ u := Nat.mul_le_mul_right _ h1
    rw [Nat.mul_comm] at h3
    omega
/-- how many zero bits stand below: t of x -/
def isTZ (t x : Nat) : Prop := x % 2 ^ t = 0 ∧ x / 2 ^ t % 2 = 1
theorem tz_ex : ∀ {x : Nat}, 0 < x → ∃ t, isTZ t x := by
  intro x
  induction x using Nat.strongRecOn with
  | _ x ih =>
    intro hx
    by_cases h : x % 2 = 1
    · exact ⟨0, by simp [Nat.mod_one], by simpa using h⟩
    · obtain ⟨t, h1, h2⟩ := ih (x / 2) (by omega) (by omega)
      refine ⟨t + 1, ?_, ?_⟩
      · rw [Nat.pow_succ, Nat.mul_comm, Nat.mod_mul, h1]; omega
      · rw [Nat.pow_succ, Nat.mul_comm, ← Nat.div_div_eq_div_mul]; exact h2
theorem tz_lt {t x k : Nat} (h : isTZ t x) (hx : x < 2 ^ k) : t < k := by
  rcases Nat.lt_or_ge t k with h1 | h1
  · exact h1
  · have h2 : x < 2 ^ t := Nat.lt_of_lt_of_le hx (Nat.pow_le_pow_right (by decide) h1)
    have h3 := h.2
    rw [Nat.div_eq_of_lt h2] at h3
    omega
theorem tz_mask {t x : Nat} (h : isTZ t x) (hx : x < 2 ^ 32) : (nI x ^^^ (-1)) &&& (nI x - 1) = nI (2 ^ t - 1) := by
  obtain ⟨h1, h2⟩ := h
  have ht : 0 < 2 ^ t := Nat.pow_pos (by decide)
  have e1 : x = 2 ^ t * (2 * (x / 2 ^ t / 2) + 1) := by
    have h3 := Nat.div_add_mod x (2 ^ t)
    rw [h1, Nat.add_zero] at h3
    rw [show 2 * (x / 2 ^ t / 2) + 1 = x / 2 ^ t by omega, h3]
  generalize x / 2 ^ t / 2 = k at e1
  have e2 : x - 1 = 2 ^ t * (2 * k) + (2 ^ t - 1) := by
    rw [e1, Nat.mul_add, Nat.mul_one]; omega
  have hx0 : 1 ≤ x := by rw [e1]; exact Nat.mul_pos ht (by omega)
  rw [show nI x - 1 = nI (x - 1) from pk_sub (b := 1) hx0]
  apply Int32.toBitVec_inj.1
  rw [Int32.toBitVec_and, Int32.toBitVec_xor, show (-1 : Int32).toBitVec = BitVec.allOnes 32 from rfl]
  show (BitVec.ofNat 32 x ^^^ BitVec.allOnes 32) &&& BitVec.ofNat 32 (x - 1) = BitVec.ofNat 32 (2 ^ t - 1)
  apply BitVec.eq_of_getLsbD_eq
  intro i hi
  rw [BitVec.getLsbD_and, BitVec.getLsbD_xor, BitVec.getLsbD_ofNat, BitVec.getLsbD_ofNat, BitVec.getLsbD_ofNat, BitVec.getLsbD_allOnes]
  simp only [hi, decide_true, Bool.true_and]
  rw [e2, Nat.testBit_two_pow_mul_add _ (by omega), Nat.testBit_two_pow_sub_one]
  conv => lhs; rw [e1]
  rw [Nat.testBit_two_pow_mul]
  rcases Nat.lt_trichotomy i t with h3 | h3 | h3
  · simp [h3, Nat.not_le.mpr h3, Nat.testBit_two_pow_sub_one]
  · subst h3
    simp
  · obtain ⟨d, rfl⟩ : ∃ d, i = t + (d + 1) := ⟨i - t - 1, by omega⟩
    have h4 : ¬ t + (d + 1) < t := by omega
    have h5 : t ≤ t + (d + 1) := by omega
    simp only [h4, h5, if_false, decide_true, decide_false, Bool.true_and, Nat.add_sub_cancel_left, Nat.testBit_succ]
    rw [show (2 * k + 1) / 2 = k by omega, show 2 * k / 2 = k by omega]
    cases k.testBit d <;> rfl
theorem pw_lt {w : Nat} (h : w ≤ 31) : 2 ^ w - 1 < 2 ^ 32 := by
  have : 2 ^ w ≤ 2 ^ 31 := Nat.pow_le_pow_right (by decide) h
  omega
theorem pw_lt31 {w : Nat} (h : w ≤ 31) : 2 ^ w - 1 < 2 ^ 31 := by
  have : 2 ^ w ≤ 2 ^ 31 := Nat.pow_le_pow_right (by decide) h
  have : 0 < 2 ^ w := Nat.pow_pos (by decide)
  omega
theorem pw_le2 {w : Nat} (h : 1 ≤ w) : 2 ≤ 2 ^ w := by
  have h1 : 2 ^ 1 ≤ 2 ^ w := Nat.pow_le_pow_right (by decide) h
  simpa using h1
theorem pw_le {w k : Nat} (hk : 1 ≤ k) (h : 2 ^ w - 1 ≤ 2 ^ k) : w ≤ k := by
  rcases Nat.lt_or_ge k w with h1 | h1
  · have h2 : 2 ^ (k + 1) ≤ 2 ^ w := Nat.pow_le_pow_right (by decide) h1
    have h3 := pw_le2 hk
    rw [Nat.pow_succ] at h2
    generalize 2 ^ k = a at *
    generalize 2 ^ w = b at *
    omega
  · exact h1
theorem pw_ge {w k : Nat} (h : 2 ^ k < 2 ^ w - 1) : k < w := by
  rcases Nat.lt_or_ge k w with h1 | h1
  · exact h1
  · have h2 : 2 ^ w ≤ 2 ^ k := Nat.pow_le_pow_right (by decide) h1
    generalize 2 ^ k = a at *
    generalize 2 ^ w = b at *
    omega
theorem pw_div {w k : Nat} (h : k ≤ w) : (2 ^ w - 1) / 2 ^ k = 2 ^ (w - k) - 1 := by
  have hk : 0 < 2 ^ k := Nat.pow_pos (by decide)
  have hw : 0 < 2 ^ (w - k) := Nat.pow_pos (by decide)
  have e : 2 ^ w = 2 ^ (w - k) * 2 ^ k := by rw [← Nat.pow_add, show w - k + k = w by omega]
  rw [e]
  apply Nat.div_eq_of_lt_le
  · rw [Nat.sub_mul]; omega
  · rw [show 2 ^ (w - k) - 1 + 1 = 2 ^ (w - k) by omega]
    have : 0 < 2 ^ (w - k) * 2 ^ k := Nat.mul_pos hw hk
    omega
theorem ntz_end {w n t : Nat} (hw1 : 1 ≤ w) (hw : w ≤ 2) (h : n + w = t + 1) : n + (2 ^ w - 1) / 2 ^ 1 = t := by
  rcases (show w = 1 ∨ w = 2 by omega) with rfl | rfl
  · simp; omega
  · simp; omega
theorem tz_vl {f : Nat → Nat} {n i t : Nat} (hi : i < n) (h0 : ∀ j, j < i → f j = 0) (hf : f i < 4294967296) (ht : isTZ t (f i)) : isTZ (i * 32 + t) (vl f n) := by
  have htl := tz_lt (k := 32) ht hf
  obtain ⟨h1, h2⟩ := ht
  obtain ⟨q, hq⟩ : ∃ q, vl f n = 4294967296 ^ i * (f i + 4294967296 * q) := by
    obtain ⟨d, rfl⟩ : ∃ d, n = i + 1 + d := ⟨n - i - 1, by omega⟩
    refine ⟨vl (fun j => f (i + 1 + j)) d, ?_⟩
    rw [vl_split, vl_succ, vl_zero_iff.mpr h0, Nat.zero_add, Nat.pow_succ, Nat.mul_add, Nat.mul_comm (f i), Nat.mul_comm (vl _ d), Nat.mul_assoc]
  have hp : 2 ^ (i * 32 + t) = 4294967296 ^ i * 2 ^ t := by rw [Nat.pow_add, Nat.mul_comm i 32, Nat.pow_mul]
  have hB : 4294967296 = 2 ^ t * (2 ^ (32 - t - 1) * 2) := by rw [← Nat.pow_succ, ← Nat.pow_add, show t + (32 - t - 1 + 1) = 32 by omega]
  have hpt : 0 < 2 ^ t := Nat.pow_pos (by decide)
  unfold isTZ
  rw [hq, hp]
  constructor
  · rw [Nat.mul_mod_mul_left]
    have e : f i + 4294967296 * q = f i + 2 ^ t * (2 ^ (32 - t - 1) * 2 * q) := by
      conv => lhs; rw [hB]
      rw [Nat.mul_assoc]
    rw [e, Nat.add_mul_mod_self_left, h1, Nat.mul_zero]
  · rw [Nat.mul_div_mul_left _ _ (powB_pos i)]
    have e : f i + 4294967296 * q = f i + 2 ^ t * (2 * (2 ^ (32 - t - 1) * q)) := by
      conv => lhs; rw [hB]
      rw [Nat.mul_assoc, Nat.mul_comm (2 ^ (32 - t - 1)) 2, Nat.mul_assoc]
    rw [e, Nat.add_mul_div_left _ _ hpt, Nat.add_mul_mod_self_left, h2]
