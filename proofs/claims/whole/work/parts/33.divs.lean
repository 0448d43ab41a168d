/-! DIVISION by limbs -/
theorem powB2 (m : Nat) : 4294967296 ^ m = 2 ^ (32 * m) := by rw [Nat.pow_mul]
theorem qr_lift {f : Nat → Nat} {b : Nat} (hf : lim f 16) (h0 : us f 16 ≠ 0) (hb : isBL b (vl f 16)) : b ≤ us f 16 * 32 ∧ us f 16 * 32 - b ≤ 31 ∧ 2 ^ (32 * us f 16 - 1) ≤ vl f 16 * 2 ^ (us f 16 * 32 - b) ∧ vl f 16 * 2 ^ (us f 16 * 32 - b) < 2 ^ (32 * us f 16) := by
  have hlt := (us_le_iff hf (us f 16)).mp (Nat.le_refl _)
  rw [powB2] at hlt
  have h1 := (bl_le hb _).mpr hlt
  have hge : ¬ vl f 16 < 4294967296 ^ (us f 16 - 1) := fun e => by have := (us_le_iff hf (us f 16 - 1)).mpr e; omega
  rw [powB2] at hge
  have h2 : ¬ b ≤ 32 * (us f 16 - 1) := fun e => hge ((bl_le hb _).mp e)
  generalize us f 16 = m at *
  have h3 : b ≠ 0 := by omega
  have h4 := hb.2.resolve_left h3
  refine ⟨by omega, by omega, ?_, ?_⟩
  · have : 2 ^ (b - 1) * 2 ^ (m * 32 - b) ≤ vl f 16 * 2 ^ (m * 32 - b) := Nat.mul_le_mul_right _ h4
    rw [← Nat.pow_add, show b - 1 + (m * 32 - b) = 32 * m - 1 by omega] at this
    exact this
  · have : vl f 16 * 2 ^ (m * 32 - b) < 2 ^ b * 2 ^ (m * 32 - b) := Nat.mul_lt_mul_of_pos_right hb.1 (Nat.pow_pos (by decide))
    rw [← Nat.pow_add, show b + (m * 32 - b) = 32 * m by omega] at this
    exact this
theorem qr_second {g : Nat → Nat} {D m : Nat} (hm : 1 ≤ m) (hm2 : m ≤ 16) (hg : ∀ i, i < 17 → g i = D / 4294967296 ^ i % 4294967296) (h1 : 2 ^ (32 * m - 1) ≤ D) (h2 : D < 2 ^ (32 * m)) : lim g 17 ∧ vl g m = D ∧ 2147483648 ≤ g (m - 1) := by
  refine ⟨lim_digits hg, ?_, ?_⟩
  · rw [vl_digits (fun i hi => hg i (by omega)), Nat.mod_eq_of_lt (by rw [powB2]; exact h2)]
  · rw [hg (m - 1) (by omega)]
    have h3 : D / 4294967296 ^ (m - 1) < 4294967296 := by
      rw [Nat.div_lt_iff_lt_mul (powB_pos _), Nat.mul_comm, ← Nat.pow_succ, powB2, show 32 * (m - 1).succ = 32 * m by omega]
      exact h2
    rw [Nat.mod_eq_of_lt h3, Nat.le_div_iff_mul_le (powB_pos _), powB2, show 2147483648 = 2 ^ 31 from rfl, ← Nat.pow_add, show 31 + 32 * (m - 1) = 32 * m - 1 by omega]
    exact h1
theorem qr_first {g : Nat → Nat} {A D m s : Nat} (hm : 1 ≤ m) (hm2 : m ≤ 16) (hA : A < 2 ^ 512) (hs : s ≤ 31) (hg : ∀ i, i < 17 → g i = A * 2 ^ s / 4294967296 ^ i % 4294967296) (h1 : 2 ^ (32 * m - 1) ≤ D) : lim g 17 ∧ vl g 17 = A * 2 ^ s ∧ vl g 17 < D * 4294967296 ^ (17 - m) := by
  have h3 : A * 2 ^ s < 2 ^ 512 * 2 ^ 31 := by
    have a : A * 2 ^ s ≤ A * 2 ^ 31 := Nat.mul_le_mul_left _ (Nat.pow_le_pow_right (by decide) hs)
    have b : A * 2 ^ 31 < 2 ^ 512 * 2 ^ 31 := Nat.mul_lt_mul_of_pos_right hA (by decide)
    omega
  rw [← Nat.pow_add] at h3
  have h4 : vl g 17 = A * 2 ^ s := by
    rw [vl_digits hg, Nat.mod_eq_of_lt]
    rw [powB2]
    exact Nat.lt_of_lt_of_le h3 (Nat.pow_le_pow_right (by decide) (by decide))
  refine ⟨lim_digits hg, h4, ?_⟩
  rw [h4]
  have h5 : 2 ^ (32 * m - 1) * 4294967296 ^ (17 - m) ≤ D * 4294967296 ^ (17 - m) := Nat.mul_le_mul_right _ h1
  rw [powB2, ← Nat.pow_add, show 32 * m - 1 + 32 * (17 - m) = 543 by omega] at h5
  rw [powB2]
  exact Nat.lt_of_lt_of_le h3 h5
theorem qr_hlt {F : Nat → Nat} {D k m : Nat} (hF : lim F 17) (hkm : k + m ≤ 16) (hlt : vl F 17 < D * 4294967296 ^ (k + 1)) (hD : D < 4294967296 ^ m) : vl F 17 = vl F k + vl (shf F k) (m + 1) * 4294967296 ^ k ∧ (∀ j, k + m < j → j < 17 → F j = 0) ∧ vl (shf F k) (m + 1) < D * 4294967296 := by
  have h1 : vl F 17 < 4294967296 ^ (k + m + 1) := by
    have : D * 4294967296 ^ (k + 1) ≤ 4294967296 ^ m * 4294967296 ^ (k + 1) := Nat.mul_le_mul_right _ (Nat.le_of_lt hD)
    rw [← Nat.pow_add, show m + (k + 1) = k + m + 1 by omega] at this
    omega
  have h2 := (us_le_iff hF (k + m + 1)).mpr h1
  have h3 : ∀ j, k + m < j → j < 17 → F j = 0 := fun j a b => us_hi F 17 j (by omega) b
  have h4 : vl F 17 = vl F (k + (m + 1)) := vl_ext (by omega) (fun j a b => h3 j (by omega) b)
  have h5 : vl F 17 = vl F k + vl (shf F k) (m + 1) * 4294967296 ^ k := by rw [h4]; exact vl_split F k (m + 1)
  refine ⟨h5, h3, ?_⟩
  rw [h5, Nat.pow_succ, ← Nat.mul_assoc, Nat.mul_right_comm] at hlt
  exact Nat.lt_of_mul_lt_mul_right (a := 4294967296 ^ k) (by omega)
theorem qr_step {F F2 : Nat → Nat} {D k m : Nat} (hF : lim F 17) (hkm : k + m ≤ 16) (hlt : vl F 17 < D * 4294967296 ^ (k + 1)) (hD : D < 4294967296 ^ m) (hD0 : 0 < D) (hs : ∀ j, j < k ∨ k + m < j → F2 j = F j) (hv : vl (shf F2 k) (m + 1) = vl (shf F k) (m + 1) % D) :
    vl F 17 = vl F2 17 + vl (shf F k) (m + 1) / D * 4294967296 ^ k * D ∧ vl F2 17 < D * 4294967296 ^ k ∧ vl (shf F k) (m + 1) / D < 4294967296 := by
  obtain ⟨h1, h2, h3⟩ := qr_hlt hF hkm hlt hD
  have h4 : vl F2 17 = vl F k + vl (shf F k) (m + 1) % D * 4294967296 ^ k := by
    rw [vl_ext (n := k + (m + 1)) (by omega) (fun j a b => by rw [hs j (by omega)]; exact h2 j (by omega) b)]
    have := vl_split F2 k (m + 1)
    rw [this, vl_congr (fun j hj => hs j (Or.inl hj))]
    rw [show vl (fun j => F2 (k + j)) (m + 1) = vl (shf F2 k) (m + 1) from rfl, hv]
  have h5 := vl_lt (lim_le hF (show k ≤ 17 by omega))
  have h6 := Nat.mod_lt (vl (shf F k) (m + 1)) hD0
  have h7 := congrArg (fun z => z * 4294967296 ^ k) (Nat.div_add_mod (vl (shf F k) (m + 1)) D)
  simp only [Nat.add_mul] at h7
  have h8 : D * (vl (shf F k) (m + 1) / D) * 4294967296 ^ k = vl (shf F k) (m + 1) / D * 4294967296 ^ k * D := by rw [Nat.mul_comm D, Nat.mul_right_comm]
  refine ⟨by omega, ?_, ?_⟩
  · have h9 : (vl (shf F k) (m + 1) % D + 1) * 4294967296 ^ k ≤ D * 4294967296 ^ k := Nat.mul_le_mul_right _ h6
    rw [Nat.add_mul] at h9
    omega
  · rw [Nat.div_lt_iff_lt_mul hD0, Nat.mul_comm]
    exact h3
theorem qr_put {Wd : Nat → Nat} {A D k q n X Y : Nat} (hk : k < n) (h0 : Wd k = 0) (hA : A = vl Wd n * D + X) (hq : X = Y + q * 4294967296 ^ k * D) : A = vl (fup Wd k q) n * D + Y := by
  have h1 := vl_fup (f := Wd) q hk
  rw [h0, Nat.zero_mul, Nat.add_zero] at h1
  rw [h1, Nat.add_mul]
  omega
theorem qr_end {A D P W R : Nat} (hP : 0 < P) (hA : A * P = W * (D * P) + R) (hR : R < D * P) : W = A / D ∧ R / P = A % D := by
  have h1 : A * P / (D * P) = W := by
    apply Nat.div_eq_of_lt_le
    · omega
    · rw [Nat.add_mul, Nat.one_mul]; omega
  rw [Nat.mul_div_mul_right _ _ hP] at h1
  refine ⟨h1.symm, ?_⟩
  have h2 : A * P % (D * P) = R := by
    have h3 := Nat.div_add_mod (A * P) (D * P)
    rw [Nat.mul_div_mul_right _ _ hP, h1, Nat.mul_comm (D * P)] at h3
    omega
  rw [Nat.mul_mod_mul_right] at h2
  rw [← h2, Nat.mul_div_cancel _ hP]
theorem sg_zero {b A : Nat} : sg b A = 0 ↔ A = 0 := by unfold sg; split <;> omega
