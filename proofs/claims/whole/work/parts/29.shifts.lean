/-! SHIFTS, FITS, CUTS -/
theorem tz_dvd {t A : Nat} (h : isTZ t A) (n : Nat) : n ≤ t ↔ A % 2 ^ n = 0 := by
  obtain ⟨h1, h2⟩ := h
  constructor
  · intro hn
    have e : 2 ^ t = 2 ^ n * 2 ^ (t - n) := by rw [← Nat.pow_add, show n + (t - n) = t by omega]
    have d : 2 ^ n ∣ A := Nat.dvd_trans ⟨2 ^ (t - n), e⟩ (Nat.dvd_of_mod_eq_zero h1)
    exact Nat.mod_eq_zero_of_dvd d
  · intro hA
    rcases Nat.lt_or_ge t n with hn | hn
    · have e : 2 ^ n = 2 ^ (t + 1) * 2 ^ (n - (t + 1)) := by rw [← Nat.pow_add, show t + 1 + (n - (t + 1)) = n by omega]
      have d : 2 ^ (t + 1) ∣ A := Nat.dvd_trans ⟨_, e⟩ (Nat.dvd_of_mod_eq_zero hA)
      have h3 := Nat.mod_eq_zero_of_dvd d
      rw [Nat.pow_succ, Nat.mod_mul, h1, h2] at h3
      have : 0 < 2 ^ t := Nat.pow_pos (by decide)
      omega
    · exact hn
theorem bl_le {b A : Nat} (h : isBL b A) (w : Nat) : b ≤ w ↔ A < 2 ^ w := by
  obtain ⟨h1, h2⟩ := h
  constructor
  · intro hw
    exact Nat.lt_of_lt_of_le h1 (Nat.pow_le_pow_right (by decide) hw)
  · intro hA
    rcases Nat.lt_or_ge w b with hb | hb
    · have h3 : 2 ^ w ≤ 2 ^ (b - 1) := Nat.pow_le_pow_right (by decide) (by omega)
      omega
    · exact hb
theorem p512_17 : 2 ^ 512 < 4294967296 ^ 17 := by decide +kernel
theorem up_v {f g : Nat → Nat} {n : Nat} (hg : ∀ i, i < 17 → g i = vl f 16 * 2 ^ n / 4294967296 ^ i % 4294967296) (h : vl f 16 * 2 ^ n < 2 ^ 512) : vl g 17 = vl f 16 * 2 ^ n := by
  have := p512_17
  rw [vl_digits hg, Nat.mod_eq_of_lt (by omega)]
theorem dn_v {f g : Nat → Nat} {n : Nat} (hf : lim f 16) (hg : ∀ i, i < 17 → g i = vl f 16 / 2 ^ n / 4294967296 ^ i % 4294967296) : vl g 17 = vl f 16 / 2 ^ n := by
  have h1 := vl_lt hf
  have h2 := p16_17
  have h3 := Nat.div_le_self (vl f 16) (2 ^ n)
  rw [vl_digits hg, Nat.mod_eq_of_lt (by omega)]
theorem bl_great {b A n : Nat} (h : isBL b A) (hb : b ≠ 0) (hn : 512 < b + n) : 2 ^ 512 ≤ A * 2 ^ n := by
  have h1 : 2 ^ (b - 1) ≤ A := h.2.resolve_left hb
  have h2 : 2 ^ 512 ≤ 2 ^ (b - 1 + n) := Nat.pow_le_pow_right (by decide) (by omega)
  rw [Nat.pow_add] at h2
  exact Nat.le_trans h2 (Nat.mul_le_mul_right _ h1)
theorem bl_small {b A n : Nat} (h : isBL b A) (hn : b = 0 ∨ b + n ≤ 512) : A * 2 ^ n < 2 ^ 512 := by
  rcases hn with hb | hb
  · have h1 := h.1
    rw [hb, Nat.pow_zero] at h1
    rw [show A = 0 by omega, Nat.zero_mul]
    exact Nat.pow_pos (by decide)
  · have h1 : A * 2 ^ n < 2 ^ b * 2 ^ n := Nat.mul_lt_mul_of_pos_right h.1 (Nat.pow_pos (by decide))
    rw [← Nat.pow_add] at h1
    exact Nat.lt_of_lt_of_le h1 (Nat.pow_le_pow_right (by decide) hb)
theorem sg_mul (b A P : Nat) : sg b (A * P) = sg b A * (P : Int) := by
  unfold sg
  split
  · rw [Int.neg_mul]; simp
  · simp
theorem shr_0 (A P : Nat) : sg 0 (A / P) = sg 0 A / (P : Int) := by rw [sg_0, sg_0]; simp
theorem shr_1 {A P : Nat} (hP : 0 < P) (h : A % P = 0) : sg 1 (A / P) = sg 1 A / (P : Int) := by
  rw [sg_1, sg_1]
  symm
  apply (Int.ediv_emod_unique (a := -(A : Int)) (r := 0) (q := -((A / P : Nat) : Int)) (show 0 < (P : Int) by omega)).mpr ?_ |>.1
  have h1 := Nat.div_add_mod A P
  rw [h, Nat.add_zero] at h1
  refine ⟨?_, by omega, by omega⟩
  rw [Int.mul_neg, ← Int.natCast_mul, h1]
  omega
theorem shr_2 {A P : Nat} (hP : 0 < P) (h : A % P ≠ 0) : sg 1 (A / P + 1) = sg 1 A / (P : Int) := by
  rw [sg_1, sg_1]
  symm
  apply (Int.ediv_emod_unique (a := -(A : Int)) (r := (P : Int) - ((A % P : Nat) : Int)) (q := -((A / P + 1 : Nat) : Int)) (show 0 < (P : Int) by omega)).mpr ?_ |>.1
  have h1 := Nat.div_add_mod A P
  have h2 := Nat.mod_lt A hP
  refine ⟨?_, by omega, by omega⟩
  rw [Int.mul_neg, ← Int.natCast_mul, Nat.mul_add, Nat.mul_one]
  omega
/-- whether a number is one of w bits -/
def fitsI (V : Int) (w g : Nat) : Prop := if g = 1 then -((2 ^ (w - 1) : Nat) : Int) ≤ V ∧ V < ((2 ^ (w - 1) : Nat) : Int) else 0 ≤ V ∧ V < ((2 ^ w : Nat) : Int)
theorem least_eq {A w : Nat} (hw : 1 ≤ w) : A = 2 ^ (w - 1) ↔ (isBL w A ∧ isTZ (w - 1) A) := by
  have hP : 0 < 2 ^ (w - 1) := Nat.pow_pos (by decide)
  have e : 2 ^ w = 2 ^ (w - 1) * 2 := by rw [← Nat.pow_succ]; congr 1; omega
  constructor
  · intro h
    subst h
    refine ⟨⟨by rw [e]; omega, Or.inr (Nat.le_refl _)⟩, by rw [Nat.mod_self], by rw [Nat.div_self hP]⟩
  · rintro ⟨⟨h1, h2⟩, h3, h4⟩
    have h5 := Nat.div_add_mod A (2 ^ (w - 1))
    rw [h3, Nat.add_zero] at h5
    have h6 : A / 2 ^ (w - 1) < 2 := by
      rw [Nat.div_lt_iff_lt_mul hP]
      omega
    generalize A / 2 ^ (w - 1) = q at *
    rw [show q = 1 by omega] at h5
    omega
/-- the lowest w bits of a word, as a number with sign or without, as 64 bits -/
def cutN (t w g : Nat) : Nat := if g = 1 ∧ 2 ^ (w - 1) ≤ t % 2 ^ w then 2 ^ 64 - 2 ^ w + t % 2 ^ w else t % 2 ^ w
def tcN (w : Nat) (V : Int) : Nat := (V % ((2 ^ w : Nat) : Int)).toNat
theorem cutN_congr {t t' w : Nat} (g : Nat) (h : t % 2 ^ w = t' % 2 ^ w) : cutN t w g = cutN t' w g := by unfold cutN; rw [h]
theorem tc_0 (w A : Nat) : tcN w (sg 0 A) = A % 2 ^ w := by unfold tcN; rw [sg_0]; omega
theorem or_sum2 {a b : Nat} (ha : a < 4294967296) : a ||| b * 4294967296 = b * 4294967296 + a := by
  rw [Nat.or_comm]
  exact or_sum (p := 32) ha
theorem low2 {f : Nat → Nat} (hf : lim f 16) : f 1 * 4294967296 + f 0 = vl f 16 % 18446744073709551616 := by
  have h := vl_split f 2 14
  rw [h]
  have h2 : vl f 2 = f 1 * 4294967296 + f 0 := by simp [vl]; omega
  have h3 := vl_lt (lim_le hf (show 2 ≤ 16 by decide))
  rw [h2] at h3 ⊢
  rw [show 4294967296 ^ 2 = 18446744073709551616 by decide] at h3 ⊢
  omega
theorem sh_cut {t o w : Nat} (h : o + w = 64) : t * 2 ^ o % 2 ^ 64 = t % 2 ^ w * 2 ^ o := by
  rw [show 2 ^ 64 = 2 ^ w * 2 ^ o by rw [← Nat.pow_add]; congr 1; omega, Nat.mul_mod_mul_right]
theorem cut_u {t o w : Nat} (h : o + w = 64) : t * 2 ^ o % 2 ^ 64 / 2 ^ o = cutN t w 0 := by
  rw [sh_cut h, Nat.mul_div_cancel _ (Nat.pow_pos (by decide))]
  unfold cutN
  rw [if_neg (by omega)]
def sar (a n : Nat) : Nat := if a < 2 ^ 63 then a / 2 ^ n else 2 ^ 64 - 1 - (2 ^ 64 - 1 - a) / 2 ^ n
theorem lshr_N {a n : Nat} (ha : a < 2 ^ 64) (hn : n < 64) : lN a >>> ((nI n).toInt64 &&& 63) = lN (sar a n) := by
  rw [wb_c n hn]
  apply wb_inj
  rw [Int64.toBitVec_shiftRight, wb_tb, wb_tb, wb_tb, wb_sm n hn]
  show (BitVec.ofNat 64 a).sshiftRight (BitVec.ofNat 64 n).toNat = _
  rw [BitVec.toNat_ofNat, Nat.mod_eq_of_lt (show n < 2 ^ 64 by omega)]
  have hm : (BitVec.ofNat 64 a).toNat = a := by rw [BitVec.toNat_ofNat, Nat.mod_eq_of_lt ha]
  apply BitVec.eq_of_toNat_eq
  unfold sar
  by_cases h : a < 2 ^ 63
  · rw [if_pos h, BitVec.sshiftRight_eq_of_msb_false (by rw [BitVec.msb_eq_decide, hm]; simp; omega), BitVec.toNat_ushiftRight, hm, Nat.shiftRight_eq_div_pow, BitVec.toNat_ofNat, Nat.mod_eq_of_lt (Nat.lt_of_le_of_lt (Nat.div_le_self _ _) ha)]
  · rw [if_neg h, BitVec.sshiftRight_eq_of_msb_true (by rw [BitVec.msb_eq_decide, hm]; simp; omega), BitVec.toNat_not, BitVec.toNat_ushiftRight, BitVec.toNat_not, hm, Nat.shiftRight_eq_div_pow, BitVec.toNat_ofNat, Nat.mod_eq_of_lt (Nat.lt_of_le_of_lt (Nat.sub_le _ _) (by decide))]
theorem cut_s {t o w : Nat} (h : o + w = 64) (hw : 1 ≤ w) : sar (t * 2 ^ o % 2 ^ 64) o = cutN t w 1 := by
  rw [sh_cut h]
  unfold cutN
  have hm := Nat.mod_lt t (show 0 < 2 ^ w from Nat.pow_pos (by decide))
  generalize t % 2 ^ w = m at hm ⊢
  have hO : 0 < 2 ^ o := Nat.pow_pos (by decide)
  have e64 : 2 ^ 64 = 2 ^ w * 2 ^ o := by rw [← Nat.pow_add]; congr 1; omega
  have e63 : 2 ^ 63 = 2 ^ (w - 1) * 2 ^ o := by rw [← Nat.pow_add]; congr 1; omega
  unfold sar
  by_cases hc : m < 2 ^ (w - 1)
  · have h1 : m * 2 ^ o < 2 ^ 63 := by rw [e63]; exact Nat.mul_lt_mul_of_pos_right hc hO
    rw [if_pos h1, Nat.mul_div_cancel _ hO, if_neg (by omega)]
  · have h1 : ¬ m * 2 ^ o < 2 ^ 63 := by
      rw [e63]
      exact Nat.not_lt.mpr (Nat.mul_le_mul_right _ (by omega))
    rw [if_neg h1, if_pos ⟨rfl, by omega⟩]
    have h2 : (2 ^ 64 - 1 - m * 2 ^ o) / 2 ^ o = 2 ^ w - m - 1 := by
      apply Nat.div_eq_of_lt_le
      · rw [e64, Nat.sub_mul, Nat.sub_mul, Nat.one_mul]
        omega
      · rw [show 2 ^ w - m - 1 + 1 = 2 ^ w - m by omega, Nat.sub_mul, ← e64]
        have h3 : m * 2 ^ o < 2 ^ w * 2 ^ o := Nat.mul_lt_mul_of_pos_right hm hO
        rw [← e64] at h3
        omega
    have h4 : 2 ^ w ≤ 2 ^ 64 := Nat.pow_le_pow_right (by decide) (by omega)
    rw [h2]
    generalize 2 ^ w = W at *
    omega
theorem cutN_neg {A w g : Nat} (hw : w ≤ 64) : cutN (18446744073709551616 - A % 18446744073709551616) w g = cutN (tcN 64 (sg 1 A)) w g := by
  apply cutN_congr
  have h : tcN 64 (sg 1 A) = (18446744073709551616 - A % 18446744073709551616) % 18446744073709551616 := by
    unfold tcN
    rw [sg_1, show ((2 ^ 64 : Nat) : Int) = 18446744073709551616 from rfl]
    omega
  rw [h]
  symm
  exact Nat.mod_mod_of_dvd _ ⟨2 ^ (64 - w), by rw [← Nat.pow_add, show w + (64 - w) = 64 by omega]⟩
theorem bl_uq {b b' A : Nat} (h : isBL b A) (h' : isBL b' A) : b = b' := by
  have h1 := (bl_le h b').mpr h'.1
  have h2 := (bl_le h' b).mpr h.1
  omega
theorem tz_uq {t t' A : Nat} (h : isTZ t A) (h' : isTZ t' A) : t = t' := by
  have h1 := (tz_dvd h t').mpr h'.1
  have h2 := (tz_dvd h' t).mpr h.1
  omega
theorem fit_u1 {b A w g : Nat} (hg : g ≠ 1) (hb : b = 0) (h : A < 2 ^ w) : fitsI (sg b A) w g := by
  unfold fitsI
  rw [if_neg hg, hb, sg_0]
  omega
theorem fit_u0 {b A w g : Nat} (hg : g ≠ 1) (hb : b ≤ 1) (hnz : b = 1 → A ≠ 0) (h : b ≠ 0 ∨ ¬ A < 2 ^ w) : ¬ fitsI (sg b A) w g := by
  unfold fitsI
  rw [if_neg hg]
  by_cases h1 : b = 1
  · have := hnz h1
    rw [h1, sg_1]
    omega
  · rw [show b = 0 by omega, sg_0]
    omega
theorem fit_s1 {b A w g : Nat} (hg : g = 1) (hb : b ≤ 1) (hw : 1 ≤ w) (h : A < 2 ^ (w - 1) ∨ (b = 1 ∧ A = 2 ^ (w - 1))) : fitsI (sg b A) w g := by
  unfold fitsI
  rw [if_pos hg]
  have hP : 0 < 2 ^ (w - 1) := Nat.pow_pos (by decide)
  generalize 2 ^ (w - 1) = P at *
  by_cases h1 : b = 1
  · rw [h1, sg_1]; omega
  · rw [show b = 0 by omega, sg_0]; omega
theorem fit_s0 {b A w g : Nat} (hg : g = 1) (hb : b ≤ 1) (hw : 1 ≤ w) (h : ¬ A < 2 ^ (w - 1)) (h2 : b = 0 ∨ A ≠ 2 ^ (w - 1)) : ¬ fitsI (sg b A) w g := by
  unfold fitsI
  rw [if_pos hg]
  generalize 2 ^ (w - 1) = P at *
  by_cases h1 : b = 1
  · rw [h1, sg_1]; omega
  · rw [show b = 0 by omega, sg_0]; omega
