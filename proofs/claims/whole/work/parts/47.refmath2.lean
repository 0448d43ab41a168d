/-! SHIFTS, CUTS, DIGITS of the reference -/
theorem shl_step {A i g c : Nat} (h : g + c * 10 ^ 330 = A * 2 ^ i * 2 + 0) (hl : A * 2 ^ i < 2 ^ 512) : g = A * 2 ^ (i + 1) := by
  have h1 := grow2 h (by generalize 2 ^ 512 = Q at *; omega)
  rw [h1, Nat.add_zero, Nat.mul_assoc, ← Nat.pow_succ]
theorem shl_mono {A i n : Nat} (h : 2 ^ 512 ≤ A * 2 ^ i) (hn : i ≤ n) : 2 ^ 512 ≤ A * 2 ^ n := Nat.le_trans h (Nat.mul_le_mul_left _ (Nat.pow_le_pow_right (by decide) hn))
theorem idv_s (V : Int) (i : Nat) : V / ((2 ^ i : Nat) : Int) / 2 = V / ((2 ^ (i + 1) : Nat) : Int) := by
  rw [Int.ediv_ediv_of_nonneg (Int.natCast_nonneg _), Nat.pow_succ]
  simp
theorem shr_s0 {o z D : Nat} {V : Int} (h : D = 2 * o + z) (hz : z < 2) (hv : sg 0 D = V) : sg 0 o = V / 2 := by
  rw [← hv, sg_0, sg_0]; omega
theorem shr_s1 {o z D : Nat} {V : Int} (h : D = 2 * o + z) (hz : z = 0) (hv : sg 1 D = V) : sg 1 o = V / 2 := by
  rw [← hv, sg_1, sg_1]; omega
theorem shr_s2 {o z D : Nat} {V : Int} (h : D = 2 * o + z) (hz : z = 1) (hv : sg 1 D = V) : sg 1 (o + 1) = V / 2 := by
  rw [← hv, sg_1, sg_1]; omega
theorem p1k : 2 ^ 512 + 2 < 1000 * 2 ^ 512 := by decide +kernel
theorem lN_md (a : Nat) : lN a = lN (a % 18446744073709551616) := by
  show Int64.ofNat a = Int64.ofNat _
  apply Int64.toBitVec_inj.mp
  show BitVec.ofNat 64 a = BitVec.ofNat 64 _
  apply BitVec.eq_of_toNat_eq
  rw [BitVec.toNat_ofNat, BitVec.toNat_ofNat]
  omega
theorem neg_lNm (a : Nat) : -lN a = lN (18446744073709551616 - a % 18446744073709551616) := by
  rw [lN_md a]
  exact neg_lN (by omega)
theorem cut_dig {dg bw lm : Nat → Nat} (hI : IM dg bw lm) {i q : Nat} (hi : i ≤ 63) (hq : q < 160) : 10 * (dl (shf dg (160 * i)) 160 / 10 ^ (q + 1)) + dg (160 * i + q) = dl (shf dg (160 * i)) 160 / 10 ^ q := by
  rw [dv10 (dl (shf dg (160 * i)) 160) q, dl_dig (hI.d (show i < 64 by omega)) hq]
  rfl
theorem sar_lt {X n : Nat} (hX : X < 2 ^ 64) : sar X n < 2 ^ 64 := by
  unfold sar
  split
  · exact Nat.lt_of_le_of_lt (Nat.div_le_self _ _) hX
  · generalize (2 ^ 64 - 1 - X) / 2 ^ n = y at *
    omega
theorem sar_0 {X : Nat} (hX : X < 2 ^ 64) : sar X 0 = X := by
  unfold sar
  rw [Nat.pow_zero, Nat.div_one, Nat.div_one]
  split
  · rfl
  · omega
theorem sar_s {X d : Nat} (hX : X < 2 ^ 64) : sar (sar X d) 1 = sar X (d + 1) := by
  unfold sar
  by_cases h : X < 2 ^ 63
  · have h1 : X / 2 ^ d < 2 ^ 63 := Nat.lt_of_le_of_lt (Nat.div_le_self _ _) h
    rw [if_pos h, if_pos h, if_pos h1, Nat.div_div_eq_div_mul, ← Nat.pow_add]
  · have h1 : (2 ^ 64 - 1 - X) / 2 ^ d ≤ 2 ^ 64 - 1 - X := Nat.div_le_self _ _
    rw [if_neg h, if_neg h, if_neg (by omega), show d + 1 = d + 1 from rfl, Nat.pow_add, ← Nat.div_div_eq_div_mul]
    generalize (2 ^ 64 - 1 - X) / 2 ^ d = y at *
    congr 2
    omega
theorem sar_byt {u k : Nat} (hu : u < 18446744073709551616) (hk : k ≤ 7) : sar u (8 * k) &&& 255 = byt u k := by
  have h255 := Nat.and_two_pow_sub_one_eq_mod (sar u (8 * k)) 8
  rw [show 2 ^ 8 - 1 = 255 from rfl, show 2 ^ 8 = 256 from rfl] at h255
  rw [h255]
  unfold sar byt
  by_cases h : u < 2 ^ 63
  · rw [if_pos h]
  · rw [if_neg h, cpl_dv (n := 64) (by omega) (by omega)]
    have h3 : u / 2 ^ (8 * k) < 2 ^ (64 - 8 * k) := by
      apply Nat.div_lt_of_lt_mul
      rw [← Nat.pow_add, show 8 * k + (64 - 8 * k) = 64 by omega]; omega
    have h4 : 2 ^ (64 - 8 * k) ≤ 2 ^ 64 := Nat.pow_le_pow_right (by decide) (by omega)
    obtain ⟨m, hm⟩ : ∃ m, 2 ^ (64 - 8 * k) = 256 * m := ⟨2 ^ (56 - 8 * k), by rw [show 256 = 2 ^ 8 from rfl, ← Nat.pow_add]; congr 1; omega⟩
    rw [hm] at h3 h4 ⊢
    generalize u / 2 ^ (8 * k) = y at *
    omega
theorem cut_T0 {A w g : Nat} (hw : w ≤ 64) : cutN A w g = cutN (tcN 64 (sg 0 A)) w g := by
  apply cutN_congr
  rw [tc_0]
  symm
  exact Nat.mod_mod_of_dvd _ ⟨2 ^ (64 - w), by rw [← Nat.pow_add, show w + (64 - w) = 64 by omega]⟩
theorem dvb {A b n r z : Nat} (hb : 2 ≤ b) (h : A / b ^ n = b * r + z) (hz : z < b) : r = A / b ^ (n + 1) ∧ z = A / b ^ n % b := by
  rw [Nat.pow_succ, ← Nat.div_div_eq_div_mul, h]
  exact ⟨by rw [Nat.mul_add_div (by omega), Nat.div_eq_of_lt hz, Nat.add_zero], by rw [Nat.mul_add_mod, Nat.mod_eq_of_lt hz]⟩
theorem nd_of2 {A b n : Nat} (h1 : n ≠ 0) (h0 : A / b ^ n = 0) (hb : 2 ≤ b) (hm : n ≤ 1 ∨ b ^ (n - 1) ≤ A) : isND n b A := by
  refine ⟨by omega, ?_, ?_⟩
  · rcases Nat.lt_or_ge A (b ^ n) with h | h
    · exact h
    · exact absurd h0 (Nat.ne_of_gt (Nat.div_pos h (Nat.pow_pos (by omega))))
  · rcases hm with h | h
    · exact Or.inl (by omega)
    · exact Or.inr h
theorem rd_b {V b d g c : Nat} (hV : V < 2 ^ 512) (hb : b ≤ 36) (hd : d ≤ 35) (h : g + c * 10 ^ 330 = V * b + d) : g = V * b + d := by
  refine grow2 h ?_
  have h1 : V * b ≤ 2 ^ 512 * 36 := Nat.mul_le_mul (Nat.le_of_lt hV) hb
  have h2 := p10_
  generalize 2 ^ 512 = Q at *
  omega
