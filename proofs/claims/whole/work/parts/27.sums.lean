/-! SUMS, SIGNS, SMALL VALUES -/
theorem sum_same {c A B g : Nat} (h : g = A + B) : sg c g = sg c A + sg c B := by unfold sg; split <;> omega
theorem sum_diff1 {b c A B g : Nat} (hb : b ≤ 1) (hc : c ≤ 1) (hbc : b ≠ c) (h : g + B = A) : sg b g = sg b A + sg c B := by unfold sg; split <;> split <;> omega
theorem sum_diff2 {b c A B g : Nat} (hb : b ≤ 1) (hc : c ≤ 1) (hbc : b ≠ c) (h : g + A = B) : sg c g = sg b A + sg c B := by unfold sg; split <;> split <;> omega
theorem no_carry {g c T S : Nat} (h : g + c * T = S) (hS : S < T) : g = S := by
  rcases Nat.eq_zero_or_pos c with h0 | h0
  · rw [h0, Nat.zero_mul] at h; omega
  · have : 1 * T ≤ c * T := Nat.mul_le_mul_right _ h0
    omega
theorem no_borrow {g c T A D : Nat} (h : g + D = A + c * T) (hg : g < T) (hAD : D ≤ A) : g + D = A := by
  rcases Nat.eq_zero_or_pos c with h0 | h0
  · rw [h0, Nat.zero_mul] at h; omega
  · have : 1 * T ≤ c * T := Nat.mul_le_mul_right _ h0
    omega
theorem l16_17 {f : Nat → Nat} : vl (lat 16 f) 17 = vl f 16 := vl_lat (by decide)
theorem l16_16 {f : Nat → Nat} : vl (lat 16 f) 16 = vl f 16 := vl_lat (by decide)
theorem p16_17 : 2 * 4294967296 ^ 16 < 4294967296 ^ 17 := by decide +kernel
theorem add_v {f1 f2 g : Nat → Nat} {c1 : Nat} (h1 : lim f1 16) (h2 : lim f2 16) (h : vl g 17 + c1 * 4294967296 ^ 17 = vl (lat 16 f1) 17 + vl (lat 16 f2) 17) : vl g 17 = vl f1 16 + vl f2 16 := by
  rw [l16_17, l16_17] at h
  have a := vl_lt h1
  have b := vl_lt h2
  have d := p16_17
  exact no_carry h (by omega)
theorem sub_v {f1 f2 g : Nat → Nat} {c1 : Nat} (hg : lim g 17) (h : vl g 17 + vl (lat 16 f2) 17 = vl (lat 16 f1) 17 + c1 * 4294967296 ^ 17) (hle : vl f2 16 ≤ vl f1 16) : vl g 17 + vl f2 16 = vl f1 16 := by
  rw [l16_17, l16_17] at h
  exact no_borrow h (vl_lt hg) hle
theorem ge0_lN {u : Nat} (h : u < 18446744073709551616) : lN 0 ≤ lN u ↔ u < 9223372036854775808 := by
  rw [Int64.le_iff_toInt_le, pk_lT (show 0 < 2 ^ 63 by decide)]
  have h1 : (lN u).toInt = if u < 9223372036854775808 then (u : Int) else (u : Int) - 18446744073709551616 := by
    show (Int64.ofNat u).toInt = _
    rw [Int64.toInt_ofNat', show Int64.size = 18446744073709551616 from rfl, Int.bmod_def]
    split <;> split <;> omega
  rw [h1]
  split <;> omega
theorem neg_lN {u : Nat} (h : u ≤ 18446744073709551616) : -lN u = lN (18446744073709551616 - u) := by
  have h1 := sub_lN (a := 0) h
  rw [show lN 0 = 0 from rfl, Nat.zero_add] at h1
  rw [← h1]
  grind
theorem two_limbs (w : Nat) (h : w < 18446744073709551616) : ∀ n, vl (fup (fup (fun _ => 0) 0 (w % 4294967296)) 1 (w / 4294967296)) (n + 2) = w
  | 0 => by simp [vl, fup]; omega
  | n + 1 => by rw [vl_succ, two_limbs w h n]; simp [fup]
theorem two_lim (w n : Nat) (h : w < 18446744073709551616) : lim (fup (fup (fun _ => 0) 0 (w % 4294967296)) 1 (w / 4294967296)) n := lim_fup (lim_fup (fun _ _ => (by decide : 0 < 4294967296)) (Nat.mod_lt _ (by decide))) (by omega)
/-- a long, with its sign or without -/
def setv (u g : Nat) : Int := if g = 1 ∧ 9223372036854775808 ≤ u then (u : Int) - 18446744073709551616 else (u : Int)
theorem setv_neg {u : Nat} (h : 9223372036854775808 ≤ u) (h2 : u < 18446744073709551616) : sg 1 (18446744073709551616 - u) = setv u 1 := by
  unfold setv
  rw [if_pos ⟨rfl, h⟩, sg_1]
  omega
theorem setv_pos {u g : Nat} (h : g = 0 ∨ u < 9223372036854775808) : sg 0 u = setv u g := by
  unfold setv
  rw [if_neg (by omega), sg_0]
def noslot (x : Int32) : Prop := ∀ k, 0 ≤ k → k ≤ 63 → k < 2 ^ 31 → x ≠ nI k
def cmpP (r : Int32) (a b : Int) : Prop := (a < b ∧ r = -1) ∨ (a = b ∧ r = 0) ∨ (b < a ∧ r = 1)
theorem cmp_n1 {sz : Nat → Nat → Nat} {bl : Nat → Nat} {i j : Nat} (hI : IV sz bl) (hi : i < 64) (hj : j < 64) (h : bl i ≠ bl j) (h1 : bl i ≠ 0) : cmpP (-1) (valX sz bl i) (valX sz bl j) := by
  have a := hI i hi
  have b := hI j hj
  refine Or.inl ⟨?_, rfl⟩
  unfold valX sg
  rw [if_pos (by omega), if_neg (by omega)]
  have := a.2.2 (by omega)
  omega
theorem cmp_n0 {sz : Nat → Nat → Nat} {bl : Nat → Nat} {i j : Nat} (hI : IV sz bl) (hi : i < 64) (hj : j < 64) (h : bl i ≠ bl j) (h1 : bl i = 0) : cmpP 1 (valX sz bl i) (valX sz bl j) := by
  have a := hI i hi
  have b := hI j hj
  refine Or.inr (Or.inr ⟨?_, rfl⟩)
  unfold valX sg
  rw [if_pos (show bl j = 1 by omega), if_neg (by omega)]
  have := b.2.2 (by omega)
  omega
theorem cmp_p {sz : Nat → Nat → Nat} {bl : Nat → Nat} {i j : Nat} {r : Int32} (h : bl i = bl j) (h1 : bl i = 0) (ho : ordP r (vl (sz i) 16) (vl (sz j) 16)) : cmpP r (valX sz bl i) (valX sz bl j) := by
  unfold valX sg
  rw [if_neg (by omega), if_neg (by omega)]
  rcases ho with ⟨a, b⟩ | ⟨a, b⟩ | ⟨a, b⟩
  · exact Or.inl ⟨by omega, b⟩
  · exact Or.inr (Or.inl ⟨by omega, b⟩)
  · exact Or.inr (Or.inr ⟨by omega, b⟩)
theorem cmp_m {sz : Nat → Nat → Nat} {bl : Nat → Nat} {i j : Nat} {r : Int32} (hb : bl i ≤ 1) (h : bl i = bl j) (h1 : bl i ≠ 0) (ho : ordP r (vl (sz i) 16) (vl (sz j) 16)) : cmpP (-r) (valX sz bl i) (valX sz bl j) := by
  unfold valX sg
  rw [if_pos (by omega), if_pos (by omega)]
  rcases ho with ⟨a, rfl⟩ | ⟨a, rfl⟩ | ⟨a, rfl⟩
  · exact Or.inr (Or.inr ⟨by omega, by decide⟩)
  · exact Or.inr (Or.inl ⟨by omega, by decide⟩)
  · exact Or.inl ⟨by omega, by decide⟩
theorem inc17 {x : Nat} (h : x < 4294967296 ^ 16) : (x + 1) % 4294967296 ^ 17 = x + 1 := by
  have := p16_17
  exact Nat.mod_eq_of_lt (by omega)
