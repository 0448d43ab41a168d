/-! OPERATIONS ON BITS; DIVISION -/
def bop (op a b : Nat) : Nat := if op = 5 then a &&& b else if op = 6 then a ||| b else if op = 7 then a ^^^ b else a &&& (a ^^^ b)
theorem bop_bit (op a b i : Nat) : (bop op a b).testBit i = if op = 5 then a.testBit i && b.testBit i else if op = 6 then a.testBit i || b.testBit i else if op = 7 then a.testBit i ^^ b.testBit i else a.testBit i && (a.testBit i ^^ b.testBit i) := by
  unfold bop
  (repeat' split) <;> simp [Nat.testBit_and, Nat.testBit_or, Nat.testBit_xor]
theorem bop_lt {op a b w : Nat} (ha : a < 2 ^ w) (hb : b < 2 ^ w) : bop op a b < 2 ^ w := by
  unfold bop
  (repeat' split)
  · exact Nat.and_lt_two_pow a hb
  · exact Nat.or_lt_two_pow ha hb
  · exact Nat.xor_lt_two_pow ha hb
  · exact Nat.and_lt_two_pow a (Nat.xor_lt_two_pow ha hb)
theorem vl_bit {f : Nat → Nat} : ∀ {n : Nat}, lim f n → ∀ k, (vl f n).testBit k = if k < 32 * n then (f (k / 32)).testBit (k % 32) else false
  | 0, _, k => by simp [vl]
  | n + 1, h, k => by
    have h1 := vl_lt (lim_le h (Nat.le_succ n))
    have e : 4294967296 ^ n = 2 ^ (32 * n) := by rw [Nat.pow_mul]
    rw [e] at h1
    rw [vl_succ, Nat.add_comm, Nat.mul_comm, e, Nat.testBit_two_pow_mul_add _ h1, vl_bit (lim_le h (Nat.le_succ n)) k]
    by_cases h2 : k < 32 * n
    · rw [if_pos h2, if_pos h2, if_pos (by omega)]
    · rw [if_neg h2]
      by_cases h3 : k < 32 * (n + 1)
      · rw [if_pos h3, show k / 32 = n by omega, show k % 32 = k - 32 * n by omega]
      · rw [if_neg h3]
        exact Nat.testBit_lt_two_pow (Nat.lt_of_lt_of_le (h n (by omega)) (Nat.pow_le_pow_right (n := 2) (by decide) (show 32 ≤ k - 32 * n by omega)))
theorem bop_lim {op : Nat} {f g h : Nat → Nat} {n : Nat} (hf : lim f n) (hg : lim g n) (hh : ∀ j, j < n → h j = bop op (f j) (g j)) : lim h n := fun j hj => by
  rw [hh j hj]
  exact bop_lt (w := 32) (hf j hj) (hg j hj)
theorem bop_vl {op : Nat} {f g h : Nat → Nat} {n : Nat} (hf : lim f n) (hg : lim g n) (hh : ∀ j, j < n → h j = bop op (f j) (g j)) : vl h n = bop op (vl f n) (vl g n) := by
  apply Nat.eq_of_testBit_eq
  intro k
  rw [bop_bit, vl_bit (bop_lim hf hg hh), vl_bit hf, vl_bit hg]
  by_cases hk : k < 32 * n
  · rw [if_pos hk, if_pos hk, if_pos hk, hh _ (by omega), bop_bit]
  · rw [if_neg hk, if_neg hk, if_neg hk]
    (repeat' split) <;> rfl
theorem andn_lN {a b : Nat} (ha : a < 2 ^ 64) (hb : b < 2 ^ 64) : lN a &&& (lN b ^^^ (-1)) = lN (a &&& (a ^^^ b)) := by
  apply wb_inj
  rw [Int64.toBitVec_and, Int64.toBitVec_xor, wb_tb, wb_tb, wb_tb, show (-1 : Int64).toBitVec = BitVec.allOnes 64 from rfl]
  apply BitVec.eq_of_getLsbD_eq
  intro i hi
  rw [BitVec.getLsbD_and, BitVec.getLsbD_xor, BitVec.getLsbD_ofNat, BitVec.getLsbD_ofNat, BitVec.getLsbD_ofNat, BitVec.getLsbD_allOnes, Nat.testBit_and, Nat.testBit_xor]
  simp only [hi, decide_true, Bool.true_and]
  cases a.testBit i <;> cases b.testBit i <;> rfl
def fromN (w c : Nat) : Int := if c < 2 ^ (w - 1) then (c : Int) else (c : Int) - ((2 ^ w : Nat) : Int)
def btI (w op : Nat) (X Y : Int) : Int := fromN w (bop op (tcN w X) (tcN w Y))
theorem p544 : 2 ^ 544 = 2 ^ 512 * 4294967296 := by rw [show 4294967296 = 2 ^ 32 from rfl, ← Nat.pow_add]
theorem p543 : 2 ^ 543 = 2 ^ 512 * 2147483648 := by rw [show 2147483648 = 2 ^ 31 from rfl, ← Nat.pow_add]
theorem tc_544 {b A : Nat} (hb : b ≤ 1) (hA : A < 2 ^ 512) : tcN 544 (sg b A) = if b = 1 then (2 ^ 544 - A) % 2 ^ 544 else A := by
  have h := p544
  unfold tcN
  by_cases e : b = 1
  · rw [if_pos e, e, sg_1]
    generalize 2 ^ 544 = P at *
    generalize 2 ^ 512 = Q at *
    by_cases hz : A = 0
    · subst hz
      simp
    · have h1 : (-(A : Int)) % (P : Int) = ((P - A : Nat) : Int) := by
        apply (Int.ediv_emod_unique (a := -(A : Int)) (b := (P : Int)) (r := ((P - A : Nat) : Int)) (q := -1) (by omega)).mpr ?_ |>.2
        refine ⟨?_, by omega, by omega⟩
        rw [Int.mul_neg, Int.mul_one]
        omega
      rw [h1, Nat.mod_eq_of_lt (by omega)]
      omega
  · rw [if_neg e, show b = 0 by omega, sg_0]
    have h1 : ((A : Int)) % ((2 ^ 544 : Nat) : Int) = (A : Int) := Int.emod_eq_of_lt (by omega) (by omega)
    rw [h1]
    omega
/-- the top limb of a number with bits of its sign in front -/
theorem top_limb {g : Nat → Nat} (hg : lim g 17) {b A : Nat} (hb : b ≤ 1) (hA : A < 2 ^ 512) (hnz : b = 1 → A ≠ 0) (hv : vl g 17 = tcN 544 (sg b A)) : g 16 = if b = 1 then 4294967295 else 0 := by
  have h1 := vl_lt (lim_le hg (show 16 ≤ 17 by decide))
  have h := p544
  rw [tc_544 hb hA, vl_succ, B16] at hv
  rw [B16] at h1
  have h3 := hg 16 (by decide)
  generalize 2 ^ 544 = P at *
  generalize 2 ^ 512 = Q at *
  by_cases e : b = 1
  · have := hnz e
    rw [if_pos e] at hv ⊢
    rw [Nat.mod_eq_of_lt (by omega)] at hv
    rcases Nat.lt_or_ge (g 16) 4294967295 with h4 | h4
    · have h5 : (g 16 + 1) * Q ≤ 4294967295 * Q := Nat.mul_le_mul_right _ h4
      rw [Nat.add_mul] at h5
      omega
    · omega
  · rw [if_neg e] at hv ⊢
    rcases Nat.eq_zero_or_pos (g 16) with h4 | h4
    · exact h4
    · have h5 : 1 * Q ≤ g 16 * Q := Nat.mul_le_mul_right _ h4
      omega
theorem bop_top {op b c : Nat} (x y : Nat) (hx : x = if b = 1 then 4294967295 else 0) (hy : y = if c = 1 then 4294967295 else 0) : bop op x y = 0 ∨ bop op x y = 4294967295 := by
  rw [hx, hy]
  unfold bop
  (repeat' split) <;> first | exact Or.inl (by decide) | exact Or.inr (by decide)
theorem bt_pos {op : Nat} {f : Nat → Nat} {X Y : Int} (hf : lim f 17) (h0 : f 16 = 0) (hv : vl f 17 = bop op (tcN 544 X) (tcN 544 Y)) : sg 0 (vl f 17) = btI 544 op X Y := by
  have h1 := vl_lt (lim_le hf (show 16 ≤ 17 by decide))
  rw [B16] at h1
  have h2 : vl f 17 = vl f 16 := by rw [vl_succ, h0, Nat.zero_mul, Nat.add_zero]
  have h3 := p543
  unfold btI fromN
  rw [← hv, if_pos (by rw [h2]; omega), sg_0]
theorem bt_neg {op : Nat} {f g : Nat → Nat} {X Y : Int} (hf : lim f 17) (h0 : f 16 = 4294967295) (hv : vl f 17 = bop op (tcN 544 X) (tcN 544 Y)) (hg : vl g 17 = (4294967296 ^ 17 - vl f 17) % 4294967296 ^ 17) : sg 1 (vl g 17) = btI 544 op X Y := by
  have h1 := vl_lt hf
  have h2 : vl f 17 = vl f 16 + 4294967295 * 2 ^ 512 := by rw [vl_succ, h0, B16]
  have h3 := p543
  have h4 := p544
  have hQ : 0 < 2 ^ 512 := Nat.pow_pos (by decide)
  rw [B17] at h1 hg
  unfold btI fromN
  rw [← hv, sg_1, hg]
  generalize 2 ^ 544 = P at *
  generalize 2 ^ 512 = Q at *
  rw [show (544 - 1 : Nat) = 543 from rfl, if_neg (by rw [h3]; omega), Nat.mod_eq_of_lt (by omega)]
  omega
theorem tdiv_sg (b c A D : Nat) (hb : b ≤ 1) (hc : c ≤ 1) : sg (if b = c then 0 else 1) (A / D) = Int.tdiv (sg b A) (sg c D) := by
  unfold sg
  rcases (show b = 0 ∨ b = 1 by omega) with rfl | rfl <;> rcases (show c = 0 ∨ c = 1 by omega) with rfl | rfl <;> simp [Int.neg_tdiv, Int.tdiv_neg]
theorem tmod_sg (b c A D : Nat) (hb : b ≤ 1) (hc : c ≤ 1) : sg b (A % D) = Int.tmod (sg b A) (sg c D) := by
  have h : (A : Int).tmod (D : Int) = ((A % D : Nat) : Int) := (Int.ofNat_tmod A D).symm
  unfold sg
  rcases (show b = 0 ∨ b = 1 by omega) with rfl | rfl <;> rcases (show c = 0 ∨ c = 1 by omega) with rfl | rfl <;> simp [Int.neg_tmod, Int.tmod_neg, h]
theorem mul_sg (b c A D : Nat) (hb : b ≤ 1) (hc : c ≤ 1) : sg (if b = c then 0 else 1) (A * D) = sg b A * sg c D := by
  unfold sg
  rcases (show b = 0 ∨ b = 1 by omega) with rfl | rfl <;> rcases (show c = 0 ∨ c = 1 by omega) with rfl | rfl <;> simp [Int.neg_mul, Int.mul_neg]
