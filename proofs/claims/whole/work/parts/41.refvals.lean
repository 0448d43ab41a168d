/-! THE VALUES of the reference's slots -/
def valM (dg bw : Nat → Nat) (i : Nat) : Int := sg (bw i) (dl (shf dg (160 * i)) 160)
def IM (dg bw lm : Nat → Nat) : Prop := (∀ i, i < 64 → dlm (shf dg (160 * i)) 160 ∧ bw i ≤ 1 ∧ (bw i = 1 → dl (shf dg (160 * i)) 160 ≠ 0) ∧ dl (shf dg (160 * i)) 160 < 2 ^ 512) ∧ dlm lm 330 ∧ dl lm 330 = 2 ^ 512
theorem IM.d {dg bw lm : Nat → Nat} (h : IM dg bw lm) {i : Nat} (hi : i < 64) : dlm (shf dg (160 * i)) 160 := (h.1 i hi).1
theorem IM.b {dg bw lm : Nat → Nat} (h : IM dg bw lm) {i : Nat} (hi : i < 64) : bw i ≤ 1 := (h.1 i hi).2.1
theorem IM.z {dg bw lm : Nat → Nat} (h : IM dg bw lm) {i : Nat} (hi : i < 64) : bw i = 1 → dl (shf dg (160 * i)) 160 ≠ 0 := (h.1 i hi).2.2.1
theorem IM.lt {dg bw lm : Nat → Nat} (h : IM dg bw lm) {i : Nat} (hi : i < 64) : dl (shf dg (160 * i)) 160 < 2 ^ 512 := (h.1 i hi).2.2.2
theorem IM.l {dg bw lm : Nat → Nat} (h : IM dg bw lm) : dlm lm 330 := h.2.1
theorem IM.lv {dg bw lm : Nat → Nat} (h : IM dg bw lm) : dl lm 330 = 2 ^ 512 := h.2.2
theorem p160 : 2 ^ 512 < 10 ^ 160 := by decide +kernel
theorem p330 : 40 * (2 ^ 512 * 2 ^ 512) < 10 ^ 330 := by decide +kernel
theorem p330a : 1000 * 2 ^ 512 < 10 ^ 330 := by decide +kernel
section VM
variable {G : gG} {b0 o : Nat} {ad : Nat → Nat} {H H1 Hc : Heap} {th : Nat} {dg bw lm lf rt ou rs : Nat → Nat} {lb rb ob : Nat} {bL bR : Nat → Nat} {td : Nat} {tp : Nat → Nat} {wn : Nat} {tx : Nat → Nat}
/-- the reference's object holds the numbers V -/
def RM (G : gG) (b0 o : Nat) (ad : Nat → Nat) (H : Heap) (V : Nat → Int) (tp : Nat → Nat) (td : Nat) (tx : Nat → Nat) (wn : Nat) (H1 : Heap) : Prop := ∃ (th : Nat) (dg bw lm lf rt ou rs : Nat → Nat) (lb rb ob : Nat) (bL bR : Nat → Nat), SM G b0 o ad H th dg bw lm lf rt ou rs lb rb ob bL bR td tp wn tx H1 ∧ IM dg bw lm ∧ ∀ i, i < 64 → valM dg bw i = V i
def KM (G : gG) (b0 o : Nat) (ad : Nat → Nat) (H : Heap) (V : Nat → Int) (tp : Nat → Nat) (td : Nat) (tx : Nat → Nat) (wn : Nat) (k : Nat) (v : Int) (r : Int32) (H1 : Heap) : Prop := (v.natAbs < 2 ^ 512 ∧ r = nI 0 ∧ RM G b0 o ad H (fup V k v) tp td tx wn H1) ∨ (2 ^ 512 ≤ v.natAbs ∧ r = nI 1 ∧ RM G b0 o ad H V tp td tx wn H1)
theorem RM.trans {V : Nat → Int} {tp' : Nat → Nat} {td' : Nat} {tx' : Nat → Nat} {wn' : Nat} (h : SM G b0 o ad H th dg bw lm lf rt ou rs lb rb ob bL bR td tp wn tx Hc) (h1 : RM G b0 o ad Hc V tp' td' tx' wn' H1) : RM G b0 o ad H V tp' td' tx' wn' H1 := by
  obtain ⟨a1, a2, a3, a4, a5, a6, a7, a8, a9, a10, a11, a12, a13, c1, c2⟩ := h1
  exact ⟨a1, a2, a3, a4, a5, a6, a7, a8, a9, a10, a11, a12, a13, WO.trans h c1, c2⟩
theorem KM.trans {V : Nat → Int} {tp' : Nat → Nat} {td' : Nat} {tx' : Nat → Nat} {wn' : Nat} {k : Nat} {v : Int} {r : Int32} (h : SM G b0 o ad H th dg bw lm lf rt ou rs lb rb ob bL bR td tp wn tx Hc) (h1 : KM G b0 o ad Hc V tp' td' tx' wn' k v r H1) : KM G b0 o ad H V tp' td' tx' wn' k v r H1 := by
  rcases h1 with ⟨a, b, c⟩ | ⟨a, b, c⟩
  · exact Or.inl ⟨a, b, RM.trans h c⟩
  · exact Or.inr ⟨a, b, RM.trans h c⟩
theorem KM.val {V : Nat → Int} {k : Nat} {v v' : Int} {r : Int32} (h : KM G b0 o ad H V tp td tx wn k v r H1) (hv : v = v') : KM G b0 o ad H V tp td tx wn k v' r H1 := hv ▸ h
theorem SM.r (h : SM G b0 o ad H th dg bw lm lf rt ou rs lb rb ob bL bR td tp wn tx H1) (hI : IM dg bw lm) : RM G b0 o ad H (valM dg bw) tp td tx wn H1 := ⟨th, dg, bw, lm, lf, rt, ou, rs, lb, rb, ob, bL, bR, h, hI, fun _ _ => rfl⟩
end VM
theorem dl_low {f : Nat → Nat} (h : dlm f 330) (hl : dl f 330 < 10 ^ 160) : dl f 160 = dl f 330 := by
  have h1 : dl f (160 + 170) = _ := dl_split f 160 170
  rw [show 160 + 170 = 330 from rfl] at h1
  generalize dl (fun j => f (160 + j)) 170 = X at h1
  exact (no_carry h1.symm hl)
/-- a row kept in a slot -/
theorem kept_M {dg bw lm D ou : Nat → Nat} (hI : IM dg bw lm) {k b z : Nat} (hk : k < 64) (hou : dlm ou 330) (hlt : dl ou 330 < 2 ^ 512) (hb : b ≤ 1) (hD1 : ∀ j, j < 160 → D (160 * k + j) = ou j) (hD2 : ∀ j, j < 160 * k ∨ 160 * k + 160 ≤ j → D j = dg j) (hz : (b = 1 ∧ dl ou 330 ≠ 0 ∧ z = 1) ∨ ((b ≠ 1 ∨ dl ou 330 = 0) ∧ z = 0)) :
    IM D (fup bw k z) lm ∧ ∀ i, i < 64 → valM D (fup bw k z) i = fup (valM dg bw) k (sg b (dl ou 330)) i := by
  have hv : dl (shf D (160 * k)) 160 = dl ou 330 := by
    rw [← dl_low hou (Nat.lt_trans hlt p160)]
    exact dl_congr hD1
  have hn : ∀ i, i < 64 → i ≠ k → ∀ j, j < 160 → shf D (160 * i) j = shf dg (160 * i) j := fun i hi e j hj => hD2 (160 * i + j) (by omega)
  constructor
  · refine ⟨fun i hi => ?_, hI.l, hI.lv⟩
    by_cases e : i = k
    · subst e
      rw [fup_s, hv]
      exact ⟨fun j hj => by show D (160 * i + j) < 10; rw [hD1 j hj]; exact hou j (by omega), by omega, fun h1 => by omega, hlt⟩
    · rw [fup_n _ _ e, dl_congr (hn i hi e)]
      exact ⟨fun j hj => by rw [hn i hi e j hj]; exact hI.d hi j hj, hI.b hi, hI.z hi, hI.lt hi⟩
  · intro i hi
    unfold valM
    by_cases e : i = k
    · subst e
      rw [fup_s, fup_s, hv]
      unfold sg
      rcases hz with ⟨h1, h2, h3⟩ | ⟨h1, h3⟩
      · rw [if_pos h3, if_pos h1]
      · rw [if_neg (by omega)]
        rcases h1 with h1 | h1
        · rw [if_neg h1]
        · rw [h1]; split <;> rfl
    · rw [fup_n _ _ e, fup_n _ _ e, dl_congr (hn i hi e)]
/-- the digits of a number by its quotients -/
theorem dl_dig {f : Nat → Nat} : ∀ {n k : Nat}, dlm f n → k < n → dl f n / 10 ^ k % 10 = f k
  | 0, k, _, h => absurd h (by omega)
  | n + 1, k, hf, h => by
    have hp : 0 < 10 ^ k := Nat.pow_pos (by decide)
    have hl := dl_lt (dlm_le hf (Nat.le_succ n))
    rw [dl_succ]
    by_cases e : k = n
    · subst e
      rw [Nat.add_mul_div_right _ _ hp, Nat.div_eq_of_lt hl, Nat.zero_add]
      exact Nat.mod_eq_of_lt (hf k h)
    · have hm : 10 ^ n = 10 ^ k * (10 * 10 ^ (n - k - 1)) := by
        rw [← Nat.pow_succ', ← Nat.pow_add]; congr 1; omega
      rw [hm, show f n * (10 ^ k * (10 * 10 ^ (n - k - 1))) = f n * (10 * 10 ^ (n - k - 1)) * 10 ^ k by ac_rfl, Nat.add_mul_div_right _ _ hp, show f n * (10 * 10 ^ (n - k - 1)) = 10 * (f n * 10 ^ (n - k - 1)) by ac_rfl, Nat.add_mul_mod_self_left]
      exact dl_dig (dlm_le hf (Nat.le_succ n)) (by omega)
theorem dv10 (A k : Nat) : A / 10 ^ k = 10 * (A / 10 ^ (k + 1)) + A / 10 ^ k % 10 := by
  rw [Nat.pow_succ, ← Nat.div_div_eq_div_mul]; omega
theorem dv2 (A k : Nat) : A / 2 ^ k = 2 * (A / 2 ^ (k + 1)) + A / 2 ^ k % 2 := by
  rw [Nat.pow_succ, ← Nat.div_div_eq_div_mul]; omega
/-- growing by 2 or 10 without a carry -/
theorem grow2 {g c S : Nat} (h : g + c * 10 ^ 330 = S) (hS : S < 1000 * 2 ^ 512) : g = S := no_carry h (Nat.lt_trans hS p330a)
theorem p64_ : 18446744073709551616 < 1000 * 2 ^ 512 := by decide +kernel
theorem grow_bit {g c w q : Nat} (hw : w < 1000 * 2 ^ 512) (h : g + c * 10 ^ 330 = w / 2 ^ (q + 1) * 2 + w / 2 ^ q % 2) : g = w / 2 ^ q := by
  rw [Nat.mul_comm _ 2, ← dv2 w q] at h
  exact grow2 h (Nat.lt_of_le_of_lt (Nat.div_le_self _ _) hw)
theorem p10_ : 10 ≤ 2 ^ 512 := by decide +kernel
theorem mul_lt_P {A B N : Nat} (hA : A < 2 ^ 512) (hB : B < 2 ^ 512) (hN : N ≤ B + 10) : A * N < 10 ^ 330 := by
  have h0 : N ≤ 2 * 2 ^ 512 := by
    have h9 := p10_
    generalize 2 ^ 512 = P at *
    omega
  have h1 : A * N ≤ 2 ^ 512 * (2 * 2 ^ 512) := Nat.mul_le_mul (Nat.le_of_lt hA) h0
  have h2 := p330
  rw [Nat.mul_left_comm] at h1
  generalize 2 ^ 512 * 2 ^ 512 = P at h1 h2
  omega
theorem n10_le (A B q : Nat) : A / 10 ^ (q + 1) / B * 10 ≤ A := by
  have h1 : A / 10 ^ (q + 1) / B ≤ A / 10 ^ (q + 1) := Nat.div_le_self _ _
  have h2 := dv10 A q
  have h3 : A / 10 ^ q ≤ A := Nat.div_le_self _ _
  omega
theorem times_ten {g c A B q : Nat} (hA : A < 2 ^ 512) (hB : B < 2 ^ 512) (h : g + c * 10 ^ 330 = A * (B / 10 ^ (q + 1)) * 10 + 0) : g = A * (10 * (B / 10 ^ (q + 1))) := by
  rw [Nat.add_zero, Nat.mul_assoc, Nat.mul_comm _ 10] at h
  have h2 := dv10 B q
  have h3 : B / 10 ^ q ≤ B := Nat.div_le_self _ _
  exact no_carry h (mul_lt_P hA hB (by omega))
theorem times_step {g c A B q n : Nat} (hA : A < 2 ^ 512) (hB : B < 2 ^ 512) (hn : n < 10) (h : g + c * 10 ^ 330 = A * (10 * (B / 10 ^ (q + 1)) + n) + A) : g = A * (10 * (B / 10 ^ (q + 1)) + (n + 1)) := by
  rw [← Nat.mul_succ] at h
  have h2 := dv10 B q
  have h3 : B / 10 ^ q ≤ B := Nat.div_le_self _ _
  exact no_carry h (mul_lt_P hA hB (by omega))
theorem inc0 {g : Nat → Nat} {S n : Nat} (h : dl g 330 = S + n) : dl (fup g 0 (g 0 + 1)) 330 = S + (n + 1) := by
  have h1 := dl_fup (f := g) (i := 0) (g 0 + 1) (show 0 < 330 by decide)
  rw [Nat.pow_zero] at h1
  omega
theorem div_step {r' r B n R0 : Nat} (h : r' + B = r) (hw : r + n * B = R0) : r' + (n + 1) * B = R0 := by
  rw [Nat.succ_mul]; omega
theorem div_uq {N B Q r : Nat} (h : N = B * Q + r) (hr : r < B) : Q = N / B ∧ r = N % B := by
  subst h
  constructor
  · rw [Nat.mul_add_div (by omega), Nat.div_eq_of_lt hr, Nat.add_zero]
  · rw [Nat.mul_add_mod, Nat.mod_eq_of_lt hr]
theorem div_done {f : Nat → Nat} {q B g r n : Nat} (hf : dlm f 330) (hq : q < 330) (hv : g = 10 * (dl f 330 / 10 ^ (q + 1) / B) + n) (hw : r + n * B = 10 * (dl f 330 / 10 ^ (q + 1) % B) + f q) (hr : r < B) : g = dl f 330 / 10 ^ q / B ∧ r = dl f 330 / 10 ^ q % B := by
  have h1 := dv10 (dl f 330) q
  rw [dl_dig hf hq] at h1
  generalize dl f 330 / 10 ^ q = N at *
  generalize dl f 330 / 10 ^ (q + 1) = Y at *
  have h2 := Nat.div_add_mod Y B
  refine div_uq ?_ hr
  subst hv
  generalize Y / B = a at *
  generalize Y % B = b at *
  have h3 : B * (10 * a + n) = 10 * (B * a) + n * B := by rw [Nat.mul_add, Nat.mul_comm B n]; congr 1; ac_rfl
  rw [h3]
  generalize B * a = u at *
  generalize n * B = v at *
  omega
