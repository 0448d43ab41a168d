/-! WORK; DIGITS; READING -/
def wv (n : Nat) (X Y : Int) : Int := if n = 0 then X + Y else if n = 1 then X - Y else if n = 2 then X * Y else if n = 3 then Int.tdiv X Y else if n = 4 then Int.tmod X Y else btI 544 n X Y
def noop (x : Int32) : Prop := ∀ n, n ≤ 8 → x ≠ nI n
theorem op_cases (x : Int32) : x = nI 0 ∨ x = nI 1 ∨ x = nI 2 ∨ x = nI 3 ∨ x = nI 4 ∨ x = nI 5 ∨ x = nI 6 ∨ x = nI 7 ∨ x = nI 8 ∨ (noop x ∧ (x.toInt < 0 ∨ 8 < x.toInt)) := by
  by_cases h : x < 0
  · have h2 : x.toInt < 0 := by rw [Int32.lt_iff_toInt_lt, Int32.toInt_zero] at h; exact h
    iterate 9 right
    exact ⟨fun n hn e => nI_pos (show n < 2 ^ 31 by omega) (e ▸ h), Or.inl h2⟩
  · obtain ⟨i, hi, rfl⟩ := nI_of h
    by_cases h8 : i ≤ 8
    · have : i = 0 ∨ i = 1 ∨ i = 2 ∨ i = 3 ∨ i = 4 ∨ i = 5 ∨ i = 6 ∨ i = 7 ∨ i = 8 := by omega
      rcases this with rfl | rfl | rfl | rfl | rfl | rfl | rfl | rfl | rfl <;> simp
    · iterate 9 right
      exact ⟨fun n hn e => by have := (nI_eq hi (by omega)).mp e; omega, Or.inr (by rw [nI_toInt hi]; omega)⟩
theorem sub_sg0 {c A : Nat} {X : Int} (h : c ≠ 0) (hc : c ≤ 1) : X + sg 0 A = X - sg c A := by rw [show c = 1 by omega, sg_1, sg_0]; omega
theorem sub_sg1 {c A : Nat} {X : Int} (h : c = 0) : X + sg 1 A = X - sg c A := by rw [h, sg_1, sg_0]; omega
/-- byte j of a word -/
def byt (u j : Nat) : Nat := u / 2 ^ (8 * j) % 256
/-- the digits added by the bytes below k, the highest first: how many there are then, and what they are -/
def dgs (u : Nat) : Nat → Nat → (Nat → Nat) → Nat × (Nat → Nat)
  | 0, n, f => (n, f)
  | k + 1, n, f => if byt u k = 0 then dgs u k n f else dgs u k (n + 1) (fup f n (worthN (byt u k)))
theorem dgs_0 {u k n : Nat} {f : Nat → Nat} (h : byt u k = 0) : dgs u (k + 1) n f = dgs u k n f := by rw [dgs, if_pos h]
theorem dgs_1 {u k n : Nat} {f : Nat → Nat} (h : byt u k ≠ 0) : dgs u (k + 1) n f = dgs u k (n + 1) (fup f n (worthN (byt u k))) := by rw [dgs, if_neg h]
def okb (u k : Nat) : Prop := ∀ j, j < k → byt u j ≠ 0 → worthN (byt u j) ≤ 35
theorem dgs_le (u : Nat) : ∀ k n f, n ≤ (dgs u k n f).1 ∧ (dgs u k n f).1 ≤ n + k
  | 0, n, f => ⟨Nat.le_refl n, Nat.le_refl n⟩
  | k + 1, n, f => by
    by_cases h : byt u k = 0
    · rw [dgs_0 h]; have := dgs_le u k n f; omega
    · rw [dgs_1 h]; have := dgs_le u k (n + 1) (fup f n (worthN (byt u k))); omega
theorem dgs_same (u : Nat) : ∀ k n f j, j < n → (dgs u k n f).2 j = f j
  | 0, n, f, j, _ => rfl
  | k + 1, n, f, j, hj => by
    by_cases h : byt u k = 0
    · rw [dgs_0 h]; exact dgs_same u k n f j hj
    · rw [dgs_1 h, dgs_same u k _ _ j (by omega), fup_n _ _ (by omega)]
theorem dgs_cong (u : Nat) : ∀ k n f g, (∀ j, j < n → f j = g j) → (dgs u k n f).1 = (dgs u k n g).1 ∧ ∀ j, j < (dgs u k n f).1 → (dgs u k n f).2 j = (dgs u k n g).2 j
  | 0, n, f, g, h => ⟨rfl, h⟩
  | k + 1, n, f, g, h => by
    by_cases hb : byt u k = 0
    · rw [dgs_0 hb, dgs_0 hb]; exact dgs_cong u k n f g h
    · rw [dgs_1 hb, dgs_1 hb]
      refine dgs_cong u k (n + 1) _ _ (fun j hj => ?_)
      by_cases e : j = n
      · rw [e, fup_s, fup_s]
      · rw [fup_n _ _ e, fup_n _ _ e]; exact h j (by omega)
theorem dgs_n (u : Nat) : ∀ k n f g, (dgs u k n f).1 = (dgs u k n g).1
  | 0, n, f, g => rfl
  | k + 1, n, f, g => by
    by_cases hb : byt u k = 0
    · rw [dgs_0 hb, dgs_0 hb]; exact dgs_n u k n f g
    · rw [dgs_1 hb, dgs_1 hb]; exact dgs_n u k (n + 1) _ _
theorem nI_dec8 (k : Nat) : nI (8 * (k + 1)) - 8 = nI (8 * k) := by
  rw [show 8 * (k + 1) = 8 * k + 8 by omega, ← nI_add, show nI 8 = 8 from rfl]
  grind
theorem nI_m8 (x : Int32) : x + Int32.ofInt (-8) = x - 8 := by rw [Int32.sub_eq_add_neg]; rfl
/-- digits read in a base -/
def rdv (b : Nat) (f : Nat → Nat) : Nat → Nat
  | 0 => 0
  | i + 1 => rdv b f i * b + f i
theorem rdv_s (b : Nat) (f : Nat → Nat) (i : Nat) : rdv b f (i + 1) = rdv b f i * b + f i := rfl
theorem rdv_mono {b : Nat} (f : Nat → Nat) (hb : 1 ≤ b) : ∀ {i j : Nat}, i ≤ j → rdv b f i ≤ rdv b f j
  | i, 0, h => by rw [show i = 0 by omega]; exact Nat.le_refl _
  | i, j + 1, h => by
    by_cases e : i = j + 1
    · rw [e]; exact Nat.le_refl _
    · have h1 := rdv_mono f hb (show i ≤ j by omega)
      rw [rdv_s]
      have h2 : rdv b f j * 1 ≤ rdv b f j * b := Nat.mul_le_mul_left _ hb
      omega
theorem rdv_congr {b : Nat} {f g : Nat → Nat} : ∀ {n : Nat}, (∀ j, j < n → f j = g j) → rdv b f n = rdv b g n
  | 0, _ => rfl
  | n + 1, h => by rw [rdv_s, rdv_s, rdv_congr (fun j hj => h j (by omega)), h n (by omega)]
theorem rd_step {V P G R b d : Nat} (h : V * P + G = R) : V * (P * b) + (G * b + d) = R * b + d := by
  rw [← h, Nat.add_mul, ← Nat.mul_assoc]; omega
theorem rd_lt {P G b d : Nat} (hG : G < P) (hd : d < b) : G * b + d < P * b := by
  have : (G + 1) * b ≤ P * b := Nat.mul_le_mul_right _ hG
  rw [Nat.add_mul] at this
  omega
theorem rd_flush {V P G x c T : Nat} (hV : V < 2 ^ 512) (hP : P ≤ 2147483648) (hG : G < P) (h : x + c * 4294967296 ^ 17 = V * P + G) : x = V * P + G := by
  have h1 : V * P + G < 2 ^ 512 * 2147483648 := by
    have a : (V + 1) * P ≤ 2 ^ 512 * P := Nat.mul_le_mul_right _ hV
    have b : 2 ^ 512 * P ≤ 2 ^ 512 * 2147483648 := Nat.mul_le_mul_left _ hP
    rw [Nat.add_mul] at a
    omega
  have h2 : 2 ^ 512 * 2147483648 < 4294967296 ^ 17 := by decide +kernel
  exact no_carry h (Nat.lt_trans h1 h2)
theorem top0 {f : Nat → Nat} (hf : lim f 17) : (f 16 = 0 → vl f 17 < 2 ^ 512) ∧ (f 16 ≠ 0 → 2 ^ 512 ≤ vl f 17) := by
  have h1 := vl_lt (lim_le hf (show 16 ≤ 17 by decide))
  rw [B16] at h1
  constructor
  · intro h
    rw [vl_succ, h, Nat.zero_mul, Nat.add_zero]
    exact h1
  · intro h
    rw [vl_succ, B16]
    have : 1 * 2 ^ 512 ≤ f 16 * 2 ^ 512 := Nat.mul_le_mul_right _ (by omega)
    omega
theorem worth_cases (c : Nat) : worthN c ≤ 35 ∨ worthN c = 99 := by unfold worthN; (repeat' split) <;> omega
theorem nI_nm1 {k : Nat} (h : k < 2 ^ 31) : ¬ nI k = -1 := by
  intro e
  have := nI_toInt h
  rw [e, show (-1 : Int32).toInt = -1 from rfl] at this
  omega
theorem and255 (n : Nat) : nI n &&& nI 255 = nI (n % 256) := by
  rw [show nI 255 = (255 : Int32) from rfl, pk_and (nI n) 8 (by decide)]
  have h : (nI n).toBitVec.toNat = n % 2 ^ 32 := by
    show (BitVec.ofNat 32 n).toNat = _
    rw [BitVec.toNat_ofNat]
  rw [h]
  exact congrArg nI (by omega)
section RW6
variable {p : Program} {l : Launch} {e : Env} {R : Room} {s : State} {m : MethodId} {args : Array Value} {below : List Frame} {meth : Method} {c : Code} {H : Heap} {locs : List Loc} {cells slots : Nat} {Q : State → Prop}
variable {cc : ByteArray} {pc : Nat} {ls : Array Slot} {rest : List Value}
theorem m_iand255n (hx : p.tables.exec = Jvm.exec) (hb : c.code = cc) {a : Nat} (hdg : decode cc pc = .ok (.iand, 1)) (k : W p l e R s m args below meth c H locs cells slots Q (F0 m (pc + 1) ls (.int (nI (a % 256)) :: rest))) : W p l e R s m args below meth c H locs cells slots Q (F0 m pc ls (.int (nI 255) :: .int (nI a) :: rest)) := lv_iand hx hb hdg (by rw [and255]; exact k)
end RW6
