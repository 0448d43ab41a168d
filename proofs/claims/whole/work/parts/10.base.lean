/-! ===== lN n to 2^64: shifts, and, or, masks, one bit ===== -/
theorem wb_tb (n : Nat) : (lN n).toBitVec = BitVec.ofNat 64 n := rfl
theorem wb_inj {a b : Int64} (h : a.toBitVec = b.toBitVec) : a = b := Int64.toBitVec_inj.mp h
theorem wb_tn {n : Nat} (h : n < 2 ^ 64) : (lN n).toBitVec.toNat = n := by rw [wb_tb, BitVec.toNat_ofNat, Nat.mod_eq_of_lt h]
theorem wb_of (x : Int64) : ∃ n, n < 2 ^ 64 ∧ x = lN n := ⟨x.toBitVec.toNat, x.toBitVec.isLt, wb_inj (by rw [wb_tb]; simp)⟩
theorem wb_of32 (x : Int32) : ∃ n, n < 2 ^ 32 ∧ x = nI n := ⟨x.toBitVec.toNat, x.toBitVec.isLt, Int32.toBitVec_inj.mp (by show _ = BitVec.ofNat 32 _; simp)⟩
theorem wb_c : ∀ k, k < 64 → ((nI k).toInt64 &&& 63) = lN k := by decide +kernel
theorem wb_cu : ∀ k, k < 64 → ((nI k).toInt64.toUInt64 &&& Int64.toUInt64 63) = UInt64.ofNat k := by decide +kernel
theorem wb_sm : ∀ k, k < 64 → (BitVec.ofNat 64 k).smod 64 = BitVec.ofNat 64 k := by decide +kernel
theorem wb_pw {a b : Nat} (h : a ≤ b) : 2 ^ b = 2 ^ a * 2 ^ (b - a) := by rw [← Nat.pow_add]; congr 1; omega
theorem wb_lt2 {a b : Nat} (h : a < b) : 2 ^ a < 2 ^ b := Nat.pow_lt_pow_right (by decide) h
theorem wb_mod (n : Nat) : lN n = lN (n % 2 ^ 64) := wb_inj (by rw [wb_tb, wb_tb]; apply BitVec.eq_of_toNat_eq; rw [BitVec.toNat_ofNat, BitVec.toNat_ofNat, Nat.mod_mod])
theorem wb_shr {n k : Nat} (hn : n < 2 ^ 64) (hk : k < 64) : ((lN n).toUInt64 >>> ((nI k).toInt64.toUInt64 &&& Int64.toUInt64 63)).toInt64 = lN (n / 2 ^ k) := by
  rw [wb_cu k hk]
  apply wb_inj
  apply BitVec.eq_of_toNat_eq
  show ((lN n).toUInt64 >>> UInt64.ofNat k).toNat = (BitVec.ofNat 64 _).toNat
  have h1 : (UInt64.ofNat k).toNat = k := by
    show (BitVec.ofNat 64 k).toNat = k
    rw [BitVec.toNat_ofNat, Nat.mod_eq_of_lt (by omega)]
  have h2 : (lN n).toUInt64.toNat = n := wb_tn hn
  rw [UInt64.toNat_shiftRight, h1, h2, Nat.mod_eq_of_lt hk, Nat.shiftRight_eq_div_pow, BitVec.toNat_ofNat, Nat.mod_eq_of_lt (Nat.lt_of_le_of_lt (Nat.div_le_self _ _) hn)]
theorem wb_shl (n : Nat) {k : Nat} (hk : k < 64) : lN n <<< ((nI k).toInt64 &&& 63) = lN (n * 2 ^ k) := by
  rw [wb_c k hk]
  apply wb_inj
  rw [Int64.toBitVec_shiftLeft, wb_tb, wb_tb, wb_tb, wb_sm k hk]
  apply BitVec.eq_of_toNat_eq
  rw [BitVec.shiftLeft_eq', BitVec.toNat_shiftLeft, BitVec.toNat_ofNat, BitVec.toNat_ofNat, BitVec.toNat_ofNat, Nat.mod_eq_of_lt (show k < 2 ^ 64 by omega), Nat.shiftLeft_eq, Nat.mul_mod, Nat.mod_mod, ← Nat.mul_mod]
theorem wb_and {a b : Nat} (ha : a < 2 ^ 64) (hb : b < 2 ^ 64) : lN a &&& lN b = lN (a &&& b) := by
  apply wb_inj
  rw [Int64.toBitVec_and, wb_tb, wb_tb, wb_tb]
  apply BitVec.eq_of_toNat_eq
  rw [BitVec.toNat_and, BitVec.toNat_ofNat, BitVec.toNat_ofNat, BitVec.toNat_ofNat, Nat.mod_eq_of_lt ha, Nat.mod_eq_of_lt hb, Nat.mod_eq_of_lt (Nat.and_lt_two_pow _ hb)]
theorem wb_or {a b : Nat} (ha : a < 2 ^ 64) (hb : b < 2 ^ 64) : lN a ||| lN b = lN (a ||| b) := by
  apply wb_inj
  rw [Int64.toBitVec_or, wb_tb, wb_tb, wb_tb]
  apply BitVec.eq_of_toNat_eq
  rw [BitVec.toNat_or, BitVec.toNat_ofNat, BitVec.toNat_ofNat, BitVec.toNat_ofNat, Nat.mod_eq_of_lt ha, Nat.mod_eq_of_lt hb, Nat.mod_eq_of_lt (Nat.or_lt_two_pow ha hb)]
theorem wb_mask {n k : Nat} (hn : n < 2 ^ 64) (hk : k < 64) : lN n &&& lN (2 ^ k - 1) = lN (n % 2 ^ k) := by
  rw [wb_and hn (by have := wb_lt2 hk; omega), Nat.and_two_pow_sub_one_eq_mod]
theorem wb_a1 {n : Nat} (hn : n < 2 ^ 64) : lN n &&& 1 = lN (n % 2) := wb_mask (k := 1) hn (by decide)
theorem wb_bit {n k : Nat} (hn : n < 2 ^ 64) (hk : k < 64) : ((lN n).toUInt64 >>> ((nI k).toInt64.toUInt64 &&& Int64.toUInt64 63)).toInt64 &&& 1 = lN (n / 2 ^ k % 2) := by
  rw [wb_shr hn hk, wb_a1 (Nat.lt_of_le_of_lt (Nat.div_le_self _ _) hn)]
theorem wb_xor {q k : Nat} (hk : k < 63) (h : 2 ^ k ≤ q) (h2 : q < 2 ^ (k + 1)) : lN q ^^^ lN (2 ^ k) = lN (q - 2 ^ k) := by
  obtain ⟨r, rfl⟩ : ∃ r, q = 2 ^ k + r := ⟨q - 2 ^ k, by omega⟩
  have hr : r < 2 ^ k := by rw [Nat.pow_succ] at h2; omega
  have hx : (2 ^ k + r) ^^^ 2 ^ k = r := by
    apply Nat.eq_of_testBit_eq
    intro i
    rw [Nat.testBit_xor, Nat.testBit_two_pow]
    rcases Nat.lt_trichotomy i k with h | h | h
    · rw [Nat.testBit_two_pow_add_gt h]
      simp [show ¬ k = i by omega]
    · subst h
      rw [Nat.testBit_two_pow_add_eq]
      simp
    · have a1 : 2 ^ (k + 1) ≤ 2 ^ i := Nat.pow_le_pow_right (by decide) h
      rw [Nat.testBit_lt_two_pow (show 2 ^ k + r < 2 ^ i by omega), Nat.testBit_lt_two_pow (show r < 2 ^ i by omega)]
      simp [show ¬ k = i by omega]
  have b1 := wb_lt2 (show k + 1 < 64 by omega)
  have b2 := wb_lt2 (show k < 64 by omega)
  apply wb_inj
  rw [Int64.toBitVec_xor, wb_tb, wb_tb, wb_tb]
  apply BitVec.eq_of_toNat_eq
  rw [BitVec.toNat_xor, BitVec.toNat_ofNat, BitVec.toNat_ofNat, BitVec.toNat_ofNat, Nat.mod_eq_of_lt (by omega : 2 ^ k + r < 2 ^ 64), Nat.mod_eq_of_lt b2, hx, Nat.add_sub_cancel_left, Nat.mod_eq_of_lt (by omega)]
/-! ===== lN: masks, 'or' of parts that don't overlap is a sum ===== -/
theorem u_tn {n : Nat} (h : n < 2 ^ 64) : (UInt64.ofNat n).toNat = n := Nat.mod_eq_of_lt h
theorem g_and {a b c : Nat} (ha : a < 2 ^ 64) (hb : b < 2 ^ 64) (hc : a &&& b = c) : lN a &&& lN b = lN c := by
  subst hc
  have h : UInt64.ofNat a &&& UInt64.ofNat b = UInt64.ofNat (a &&& b) := UInt64.toNat_inj.mp (by rw [UInt64.toNat_and, u_tn ha, u_tn hb, u_tn (Nat.and_lt_two_pow a hb)])
  have h2 := congrArg UInt64.toInt64 h
  exact h2
theorem g_and1 {a : Nat} (ha : a < 2 ^ 64) : lN a &&& 1 = lN (a % 2) := g_and (b := 1) ha (by decide) (Nat.and_two_pow_sub_one_eq_mod a 1)
theorem g_mask {a s p : Nat} (hp : 2 ^ s = p) (hs : s < 64) (ha : a < 2 ^ 64) : lN a &&& lN (p - 1) = lN (a % p) := by
  subst hp
  have := Nat.pow_lt_pow_right (show 1 < 2 by decide) hs
  exact g_and ha (by omega) (Nat.and_two_pow_sub_one_eq_mod a s)
theorem g_or {k p a b : Nat} (hp : 2 ^ k = p) (ha : a < p) (h : b * p + a < 2 ^ 64) : lN (b * p) ||| lN a = lN (b * p + a) := by
  subst hp
  have h1 : b * 2 ^ k ||| a = b * 2 ^ k + a := by rw [← Nat.shiftLeft_eq, Nat.shiftLeft_add_eq_or_of_lt ha]
  have h3 : UInt64.ofNat (b * 2 ^ k) ||| UInt64.ofNat a = UInt64.ofNat (b * 2 ^ k + a) := UInt64.toNat_inj.mp (by rw [UInt64.toNat_or, u_tn (by omega), u_tn (by omega), u_tn h, h1])
  have h2 := congrArg UInt64.toInt64 h3
  exact h2
theorem g_or' {k p a b : Nat} (hp : 2 ^ k = p) (ha : a < p) (h : a + b * p < 2 ^ 64) : lN a ||| lN (b * p) = lN (a + b * p) := by
  rw [Int64.or_comm, g_or hp ha (by omega), Nat.add_comm]
theorem g_ushr {a k p : Nat} {y : UInt64} (hy : y = UInt64.ofNat k) (hk : k < 64) (hp : 2 ^ k = p) (ha : a < 2 ^ 64) : ((lN a).toUInt64 >>> y).toInt64 = lN (a / p) := by
  subst hy hp
  have h : UInt64.ofNat a >>> UInt64.ofNat k = UInt64.ofNat (a / 2 ^ k) := UInt64.toNat_inj.mp (by rw [UInt64.toNat_shiftRight, u_tn ha, u_tn (by omega), u_tn (Nat.lt_of_le_of_lt (Nat.div_le_self _ _) ha), Nat.mod_eq_of_lt hk, Nat.shiftRight_eq_div_pow])
  have h2 := congrArg UInt64.toInt64 h
  exact h2
theorem g_shl {a k p : Nat} {y : Int64} (hy : y.toBitVec.smod 64 = BitVec.ofNat 64 k) (hk : k < 64) (hp : 2 ^ k = p) (ha : a < 2 ^ 64) : lN a <<< y = lN (a * p) := by
  subst hp
  apply Int64.toBitVec_inj.mp
  rw [Int64.toBitVec_shiftLeft, hy]
  apply BitVec.eq_of_toNat_eq
  have hb : (lN a).toBitVec.toNat = a := Nat.mod_eq_of_lt ha
  have hk' : (BitVec.ofNat 64 k).toNat = k := Nat.mod_eq_of_lt (by omega)
  have h : ((lN a).toBitVec <<< BitVec.ofNat 64 k).toNat = (a * 2 ^ k) % 2 ^ 64 := by simp only [BitVec.shiftLeft_eq', BitVec.toNat_shiftLeft, hb, hk', Nat.shiftLeft_eq]
  exact h
/-! MY BASE: heaps as maps; arrays of limbs as functions into Nat; contracts with an exact heap -/
def hput (H : Heap) (a : Nat) (x : Cell) : Heap := H.setIfInBounds a x
theorem hput_size (H : Heap) (a : Nat) (x : Cell) : (hput H a x).size = H.size := by simp [hput]
theorem hput_self {H : Heap} {a : Nat} (x : Cell) (h : a < H.size) : (hput H a x)[a]? = some x := by
  simp [hput, h]
theorem hput_ne {H : Heap} {a b : Nat} (x : Cell) (h : b ≠ a) : (hput H a x)[b]? = H[b]? := by
  unfold hput
  rw [Array.getElem?_setIfInBounds, if_neg (Ne.symm h)]
theorem hput_put (H : Heap) (a : Nat) (x y : Cell) : hput (hput H a x) a y = hput H a y := by
  simp [hput]
theorem hput_comm (H : Heap) {a b : Nat} (x y : Cell) (h : a ≠ b) : hput (hput H a x) b y = hput (hput H b y) a x := by
  apply Array.ext_getElem?
  intro i
  by_cases h1 : i = a
  · subst h1
    rw [hput_ne _ h]
    by_cases h2 : i < H.size
    · rw [hput_self _ h2, hput_self _ (by rw [hput_size]; exact h2)]
    · rw [Array.getElem?_eq_none (by rw [hput_size]; omega), Array.getElem?_eq_none (by rw [hput_size, hput_size]; omega)]
  · rw [hput_ne (H := hput H b y) _ h1]
    by_cases h3 : i = b
    · subst h3
      by_cases h2 : i < H.size
      · rw [hput_self _ h2, hput_self _ (by rw [hput_size]; exact h2)]
      · rw [Array.getElem?_eq_none (by rw [hput_size, hput_size]; omega), Array.getElem?_eq_none (by rw [hput_size]; omega)]
    · rw [hput_ne _ h3, hput_ne _ h1, hput_ne _ h3]
theorem hput_same {H : Heap} {a : Nat} {x : Cell} (h : H[a]? = some x) : hput H a x = H := by
  apply Array.ext_getElem?
  intro i
  by_cases h1 : i = a
  · subst h1
    rw [hput_self _ (Array.getElem?_eq_some_iff.mp h).1, h]
  · rw [hput_ne _ h1]
theorem hput_of {H H1 : Heap} {a : Nat} {x : Cell} (h : H1[a]? = some x) (hs : H1.size = H.size) (ho : ∀ q, q ≠ a → H1[q]? = H[q]?) : H1 = hput H a x := by
  apply Array.ext_getElem?
  intro i
  by_cases h1 : i = a
  · subst h1
    rw [h, hput_self _ (by rw [← hs]; exact (Array.getElem?_eq_some_iff.mp h).1)]
  · rw [hput_ne _ h1, ho i h1]
theorem lt_of_at {H : Heap} {a : Nat} {x : Cell} (h : H[a]? = some x) : a < H.size := (Array.getElem?_eq_some_iff.mp h).1
/-- a function changed at one place -/
def fup {α : Type} (f : Nat → α) (i : Nat) (x : α) : Nat → α := fun j => if j = i then x else f j
theorem fup_s {α : Type} (f : Nat → α) (i : Nat) (x : α) : fup f i x i = x := by simp [fup]
theorem fup_n {α : Type} (f : Nat → α) {i j : Nat} (x : α) (h : j ≠ i) : fup f i x j = f j := by simp [fup, h]
theorem fup_up {α : Type} (f : Nat → α) (i : Nat) (x y : α) : fup (fup f i x) i y = fup f i y := by
  funext j; unfold fup; split <;> rfl
abbrev gG : Type := va_G × (Nat → ClassId)
/-- the classes, and the array classes: long, boolean, byte, long[], int -/
abbrev tyG (G : gG) : List (ClassId × FieldType) := [(G.2 0, .long), (G.2 1, .boolean), (G.2 2, .byte), (G.2 3, .array .long), (G.2 4, .int)]
def KK (G : gG) (U : State) : Prop := va_K G.1 vwCl (tyG G) U
theorem KK.moved {G : gG} {u U : State} (hvm : u.vm.Alike U.vm) (h : KK G u) : KK G U := va_K.moved hvm h
def aJ (G : gG) (n : Nat) (f : Nat → Nat) : Cell := arrV (G.2 0) n (fun j => .long (lN (f j)))
def aZ (G : gG) (n : Nat) (f : Nat → Nat) : Cell := arrV (G.2 1) n (fun j => .int (nI (f j)))
def aB (G : gG) (n : Nat) (f : Nat → Nat) : Cell := arrV (G.2 2) n (fun j => .int (nI (f j)))
def aI (G : gG) (n : Nat) (f : Nat → Int32) : Cell := arrV (G.2 4) n (fun j => .int (f j))
def aR (G : gG) (n : Nat) (f : Nat → Nat) : Cell := arrV (G.2 3) n (fun j => .ref (f j))
theorem updV_J (f : Nat → Nat) (i x : Nat) : updV (fun j => Value.long (lN (f j))) i (.long (lN x)) = fun j => Value.long (lN (fup f i x j)) := by
  funext j; unfold updV fup; split <;> rfl
theorem updV_N (f : Nat → Nat) (i x : Nat) : updV (fun j => Value.int (nI (f j))) i (.int (nI x)) = fun j => Value.int (nI (fup f i x j)) := by
  funext j; unfold updV fup; split <;> rfl
theorem updV_I (f : Nat → Int32) (i : Nat) (x : Int32) : updV (fun j => Value.int (f j)) i (.int x) = fun j => Value.int (fup f i x j) := by
  funext j; unfold updV fup; split <;> rfl
/-- what a method answers, and the heap behind it -/
def QcI (P : Int32 → Heap → Prop) : Array Value → State → Outcome → State → Prop := fun _ _ o t => ∃ r, o = .returned (some (.int r)) ∧ P r t.heap
def QcL (P : Int64 → Heap → Prop) : Array Value → State → Outcome → State → Prop := fun _ _ o t => ∃ r, o = .returned (some (.long r)) ∧ P r t.heap
def QcV (P : Heap → Prop) : Array Value → State → Outcome → State → Prop := fun _ _ o t => o = .returned none ∧ P t.heap
/-- the start of a method: its arguments, the heap, the tables -/
def PcH (G : gG) (H : Heap) (As : List Value) : Array Value → State → Prop := va_Pc As (fun U => U.heap = H ∧ KK G U)
theorem PcH_blind (G : gG) (H : Heap) (As : List Value) : FrameBlind (PcH G H As) := fun a U g mk q => by
  obtain ⟨q0, q1, q2⟩ := q
  exact ⟨q0, q1, KK.moved (u := U) (U := U.calling g mk a) (Vm.Alike.refl U.vm) q2⟩
/-- the locations written so far are all from b0 on -/
def lcs (b0 : Nat) (locs : List Loc) : Prop := ∀ q ∈ locs, b0 ≤ q.base
theorem lcs_nil (b0 : Nat) : lcs b0 [] := fun _ h => by cases h
theorem lcs_add {b0 : Nat} {locs : List Loc} (h : lcs b0 locs) {a k : Nat} (ha : b0 ≤ a) : lcs b0 (locs ++ [⟨a, k⟩]) := by
  intro q hq
  rcases List.mem_append.mp hq with h1 | h1
  · exact h q h1
  · rw [List.mem_singleton.mp h1]; exact ha
theorem lcs_app {b0 : Nat} {locs L : List Loc} (h : lcs b0 locs) (h2 : ∀ q ∈ L, b0 ≤ q.base) : lcs b0 (locs ++ L) := by
  intro q hq
  rcases List.mem_append.mp hq with h1 | h1
  · exact h q h1
  · exact h2 q h1
abbrev fre (b0 : Nat) : Addr → Prop := fun q => b0 ≤ q
theorem nI_inj {a b : Nat} (ha : a < 2 ^ 31) (hb : b < 2 ^ 31) : nI a = nI b ↔ a = b := nI_eq ha hb
theorem nI_decI (x : Int32) : x + Int32.ofInt (-1) = x - 1 := by rw [Int32.sub_eq_add_neg]; rfl
theorem lN_ne0 {n : Nat} (h0 : 0 < n) (h : n < 2 ^ 63) : ¬ lN n = 0 := by
  intro q
  have := (pk_lEQ h (show 0 < 2 ^ 63 by decide)).mp (q.trans (show (0 : Int64) = lN 0 from rfl))
  omega
theorem m_maskN (a : Nat) : lN a &&& lN 4294967295 = lN (a % 4294967296) := by
  rw [wb_mod a]
  have h := wb_mask (n := a % 2 ^ 64) (k := 32) (Nat.mod_lt _ (by decide)) (by decide)
  rw [show (2 : Nat) ^ 32 - 1 = 4294967295 from rfl] at h
  rw [h, show (2 : Nat) ^ 32 = 4294967296 from rfl, Nat.mod_mod_of_dvd _ (by decide)]
theorem sub_lN {a b : Nat} (hb : b ≤ 18446744073709551616) : lN a - lN b = lN (a + 18446744073709551616 - b) := by
  have h1 : lN (a + 18446744073709551616 - b) + lN b = lN a := by
    rw [lN_add, show a + 18446744073709551616 - b + b = a + 18446744073709551616 by omega]
    exact (wb_mod _).trans ((congrArg lN (show (a + 18446744073709551616) % 2 ^ 64 = a % 2 ^ 64 by omega)).trans (wb_mod a).symm)
  rw [← h1]
  grind
theorem sub_mask {a b : Nat} (hb : b ≤ 4294967296) : lN a - lN b &&& lN 4294967295 = lN ((a + 4294967296 - b) % 4294967296) := by
  rw [sub_lN (by omega), m_maskN]
  exact congrArg lN (by omega)
theorem sub_sub_lN (a b c : Nat) : lN a - lN b - lN c = lN a - lN (b + c) := by
  rw [← lN_add]
  grind
theorem sub_ge0 {a b : Nat} (ha : a < 2 ^ 62) (hb : b < 2 ^ 62) : lN 0 ≤ lN a - lN b ↔ b ≤ a := by
  rw [Int64.le_iff_toInt_le, Int64.toInt_sub, pk_lT (by omega), pk_lT (by omega), pk_lT (by omega), Int.bmod_def]
  split <;> omega
theorem not_mask {a : Nat} (ha : a < 4294967296) : (lN a ^^^ (-1)) &&& lN 4294967295 = lN (4294967295 - a) := by
  have h1 : lN a ^^^ (-1) = lN (18446744073709551615 - a) := by
    apply wb_inj
    rw [Int64.toBitVec_xor, wb_tb, wb_tb, show (-1 : Int64).toBitVec = BitVec.allOnes 64 from rfl, BitVec.xor_allOnes]
    apply BitVec.eq_of_toNat_eq
    rw [BitVec.toNat_not, BitVec.toNat_ofNat, BitVec.toNat_ofNat]
    omega
  rw [h1, m_maskN]
  exact congrArg lN (by omega)
theorem lN_xor2 (a b : Nat) : lN a ^^^ lN b = lN (a ^^^ b) := by
  apply wb_inj
  rw [Int64.toBitVec_xor, wb_tb, wb_tb, wb_tb]
  apply BitVec.eq_of_getLsbD_eq
  intro i hi
  simp [hi]
theorem nI_i2b {a : Nat} (ha : a < 128) : (nI a).toInt8.toInt32 = nI a := by
  have : ∀ a, a < 128 → (nI a).toInt8.toInt32 = nI a := by decide +kernel
  exact this a ha
theorem nar_b {a : Nat} (ha : a < 128) : narrow .byte (.int (nI a)) = .int (nI a) := by
  have : ∀ a, a < 128 → narrow .byte (.int (nI a)) = .int (nI a) := by decide +kernel
  exact this a ha
theorem nar_z {a : Nat} (ha : a < 2) : narrow .boolean (.int (nI a)) = .int (nI a) := by
  have : ∀ a, a < 2 → narrow .boolean (.int (nI a)) = .int (nI a) := by decide +kernel
  exact this a ha
section RW
variable {p : Program} {l : Launch} {e : Env} {R : Room} {s : State} {m : MethodId} {args : Array Value} {below : List Frame} {meth : Method} {c : Code} {H : Heap} {locs : List Loc} {cells slots : Nat} {Q : State → Prop}
variable {cc : ByteArray} {pc : Nat} {ls : Array Slot} {rest : List Value}
-- ints
theorem m_iadd (hx : p.tables.exec = Jvm.exec) (hb : c.code = cc) {a b : Nat} (hdg : decode cc pc = .ok (.iadd, 1)) (k : W p l e R s m args below meth c H locs cells slots Q (F0 m (pc + 1) ls (.int (nI (a + b)) :: rest))) : W p l e R s m args below meth c H locs cells slots Q (F0 m pc ls (.int (nI b) :: .int (nI a) :: rest)) := lv_iadd hx hb hdg (by rw [nI_add]; exact k)
theorem m_isub (hx : p.tables.exec = Jvm.exec) (hb : c.code = cc) {a b : Nat} (h : b ≤ a) (hdg : decode cc pc = .ok (.isub, 1)) (k : W p l e R s m args below meth c H locs cells slots Q (F0 m (pc + 1) ls (.int (nI (a - b)) :: rest))) : W p l e R s m args below meth c H locs cells slots Q (F0 m pc ls (.int (nI b) :: .int (nI a) :: rest)) := lv_isub hx hb hdg (by rw [pk_sub h]; exact k)
theorem m_imul (hx : p.tables.exec = Jvm.exec) (hb : c.code = cc) {a b : Nat} (hdg : decode cc pc = .ok (.imul, 1)) (k : W p l e R s m args below meth c H locs cells slots Q (F0 m (pc + 1) ls (.int (nI (a * b)) :: rest))) : W p l e R s m args below meth c H locs cells slots Q (F0 m pc ls (.int (nI b) :: .int (nI a) :: rest)) := lv_imul hx hb hdg (by rw [pk_mul]; exact k)
theorem m_idiv (hx : p.tables.exec = Jvm.exec) (hb : c.code = cc) {a b : Nat} (ha : a < 2 ^ 31) (h0 : 0 < b) (hb2 : b < 2 ^ 31) (hdg : decode cc pc = .ok (.idiv, 1)) (k : W p l e R s m args below meth c H locs cells slots Q (F0 m (pc + 1) ls (.int (nI (a / b)) :: rest))) : W p l e R s m args below meth c H locs cells slots Q (F0 m pc ls (.int (nI b) :: .int (nI a) :: rest)) := lv_idiv hx hb hdg (nI_ne0 h0 hb2) (by rw [pk_div ha h0 hb2]; exact k)
theorem m_irem (hx : p.tables.exec = Jvm.exec) (hb : c.code = cc) {a b : Nat} (ha : a < 2 ^ 31) (h0 : 0 < b) (hb2 : b < 2 ^ 31) (hdg : decode cc pc = .ok (.irem, 1)) (k : W p l e R s m args below meth c H locs cells slots Q (F0 m (pc + 1) ls (.int (nI (a % b)) :: rest))) : W p l e R s m args below meth c H locs cells slots Q (F0 m pc ls (.int (nI b) :: .int (nI a) :: rest)) := lv_irem hx hb hdg (nI_ne0 h0 hb2) (by rw [pk_rem ha h0 hb2]; exact k)
theorem m_icmp_eq (hx : p.tables.exec = Jvm.exec) (hb : c.code = cc) {a b tgt : Nat} {off : Int} (ha : a < 2 ^ 31) (hb2 : b < 2 ^ 31) (hdg : decode cc pc = .ok (.if_icmp .eq off, 3)) (ht : (pc : Int) + off = (tgt : Int)) (kt : a = b → W p l e R s m args below meth c H locs cells slots Q (F0 m tgt ls rest)) (kf : a ≠ b → W p l e R s m args below meth c H locs cells slots Q (F0 m (pc + 3) ls rest)) : W p l e R s m args below meth c H locs cells slots Q (F0 m pc ls (.int (nI b) :: .int (nI a) :: rest)) := lv_icmp_eq hx hb hdg ht (fun h => kt ((nI_eq ha hb2).mp h)) (fun h => kf (fun z => h ((nI_eq ha hb2).mpr z)))
theorem m_icmp_ne (hx : p.tables.exec = Jvm.exec) (hb : c.code = cc) {a b tgt : Nat} {off : Int} (ha : a < 2 ^ 31) (hb2 : b < 2 ^ 31) (hdg : decode cc pc = .ok (.if_icmp .ne off, 3)) (ht : (pc : Int) + off = (tgt : Int)) (kt : a ≠ b → W p l e R s m args below meth c H locs cells slots Q (F0 m tgt ls rest)) (kf : a = b → W p l e R s m args below meth c H locs cells slots Q (F0 m (pc + 3) ls rest)) : W p l e R s m args below meth c H locs cells slots Q (F0 m pc ls (.int (nI b) :: .int (nI a) :: rest)) := lv_icmp_ne hx hb hdg ht (fun h => kt (fun z => h ((nI_eq ha hb2).mpr z))) (fun h => kf ((nI_eq ha hb2).mp h))
theorem m_icmp_lt (hx : p.tables.exec = Jvm.exec) (hb : c.code = cc) {a b tgt : Nat} {off : Int} (ha : a < 2 ^ 31) (hb2 : b < 2 ^ 31) (hdg : decode cc pc = .ok (.if_icmp .lt off, 3)) (ht : (pc : Int) + off = (tgt : Int)) (kt : a < b → W p l e R s m args below meth c H locs cells slots Q (F0 m tgt ls rest)) (kf : b ≤ a → W p l e R s m args below meth c H locs cells slots Q (F0 m (pc + 3) ls rest)) : W p l e R s m args below meth c H locs cells slots Q (F0 m pc ls (.int (nI b) :: .int (nI a) :: rest)) := lv_icmp_lt hx hb hdg ht (fun h => kt ((nI_ltI ha hb2).mp h)) (fun h => kf (Nat.not_lt.mp (fun z => h ((nI_ltI ha hb2).mpr z))))
theorem m_icmp_ge (hx : p.tables.exec = Jvm.exec) (hb : c.code = cc) {a b tgt : Nat} {off : Int} (ha : a < 2 ^ 31) (hb2 : b < 2 ^ 31) (hdg : decode cc pc = .ok (.if_icmp .ge off, 3)) (ht : (pc : Int) + off = (tgt : Int)) (kt : b ≤ a → W p l e R s m args below meth c H locs cells slots Q (F0 m tgt ls rest)) (kf : a < b → W p l e R s m args below meth c H locs cells slots Q (F0 m (pc + 3) ls rest)) : W p l e R s m args below meth c H locs cells slots Q (F0 m pc ls (.int (nI b) :: .int (nI a) :: rest)) := lv_icmp_ge hx hb hdg ht (fun h => kt ((nI_leI hb2 ha).mp h)) (fun h => kf (Nat.not_le.mp (fun z => h ((nI_leI hb2 ha).mpr z))))
theorem m_icmp_gt (hx : p.tables.exec = Jvm.exec) (hb : c.code = cc) {a b tgt : Nat} {off : Int} (ha : a < 2 ^ 31) (hb2 : b < 2 ^ 31) (hdg : decode cc pc = .ok (.if_icmp .gt off, 3)) (ht : (pc : Int) + off = (tgt : Int)) (kt : b < a → W p l e R s m args below meth c H locs cells slots Q (F0 m tgt ls rest)) (kf : a ≤ b → W p l e R s m args below meth c H locs cells slots Q (F0 m (pc + 3) ls rest)) : W p l e R s m args below meth c H locs cells slots Q (F0 m pc ls (.int (nI b) :: .int (nI a) :: rest)) := lv_icmp_gt hx hb hdg ht (fun h => kt ((nI_ltI hb2 ha).mp h)) (fun h => kf (Nat.not_lt.mp (fun z => h ((nI_ltI hb2 ha).mpr z))))
theorem m_icmp_le (hx : p.tables.exec = Jvm.exec) (hb : c.code = cc) {a b tgt : Nat} {off : Int} (ha : a < 2 ^ 31) (hb2 : b < 2 ^ 31) (hdg : decode cc pc = .ok (.if_icmp .le off, 3)) (ht : (pc : Int) + off = (tgt : Int)) (kt : a ≤ b → W p l e R s m args below meth c H locs cells slots Q (F0 m tgt ls rest)) (kf : b < a → W p l e R s m args below meth c H locs cells slots Q (F0 m (pc + 3) ls rest)) : W p l e R s m args below meth c H locs cells slots Q (F0 m pc ls (.int (nI b) :: .int (nI a) :: rest)) := lv_icmp_le hx hb hdg ht (fun h => kt ((nI_leI ha hb2).mp h)) (fun h => kf (Nat.not_le.mp (fun z => h ((nI_leI ha hb2).mpr z))))
theorem m_if_eq (hx : p.tables.exec = Jvm.exec) (hb : c.code = cc) {a tgt : Nat} {off : Int} (ha : a < 2 ^ 31) (hdg : decode cc pc = .ok (.ifCond .eq off, 3)) (ht : (pc : Int) + off = (tgt : Int)) (kt : a = 0 → W p l e R s m args below meth c H locs cells slots Q (F0 m tgt ls rest)) (kf : a ≠ 0 → W p l e R s m args below meth c H locs cells slots Q (F0 m (pc + 3) ls rest)) : W p l e R s m args below meth c H locs cells slots Q (F0 m pc ls (.int (nI a) :: rest)) := lv_if_eq hx hb hdg ht (fun h => kt ((nI_eq ha (by omega)).mp (h.trans nI_0.symm))) (fun h => kf (fun z => h (by rw [z, nI_0])))
theorem m_if_ne (hx : p.tables.exec = Jvm.exec) (hb : c.code = cc) {a tgt : Nat} {off : Int} (ha : a < 2 ^ 31) (hdg : decode cc pc = .ok (.ifCond .ne off, 3)) (ht : (pc : Int) + off = (tgt : Int)) (kt : a ≠ 0 → W p l e R s m args below meth c H locs cells slots Q (F0 m tgt ls rest)) (kf : a = 0 → W p l e R s m args below meth c H locs cells slots Q (F0 m (pc + 3) ls rest)) : W p l e R s m args below meth c H locs cells slots Q (F0 m pc ls (.int (nI a) :: rest)) := lv_if_ne hx hb hdg ht (fun h => kt (fun z => h (by rw [z, nI_0]))) (fun h => kf ((nI_eq ha (by omega)).mp (h.trans nI_0.symm)))
theorem m_ladd (hx : p.tables.exec = Jvm.exec) (hb : c.code = cc) {a b : Nat} (hdg : decode cc pc = .ok (.ladd, 1)) (k : W p l e R s m args below meth c H locs cells slots Q (F0 m (pc + 1) ls (.long (lN (a + b)) :: rest))) : W p l e R s m args below meth c H locs cells slots Q (F0 m pc ls (.long (lN (b)) :: .long (lN (a)) :: rest)) := lv_ladd hx hb hdg (by rw [lN_add]; exact k)
theorem m_lsub (hx : p.tables.exec = Jvm.exec) (hb : c.code = cc) {a b : Nat} (h : b ≤ a) (hdg : decode cc pc = .ok (.lsub, 1)) (k : W p l e R s m args below meth c H locs cells slots Q (F0 m (pc + 1) ls (.long (lN (a - b)) :: rest))) : W p l e R s m args below meth c H locs cells slots Q (F0 m pc ls (.long (lN (b)) :: .long (lN (a)) :: rest)) := lv_lsub hx hb hdg (by rw [lN_sub h]; exact k)
theorem m_lmul (hx : p.tables.exec = Jvm.exec) (hb : c.code = cc) {a b : Nat} (hdg : decode cc pc = .ok (.lmul, 1)) (k : W p l e R s m args below meth c H locs cells slots Q (F0 m (pc + 1) ls (.long (lN (a * b)) :: rest))) : W p l e R s m args below meth c H locs cells slots Q (F0 m pc ls (.long (lN (b)) :: .long (lN (a)) :: rest)) := lv_lmul hx hb hdg (by rw [lN_mul]; exact k)
theorem m_ldiv (hx : p.tables.exec = Jvm.exec) (hb : c.code = cc) {a b : Nat} (ha : a < 2 ^ 63) (h0 : 0 < b) (hb2 : b < 2 ^ 63) (hdg : decode cc pc = .ok (.ldiv, 1)) (k : W p l e R s m args below meth c H locs cells slots Q (F0 m (pc + 1) ls (.long (lN (a / b)) :: rest))) : W p l e R s m args below meth c H locs cells slots Q (F0 m pc ls (.long (lN (b)) :: .long (lN (a)) :: rest)) := lv_ldiv hx hb hdg (lN_ne0 h0 hb2) (by rw [pk_lDiv ha h0 hb2]; exact k)
theorem m_lrem (hx : p.tables.exec = Jvm.exec) (hb : c.code = cc) {a b : Nat} (ha : a < 2 ^ 63) (h0 : 0 < b) (hb2 : b < 2 ^ 63) (hdg : decode cc pc = .ok (.lrem, 1)) (k : W p l e R s m args below meth c H locs cells slots Q (F0 m (pc + 1) ls (.long (lN (a % b)) :: rest))) : W p l e R s m args below meth c H locs cells slots Q (F0 m pc ls (.long (lN (b)) :: .long (lN (a)) :: rest)) := lv_lrem hx hb hdg (lN_ne0 h0 hb2) (by rw [pk_lRem ha h0 hb2]; exact k)
theorem m_land (hx : p.tables.exec = Jvm.exec) (hb : c.code = cc) {a b : Nat} (ha : a < 2 ^ 64) (hb2 : b < 2 ^ 64) (hdg : decode cc pc = .ok (.land, 1)) (k : W p l e R s m args below meth c H locs cells slots Q (F0 m (pc + 1) ls (.long (lN (a &&& b)) :: rest))) : W p l e R s m args below meth c H locs cells slots Q (F0 m pc ls (.long (lN (b)) :: .long (lN (a)) :: rest)) := lv_land hx hb hdg (by rw [wb_and ha hb2]; exact k)
theorem m_lor (hx : p.tables.exec = Jvm.exec) (hb : c.code = cc) {a b : Nat} (ha : a < 2 ^ 64) (hb2 : b < 2 ^ 64) (hdg : decode cc pc = .ok (.lor, 1)) (k : W p l e R s m args below meth c H locs cells slots Q (F0 m (pc + 1) ls (.long (lN (a ||| b)) :: rest))) : W p l e R s m args below meth c H locs cells slots Q (F0 m pc ls (.long (lN (b)) :: .long (lN (a)) :: rest)) := lv_lor hx hb hdg (by rw [wb_or ha hb2]; exact k)
theorem m_lxor (hx : p.tables.exec = Jvm.exec) (hb : c.code = cc) {a b : Nat} (ha : a < 2 ^ 64) (hb2 : b < 2 ^ 64) (hdg : decode cc pc = .ok (.lxor, 1)) (k : W p l e R s m args below meth c H locs cells slots Q (F0 m (pc + 1) ls (.long (lN (a ^^^ b)) :: rest))) : W p l e R s m args below meth c H locs cells slots Q (F0 m pc ls (.long (lN (b)) :: .long (lN (a)) :: rest)) := lv_lxor hx hb hdg (by rw [lN_xor2]; exact k)
theorem m_mask (hx : p.tables.exec = Jvm.exec) (hb : c.code = cc) {a : Nat} (hdg : decode cc pc = .ok (.land, 1)) (k : W p l e R s m args below meth c H locs cells slots Q (F0 m (pc + 1) ls (.long (lN (a % 4294967296)) :: rest))) : W p l e R s m args below meth c H locs cells slots Q (F0 m pc ls (.long (lN (4294967295)) :: .long (lN (a)) :: rest)) := lv_land hx hb hdg (by rw [m_maskN]; exact k)
theorem m_lor32 (hx : p.tables.exec = Jvm.exec) (hb : c.code = cc) {a b : Nat} (ha : a < 4294967296) (h : b * 4294967296 + a < 2 ^ 64) (hdg : decode cc pc = .ok (.lor, 1)) (k : W p l e R s m args below meth c H locs cells slots Q (F0 m (pc + 1) ls (.long (lN (b * 4294967296 + a)) :: rest))) : W p l e R s m args below meth c H locs cells slots Q (F0 m pc ls (.long (lN (a)) :: .long (lN (b * 4294967296)) :: rest)) := lv_lor hx hb hdg (by rw [g_or (k := 32) (p := 4294967296) (by decide) ha h]; exact k)
theorem m_lushr (hx : p.tables.exec = Jvm.exec) (hb : c.code = cc) {a n : Nat} (ha : a < 2 ^ 64) (hn : n < 64) (hdg : decode cc pc = .ok (.lushr, 1)) (k : W p l e R s m args below meth c H locs cells slots Q (F0 m (pc + 1) ls (.long (lN (a / 2 ^ n)) :: rest))) : W p l e R s m args below meth c H locs cells slots Q (F0 m pc ls (.int (nI n) :: .long (lN (a)) :: rest)) := lv_lushr hx hb hdg (wb_shr ha hn) k
theorem m_lshl (hx : p.tables.exec = Jvm.exec) (hb : c.code = cc) {a n : Nat} (hn : n < 64) (hdg : decode cc pc = .ok (.lshl, 1)) (k : W p l e R s m args below meth c H locs cells slots Q (F0 m (pc + 1) ls (.long (lN (a * 2 ^ n)) :: rest))) : W p l e R s m args below meth c H locs cells slots Q (F0 m pc ls (.int (nI n) :: .long (lN (a)) :: rest)) := lv_lshl hx hb hdg (wb_shl a hn) k
theorem m_lushr32 (hx : p.tables.exec = Jvm.exec) (hb : c.code = cc) {a : Nat} (ha : a < 2 ^ 64) (hdg : decode cc pc = .ok (.lushr, 1)) (k : W p l e R s m args below meth c H locs cells slots Q (F0 m (pc + 1) ls (.long (lN (a / 4294967296)) :: rest))) : W p l e R s m args below meth c H locs cells slots Q (F0 m pc ls (.int (nI 32) :: .long (lN (a)) :: rest)) := lv_lushr hx hb hdg (by rw [wb_shr ha (by decide)]) k
theorem m_lshl32 (hx : p.tables.exec = Jvm.exec) (hb : c.code = cc) {a : Nat} (hdg : decode cc pc = .ok (.lshl, 1)) (k : W p l e R s m args below meth c H locs cells slots Q (F0 m (pc + 1) ls (.long (lN (a * 4294967296)) :: rest))) : W p l e R s m args below meth c H locs cells slots Q (F0 m pc ls (.int (nI 32) :: .long (lN (a)) :: rest)) := lv_lshl hx hb hdg (by rw [wb_shl a (by decide)]) k
theorem m_i2l (hx : p.tables.exec = Jvm.exec) (hb : c.code = cc) {a : Nat} (ha : a < 2 ^ 31) (hdg : decode cc pc = .ok (.i2l, 1)) (k : W p l e R s m args below meth c H locs cells slots Q (F0 m (pc + 1) ls (.long (lN (a)) :: rest))) : W p l e R s m args below meth c H locs cells slots Q (F0 m pc ls (.int (nI a) :: rest)) := lv_i2l hx hb hdg (nI_l ha) k
theorem m_l2i (hx : p.tables.exec = Jvm.exec) (hb : c.code = cc) {a : Nat} (hdg : decode cc pc = .ok (.l2i, 1)) (k : W p l e R s m args below meth c H locs cells slots Q (F0 m (pc + 1) ls (.int (nI a) :: rest))) : W p l e R s m args below meth c H locs cells slots Q (F0 m pc ls (.long (lN (a)) :: rest)) := lv_l2i hx hb hdg (lN_i a) k
theorem m_i2b (hx : p.tables.exec = Jvm.exec) (hb : c.code = cc) {a : Nat} (ha : a < 128) (hdg : decode cc pc = .ok (.i2b, 1)) (k : W p l e R s m args below meth c H locs cells slots Q (F0 m (pc + 1) ls (.int (nI a) :: rest))) : W p l e R s m args below meth c H locs cells slots Q (F0 m pc ls (.int (nI a) :: rest)) := lv_i2b hx hb hdg (nI_i2b ha) k
theorem m_iand255 (hx : p.tables.exec = Jvm.exec) (hb : c.code = cc) {a : Nat} (ha : a < 2 ^ 32) (hdg : decode cc pc = .ok (.iand, 1)) (k : W p l e R s m args below meth c H locs cells slots Q (F0 m (pc + 1) ls (.int (nI (a % 256)) :: rest))) : W p l e R s m args below meth c H locs cells slots Q (F0 m pc ls (.int (nI 255) :: .int (nI a) :: rest)) := lv_iand hx hb hdg (by rw [show nI 255 = (255 : Int32) from rfl, pk_andN ha 8 (by decide)]; exact k)
theorem m_lc_eq (hx : p.tables.exec = Jvm.exec) (hb : c.code = cc) {a b tgt : Nat} {off : Int} (ha : a < 2 ^ 63) (hb2 : b < 2 ^ 63) (hdg : decode cc pc = .ok (.lcmp, 1)) (hd2 : decode cc (pc + 1) = .ok (.ifCond .eq off, 3)) (ht : ((pc + 1 : Nat) : Int) + off = (tgt : Int)) (kt : a = b → W p l e R s m args below meth c H locs cells slots Q (F0 m tgt ls rest)) (kf : a ≠ b → W p l e R s m args below meth c H locs cells slots Q (F0 m (pc + 1 + 3) ls rest)) : W p l e R s m args below meth c H locs cells slots Q (F0 m pc ls (.long (lN b) :: .long (lN a) :: rest)) := W.lcmp hx hb hdg (lv_if_eq hx hb hd2 ht (fun h => kt ((pk_lEQ ha hb2).mp ((lg_cmp_eq _ _).mp h))) (fun h => kf (fun z => h ((lg_cmp_eq _ _).mpr (by rw [z])))))
theorem m_lc_ne (hx : p.tables.exec = Jvm.exec) (hb : c.code = cc) {a b tgt : Nat} {off : Int} (ha : a < 2 ^ 63) (hb2 : b < 2 ^ 63) (hdg : decode cc pc = .ok (.lcmp, 1)) (hd2 : decode cc (pc + 1) = .ok (.ifCond .ne off, 3)) (ht : ((pc + 1 : Nat) : Int) + off = (tgt : Int)) (kt : a ≠ b → W p l e R s m args below meth c H locs cells slots Q (F0 m tgt ls rest)) (kf : a = b → W p l e R s m args below meth c H locs cells slots Q (F0 m (pc + 1 + 3) ls rest)) : W p l e R s m args below meth c H locs cells slots Q (F0 m pc ls (.long (lN b) :: .long (lN a) :: rest)) := W.lcmp hx hb hdg (lv_if_ne hx hb hd2 ht (fun h => kt (fun z => h ((lg_cmp_eq _ _).mpr (by rw [z])))) (fun h => kf ((pk_lEQ ha hb2).mp ((lg_cmp_eq _ _).mp h))))
theorem m_lc_lt (hx : p.tables.exec = Jvm.exec) (hb : c.code = cc) {a b tgt : Nat} {off : Int} (ha : a < 2 ^ 63) (hb2 : b < 2 ^ 63) (hdg : decode cc pc = .ok (.lcmp, 1)) (hd2 : decode cc (pc + 1) = .ok (.ifCond .lt off, 3)) (ht : ((pc + 1 : Nat) : Int) + off = (tgt : Int)) (kt : a < b → W p l e R s m args below meth c H locs cells slots Q (F0 m tgt ls rest)) (kf : b ≤ a → W p l e R s m args below meth c H locs cells slots Q (F0 m (pc + 1 + 3) ls rest)) : W p l e R s m args below meth c H locs cells slots Q (F0 m pc ls (.long (lN b) :: .long (lN a) :: rest)) := W.lcmp hx hb hdg (lv_if_lt hx hb hd2 ht (fun h => kt ((pk_lLT ha hb2).mp ((lg_cmp_lt _ _).mp h))) (fun h => kf (Nat.not_lt.mp (fun z => h ((lg_cmp_lt _ _).mpr ((pk_lLT ha hb2).mpr z))))))
theorem m_lc_ge (hx : p.tables.exec = Jvm.exec) (hb : c.code = cc) {a b tgt : Nat} {off : Int} (ha : a < 2 ^ 63) (hb2 : b < 2 ^ 63) (hdg : decode cc pc = .ok (.lcmp, 1)) (hd2 : decode cc (pc + 1) = .ok (.ifCond .ge off, 3)) (ht : ((pc + 1 : Nat) : Int) + off = (tgt : Int)) (kt : b ≤ a → W p l e R s m args below meth c H locs cells slots Q (F0 m tgt ls rest)) (kf : a < b → W p l e R s m args below meth c H locs cells slots Q (F0 m (pc + 1 + 3) ls rest)) : W p l e R s m args below meth c H locs cells slots Q (F0 m pc ls (.long (lN b) :: .long (lN a) :: rest)) := W.lcmp hx hb hdg (lv_if_ge hx hb hd2 ht (fun h => kt ((pk_lLE hb2 ha).mp ((lg_cmp_ge _ _).mp h))) (fun h => kf (Nat.not_le.mp (fun z => h ((lg_cmp_ge _ _).mpr ((pk_lLE hb2 ha).mpr z))))))
theorem m_lc_gt (hx : p.tables.exec = Jvm.exec) (hb : c.code = cc) {a b tgt : Nat} {off : Int} (ha : a < 2 ^ 63) (hb2 : b < 2 ^ 63) (hdg : decode cc pc = .ok (.lcmp, 1)) (hd2 : decode cc (pc + 1) = .ok (.ifCond .gt off, 3)) (ht : ((pc + 1 : Nat) : Int) + off = (tgt : Int)) (kt : b < a → W p l e R s m args below meth c H locs cells slots Q (F0 m tgt ls rest)) (kf : a ≤ b → W p l e R s m args below meth c H locs cells slots Q (F0 m (pc + 1 + 3) ls rest)) : W p l e R s m args below meth c H locs cells slots Q (F0 m pc ls (.long (lN b) :: .long (lN a) :: rest)) := W.lcmp hx hb hdg (lv_if_gt hx hb hd2 ht (fun h => kt ((pk_lLT hb2 ha).mp ((lg_cmp_gt _ _).mp h))) (fun h => kf (Nat.not_lt.mp (fun z => h ((lg_cmp_gt _ _).mpr ((pk_lLT hb2 ha).mpr z))))))
theorem m_lc_le (hx : p.tables.exec = Jvm.exec) (hb : c.code = cc) {a b tgt : Nat} {off : Int} (ha : a < 2 ^ 63) (hb2 : b < 2 ^ 63) (hdg : decode cc pc = .ok (.lcmp, 1)) (hd2 : decode cc (pc + 1) = .ok (.ifCond .le off, 3)) (ht : ((pc + 1 : Nat) : Int) + off = (tgt : Int)) (kt : a ≤ b → W p l e R s m args below meth c H locs cells slots Q (F0 m tgt ls rest)) (kf : b < a → W p l e R s m args below meth c H locs cells slots Q (F0 m (pc + 1 + 3) ls rest)) : W p l e R s m args below meth c H locs cells slots Q (F0 m pc ls (.long (lN b) :: .long (lN a) :: rest)) := W.lcmp hx hb hdg (lv_if_le hx hb hd2 ht (fun h => kt ((pk_lLE ha hb2).mp ((lg_cmp_le _ _).mp h))) (fun h => kf (Nat.not_le.mp (fun z => h ((lg_cmp_le _ _).mpr ((pk_lLE ha hb2).mpr z))))))
theorem m_lr_lt (hx : p.tables.exec = Jvm.exec) (hb : c.code = cc) {x y : Int64} {tgt : Nat} {off : Int} (hdg : decode cc pc = .ok (.lcmp, 1)) (hd2 : decode cc (pc + 1) = .ok (.ifCond .lt off, 3)) (ht : ((pc + 1 : Nat) : Int) + off = (tgt : Int)) (kt : x < y → W p l e R s m args below meth c H locs cells slots Q (F0 m tgt ls rest)) (kf : ¬ (x < y) → W p l e R s m args below meth c H locs cells slots Q (F0 m (pc + 1 + 3) ls rest)) : W p l e R s m args below meth c H locs cells slots Q (F0 m pc ls (.long y :: .long x :: rest)) := W.lcmp hx hb hdg (lv_if_lt hx hb hd2 ht (fun h => kt ((lg_cmp_lt _ _).mp h)) (fun h => kf (fun z => h ((lg_cmp_lt _ _).mpr z))))
theorem m_lr_ge (hx : p.tables.exec = Jvm.exec) (hb : c.code = cc) {x y : Int64} {tgt : Nat} {off : Int} (hdg : decode cc pc = .ok (.lcmp, 1)) (hd2 : decode cc (pc + 1) = .ok (.ifCond .ge off, 3)) (ht : ((pc + 1 : Nat) : Int) + off = (tgt : Int)) (kt : y ≤ x → W p l e R s m args below meth c H locs cells slots Q (F0 m tgt ls rest)) (kf : ¬ (y ≤ x) → W p l e R s m args below meth c H locs cells slots Q (F0 m (pc + 1 + 3) ls rest)) : W p l e R s m args below meth c H locs cells slots Q (F0 m pc ls (.long y :: .long x :: rest)) := W.lcmp hx hb hdg (lv_if_ge hx hb hd2 ht (fun h => kt ((lg_cmp_ge _ _).mp h)) (fun h => kf (fun z => h ((lg_cmp_ge _ _).mpr z))))
theorem m_lr_gt (hx : p.tables.exec = Jvm.exec) (hb : c.code = cc) {x y : Int64} {tgt : Nat} {off : Int} (hdg : decode cc pc = .ok (.lcmp, 1)) (hd2 : decode cc (pc + 1) = .ok (.ifCond .gt off, 3)) (ht : ((pc + 1 : Nat) : Int) + off = (tgt : Int)) (kt : y < x → W p l e R s m args below meth c H locs cells slots Q (F0 m tgt ls rest)) (kf : ¬ (y < x) → W p l e R s m args below meth c H locs cells slots Q (F0 m (pc + 1 + 3) ls rest)) : W p l e R s m args below meth c H locs cells slots Q (F0 m pc ls (.long y :: .long x :: rest)) := W.lcmp hx hb hdg (lv_if_gt hx hb hd2 ht (fun h => kt ((lg_cmp_gt _ _).mp h)) (fun h => kf (fun z => h ((lg_cmp_gt _ _).mpr z))))
theorem m_lr_le (hx : p.tables.exec = Jvm.exec) (hb : c.code = cc) {x y : Int64} {tgt : Nat} {off : Int} (hdg : decode cc pc = .ok (.lcmp, 1)) (hd2 : decode cc (pc + 1) = .ok (.ifCond .le off, 3)) (ht : ((pc + 1 : Nat) : Int) + off = (tgt : Int)) (kt : x ≤ y → W p l e R s m args below meth c H locs cells slots Q (F0 m tgt ls rest)) (kf : ¬ (x ≤ y) → W p l e R s m args below meth c H locs cells slots Q (F0 m (pc + 1 + 3) ls rest)) : W p l e R s m args below meth c H locs cells slots Q (F0 m pc ls (.long y :: .long x :: rest)) := W.lcmp hx hb hdg (lv_if_le hx hb hd2 ht (fun h => kt ((lg_cmp_le _ _).mp h)) (fun h => kf (fun z => h ((lg_cmp_le _ _).mpr z))))
theorem m_lr_eq (hx : p.tables.exec = Jvm.exec) (hb : c.code = cc) {x y : Int64} {tgt : Nat} {off : Int} (hdg : decode cc pc = .ok (.lcmp, 1)) (hd2 : decode cc (pc + 1) = .ok (.ifCond .eq off, 3)) (ht : ((pc + 1 : Nat) : Int) + off = (tgt : Int)) (kt : x = y → W p l e R s m args below meth c H locs cells slots Q (F0 m tgt ls rest)) (kf : ¬ (x = y) → W p l e R s m args below meth c H locs cells slots Q (F0 m (pc + 1 + 3) ls rest)) : W p l e R s m args below meth c H locs cells slots Q (F0 m pc ls (.long y :: .long x :: rest)) := W.lcmp hx hb hdg (lv_if_eq hx hb hd2 ht (fun h => kt ((lg_cmp_eq _ _).mp h)) (fun h => kf (fun z => h ((lg_cmp_eq _ _).mpr z))))
theorem m_lald (hx : p.tables.exec = Jvm.exec) (hb : c.code = cc) {G : gG} (hK : KK G s) {a n i : Nat} {f : Nat → Nat} (ha : H[a]? = some (aJ G n f)) (hi : i < n) (hn : n < 2 ^ 31) (hdg : decode cc pc = .ok (.laload, 1)) (k : W p l e R s m args below meth c H locs cells slots Q (F0 m (pc + 1) ls (.long (lN (f i)) :: rest))) : W p l e R s m args below meth c H locs cells slots Q (F0 m pc ls (.int (nI i) :: .ref a :: rest)) := W.lald (v := .long (lN (f i))) hx hb ha ((hK.2 0 _ rfl).1 n (fun j => .long (lN (f j)))) (fun q => by cases q) (by show ¬ ((nI i) < 0 ∨ (arrV _ _ _).slots.size ≤ _); rw [arrV_size]; exact nI_in hi hn) (by show (arrV _ _ _).slots[_]? = _; rw [nI_clamp (Nat.lt_trans hi hn), arrV_read _ _ hi]) rfl rfl hdg k
theorem m_zald (hx : p.tables.exec = Jvm.exec) (hb : c.code = cc) {G : gG} (hK : KK G s) {a n i : Nat} {f : Nat → Nat} (ha : H[a]? = some (aZ G n f)) (hi : i < n) (hn : n < 2 ^ 31) (hdg : decode cc pc = .ok (.baload, 1)) (k : W p l e R s m args below meth c H locs cells slots Q (F0 m (pc + 1) ls (.int (nI (f i)) :: rest))) : W p l e R s m args below meth c H locs cells slots Q (F0 m pc ls (.int (nI i) :: .ref a :: rest)) := W.zald (v := .int (nI (f i))) hx hb ha ((hK.2 1 _ rfl).1 n (fun j => .int (nI (f j)))) (fun q => by cases q) (by show ¬ ((nI i) < 0 ∨ (arrV _ _ _).slots.size ≤ _); rw [arrV_size]; exact nI_in hi hn) (by show (arrV _ _ _).slots[_]? = _; rw [nI_clamp (Nat.lt_trans hi hn), arrV_read _ _ hi]) rfl rfl hdg k
theorem m_bald (hx : p.tables.exec = Jvm.exec) (hb : c.code = cc) {G : gG} (hK : KK G s) {a n i : Nat} {f : Nat → Nat} (ha : H[a]? = some (aB G n f)) (hi : i < n) (hn : n < 2 ^ 31) (hdg : decode cc pc = .ok (.baload, 1)) (k : W p l e R s m args below meth c H locs cells slots Q (F0 m (pc + 1) ls (.int (nI (f i)) :: rest))) : W p l e R s m args below meth c H locs cells slots Q (F0 m pc ls (.int (nI i) :: .ref a :: rest)) := W.bald (v := .int (nI (f i))) hx hb ha ((hK.2 2 _ rfl).1 n (fun j => .int (nI (f j)))) (fun q => by cases q) (by show ¬ ((nI i) < 0 ∨ (arrV _ _ _).slots.size ≤ _); rw [arrV_size]; exact nI_in hi hn) (by show (arrV _ _ _).slots[_]? = _; rw [nI_clamp (Nat.lt_trans hi hn), arrV_read _ _ hi]) rfl rfl hdg k
theorem m_aald (hx : p.tables.exec = Jvm.exec) (hb : c.code = cc) {G : gG} (hK : KK G s) {a n i : Nat} {f : Nat → Nat} (ha : H[a]? = some (aR G n f)) (hi : i < n) (hn : n < 2 ^ 31) (hdg : decode cc pc = .ok (.aaload, 1)) (k : W p l e R s m args below meth c H locs cells slots Q (F0 m (pc + 1) ls (.ref (f i) :: rest))) : W p l e R s m args below meth c H locs cells slots Q (F0 m pc ls (.int (nI i) :: .ref a :: rest)) := W.aald (v := .ref (f i)) hx hb ha ((hK.2 3 _ rfl).1 n (fun j => .ref (f j))) rfl (fun q => by cases q) (by show ¬ ((nI i) < 0 ∨ (arrV _ _ _).slots.size ≤ _); rw [arrV_size]; exact nI_in hi hn) (by show (arrV _ _ _).slots[_]? = _; rw [nI_clamp (Nat.lt_trans hi hn), arrV_read _ _ hi]) rfl rfl hdg k
theorem m_last (hx : p.tables.exec = Jvm.exec) (hb : c.code = cc) {G : gG} (hK : KK G s) {b0 a n i x : Nat} {f : Nat → Nat} (ha : H[a]? = some (aJ G n f)) (hi : i < n) (hn : n < 2 ^ 31) (hba : b0 ≤ a) (hLc : lcs b0 locs) (hdg : decode cc pc = .ok (.lastore, 1)) (k : ∀ locs : List Loc, lcs b0 locs → W p l e R s m args below meth c (hput H a (aJ G n (fup f i x))) locs cells slots Q (F0 m (pc + 1) ls rest)) : W p l e R s m args below meth c H locs cells slots Q (F0 m pc ls (.long (lN x) :: .int (nI i) :: .ref a :: rest)) := by
  refine W.last hx hb ha ((hK.2 0 _ rfl).1 n (fun j => .long (lN (f j)))) (fun q => by cases q) (by show ¬ ((nI i) < 0 ∨ (arrV _ _ _).slots.size ≤ _); rw [arrV_size]; exact nI_in hi hn) rfl rfl hdg fun H1 e1 z1 oq => ?_
  rw [nI_clamp (Nat.lt_trans hi hn)] at e1 ⊢
  have he : H1 = hput H a (aJ G n (fup f i x)) := hput_of (by rw [e1]; unfold aJ; rw [arrV_store, updV_J]) z1 oq
  rw [he]
  exact k _ (lcs_add hLc hba)
theorem m_bast (hx : p.tables.exec = Jvm.exec) (hb : c.code = cc) {G : gG} (hK : KK G s) {b0 a n i x : Nat} {f : Nat → Nat} (ha : H[a]? = some (aB G n f)) (hi : i < n) (hn : n < 2 ^ 31) (hx2 : x < 128) (hba : b0 ≤ a) (hLc : lcs b0 locs) (hdg : decode cc pc = .ok (.bastore, 1)) (k : ∀ locs : List Loc, lcs b0 locs → W p l e R s m args below meth c (hput H a (aB G n (fup f i x))) locs cells slots Q (F0 m (pc + 1) ls rest)) : W p l e R s m args below meth c H locs cells slots Q (F0 m pc ls (.int (nI x) :: .int (nI i) :: .ref a :: rest)) := by
  refine W.bast hx hb ha ((hK.2 2 _ rfl).1 n (fun j => .int (nI (f j)))) (fun q => by cases q) (by show ¬ ((nI i) < 0 ∨ (arrV _ _ _).slots.size ≤ _); rw [arrV_size]; exact nI_in hi hn) rfl rfl hdg fun H1 e1 z1 oq => ?_
  rw [nI_clamp (Nat.lt_trans hi hn)] at e1 ⊢
  rw [nar_b hx2] at e1
  have he : H1 = hput H a (aB G n (fup f i x)) := hput_of (by rw [e1]; unfold aB; rw [arrV_store, updV_N]) z1 oq
  rw [he]
  exact k _ (lcs_add hLc hba)
theorem m_zast (hx : p.tables.exec = Jvm.exec) (hb : c.code = cc) {G : gG} (hK : KK G s) {b0 a n i x : Nat} {f : Nat → Nat} (ha : H[a]? = some (aZ G n f)) (hi : i < n) (hn : n < 2 ^ 31) (hx2 : x < 2) (hba : b0 ≤ a) (hLc : lcs b0 locs) (hdg : decode cc pc = .ok (.bastore, 1)) (k : ∀ locs : List Loc, lcs b0 locs → W p l e R s m args below meth c (hput H a (aZ G n (fup f i x))) locs cells slots Q (F0 m (pc + 1) ls rest)) : W p l e R s m args below meth c H locs cells slots Q (F0 m pc ls (.int (nI x) :: .int (nI i) :: .ref a :: rest)) := by
  refine W.zast hx hb ha ((hK.2 1 _ rfl).1 n (fun j => .int (nI (f j)))) (fun q => by cases q) (by show ¬ ((nI i) < 0 ∨ (arrV _ _ _).slots.size ≤ _); rw [arrV_size]; exact nI_in hi hn) rfl rfl hdg fun H1 e1 z1 oq => ?_
  rw [nI_clamp (Nat.lt_trans hi hn)] at e1 ⊢
  rw [nar_z hx2] at e1
  have he : H1 = hput H a (aZ G n (fup f i x)) := hput_of (by rw [e1]; unfold aZ; rw [arrV_store, updV_N]) z1 oq
  rw [he]
  exact k _ (lcs_add hLc hba)
theorem m_alenJ (hx : p.tables.exec = Jvm.exec) (hb : c.code = cc) {G : gG} (hK : KK G s) {a n : Nat} {f : Nat → Nat} (ha : H[a]? = some (aJ G n f)) (hdg : decode cc pc = .ok (.arraylength, 1)) (k : W p l e R s m args below meth c H locs cells slots Q (F0 m (pc + 1) ls (.int (nI n) :: rest))) : W p l e R s m args below meth c H locs cells slots Q (F0 m pc ls (.ref a :: rest)) := W.alen (n := nI n) hx hb ha ((hK.2 0 _ rfl).1 n (fun j => .long (lN (f j)))) (by unfold aJ; rw [arrV_size]; rfl) rfl rfl hdg k
theorem m_alenZ (hx : p.tables.exec = Jvm.exec) (hb : c.code = cc) {G : gG} (hK : KK G s) {a n : Nat} {f : Nat → Nat} (ha : H[a]? = some (aZ G n f)) (hdg : decode cc pc = .ok (.arraylength, 1)) (k : W p l e R s m args below meth c H locs cells slots Q (F0 m (pc + 1) ls (.int (nI n) :: rest))) : W p l e R s m args below meth c H locs cells slots Q (F0 m pc ls (.ref a :: rest)) := W.alen (n := nI n) hx hb ha ((hK.2 1 _ rfl).1 n (fun j => .int (nI (f j)))) (by unfold aZ; rw [arrV_size]; rfl) rfl rfl hdg k
theorem m_alenB (hx : p.tables.exec = Jvm.exec) (hb : c.code = cc) {G : gG} (hK : KK G s) {a n : Nat} {f : Nat → Nat} (ha : H[a]? = some (aB G n f)) (hdg : decode cc pc = .ok (.arraylength, 1)) (k : W p l e R s m args below meth c H locs cells slots Q (F0 m (pc + 1) ls (.int (nI n) :: rest))) : W p l e R s m args below meth c H locs cells slots Q (F0 m pc ls (.ref a :: rest)) := W.alen (n := nI n) hx hb ha ((hK.2 2 _ rfl).1 n (fun j => .int (nI (f j)))) (by unfold aB; rw [arrV_size]; rfl) rfl rfl hdg k
theorem mc_i {P : Int32 → Heap → Prop} {a : Array Value} {b0 mc ms : Nat} {st0 : List Value} (hr : va_Run p l e R s m args below meth c H locs cells slots mc ms (F0 m pc ls st0) rest (QcI P a) (fre b0)) (hLc : lcs b0 locs) (kk : ∀ (r : Int32) (H1 : Heap) (locs : List Loc), P r H1 → lcs b0 locs → W p l e R s m args below meth c H1 locs (cells + mc) (slots + ms) Q (F0 m (pc + 3) ls (.int r :: rest))) : W p l e R s m args below meth c H locs cells slots Q (F0 m pc ls st0) := by
  intro T hT X
  obtain ⟨v, st₀, t, T', L, h0, X', hL, e1, e2, ⟨r, hv, hp⟩, st⟩ := hr T hT X
  cases hv
  obtain ⟨t2, a1, b1⟩ := kk r T'.heap (locs ++ L) (by rw [e1]; exact hp) (lcs_app hLc hL) T' rfl X'
  exact ⟨t2, st t2 a1, b1⟩
theorem mc_l {P : Int64 → Heap → Prop} {a : Array Value} {b0 mc ms : Nat} {st0 : List Value} (hr : va_Run p l e R s m args below meth c H locs cells slots mc ms (F0 m pc ls st0) rest (QcL P a) (fre b0)) (hLc : lcs b0 locs) (kk : ∀ (r : Int64) (H1 : Heap) (locs : List Loc), P r H1 → lcs b0 locs → W p l e R s m args below meth c H1 locs (cells + mc) (slots + ms) Q (F0 m (pc + 3) ls (.long r :: rest))) : W p l e R s m args below meth c H locs cells slots Q (F0 m pc ls st0) := by
  intro T hT X
  obtain ⟨v, st₀, t, T', L, h0, X', hL, e1, e2, ⟨r, hv, hp⟩, st⟩ := hr T hT X
  cases hv
  obtain ⟨t2, a1, b1⟩ := kk r T'.heap (locs ++ L) (by rw [e1]; exact hp) (lcs_app hLc hL) T' rfl X'
  exact ⟨t2, st t2 a1, b1⟩
theorem mc_v {P : Heap → Prop} {a : Array Value} {b0 mc ms : Nat} {st0 : List Value} (hr : va_Run p l e R s m args below meth c H locs cells slots mc ms (F0 m pc ls st0) rest (QcV P a) (fre b0)) (hLc : lcs b0 locs) (kk : ∀ (H1 : Heap) (locs : List Loc), P H1 → lcs b0 locs → W p l e R s m args below meth c H1 locs (cells + mc) (slots + ms) Q (F0 m (pc + 3) ls rest)) : W p l e R s m args below meth c H locs cells slots Q (F0 m pc ls st0) := by
  intro T hT X
  obtain ⟨v, st₀, t, T', L, h0, X', hL, e1, e2, ⟨hv, hp⟩, st⟩ := hr T hT X
  cases hv
  obtain ⟨t2, a1, b1⟩ := kk T'.heap (locs ++ L) (by rw [e1]; exact hp) (lcs_app hLc hL) T' rfl X'
  exact ⟨t2, st t2 a1, b1⟩
theorem mc_i0 {P : Int32 → Heap → Prop} {a : Array Value} {b0 : Nat} {st0 : List Value} (hr : va_Run p l e R s m args below meth c H locs cells slots 0 0 (F0 m pc ls st0) rest (QcI P a) (fre b0)) (hLc : lcs b0 locs) (kk : ∀ (r : Int32) (H1 : Heap) (locs : List Loc), P r H1 → lcs b0 locs → W p l e R s m args below meth c H1 locs cells slots Q (F0 m (pc + 3) ls (.int r :: rest))) : W p l e R s m args below meth c H locs cells slots Q (F0 m pc ls st0) := mc_i hr hLc kk
theorem mc_l0 {P : Int64 → Heap → Prop} {a : Array Value} {b0 : Nat} {st0 : List Value} (hr : va_Run p l e R s m args below meth c H locs cells slots 0 0 (F0 m pc ls st0) rest (QcL P a) (fre b0)) (hLc : lcs b0 locs) (kk : ∀ (r : Int64) (H1 : Heap) (locs : List Loc), P r H1 → lcs b0 locs → W p l e R s m args below meth c H1 locs cells slots Q (F0 m (pc + 3) ls (.long r :: rest))) : W p l e R s m args below meth c H locs cells slots Q (F0 m pc ls st0) := mc_l hr hLc kk
theorem mc_v0 {P : Heap → Prop} {a : Array Value} {b0 : Nat} {st0 : List Value} (hr : va_Run p l e R s m args below meth c H locs cells slots 0 0 (F0 m pc ls st0) rest (QcV P a) (fre b0)) (hLc : lcs b0 locs) (kk : ∀ (H1 : Heap) (locs : List Loc), P H1 → lcs b0 locs → W p l e R s m args below meth c H1 locs cells slots Q (F0 m (pc + 3) ls rest)) : W p l e R s m args below meth c H locs cells slots Q (F0 m pc ls st0) := mc_v hr hLc kk
theorem mp_S {G : gG} {As : List Value} (hK : KK G s) : PreS s H (PcH G H As) As := ⟨PcH_blind G H As, fun U hU hW => ⟨rfl, hU, KK.moved hW.alike hK⟩⟩
theorem m_iret (hx : p.tables.exec = Jvm.exec) (hb : c.code = cc) {P : Int32 → Heap → Prop} {b0 : Nat} {v : Int32} (hr : meth.sig.returnType = some .int) (hlocks : meth.locks = false) (hLc : lcs b0 locs) (hdg : decode cc pc = .ok (.ireturn, 1)) (hp : P v H) : W p l e R s m args below meth c H locs cells slots (MQ below (QcI P) args s cells slots (fre b0)) (F0 m pc ls [.int v]) := W.iret hx hb hr (fun t ht _ => ⟨v, rfl, by rw [ht]; exact hp⟩) hLc hdg hlocks
theorem m_zret (hx : p.tables.exec = Jvm.exec) (hb : c.code = cc) {P : Int32 → Heap → Prop} {b0 : Nat} {v : Int32} (hr : meth.sig.returnType = some .boolean) (hlocks : meth.locks = false) (hLc : lcs b0 locs) (hn : v = 0 ∨ v = 1) (hdg : decode cc pc = .ok (.ireturn, 1)) (hp : P v H) : W p l e R s m args below meth c H locs cells slots (MQ below (QcI P) args s cells slots (fre b0)) (F0 m pc ls [.int v]) := W.zret hx hb hr (by rcases hn with rfl | rfl <;> decide) (fun t ht _ => ⟨v, rfl, by rw [ht]; exact hp⟩) hLc hdg hlocks
theorem m_lret (hx : p.tables.exec = Jvm.exec) (hb : c.code = cc) {P : Int64 → Heap → Prop} {b0 : Nat} {v : Int64} (hr : meth.sig.returnType = some .long) (hlocks : meth.locks = false) (hLc : lcs b0 locs) (hdg : decode cc pc = .ok (.lreturn, 1)) (hp : P v H) : W p l e R s m args below meth c H locs cells slots (MQ below (QcL P) args s cells slots (fre b0)) (F0 m pc ls [.long v]) := W.lret hx hb hr (fun t ht _ => ⟨v, rfl, by rw [ht]; exact hp⟩) hLc hdg hlocks
theorem m_vret (hx : p.tables.exec = Jvm.exec) (hb : c.code = cc) {P : Heap → Prop} {b0 : Nat} (hr : meth.sig.returnType = none) (hlocks : meth.locks = false) (hLc : lcs b0 locs) (hdg : decode cc pc = .ok (.return_, 1)) (hp : P H) : W p l e R s m args below meth c H locs cells slots (MQ below (QcV P) args s cells slots (fre b0)) (F0 m pc ls []) := W.vret hx hb hr (fun t ht _ => ⟨rfl, by rw [ht]; exact hp⟩) hLc hdg hlocks
/-- what stands fixed through a method's body -/
def FxM (p : Program) (s : State) (m : MethodId) (args : Array Value) (meth : Method) (c : Code) (G : gG) (cc : ByteArray) (maxL : Nat) (ret : Option FieldType) (own : String) (ws : List Cond) : Prop :=
  p.tables.exec = Jvm.exec ∧ c.code = cc ∧ meth.sig.returnType = ret ∧ c.maxLocals = maxL ∧ s.vm.findClass own = some m.cls ∧ (∀ w ∈ ws, w.before args s = true) ∧ meth.locks = false ∧ KK G s
theorem m_enter {y : MethodName} {ws ws' : List Cond} {rm : Room} {Qc : Array Value → State → Outcome → State → Prop} {mc ms : Nat} {free : Addr → Prop} {maxL : Nat} {ret : Option FieldType} {G : gG} {H : Heap} {As : List Value} {own : String}
    (hy : plainName y.cls = true) (ho : y.cls = own) (hw : ws = Cond.code y cc maxL ret :: ws') (hlen : (lg_sl As).length ≤ maxL)
    (body : ∀ (p : Program) (e : Env) (s : State) (m : MethodId) (below : List Frame) (meth : Method) (c : Code) (ls : Array Slot), FxM p s m As.toArray meth c G cc maxL ret own ws → meth.name = y.name → s.heap = H → lv_has ls maxL (lv_args 0 As) →
      W p l e rm s m As.toArray below meth c H [] 0 0 (MQ below Qc As.toArray s mc ms free) (F0 m 0 ls [])) : Met l y ws rm (PcH G H As) Qc mc ms free := by
  refine Met.ofW (cc := cc) (maxL := maxL) (ret := ret) hy hw ?_
  intro p e s m args below meth c s₁ B hml hv
  subst ho
  obtain ⟨rfl, hH, hK⟩ := hv
  have hl := lv_entry As (n := maxL) hlen
  rw [lg_entry_eq, hH]
  exact body p e s m below meth c _ ⟨B.exec, B.bytes, B.returns, hml, findClass_of_methodNamed B.named, atoms_spec (ws := ws) B.pre, B.notSynchronized, hK⟩ (name_of_methodNamed B.named B.method).1 hH hl
end RW
section RW2
variable {p : Program} {l : Launch} {e : Env} {R : Room} {s : State} {m : MethodId} {args : Array Value} {below : List Frame} {meth : Method} {c : Code} {H : Heap} {locs : List Loc} {cells slots : Nat} {Q : State → Prop}
variable {cc : ByteArray} {pc : Nat} {ls : Array Slot} {rest : List Value}
theorem aJ_congr (G : gG) {n : Nat} {f g : Nat → Nat} (h : ∀ j, j < n → f j = g j) : aJ G n f = aJ G n g := by
  unfold aJ arrV
  congr 1
  apply Array.ext
  · simp
  · intro i h1 h2
    have hi : i < n := by simpa using h1
    simp [h i hi]
theorem s_u32 : ∀ n, n < 32 → (((nI n).toUInt32 &&& Int32.toUInt32 31).toBitVec % 32).toNat = n := by decide +kernel
theorem m_iushr (hx : p.tables.exec = Jvm.exec) (hb : c.code = cc) {a n : Nat} (ha : a < 2 ^ 32) (hn : n < 32) (hdg : decode cc pc = .ok (.iushr, 1)) (k : W p l e R s m args below meth c H locs cells slots Q (F0 m (pc + 1) ls (.int (nI (a / 2 ^ n)) :: rest))) : W p l e R s m args below meth c H locs cells slots Q (F0 m pc ls (.int (nI n) :: .int (nI a) :: rest)) := lv_iushr hx hb hdg (pk_ushrN ha (nI n) n (s_u32 n hn)) k
theorem m_copyJ (hx : p.tables.exec = Jvm.exec) (hb : c.code = cc) (hml : c.maxLocals = ls.size) {own : String} {index : Nat} (hown : s.vm.findClass own = some m.cls) (hlink : (Cond.methodLink own index arraycopyName).before args s = true) (hnat : (Cond.native arraycopyName).before args s = true) (hstat : (Cond.static arraycopyName).before args s = true) (hini : (Cond.initialized "java/lang/System").before args s = true)
    {G : gG} (hK : KK G s) {b0 a0 a n0 n1 n : Nat} {f g : Nat → Nat} (ha0 : H[a0]? = some (aJ G n0 f)) (ha1 : H[a]? = some (aJ G n1 g)) (hn0 : n ≤ n0) (hn1 : n ≤ n1) (hn : n < 2 ^ 31) (hba : b0 ≤ a) (hLc : lcs b0 locs)
    (hframes : 1 ≤ R.frames) (hlocals : (rest.map fun v => v.category).sum + (nativeFrameWords "java/lang/System" "arraycopy" 5 + 11) ≤ R.locals) (hdg : decode cc pc = .ok (.invokestatic index, 3))
    (kk : ∀ locs : List Loc, lcs b0 locs → W p l e R s m args below meth c (hput H a (aJ G n1 (fun j => if j < n then f j else g j))) locs cells slots Q (F0 m (pc + 3) ls rest)) : W p l e R s m args below meth c H locs cells slots Q (F0 m pc ls (.int (nI n) :: .int (nI 0) :: .ref a :: .int (nI 0) :: .ref a0 :: rest)) := by
  intro T hT X
  have hc0 : H[a0]? = some (vp_cell (G.2 0) (n0, .inr (.inl (fun j => lN (f j))))) := ha0
  have hc1 : H[a]? = some (vp_cell (G.2 0) (n1, .inr (.inl (fun j => lN (g j))))) := ha1
  obtain ⟨-, k0, hk0, cm0, hkk0⟩ := (hK.2 0 _ rfl).1 n0 (fun j => .long (lN (f j)))
  have z0 : ¬ nI 0 < 0 := by decide
  have hnn : ¬ nI n < 0 := nI_pos hn
  have c0 : (nI 0).toNatClampNeg = 0 := by decide
  have cn : (nI n).toNatClampNeg = n := nI_clamp hn
  obtain ⟨vm', X', step⟩ := X.arraycopy hx hown hlink hnat hstat hini (src := a0) (dst := a) (cs := vp_cell (G.2 0) (n0, .inr (.inl (fun j => lN (f j))))) (cd := vp_cell (G.2 0) (n1, .inr (.inl (fun j => lN (g j))))) (srcPos := nI 0) (destPos := nI 0) (n := nI n) (by rw [hT]; exact hc0) (by rw [hT]; exact hc1)
    (fun _ h => by cases h) (fun _ h => by cases h) (fun h => by cases h) (fun h => by cases h) hk0 hk0 hkk0 hkk0 (by simp [refKind]) z0 z0 hnn
    (by rw [nI_toInt hn, nI_toInt (by decide)]; show ¬ _ > ((arrV (G.2 0) n0 (fun j => .long (lN (f j)))).slots.size : Int); rw [arrV_size]; omega)
    (by rw [nI_toInt hn, nI_toInt (by decide)]; show ¬ _ > ((arrV (G.2 0) n1 (fun j => .long (lN (g j)))).slots.size : Int); rw [arrV_size]; omega)
    (fun vm₁ _ i hi => by
      rw [cn] at hi
      have e : (vp_cell (G.2 0) (n0, .inr (.inl (fun j => lN (f j))))).slots.getD ((nI 0).toNatClampNeg + i) .null = .long (lN (f i)) := by
        show (arrV (G.2 0) n0 (fun j => .long (lN (f j)))).slots.getD _ _ = _
        rw [c0, Nat.zero_add, Array.getD_eq_getD_getElem?, arrV_read _ _ (by omega)]
        rfl
      refine ⟨?_, ?_⟩
      · rw [e]; rfl
      · rw [e]; exact trivial)
    (g := F0 m pc ls (.int (nI n) :: .int (nI 0) :: .ref a :: .int (nI 0) :: .ref a0 :: rest)) rfl (by rw [hml]) (rest := rest) rfl (by rw [hb]; exact hdg) hframes (by show 2 * 0 + _ + _ ≤ _; omega)
  have e1 : copied (vp_cell (G.2 0) (n0, .inr (.inl (fun j => lN (f j))))) (vp_cell (G.2 0) (n1, .inr (.inl (fun j => lN (g j))))) (nI 0) (nI 0) (nI n) = aJ G n1 (fun j => if j < n then f j else g j) := by
    refine (va_copied (fun z => .long z) (G.2 0) (G.2 0) (fun j => lN (f j)) (fun j => lN (g j)) (n1 := n1) (by rw [c0, cn]; omega)).trans ?_
    unfold aJ
    congr 1
    funext j
    rw [c0, cn]
    unfold va_cpy
    by_cases hj : j < n
    · simp [hj]
    · simp [hj]
  rw [e1] at X' step
  obtain ⟨t, a1, b1⟩ := kk _ (lcs_app hLc (fun q hq => by
      obtain ⟨z, -, hz⟩ := List.mem_map.mp hq
      rw [← hz]
      exact hba)) _ (by rw [← hT]; rfl) X'
  exact ⟨t, step t a1, b1⟩
end RW2
