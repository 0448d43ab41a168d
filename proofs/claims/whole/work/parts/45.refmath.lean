/-! WHAT the reference's methods answer -/
theorem cmpg_1 {b c A D : Nat} (hb : b ≤ 1) (hc : c ≤ 1) (hz : b = 1 → A ≠ 0) (h : b ≠ c) (h1 : b ≠ 0) : cmpP (-1) (sg b A) (sg c D) := by
  refine Or.inl ⟨?_, rfl⟩
  unfold sg
  rw [if_pos (by omega), if_neg (by omega)]
  have := hz (by omega)
  omega
theorem cmpg_0 {b c A D : Nat} (hb : b ≤ 1) (hc : c ≤ 1) (hz : c = 1 → D ≠ 0) (h : b ≠ c) (h1 : b = 0) : cmpP 1 (sg b A) (sg c D) := by
  refine Or.inr (Or.inr ⟨?_, rfl⟩)
  unfold sg
  rw [if_pos (show c = 1 by omega), if_neg (by omega)]
  have := hz (by omega)
  omega
theorem cmpg_p {b c A D : Nat} {r : Int32} (h : b = c) (h1 : b = 0) (ho : ordP r A D) : cmpP r (sg b A) (sg c D) := by
  unfold sg
  rw [if_neg (by omega), if_neg (by omega)]
  rcases ho with ⟨a, b⟩ | ⟨a, b⟩ | ⟨a, b⟩
  · exact Or.inl ⟨by omega, b⟩
  · exact Or.inr (Or.inl ⟨by omega, b⟩)
  · exact Or.inr (Or.inr ⟨by omega, b⟩)
theorem cmpg_m {b c A D : Nat} {r : Int32} (hb : b ≤ 1) (h : b = c) (h1 : b ≠ 0) (ho : ordP r A D) : cmpP (-r) (sg b A) (sg c D) := by
  unfold sg
  rw [if_pos (by omega), if_pos (by omega)]
  rcases ho with ⟨a, rfl⟩ | ⟨a, rfl⟩ | ⟨a, rfl⟩
  · exact Or.inr (Or.inr ⟨by omega, by decide⟩)
  · exact Or.inr (Or.inl ⟨by omega, by decide⟩)
  · exact Or.inl ⟨by omega, by decide⟩
theorem ge_of {y : Int32} {lo : Nat} (hlo : lo < 2 ^ 31) (h : ¬ y < nI lo) : ∃ b, lo ≤ b ∧ b < 2 ^ 31 ∧ y = nI b := by
  have h0 : ¬ y < 0 := fun h1 => h (neg_lt h1 lo hlo)
  obtain ⟨b, hb, rfl⟩ := nI_of h0
  refine ⟨b, ?_, hb, rfl⟩
  rcases Nat.lt_or_ge b lo with h1 | h1
  · exfalso
    apply h
    rw [Int32.lt_iff_toInt_lt, nI_toInt hb, nI_toInt hlo]
    omega
  · exact h1
theorem lt_no {y : Int32} {lo hi : Nat} (hlo : lo < 2 ^ 31) (h : y < nI lo) : ∀ b, lo ≤ b → b ≤ hi → b < 2 ^ 31 → y ≠ nI b := by
  intro b h1 _ h3 e
  rw [e, Int32.lt_iff_toInt_lt, nI_toInt h3, nI_toInt hlo] at h
  omega
theorem gt_no {c lo hi : Nat} (hc : c < 2 ^ 31) (h : hi < c) : ∀ b, lo ≤ b → b ≤ hi → b < 2 ^ 31 → nI c ≠ nI b := by
  intro b _ h2 h3 e
  have := (nI_eq hc h3).mp e
  omega
theorem noop_lt {y : Int32} (h : y < 0) : noop y := fun n hn e => nI_pos (show n < 2 ^ 31 by omega) (e ▸ h)
theorem noop_gt {c : Nat} (hc : c < 2 ^ 31) (h : 8 < c) : noop (nI c) := fun n hn e => by
  have := (nI_eq hc (show n < 2 ^ 31 by omega)).mp e
  omega
theorem sgt0 {c D : Nat} (hc : c ≤ 1) : sg (if c = 0 then 0 else 1) D = sg c D := by
  rcases (show c = 0 ∨ c = 1 by omega) with rfl | rfl <;> rfl
theorem sgt1 {c D : Nat} (hc : c ≤ 1) : sg (if c = 1 then 0 else 1) D = -sg c D := by
  rcases (show c = 0 ∨ c = 1 by omega) with rfl | rfl
  · show sg 1 D = -sg 0 D
    rw [sg_1, sg_0]
  · show sg 0 D = -sg 1 D
    rw [sg_1, sg_0]; omega
theorem wv_0 {n : Nat} {X Y : Int} (h : n = 0) : wv n X Y = X + Y := by subst h; rfl
theorem wv_1 {n : Nat} {X Y : Int} (h : n = 1) : wv n X Y = X - Y := by subst h; rfl
theorem wv_2 {n : Nat} {X Y : Int} (h : n = 2) : wv n X Y = X * Y := by subst h; rfl
theorem wv_3 {n : Nat} {X Y : Int} (h : n = 3) : wv n X Y = Int.tdiv X Y := by subst h; rfl
theorem wv_4 {n : Nat} {X Y : Int} (h : n = 4) : wv n X Y = Int.tmod X Y := by subst h; rfl
theorem wv_5 {n : Nat} {X Y : Int} (h : 5 ≤ n) : wv n X Y = btI 544 n X Y := by
  unfold wv
  rw [if_neg (by omega), if_neg (by omega), if_neg (by omega), if_neg (by omega), if_neg (by omega)]
theorem sg_flip1 {b A : Nat} (h : b = 0) : sg 1 A = -sg b A := by rw [h, sg_1, sg_0]
theorem sg_flip0 {b A : Nat} (hb : b ≤ 1) (h : b ≠ 0) : sg 0 A = -sg b A := by rw [show b = 1 by omega, sg_1, sg_0]; omega
theorem p1_ : 1 ≤ 2 ^ 512 := by decide +kernel
theorem bl_of {A n : Nat} (h0 : A / 2 ^ n = 0) (h1 : n = 0 ∨ 2 ^ (n - 1) ≤ A) : isBL n A := by
  refine ⟨?_, h1⟩
  rcases Nat.lt_or_ge A (2 ^ n) with h | h
  · exact h
  · exact absurd (Nat.div_pos h (Nat.pow_pos (by decide))) (by omega)
theorem le_of_dv {A b n : Nat} (h : A / b ^ n ≠ 0) : b ^ n ≤ A := by
  rcases Nat.lt_or_ge A (b ^ n) with h1 | h1
  · exact absurd (Nat.div_eq_of_lt h1) h
  · exact h1
