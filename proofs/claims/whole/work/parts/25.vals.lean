/-! THE VALUES of the slots, on both sides -/
theorem WO.trans {G : gG} {b0 ci o K : Nat} {ad : Nat → Nat} {H0 H H1 : Heap} {fs fs' : List Value} {cl cl' : Nat → Cell} (h : WO G b0 ci o K ad H0 fs cl H) (h1 : WO G b0 ci o K ad H fs' cl' H1) : WO G b0 ci o K ad H0 fs' cl' H1 := ⟨h1.1, h1.2.1, h1.2.2.1, h1.2.2.2.1, h1.2.2.2.2.1, h1.sz.trans h.sz, fun q a b => (h1.fr q a b).trans (h.fr q a b)⟩
def sg (b n : Nat) : Int := if b = 1 then -(n : Int) else (n : Int)
theorem sg_abs (b n : Nat) : (sg b n).natAbs = n := by unfold sg; split <;> omega
theorem sg_0 (n : Nat) : sg 0 n = n := by simp [sg]
theorem sg_1 (n : Nat) : sg 1 n = -(n : Int) := by simp [sg]
def valX (sz : Nat → Nat → Nat) (bl : Nat → Nat) (i : Nat) : Int := sg (bl i) (vl (sz i) 16)
def IV (sz : Nat → Nat → Nat) (bl : Nat → Nat) : Prop := ∀ i, i < 64 → lim (sz i) 16 ∧ bl i ≤ 1 ∧ (bl i = 1 → vl (sz i) 16 ≠ 0)
theorem B16 : 4294967296 ^ 16 = 2 ^ 512 := by rw [show 4294967296 = 2 ^ 32 from rfl, ← Nat.pow_mul]
theorem B17 : 4294967296 ^ 17 = 2 ^ 544 := by rw [show 4294967296 = 2 ^ 32 from rfl, ← Nat.pow_mul]
theorem IV.lt {sz : Nat → Nat → Nat} {bl : Nat → Nat} (h : IV sz bl) {i : Nat} (hi : i < 64) : vl (sz i) 16 < 2 ^ 512 := by rw [← B16]; exact vl_lt (h i hi).1
section VX
variable {G : gG} {b0 o : Nat} {ad : Nat → Nat} {H H1 Hc : Heap} {sz : Nat → Nat → Nat} {bl dv : Nat → Nat} {dc : Nat} {wr : Nat → Nat} {wf : Nat} {f1 f2 fw : Nat → Nat}
/-- the class's object holds the numbers V -/
def RX (G : gG) (b0 o : Nat) (ad : Nat → Nat) (H : Heap) (V : Nat → Int) (dv : Nat → Nat) (dc : Nat) (wr : Nat → Nat) (wf : Nat) (H1 : Heap) : Prop := ∃ (sz : Nat → Nat → Nat) (bl f1 f2 fw : Nat → Nat), SX G b0 o ad H sz bl dv dc wr wf f1 f2 fw H1 ∧ IV sz bl ∧ ∀ i, i < 64 → valX sz bl i = V i
/-- slot s becomes v, or it is too great -/
def KX (G : gG) (b0 o : Nat) (ad : Nat → Nat) (H : Heap) (V : Nat → Int) (dv : Nat → Nat) (dc : Nat) (wr : Nat → Nat) (wf : Nat) (k : Nat) (v : Int) (r : Int32) (H1 : Heap) : Prop := (v.natAbs < 2 ^ 512 ∧ r = nI 0 ∧ RX G b0 o ad H (fup V k v) dv dc wr wf H1) ∨ (2 ^ 512 ≤ v.natAbs ∧ r = nI 1 ∧ RX G b0 o ad H V dv dc wr wf H1)
theorem RX.trans {V : Nat → Int} {dv' : Nat → Nat} {dc' : Nat} {wr' : Nat → Nat} {wf' : Nat} (h : SX G b0 o ad H sz bl dv dc wr wf f1 f2 fw Hc) (h1 : RX G b0 o ad Hc V dv' dc' wr' wf' H1) : RX G b0 o ad H V dv' dc' wr' wf' H1 := by
  obtain ⟨a1, a2, a3, a4, a5, a6, a7, a8⟩ := h1
  exact ⟨a1, a2, a3, a4, a5, WO.trans h a6, a7, a8⟩
theorem KX.trans {V : Nat → Int} {dv' : Nat → Nat} {dc' : Nat} {wr' : Nat → Nat} {wf' : Nat} {k : Nat} {v : Int} {r : Int32} (h : SX G b0 o ad H sz bl dv dc wr wf f1 f2 fw Hc) (h1 : KX G b0 o ad Hc V dv' dc' wr' wf' k v r H1) : KX G b0 o ad H V dv' dc' wr' wf' k v r H1 := by
  rcases h1 with ⟨a, b, c⟩ | ⟨a, b, c⟩
  · exact Or.inl ⟨a, b, RX.trans h c⟩
  · exact Or.inr ⟨a, b, RX.trans h c⟩
theorem KX.val {V V' : Nat → Int} {k : Nat} {v v' : Int} {r : Int32} (h : KX G b0 o ad H V dv dc wr wf k v r H1) (hv : v = v') (hV : ∀ i, i < 64 → V i = V' i) : KX G b0 o ad H V' dv dc wr wf k v' r H1 := by
  subst hv
  rcases h with ⟨a, b, c1, c2, c3, c4, c5, c6, c7, c8⟩ | ⟨a, b, c1, c2, c3, c4, c5, c6, c7, c8⟩
  · refine Or.inl ⟨a, b, c1, c2, c3, c4, c5, c6, c7, fun i hi => (c8 i hi).trans ?_⟩
    unfold fup
    split
    · rfl
    · exact hV i hi
  · exact Or.inr ⟨a, b, c1, c2, c3, c4, c5, c6, c7, fun i hi => (c8 i hi).trans (hV i hi)⟩
theorem SX.r (h : SX G b0 o ad H sz bl dv dc wr wf f1 f2 fw H1) (hI : IV sz bl) : RX G b0 o ad H (valX sz bl) dv dc wr wf H1 := ⟨sz, bl, f1, f2, fw, h, hI, fun _ _ => rfl⟩
end VX
/-- a row stored in a slot -/
theorem kept_X {sz : Nat → Nat → Nat} {bl : Nat → Nat} (hI : IV sz bl) {k n b z : Nat} {f g : Nat → Nat} (hk : k < 64) (hn : 16 ≤ n) (hf : lim f n) (hu : us f n ≤ 16) (hb : b ≤ 1) (hg : ∀ j, j < 16 → g j = f j) (hz : (b = 1 ∧ us f n ≠ 0 ∧ z = 1) ∨ ((b ≠ 1 ∨ us f n = 0) ∧ z = 0)) :
    IV (fup sz k g) (fup bl k z) ∧ ∀ i, i < 64 → valX (fup sz k g) (fup bl k z) i = fup (valX sz bl) k (sg b (vl f n)) i := by
  have hv : vl g 16 = vl f n := by
    rw [vl_congr hg]
    symm
    exact vl_ext hn (fun j h1 h2 => us_hi f n j (by omega) h2)
  have h0 := us_0 f n
  constructor
  · intro i hi
    by_cases e : i = k
    · subst e
      rw [fup_s, fup_s]
      refine ⟨fun j hj => by rw [hg j hj]; exact hf j (by omega), by omega, fun h1 => ?_⟩
      rw [hv]
      intro h2
      have := h0.mpr h2
      omega
    · rw [fup_n _ _ e, fup_n _ _ e]
      exact hI i hi
  · intro i hi
    unfold valX
    by_cases e : i = k
    · subst e
      rw [fup_s, fup_s, fup_s, hv]
      unfold sg
      rcases hz with ⟨h1, h2, h3⟩ | ⟨h1, h3⟩
      · rw [if_pos h3, if_pos h1]
      · rw [if_neg (by omega)]
        rcases h1 with h1 | h1
        · rw [if_neg h1]
        · rw [h0.mp h1]; split <;> rfl
    · rw [fup_n _ _ e, fup_n _ _ e, fup_n _ _ e]
