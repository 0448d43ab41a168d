/-! BOTH OBJECTS side by side -/
/-- the two objects and the script lie apart -/
def DJ (b b0 oX : Nat) (ax : Nat → Nat) (oM : Nat) (am : Nat → Nat) : Prop := b < b0 ∧ oX ≠ oM ∧ (∀ i, i < 71 → ax i ≠ oM) ∧ (∀ i, i < 11 → am i ≠ oX) ∧ ∀ i j, i < 71 → j < 11 → ax i ≠ am j
/-- what is typed, and what is written, is the same on both sides -/
def TR (dv : Nat → Nat) (dc : Nat) (wr : Nat → Nat) (wf : Nat) (tp : Nat → Nat) (td : Nat) (tx : Nat → Nat) (wn : Nat) : Prop := (dc = td ∧ dc ≤ 1000 ∧ (∀ j, j < 1008 → dv j ≤ 35) ∧ (∀ j, j < 1000 → tp j ≤ 35) ∧ ∀ j, j < dc → dv j = tp j) ∧ wn ≤ 513 ∧ wf = 513 - wn ∧ ∀ e, e < wn → wr (512 - e) = tx e
section LW
variable {G : gG} {s : State} {b b0 L oX oM : Nat} {xs : Nat → Int32} {ax am : Nat → Nat} {V VX VM : Nat → Int} {dv dv' : Nat → Nat} {dc dc' : Nat} {wr wr' : Nat → Nat} {wf wf' : Nat} {tp tp' : Nat → Nat} {td td' : Nat} {tx tx' : Nat → Nat} {wn wn' : Nat} {H H1 H2 : Heap} {r r2 : Int32}
def LI (G : gG) (s : State) (b b0 L : Nat) (xs : Nat → Int32) (oX : Nat) (ax : Nat → Nat) (oM : Nat) (am : Nat → Nat) (V : Nat → Int) (dv : Nat → Nat) (dc : Nat) (wr : Nat → Nat) (wf : Nat) (tp : Nat → Nat) (td : Nat) (tx : Nat → Nat) (wn : Nat) (H : Heap) : Prop := RX G b0 oX ax H V dv dc wr wf H ∧ RM G b0 oM am H V tp td tx wn H ∧ TR dv dc wr wf tp td tx wn ∧ va_X b L xs s H
theorem RX.w0 (h : RX G b0 oX ax H V dv dc wr wf H1) : (∀ q, q ≠ oX → (∀ i, i < 71 → q ≠ ax i) → H1[q]? = H[q]?) ∧ b0 ≤ oX ∧ ∀ i, i < 71 → b0 ≤ ax i := by
  obtain ⟨_, _, _, _, _, h, _⟩ := h
  exact ⟨WO.fr h, WO.bo h, WO.b h⟩
theorem RM.w0 (h : RM G b0 oM am H V tp td tx wn H1) : (∀ q, q ≠ oM → (∀ i, i < 11 → q ≠ am i) → H1[q]? = H[q]?) ∧ b0 ≤ oM ∧ ∀ i, i < 11 → b0 ≤ am i := by
  obtain ⟨_, _, _, _, _, _, _, _, _, _, _, _, _, h, _⟩ := h
  exact ⟨WO.fr h, WO.bo h, WO.b h⟩
theorem RX.later {H0 : Heap} (h : RX G b0 oX ax H0 V dv dc wr wf H) (ho : H1[oX]? = H[oX]?) (ha : ∀ i, i < 71 → H1[ax i]? = H[ax i]?) : RX G b0 oX ax H1 V dv dc wr wf H1 := by
  obtain ⟨a1, a2, a3, a4, a5, h, c⟩ := h
  exact ⟨a1, a2, a3, a4, a5, WO.later h ho ha, c⟩
theorem RM.later {H0 : Heap} (h : RM G b0 oM am H0 V tp td tx wn H) (ho : H1[oM]? = H[oM]?) (ha : ∀ i, i < 11 → H1[am i]? = H[am i]?) : RM G b0 oM am H1 V tp td tx wn H1 := by
  obtain ⟨a1, a2, a3, a4, a5, a6, a7, a8, a9, a10, a11, a12, a13, h, c⟩ := h
  exact ⟨a1, a2, a3, a4, a5, a6, a7, a8, a9, a10, a11, a12, a13, WO.later h ho ha, c⟩
theorem RX.val (h : RX G b0 oX ax H V dv dc wr wf H1) (hV : ∀ i, i < 64 → V i = VX i) : RX G b0 oX ax H VX dv dc wr wf H1 := by
  obtain ⟨a1, a2, a3, a4, a5, h, c, d⟩ := h
  exact ⟨a1, a2, a3, a4, a5, h, c, fun i hi => (d i hi).trans (hV i hi)⟩
theorem RM.val (h : RM G b0 oM am H V tp td tx wn H1) (hV : ∀ i, i < 64 → V i = VM i) : RM G b0 oM am H VM tp td tx wn H1 := by
  obtain ⟨a1, a2, a3, a4, a5, a6, a7, a8, a9, a10, a11, a12, a13, h, c, d⟩ := h
  exact ⟨a1, a2, a3, a4, a5, a6, a7, a8, a9, a10, a11, a12, a13, h, c, fun i hi => (d i hi).trans (hV i hi)⟩
theorem KM.val2 {k : Nat} {v v' : Int} (h : KM G b0 oM am H V tp td tx wn k v r H1) (hv : v = v') (hV : ∀ i, i < 64 → V i = VM i) : KM G b0 oM am H VM tp td tx wn k v' r H1 := by
  subst hv
  rcases h with ⟨a, b, c⟩ | ⟨a, b, c⟩
  · refine Or.inl ⟨a, b, c.val (fun i hi => ?_)⟩
    unfold fup
    split
    · rfl
    · exact hV i hi
  · exact Or.inr ⟨a, b, c.val hV⟩
/-- behind the class's call: the reference is as it was -/
theorem LI.mid (hD : DJ b b0 oX ax oM am) (hM : RM G b0 oM am H V tp td tx wn H) (h1 : RX G b0 oX ax H VX dv' dc' wr' wf' H1) : RM G b0 oM am H1 V tp td tx wn H1 := by
  obtain ⟨f, -, -⟩ := h1.w0
  obtain ⟨d0, d1, d2, d3, d4⟩ := hD
  exact hM.later (f _ (fun e => d1 e.symm) (fun i hi e => d2 i hi e.symm)) (fun j hj => f _ (d3 j hj) (fun i hi e => d4 i j hi hj e.symm))
theorem LI.scr1 (hD : DJ b b0 oX ax oM am) (hX : va_X b L xs s H) (h1 : RX G b0 oX ax H VX dv' dc' wr' wf' H1) : va_X b L xs s H1 := by
  obtain ⟨f, g1, g2⟩ := h1.w0
  have d0 := hD.1
  exact hX.kept (f _ (by omega) (fun i hi => by have := g2 i hi; omega))
theorem LI.scr2 (hD : DJ b b0 oX ax oM am) (hX : va_X b L xs s H) (h1 : RM G b0 oM am H VM tp' td' tx' wn' H1) : va_X b L xs s H1 := by
  obtain ⟨f, g1, g2⟩ := h1.w0
  have d0 := hD.1
  exact hX.kept (f _ (by omega) (fun i hi => by have := g2 i hi; omega))
/-- behind both calls -/
theorem LI.fin (hD : DJ b b0 oX ax oM am) (hX : va_X b L xs s H) (h1 : RX G b0 oX ax H V dv' dc' wr' wf' H1) (h2 : RM G b0 oM am H1 V tp' td' tx' wn' H2) (hT : TR dv' dc' wr' wf' tp' td' tx' wn') : LI G s b b0 L xs oX ax oM am V dv' dc' wr' wf' tp' td' tx' wn' H2 := by
  have hX1 := LI.scr1 hD hX h1
  have hX2 := LI.scr2 hD hX1 h2
  obtain ⟨f, -, -⟩ := h2.w0
  obtain ⟨d0, d1, d2, d3, d4⟩ := hD
  refine ⟨h1.later (f _ d1 (fun i hi e => d3 i hi e.symm)) (fun j hj => f _ (d2 j hj) (fun i hi => d4 j i hj hi)), h2.later rfl (fun _ _ => rfl), hT, hX2⟩
theorem KK2 {k : Nat} {v : Int} (h1 : KX G b0 oX ax H V dv dc wr wf k v r H1) (h2 : KM G b0 oM am H1 V tp td tx wn k v r2 H2) : r = r2 ∧ ∃ V' : Nat → Int, RX G b0 oX ax H V' dv dc wr wf H1 ∧ RM G b0 oM am H1 V' tp td tx wn H2 := by
  rcases h1 with ⟨a, rfl, c⟩ | ⟨a, rfl, c⟩ <;> rcases h2 with ⟨a', rfl, c'⟩ | ⟨a', rfl, c'⟩
  · exact ⟨rfl, _, c, c'⟩
  · omega
  · omega
  · exact ⟨rfl, _, c, c'⟩
theorem slot_uq {k k' : Nat} {x : Int32} (hk : k ≤ 63) (hk' : k' ≤ 63) (h : x = nI k) (h' : x = nI k') : k = k' := (nI_eq (show k < 2 ^ 31 by omega) (show k' < 2 ^ 31 by omega)).mp (h.symm.trans h')
theorem slot_no {k : Nat} {x : Int32} (hk : k ≤ 63) (h : x = nI k) (hn : noslot x) : False := hn k (Nat.zero_le k) hk (by omega) h
theorem small_uq {k k' : Nat} {x : Int32} (hk : k ≤ 1000) (hk' : k' ≤ 1000) (h : x = nI k) (h' : x = nI k') : k = k' := (nI_eq (show k < 2 ^ 31 by omega) (show k' < 2 ^ 31 by omega)).mp (h.symm.trans h')
abbrev R2 (G : gG) (b0 oX : Nat) (ax : Nat → Nat) (oM : Nat) (am : Nat → Nat) (dv : Nat → Nat) (dc : Nat) (wr : Nat → Nat) (wf : Nat) (tp : Nat → Nat) (td : Nat) (tx : Nat → Nat) (wn : Nat) (H H1 H2 : Heap) (r r2 : Int32) : Prop := r = r2 ∧ ∃ V' : Nat → Int, RX G b0 oX ax H V' dv dc wr wf H1 ∧ RM G b0 oM am H1 V' tp td tx wn H2
theorem L_set {x : Int32} {v : Int} (h1 : (∃ k, k ≤ 63 ∧ x = nI k ∧ KX G b0 oX ax H V dv dc wr wf k v r H1) ∨ (noslot x ∧ r = nI 3 ∧ RX G b0 oX ax H V dv dc wr wf H1)) (h2 : (∃ k, k ≤ 63 ∧ x = nI k ∧ KM G b0 oM am H1 V tp td tx wn k v r2 H2) ∨ (noslot x ∧ r2 = nI 3 ∧ RM G b0 oM am H1 V tp td tx wn H2)) : R2 G b0 oX ax oM am dv dc wr wf tp td tx wn H H1 H2 r r2 := by
  rcases h1 with ⟨k, a1, a2, a3⟩ | ⟨a1, rfl, a3⟩ <;> rcases h2 with ⟨k', c1, c2, c3⟩ | ⟨c1, rfl, c3⟩
  · obtain rfl := slot_uq a1 c1 a2 c2
    exact KK2 a3 c3
  · exact (slot_no a1 a2 c1).elim
  · exact (slot_no c1 c2 a1).elim
  · exact ⟨rfl, V, a3, c3⟩
theorem L_turn {x y : Int32} {f : Nat → Int} (h1 : (∃ k i, k ≤ 63 ∧ i ≤ 63 ∧ x = nI k ∧ y = nI i ∧ KX G b0 oX ax H V dv dc wr wf k (f i) r H1) ∨ ((noslot x ∨ noslot y) ∧ r = nI 3 ∧ RX G b0 oX ax H V dv dc wr wf H1)) (h2 : (∃ k i, k ≤ 63 ∧ i ≤ 63 ∧ x = nI k ∧ y = nI i ∧ KM G b0 oM am H1 V tp td tx wn k (f i) r2 H2) ∨ ((noslot x ∨ noslot y) ∧ r2 = nI 3 ∧ RM G b0 oM am H1 V tp td tx wn H2)) : R2 G b0 oX ax oM am dv dc wr wf tp td tx wn H H1 H2 r r2 := by
  rcases h1 with ⟨k, i, a1, a2, a3, a4, a5⟩ | ⟨a1, rfl, a3⟩ <;> rcases h2 with ⟨k', i', c1, c2, c3, c4, c5⟩ | ⟨c1, rfl, c3⟩
  · obtain rfl := slot_uq a1 c1 a3 c3
    obtain rfl := slot_uq a2 c2 a4 c4
    exact KK2 a5 c5
  · exact (c1.elim (slot_no a1 a3) (slot_no a2 a4)).elim
  · exact (a1.elim (slot_no c1 c3) (slot_no c2 c4)).elim
  · exact ⟨rfl, V, a3, c3⟩
theorem L_shift {x y z : Int32} {f : Nat → Nat → Int} (h1 : (∃ k i n, k ≤ 63 ∧ i ≤ 63 ∧ n ≤ 1000 ∧ x = nI k ∧ y = nI i ∧ z = nI n ∧ KX G b0 oX ax H V dv dc wr wf k (f i n) r H1) ∨ ((noslot x ∨ noslot y ∨ (∀ n, n ≤ 1000 → z ≠ nI n)) ∧ r = nI 3 ∧ RX G b0 oX ax H V dv dc wr wf H1)) (h2 : (∃ k i n, k ≤ 63 ∧ i ≤ 63 ∧ n ≤ 1000 ∧ x = nI k ∧ y = nI i ∧ z = nI n ∧ KM G b0 oM am H1 V tp td tx wn k (f i n) r2 H2) ∨ ((noslot x ∨ noslot y ∨ (∀ n, n ≤ 1000 → z ≠ nI n)) ∧ r2 = nI 3 ∧ RM G b0 oM am H1 V tp td tx wn H2)) : R2 G b0 oX ax oM am dv dc wr wf tp td tx wn H H1 H2 r r2 := by
  rcases h1 with ⟨k, i, n, a1, a2, a0, a3, a4, a6, a5⟩ | ⟨a1, rfl, a3⟩ <;> rcases h2 with ⟨k', i', n', c1, c2, c0, c3, c4, c6, c5⟩ | ⟨c1, rfl, c3⟩
  · obtain rfl := slot_uq a1 c1 a3 c3
    obtain rfl := slot_uq a2 c2 a4 c4
    obtain rfl := small_uq a0 c0 a6 c6
    exact KK2 a5 c5
  · exact (c1.elim (slot_no a1 a3) (fun h => h.elim (slot_no a2 a4) (fun h => h n a0 a6))).elim
  · exact (a1.elim (slot_no c1 c3) (fun h => h.elim (slot_no c2 c4) (fun h => h n' c0 c6))).elim
  · exact ⟨rfl, V, a3, c3⟩
theorem L_work {z s0 x y : Int32} {f : Nat → Nat → Nat → Int} (h1 : (∃ n k i j, n ≤ 8 ∧ k ≤ 63 ∧ i ≤ 63 ∧ j ≤ 63 ∧ z = nI n ∧ s0 = nI k ∧ x = nI i ∧ y = nI j ∧ ((((n = 3 ∨ n = 4) ∧ V j = 0) ∧ r = nI 2 ∧ RX G b0 oX ax H V dv dc wr wf H1) ∨ (¬ ((n = 3 ∨ n = 4) ∧ V j = 0) ∧ KX G b0 oX ax H V dv dc wr wf k (f n i j) r H1))) ∨ ((noslot s0 ∨ noslot x ∨ noslot y ∨ noop z) ∧ r = nI 3 ∧ RX G b0 oX ax H V dv dc wr wf H1))
    (h2 : (∃ n k i j, n ≤ 8 ∧ k ≤ 63 ∧ i ≤ 63 ∧ j ≤ 63 ∧ z = nI n ∧ s0 = nI k ∧ x = nI i ∧ y = nI j ∧ ((((n = 3 ∨ n = 4) ∧ V j = 0) ∧ r2 = nI 2 ∧ RM G b0 oM am H1 V tp td tx wn H2) ∨ (¬ ((n = 3 ∨ n = 4) ∧ V j = 0) ∧ KM G b0 oM am H1 V tp td tx wn k (f n i j) r2 H2))) ∨ ((noslot s0 ∨ noslot x ∨ noslot y ∨ noop z) ∧ r2 = nI 3 ∧ RM G b0 oM am H1 V tp td tx wn H2)) : R2 G b0 oX ax oM am dv dc wr wf tp td tx wn H H1 H2 r r2 := by
  rcases h1 with ⟨n, k, i, j, a0, a1, a2, a3, a4, a5, a6, a7, a8⟩ | ⟨a1, rfl, a3⟩ <;> rcases h2 with ⟨n', k', i', j', c0, c1, c2, c3, c4, c5, c6, c7, c8⟩ | ⟨c1, rfl, c3⟩
  · obtain rfl := small_uq (show n ≤ 1000 by omega) (show n' ≤ 1000 by omega) a4 c4
    obtain rfl := slot_uq a1 c1 a5 c5
    obtain rfl := slot_uq a2 c2 a6 c6
    obtain rfl := slot_uq a3 c3 a7 c7
    rcases a8 with ⟨e1, rfl, e3⟩ | ⟨e1, e3⟩ <;> rcases c8 with ⟨f1, rfl, f3⟩ | ⟨f1, f3⟩
    · exact ⟨rfl, V, e3, f3⟩
    · exact absurd e1 f1
    · exact absurd f1 e1
    · exact KK2 e3 f3
  · exact (c1.elim (slot_no a1 a5) (fun h => h.elim (slot_no a2 a6) (fun h => h.elim (slot_no a3 a7) (fun h => h n a0 a4)))).elim
  · exact (a1.elim (slot_no c1 c5) (fun h => h.elim (slot_no c2 c6) (fun h => h.elim (slot_no c3 c7) (fun h => h n' c0 c4)))).elim
  · exact ⟨rfl, V, a3, c3⟩
theorem L_read {x y : Int32} (hT : TR dv dc wr wf tp td tx wn) (h1 : (∃ k b, k ≤ 63 ∧ 2 ≤ b ∧ b ≤ 36 ∧ x = nI k ∧ y = nI b ∧ dc ≠ 0 ∧ (∀ j, j < dc → dv j < b) ∧ KX G b0 oX ax H V dv 0 wr wf k (rdv b dv dc) r H1) ∨ ((noslot x ∨ (∀ b, 2 ≤ b → b ≤ 36 → b < 2 ^ 31 → y ≠ nI b) ∨ dc = 0 ∨ (∃ k b, x = nI k ∧ 2 ≤ b ∧ b ≤ 36 ∧ y = nI b ∧ ∃ j, j < dc ∧ b ≤ dv j)) ∧ r = nI 3 ∧ RX G b0 oX ax H V dv 0 wr wf H1))
    (h2 : (∃ k b, k ≤ 63 ∧ 2 ≤ b ∧ b ≤ 36 ∧ x = nI k ∧ y = nI b ∧ td ≠ 0 ∧ (∀ j, j < td → tp j < b) ∧ KM G b0 oM am H1 V tp 0 tx wn k (rdv b tp td) r2 H2) ∨ ((noslot x ∨ (∀ b, 2 ≤ b → b ≤ 36 → b < 2 ^ 31 → y ≠ nI b) ∨ td = 0 ∨ (∃ k b, x = nI k ∧ 2 ≤ b ∧ b ≤ 36 ∧ y = nI b ∧ ∃ j, j < td ∧ b ≤ tp j)) ∧ r2 = nI 3 ∧ RM G b0 oM am H1 V tp 0 tx wn H2)) : R2 G b0 oX ax oM am dv 0 wr wf tp 0 tx wn H H1 H2 r r2 ∧ TR dv 0 wr wf tp 0 tx wn := by
  obtain ⟨⟨rfl, t1, t2, t3, t4⟩, t5⟩ := hT
  refine ⟨?_, ⟨rfl, by omega, t2, t3, fun j hj => absurd hj (by omega)⟩, t5⟩
  rcases h1 with ⟨k, b, a1, a2, a3, a4, a5, a6, a7, a8⟩ | ⟨a1, rfl, a3⟩ <;> rcases h2 with ⟨k', b', c1, c2, c3, c4, c5, c6, c7, c8⟩ | ⟨c1, rfl, c3⟩
  · obtain rfl := slot_uq a1 c1 a4 c4
    obtain rfl := small_uq (show b ≤ 1000 by omega) (show b' ≤ 1000 by omega) a5 c5
    rw [rdv_congr t4] at a8
    exact KK2 a8 c8
  · exfalso
    rcases c1 with h | h | h | ⟨k', b', h1, h2, h3, h4, j, h5, h6⟩
    · exact slot_no a1 a4 h
    · exact h b a2 a3 (by omega) a5
    · exact a6 h
    · obtain rfl := small_uq (show b ≤ 1000 by omega) (show b' ≤ 1000 by omega) a5 h4
      have := a7 j h5
      rw [t4 j h5] at this
      omega
  · exfalso
    rcases a1 with h | h | h | ⟨k', b, h1, h2, h3, h4, j, h5, h6⟩
    · exact slot_no c1 c4 h
    · exact h b' c2 c3 (by omega) c5
    · exact c6 h
    · obtain rfl := small_uq (show b ≤ 1000 by omega) (show b' ≤ 1000 by omega) h4 c5
      have := c7 j h5
      rw [t4 j h5] at h6
      omega
  · exact ⟨rfl, V, a3, c3⟩
theorem L_digits {u : Nat} (hT : TR dv dc wr wf tp td tx wn) (h1 : (r = nI 1 ∧ okb u 8 ∧ (dgs u 8 dc dv).1 ≤ 1000 ∧ ∃ dv2 : Nat → Nat, (∀ j, j < 1008 → dv2 j ≤ 35) ∧ (∀ j, j < (dgs u 8 dc dv).1 → dv2 j = (dgs u 8 dc dv).2 j) ∧ RX G b0 oX ax H V dv2 (dgs u 8 dc dv).1 wr wf H1) ∨ (r = nI 0 ∧ ¬ (okb u 8 ∧ (dgs u 8 dc dv).1 ≤ 1000) ∧ ∃ dv2 : Nat → Nat, (∀ j, j < 1008 → dv2 j ≤ 35) ∧ (∀ j, j < dc → dv2 j = dv j) ∧ RX G b0 oX ax H V dv2 dc wr wf H1))
    (h2 : (r2 = nI 1 ∧ okb u 8 ∧ (dgs u 8 td tp).1 ≤ 1000 ∧ ∃ tp2 : Nat → Nat, (∀ j, j < 1000 → tp2 j ≤ 35) ∧ (∀ j, j < (dgs u 8 td tp).1 → tp2 j = (dgs u 8 td tp).2 j) ∧ RM G b0 oM am H1 V tp2 (dgs u 8 td tp).1 tx wn H2) ∨ (r2 = nI 0 ∧ ¬ (okb u 8 ∧ (dgs u 8 td tp).1 ≤ 1000) ∧ RM G b0 oM am H1 V tp td tx wn H2)) :
    r = r2 ∧ ∃ (dv2 : Nat → Nat) (d2 : Nat) (tp2 : Nat → Nat) (t2 : Nat), RX G b0 oX ax H V dv2 d2 wr wf H1 ∧ RM G b0 oM am H1 V tp2 t2 tx wn H2 ∧ TR dv2 d2 wr wf tp2 t2 tx wn := by
  obtain ⟨⟨rfl, t1, t2, t3, t4⟩, t5⟩ := hT
  obtain ⟨q1, q2⟩ := dgs_cong u 8 dc dv tp t4
  rcases h1 with ⟨rfl, a1, a2, dv2, a3, a4, a5⟩ | ⟨rfl, a1, dv2, a3, a4, a5⟩ <;> rcases h2 with ⟨rfl, c1, c2, tp2, c3, c4, c5⟩ | ⟨rfl, c1, c5⟩
  · exact ⟨rfl, dv2, _, tp2, _, a5, c5, ⟨q1, a2, a3, c3, fun j hj => by rw [a4 j hj, q2 j hj, c4 j (by rw [← q1]; exact hj)]⟩, t5⟩
  · exact absurd ⟨a1, by rw [← q1]; exact a2⟩ c1
  · exact absurd ⟨c1, by rw [q1]; exact c2⟩ a1
  · exact ⟨rfl, dv2, _, tp, _, a5, c5, ⟨rfl, t1, a3, t3, fun j hj => by rw [a4 j hj, t4 j hj]⟩, t5⟩
theorem L_compare {x y : Int32} {f : Nat → Int} (h1 : (∃ i j, i ≤ 63 ∧ j ≤ 63 ∧ x = nI i ∧ y = nI j ∧ cmpP r (f i) (f j)) ∨ ((noslot x ∨ noslot y) ∧ r = -2)) (h2 : (∃ i j, i ≤ 63 ∧ j ≤ 63 ∧ x = nI i ∧ y = nI j ∧ cmpP r2 (f i) (f j)) ∨ ((noslot x ∨ noslot y) ∧ r2 = -2)) : r = r2 := by
  rcases h1 with ⟨i, j, a1, a2, a3, a4, a5⟩ | ⟨a1, rfl⟩ <;> rcases h2 with ⟨i', j', c1, c2, c3, c4, c5⟩ | ⟨c1, rfl⟩
  · obtain rfl := slot_uq a1 c1 a3 c3
    obtain rfl := slot_uq a2 c2 a4 c4
    rcases a5 with ⟨e, rfl⟩ | ⟨e, rfl⟩ | ⟨e, rfl⟩ <;> rcases c5 with ⟨g, rfl⟩ | ⟨g, rfl⟩ | ⟨g, rfl⟩ <;> first | rfl | omega
  · exact (c1.elim (slot_no a1 a3) (slot_no a2 a4)).elim
  · exact (a1.elim (slot_no c1 c3) (slot_no c2 c4)).elim
  · rfl
theorem L_bits {x : Int32} {f : Nat → Nat} (h1 : (∃ i b, i ≤ 63 ∧ x = nI i ∧ r = nI b ∧ isBL b (f i)) ∨ (noslot x ∧ r = -1)) (h2 : (∃ i b, i ≤ 63 ∧ x = nI i ∧ r2 = nI b ∧ isBL b (f i)) ∨ (noslot x ∧ r2 = -1)) : r = r2 := by
  rcases h1 with ⟨i, k, a1, a2, rfl, a4⟩ | ⟨a1, rfl⟩ <;> rcases h2 with ⟨i', k', c1, c2, rfl, c4⟩ | ⟨c1, rfl⟩
  · obtain rfl := slot_uq a1 c1 a2 c2
    rw [bl_uq a4 c4]
  · exact (slot_no a1 a2 c1).elim
  · exact (slot_no c1 c2 a1).elim
  · rfl
theorem L_fits {x y : Int32} {F : Nat → Nat → Prop} (h1 : (∃ i w, i ≤ 63 ∧ 1 ≤ w ∧ w ≤ 64 ∧ x = nI i ∧ y = nI w ∧ ((r = nI 1 ∧ F i w) ∨ (r = nI 0 ∧ ¬ F i w))) ∨ ((noslot x ∨ (∀ w, 1 ≤ w → w ≤ 64 → w < 2 ^ 31 → y ≠ nI w)) ∧ r = nI 0)) (h2 : (∃ i w, i ≤ 63 ∧ 1 ≤ w ∧ w ≤ 64 ∧ x = nI i ∧ y = nI w ∧ ((r2 = nI 1 ∧ F i w) ∨ (r2 = nI 0 ∧ ¬ F i w))) ∨ ((noslot x ∨ (∀ w, 1 ≤ w → w ≤ 64 → w < 2 ^ 31 → y ≠ nI w)) ∧ r2 = nI 0)) : r = r2 := by
  rcases h1 with ⟨i, w, a1, a2, a3, a4, a5, a6⟩ | ⟨a1, rfl⟩ <;> rcases h2 with ⟨i', w', c1, c2, c3, c4, c5, c6⟩ | ⟨c1, rfl⟩
  · obtain rfl := slot_uq a1 c1 a4 c4
    obtain rfl := small_uq (show w ≤ 1000 by omega) (show w' ≤ 1000 by omega) a5 c5
    rcases a6 with ⟨rfl, e⟩ | ⟨rfl, e⟩ <;> rcases c6 with ⟨rfl, g⟩ | ⟨rfl, g⟩ <;> first | rfl | exact absurd e g | exact absurd g e
  · exact (c1.elim (slot_no a1 a4) (fun h => h w a2 a3 (by omega) a5)).elim
  · exact (a1.elim (slot_no c1 c4) (fun h => h w' c2 c3 (by omega) c5)).elim
  · rfl
theorem L_cut {x y : Int32} {q q2 : Int64} {F : Nat → Nat → Int64} (h1 : (∃ i w, i ≤ 63 ∧ 1 ≤ w ∧ w ≤ 64 ∧ x = nI i ∧ y = nI w ∧ q = F i w) ∨ ((noslot x ∨ (∀ w, 1 ≤ w → w ≤ 64 → w < 2 ^ 31 → y ≠ nI w)) ∧ q = lN 0)) (h2 : (∃ i w, i ≤ 63 ∧ 1 ≤ w ∧ w ≤ 64 ∧ x = nI i ∧ y = nI w ∧ q2 = F i w) ∨ ((noslot x ∨ (∀ w, 1 ≤ w → w ≤ 64 → w < 2 ^ 31 → y ≠ nI w)) ∧ q2 = lN 0)) : q = q2 := by
  rcases h1 with ⟨i, w, a1, a2, a3, a4, a5, rfl⟩ | ⟨a1, rfl⟩ <;> rcases h2 with ⟨i', w', c1, c2, c3, c4, c5, rfl⟩ | ⟨c1, rfl⟩
  · obtain rfl := slot_uq a1 c1 a4 c4
    obtain rfl := small_uq (show w ≤ 1000 by omega) (show w' ≤ 1000 by omega) a5 c5
    rfl
  · exact (c1.elim (slot_no a1 a4) (fun h => h w a2 a3 (by omega) a5)).elim
  · exact (a1.elim (slot_no c1 c4) (fun h => h w' c2 c3 (by omega) c5)).elim
  · rfl
theorem L_write {x y : Int32} (hT : TR dv dc wr wf tp td tx wn) (h1 : (∃ i b n len, i ≤ 63 ∧ 2 ≤ b ∧ b ≤ 36 ∧ x = nI i ∧ y = nI b ∧ isND n b (V i).natAbs ∧ len = n + (if V i < 0 then 1 else 0) ∧ len ≤ 513 ∧ r = nI len ∧ ∃ wr2 : Nat → Nat, (∀ e, e < len → wr2 (512 - e) = tch b (V i) n e) ∧ RX G b0 oX ax H V dv dc wr2 (513 - len) H1) ∨ ((noslot x ∨ (∀ b, 2 ≤ b → b ≤ 36 → b < 2 ^ 31 → y ≠ nI b)) ∧ r = -3 ∧ RX G b0 oX ax H V dv dc wr wf H1))
    (h2 : (∃ i b n len, i ≤ 63 ∧ 2 ≤ b ∧ b ≤ 36 ∧ x = nI i ∧ y = nI b ∧ isND n b (V i).natAbs ∧ len = n + (if V i < 0 then 1 else 0) ∧ len ≤ 513 ∧ r2 = nI len ∧ ∃ tx2 : Nat → Nat, (∀ e, e < len → tx2 e = tch b (V i) n e) ∧ RM G b0 oM am H1 V tp td tx2 len H2) ∨ ((noslot x ∨ (∀ b, 2 ≤ b → b ≤ 36 → b < 2 ^ 31 → y ≠ nI b)) ∧ r2 = -3 ∧ RM G b0 oM am H1 V tp td tx wn H2)) :
    r = r2 ∧ ∃ (wr2 : Nat → Nat) (wf2 : Nat) (tx2 : Nat → Nat) (wn2 : Nat), RX G b0 oX ax H V dv dc wr2 wf2 H1 ∧ RM G b0 oM am H1 V tp td tx2 wn2 H2 ∧ TR dv dc wr2 wf2 tp td tx2 wn2 := by
  rcases h1 with ⟨i, k, n, len, a1, a2, a3, a4, a5, a6, a7, a8, rfl, wr2, a9, a10⟩ | ⟨a1, rfl, a3⟩ <;> rcases h2 with ⟨i', k', n', len', c1, c2, c3, c4, c5, c6, c7, c8, rfl, tx2, c9, c10⟩ | ⟨c1, rfl, c3⟩
  · obtain rfl := slot_uq a1 c1 a4 c4
    obtain rfl := small_uq (show k ≤ 1000 by omega) (show k' ≤ 1000 by omega) a5 c5
    obtain rfl := nd_uq a2 a6 c6
    obtain rfl : len = len' := a7.trans c7.symm
    exact ⟨rfl, wr2, _, tx2, _, a10, c10, hT.1, a8, rfl, fun e he => (a9 e he).trans (c9 e he).symm⟩
  · exact (c1.elim (slot_no a1 a4) (fun h => h k a2 a3 (by omega) a5)).elim
  · exact (a1.elim (slot_no c1 c4) (fun h => h k' c2 c3 (by omega) c5)).elim
  · exact ⟨rfl, wr, _, tx, _, a3, c3, hT⟩
theorem L_byteOf {x : Int32} (hT : TR dv dc wr wf tp td tx wn) (h1 : (∃ j, j < 513 - wf ∧ x = nI j ∧ r = nI (wr (wf + j))) ∨ ((∀ j, j < 513 - wf → x ≠ nI j) ∧ r = -1)) (h2 : (∃ j, j < wn ∧ x = nI j ∧ r2 = nI (tx (wn - 1 - j))) ∨ ((∀ j, j < wn → x ≠ nI j) ∧ r2 = -1)) : r = r2 := by
  obtain ⟨-, t1, rfl, t3⟩ := hT
  rcases h1 with ⟨j, a1, a2, rfl⟩ | ⟨a1, rfl⟩ <;> rcases h2 with ⟨j', c1, c2, rfl⟩ | ⟨c1, rfl⟩
  · obtain rfl := small_uq (show j ≤ 1000 by omega) (show j' ≤ 1000 by omega) a2 c2
    rw [← t3 (wn - 1 - j) (by omega), show 512 - (wn - 1 - j) = 513 - wn + j by omega]
  · exact absurd a2 (c1 j (by omega))
  · exact absurd c2 (a1 j' (by omega))
  · rfl
end LW
/-! ROWS of the law itself -/
section RL
variable {p : Program} {l : Launch} {e : Env} {R : Room} {s : State} {m : MethodId} {args : Array Value} {below : List Frame} {meth : Method} {c : Code} {H : Heap} {locs : List Loc} {cells slots : Nat} {Q : State → Prop}
variable {cc : ByteArray} {pc : Nat} {ls : Array Slot} {rest : List Value}
theorem m_sld (hx : p.tables.exec = Jvm.exec) (hb : c.code = cc) {b L : Nat} {xs : Nat → Int32} (hX : va_X b L xs s H) {i : Nat} (hi : i < L) (hL : L ≤ 2560) (hdg : decode cc pc = .ok (.iaload, 1)) (kk : W p l e R s m args below meth c H locs cells slots Q (F0 m (pc + 1) ls (.int (xs i) :: rest))) : W p l e R s m args below meth c H locs cells slots Q (F0 m pc ls (.int (nI i) :: .ref b :: rest)) := by
  obtain ⟨scr, h1, h2, h3, h4, h5⟩ := hX
  have hc : (nI i).toNatClampNeg = i := nI_clamp (by omega)
  exact W.iald (v := .int (xs i)) hx hb h1 h2 h3 (by rw [h4]; exact nI_in hi (by omega)) (by rw [hc]; exact h5 i hi) rfl rfl hdg kk
theorem m_slen (hx : p.tables.exec = Jvm.exec) (hb : c.code = cc) {b L : Nat} {xs : Nat → Int32} (hX : va_X b L xs s H) (hdg : decode cc pc = .ok (.arraylength, 1)) (kk : W p l e R s m args below meth c H locs cells slots Q (F0 m (pc + 1) ls (.int (nI L) :: rest))) : W p l e R s m args below meth c H locs cells slots Q (F0 m pc ls (.ref b :: rest)) := by
  obtain ⟨scr, h1, h2, h3, h4, h5⟩ := hX
  exact W.alen (n := nI L) hx hb h1 h2 (by rw [h4] <;> rfl) rfl rfl hdg kk
end RL
theorem gt5 {i L : Nat} (hi : i ≤ 2560) (hL : L ≤ 2560) : nI L - nI 5 < nI i ↔ L < i + 5 := by
  rw [Int32.lt_iff_toInt_lt, pk_sub_toInt (by omega) (by omega), nI_toInt (by omega)]
  omega
theorem low4 (x : Int32) : ∃ k, k < 16 ∧ x &&& nI 15 = nI k := by
  refine ⟨x.toBitVec.toNat % 2 ^ 4, Nat.mod_lt _ (by decide), ?_⟩
  rw [show nI 15 = (15 : Int32) from rfl, pk_and x 4 (by decide)]
