/-! THE SAME, each side in its own values -/
section LW2
variable {G : gG} {s : State} {b b0 L oX oM : Nat} {xs : Nat → Int32} {ax am : Nat → Nat} {V VX VM : Nat → Int} {dv dv' : Nat → Nat} {dc dc' : Nat} {wr wr' : Nat → Nat} {wf wf' : Nat} {tp tp' : Nat → Nat} {td td' : Nat} {tx tx' : Nat → Nat} {wn wn' : Nat} {H H1 H2 : Heap} {r r2 : Int32}
theorem M_set {x : Int32} {v : Int} (hVX : ∀ i, i < 64 → VX i = V i) (hVM : ∀ i, i < 64 → VM i = V i) (h1 : (∃ k, k ≤ 63 ∧ x = nI k ∧ KX G b0 oX ax H VX dv dc wr wf k v r H1) ∨ (noslot x ∧ r = nI 3 ∧ RX G b0 oX ax H VX dv dc wr wf H1)) (h2 : (∃ k, k ≤ 63 ∧ x = nI k ∧ KM G b0 oM am H1 VM tp td tx wn k v r2 H2) ∨ (noslot x ∧ r2 = nI 3 ∧ RM G b0 oM am H1 VM tp td tx wn H2)) : R2 G b0 oX ax oM am dv dc wr wf tp td tx wn H H1 H2 r r2 := by
  refine L_set (V := V) (x := x) (v := v) ?_ ?_
  · rcases h1 with ⟨k, a1, a2, a3⟩ | ⟨a1, a2, a3⟩
    · exact Or.inl ⟨k, a1, a2, a3.val rfl hVX⟩
    · exact Or.inr ⟨a1, a2, a3.val hVX⟩
  · rcases h2 with ⟨k, a1, a2, a3⟩ | ⟨a1, a2, a3⟩
    · exact Or.inl ⟨k, a1, a2, a3.val2 rfl hVM⟩
    · exact Or.inr ⟨a1, a2, a3.val hVM⟩
theorem M_turn {x y : Int32} {f fm : Nat → Int} (hVX : ∀ i, i < 64 → VX i = V i) (hVM : ∀ i, i < 64 → VM i = V i) (hf : ∀ i, i ≤ 63 → fm i = f i) (h1 : (∃ k i, k ≤ 63 ∧ i ≤ 63 ∧ x = nI k ∧ y = nI i ∧ KX G b0 oX ax H VX dv dc wr wf k (f i) r H1) ∨ ((noslot x ∨ noslot y) ∧ r = nI 3 ∧ RX G b0 oX ax H VX dv dc wr wf H1)) (h2 : (∃ k i, k ≤ 63 ∧ i ≤ 63 ∧ x = nI k ∧ y = nI i ∧ KM G b0 oM am H1 VM tp td tx wn k (fm i) r2 H2) ∨ ((noslot x ∨ noslot y) ∧ r2 = nI 3 ∧ RM G b0 oM am H1 VM tp td tx wn H2)) : R2 G b0 oX ax oM am dv dc wr wf tp td tx wn H H1 H2 r r2 := by
  refine L_turn (V := V) (x := x) (y := y) (f := f) ?_ ?_
  · rcases h1 with ⟨k, i, a1, a2, a3, a4, a5⟩ | ⟨a1, a2, a3⟩
    · exact Or.inl ⟨k, i, a1, a2, a3, a4, a5.val rfl hVX⟩
    · exact Or.inr ⟨a1, a2, a3.val hVX⟩
  · rcases h2 with ⟨k, i, a1, a2, a3, a4, a5⟩ | ⟨a1, a2, a3⟩
    · exact Or.inl ⟨k, i, a1, a2, a3, a4, a5.val2 (hf i a2) hVM⟩
    · exact Or.inr ⟨a1, a2, a3.val hVM⟩
theorem M_shift {x y z : Int32} {f fm : Nat → Nat → Int} (hVX : ∀ i, i < 64 → VX i = V i) (hVM : ∀ i, i < 64 → VM i = V i) (hf : ∀ i n, i ≤ 63 → fm i n = f i n) (h1 : (∃ k i n, k ≤ 63 ∧ i ≤ 63 ∧ n ≤ 1000 ∧ x = nI k ∧ y = nI i ∧ z = nI n ∧ KX G b0 oX ax H VX dv dc wr wf k (f i n) r H1) ∨ ((noslot x ∨ noslot y ∨ (∀ n, n ≤ 1000 → z ≠ nI n)) ∧ r = nI 3 ∧ RX G b0 oX ax H VX dv dc wr wf H1)) (h2 : (∃ k i n, k ≤ 63 ∧ i ≤ 63 ∧ n ≤ 1000 ∧ x = nI k ∧ y = nI i ∧ z = nI n ∧ KM G b0 oM am H1 VM tp td tx wn k (fm i n) r2 H2) ∨ ((noslot x ∨ noslot y ∨ (∀ n, n ≤ 1000 → z ≠ nI n)) ∧ r2 = nI 3 ∧ RM G b0 oM am H1 VM tp td tx wn H2)) : R2 G b0 oX ax oM am dv dc wr wf tp td tx wn H H1 H2 r r2 := by
  refine L_shift (V := V) (x := x) (y := y) (z := z) (f := f) ?_ ?_
  · rcases h1 with ⟨k, i, n, a1, a2, a0, a3, a4, a6, a5⟩ | ⟨a1, a2, a3⟩
    · exact Or.inl ⟨k, i, n, a1, a2, a0, a3, a4, a6, a5.val rfl hVX⟩
    · exact Or.inr ⟨a1, a2, a3.val hVX⟩
  · rcases h2 with ⟨k, i, n, a1, a2, a0, a3, a4, a6, a5⟩ | ⟨a1, a2, a3⟩
    · exact Or.inl ⟨k, i, n, a1, a2, a0, a3, a4, a6, a5.val2 (hf i n a2) hVM⟩
    · exact Or.inr ⟨a1, a2, a3.val hVM⟩
theorem M_work {z s0 x y : Int32} (hVX : ∀ i, i < 64 → VX i = V i) (hVM : ∀ i, i < 64 → VM i = V i) (h1 : (∃ n k i j, n ≤ 8 ∧ k ≤ 63 ∧ i ≤ 63 ∧ j ≤ 63 ∧ z = nI n ∧ s0 = nI k ∧ x = nI i ∧ y = nI j ∧ ((((n = 3 ∨ n = 4) ∧ VX j = 0) ∧ r = nI 2 ∧ RX G b0 oX ax H VX dv dc wr wf H1) ∨ (¬ ((n = 3 ∨ n = 4) ∧ VX j = 0) ∧ KX G b0 oX ax H VX dv dc wr wf k (wv n (VX i) (VX j)) r H1))) ∨ ((noslot s0 ∨ noslot x ∨ noslot y ∨ noop z) ∧ r = nI 3 ∧ RX G b0 oX ax H VX dv dc wr wf H1))
    (h2 : (∃ n k i j, n ≤ 8 ∧ k ≤ 63 ∧ i ≤ 63 ∧ j ≤ 63 ∧ z = nI n ∧ s0 = nI k ∧ x = nI i ∧ y = nI j ∧ ((((n = 3 ∨ n = 4) ∧ VM j = 0) ∧ r2 = nI 2 ∧ RM G b0 oM am H1 VM tp td tx wn H2) ∨ (¬ ((n = 3 ∨ n = 4) ∧ VM j = 0) ∧ KM G b0 oM am H1 VM tp td tx wn k (wv n (VM i) (VM j)) r2 H2))) ∨ ((noslot s0 ∨ noslot x ∨ noslot y ∨ noop z) ∧ r2 = nI 3 ∧ RM G b0 oM am H1 VM tp td tx wn H2)) : R2 G b0 oX ax oM am dv dc wr wf tp td tx wn H H1 H2 r r2 := by
  refine L_work (V := V) (z := z) (s0 := s0) (x := x) (y := y) (f := fun n i j => wv n (V i) (V j)) ?_ ?_
  · rcases h1 with ⟨n, k, i, j, a0, a1, a2, a3, a4, a5, a6, a7, a8⟩ | ⟨a1, a2, a3⟩
    · refine Or.inl ⟨n, k, i, j, a0, a1, a2, a3, a4, a5, a6, a7, ?_⟩
      have e1 := hVX i (by omega)
      have e2 := hVX j (by omega)
      rw [e2] at a8
      rw [e1] at a8
      rcases a8 with ⟨c1, c2, c3⟩ | ⟨c1, c2⟩
      · exact Or.inl ⟨c1, c2, c3.val hVX⟩
      · exact Or.inr ⟨c1, c2.val rfl hVX⟩
    · exact Or.inr ⟨a1, a2, a3.val hVX⟩
  · rcases h2 with ⟨n, k, i, j, a0, a1, a2, a3, a4, a5, a6, a7, a8⟩ | ⟨a1, a2, a3⟩
    · refine Or.inl ⟨n, k, i, j, a0, a1, a2, a3, a4, a5, a6, a7, ?_⟩
      have e1 := hVM i (by omega)
      have e2 := hVM j (by omega)
      rw [e2] at a8
      rw [e1] at a8
      rcases a8 with ⟨c1, c2, c3⟩ | ⟨c1, c2⟩
      · exact Or.inl ⟨c1, c2, c3.val hVM⟩
      · exact Or.inr ⟨c1, c2.val2 rfl hVM⟩
    · exact Or.inr ⟨a1, a2, a3.val hVM⟩
theorem M_read {x y : Int32} (hT : TR dv dc wr wf tp td tx wn) (hVX : ∀ i, i < 64 → VX i = V i) (hVM : ∀ i, i < 64 → VM i = V i) (h1 : (∃ k b, k ≤ 63 ∧ 2 ≤ b ∧ b ≤ 36 ∧ x = nI k ∧ y = nI b ∧ dc ≠ 0 ∧ (∀ j, j < dc → dv j < b) ∧ KX G b0 oX ax H VX dv 0 wr wf k (rdv b dv dc) r H1) ∨ ((noslot x ∨ (∀ b, 2 ≤ b → b ≤ 36 → b < 2 ^ 31 → y ≠ nI b) ∨ dc = 0 ∨ (∃ k b, x = nI k ∧ 2 ≤ b ∧ b ≤ 36 ∧ y = nI b ∧ ∃ j, j < dc ∧ b ≤ dv j)) ∧ r = nI 3 ∧ RX G b0 oX ax H VX dv 0 wr wf H1))
    (h2 : (∃ k b, k ≤ 63 ∧ 2 ≤ b ∧ b ≤ 36 ∧ x = nI k ∧ y = nI b ∧ td ≠ 0 ∧ (∀ j, j < td → tp j < b) ∧ KM G b0 oM am H1 VM tp 0 tx wn k (rdv b tp td) r2 H2) ∨ ((noslot x ∨ (∀ b, 2 ≤ b → b ≤ 36 → b < 2 ^ 31 → y ≠ nI b) ∨ td = 0 ∨ (∃ k b, x = nI k ∧ 2 ≤ b ∧ b ≤ 36 ∧ y = nI b ∧ ∃ j, j < td ∧ b ≤ tp j)) ∧ r2 = nI 3 ∧ RM G b0 oM am H1 VM tp 0 tx wn H2)) : R2 G b0 oX ax oM am dv 0 wr wf tp 0 tx wn H H1 H2 r r2 ∧ TR dv 0 wr wf tp 0 tx wn := by
  refine L_read (V := V) (x := x) (y := y) hT ?_ ?_
  · rcases h1 with ⟨k, b, a1, a2, a3, a4, a5, a6, a7, a8⟩ | ⟨a1, a2, a3⟩
    · exact Or.inl ⟨k, b, a1, a2, a3, a4, a5, a6, a7, a8.val rfl hVX⟩
    · exact Or.inr ⟨a1, a2, a3.val hVX⟩
  · rcases h2 with ⟨k, b, a1, a2, a3, a4, a5, a6, a7, a8⟩ | ⟨a1, a2, a3⟩
    · exact Or.inl ⟨k, b, a1, a2, a3, a4, a5, a6, a7, a8.val2 rfl hVM⟩
    · exact Or.inr ⟨a1, a2, a3.val hVM⟩
theorem M_digits {u : Nat} (hT : TR dv dc wr wf tp td tx wn) (hVX : ∀ i, i < 64 → VX i = V i) (hVM : ∀ i, i < 64 → VM i = V i) (h1 : (r = nI 1 ∧ okb u 8 ∧ (dgs u 8 dc dv).1 ≤ 1000 ∧ ∃ dv2 : Nat → Nat, (∀ j, j < 1008 → dv2 j ≤ 35) ∧ (∀ j, j < (dgs u 8 dc dv).1 → dv2 j = (dgs u 8 dc dv).2 j) ∧ RX G b0 oX ax H VX dv2 (dgs u 8 dc dv).1 wr wf H1) ∨ (r = nI 0 ∧ ¬ (okb u 8 ∧ (dgs u 8 dc dv).1 ≤ 1000) ∧ ∃ dv2 : Nat → Nat, (∀ j, j < 1008 → dv2 j ≤ 35) ∧ (∀ j, j < dc → dv2 j = dv j) ∧ RX G b0 oX ax H VX dv2 dc wr wf H1))
    (h2 : (r2 = nI 1 ∧ okb u 8 ∧ (dgs u 8 td tp).1 ≤ 1000 ∧ ∃ tp2 : Nat → Nat, (∀ j, j < 1000 → tp2 j ≤ 35) ∧ (∀ j, j < (dgs u 8 td tp).1 → tp2 j = (dgs u 8 td tp).2 j) ∧ RM G b0 oM am H1 VM tp2 (dgs u 8 td tp).1 tx wn H2) ∨ (r2 = nI 0 ∧ ¬ (okb u 8 ∧ (dgs u 8 td tp).1 ≤ 1000) ∧ RM G b0 oM am H1 VM tp td tx wn H2)) :
    r = r2 ∧ ∃ (dv2 : Nat → Nat) (d2 : Nat) (tp2 : Nat → Nat) (t2 : Nat), RX G b0 oX ax H V dv2 d2 wr wf H1 ∧ RM G b0 oM am H1 V tp2 t2 tx wn H2 ∧ TR dv2 d2 wr wf tp2 t2 tx wn := by
  refine L_digits (V := V) (u := u) hT ?_ ?_
  · rcases h1 with ⟨a0, a1, a2, dv2, a3, a4, a5⟩ | ⟨a0, a1, dv2, a3, a4, a5⟩
    · exact Or.inl ⟨a0, a1, a2, dv2, a3, a4, a5.val hVX⟩
    · exact Or.inr ⟨a0, a1, dv2, a3, a4, a5.val hVX⟩
  · rcases h2 with ⟨a0, a1, a2, dv2, a3, a4, a5⟩ | ⟨a0, a1, a5⟩
    · exact Or.inl ⟨a0, a1, a2, dv2, a3, a4, a5.val hVM⟩
    · exact Or.inr ⟨a0, a1, a5.val hVM⟩
theorem M_compare {x y : Int32} (hVX : ∀ i, i < 64 → VX i = V i) (hVM : ∀ i, i < 64 → VM i = V i) (h1 : (∃ i j, i ≤ 63 ∧ j ≤ 63 ∧ x = nI i ∧ y = nI j ∧ cmpP r (VX i) (VX j)) ∨ ((noslot x ∨ noslot y) ∧ r = -2)) (h2 : (∃ i j, i ≤ 63 ∧ j ≤ 63 ∧ x = nI i ∧ y = nI j ∧ cmpP r2 (VM i) (VM j)) ∨ ((noslot x ∨ noslot y) ∧ r2 = -2)) : r = r2 := by
  refine L_compare (x := x) (y := y) (f := V) ?_ ?_
  · rcases h1 with ⟨i, j, a1, a2, a3, a4, a5⟩ | h
    · exact Or.inl ⟨i, j, a1, a2, a3, a4, by rw [← hVX i (by omega), ← hVX j (by omega)]; exact a5⟩
    · exact Or.inr h
  · rcases h2 with ⟨i, j, a1, a2, a3, a4, a5⟩ | h
    · exact Or.inl ⟨i, j, a1, a2, a3, a4, by rw [← hVM i (by omega), ← hVM j (by omega)]; exact a5⟩
    · exact Or.inr h
theorem M_bits {x : Int32} (hVX : ∀ i, i < 64 → VX i = V i) (hVM : ∀ i, i < 64 → VM i = V i) (h1 : (∃ i b, i ≤ 63 ∧ x = nI i ∧ r = nI b ∧ isBL b (VX i).natAbs) ∨ (noslot x ∧ r = -1)) (h2 : (∃ i b, i ≤ 63 ∧ x = nI i ∧ r2 = nI b ∧ isBL b (VM i).natAbs) ∨ (noslot x ∧ r2 = -1)) : r = r2 := by
  refine L_bits (x := x) (f := fun i => (V i).natAbs) ?_ ?_
  · rcases h1 with ⟨i, k, a1, a2, a3, a4⟩ | h
    · exact Or.inl ⟨i, k, a1, a2, a3, by rw [← hVX i (by omega)]; exact a4⟩
    · exact Or.inr h
  · rcases h2 with ⟨i, k, a1, a2, a3, a4⟩ | h
    · exact Or.inl ⟨i, k, a1, a2, a3, by rw [← hVM i (by omega)]; exact a4⟩
    · exact Or.inr h
theorem M_fits {x y : Int32} {g : Nat} (hVX : ∀ i, i < 64 → VX i = V i) (hVM : ∀ i, i < 64 → VM i = V i) (h1 : (∃ i w, i ≤ 63 ∧ 1 ≤ w ∧ w ≤ 64 ∧ x = nI i ∧ y = nI w ∧ ((r = nI 1 ∧ fitsI (VX i) w g) ∨ (r = nI 0 ∧ ¬ fitsI (VX i) w g))) ∨ ((noslot x ∨ (∀ w, 1 ≤ w → w ≤ 64 → w < 2 ^ 31 → y ≠ nI w)) ∧ r = nI 0)) (h2 : (∃ i w, i ≤ 63 ∧ 1 ≤ w ∧ w ≤ 64 ∧ x = nI i ∧ y = nI w ∧ ((r2 = nI 1 ∧ fitsI (VM i) w g) ∨ (r2 = nI 0 ∧ ¬ fitsI (VM i) w g))) ∨ ((noslot x ∨ (∀ w, 1 ≤ w → w ≤ 64 → w < 2 ^ 31 → y ≠ nI w)) ∧ r2 = nI 0)) : r = r2 := by
  refine L_fits (x := x) (y := y) (F := fun i w => fitsI (V i) w g) ?_ ?_
  · rcases h1 with ⟨i, w, a1, a2, a3, a4, a5, a6⟩ | h
    · exact Or.inl ⟨i, w, a1, a2, a3, a4, a5, by rw [← hVX i (by omega)]; exact a6⟩
    · exact Or.inr h
  · rcases h2 with ⟨i, w, a1, a2, a3, a4, a5, a6⟩ | h
    · exact Or.inl ⟨i, w, a1, a2, a3, a4, a5, by rw [← hVM i (by omega)]; exact a6⟩
    · exact Or.inr h
theorem M_cut {x y : Int32} {g : Nat} {q q2 : Int64} (hVX : ∀ i, i < 64 → VX i = V i) (hVM : ∀ i, i < 64 → VM i = V i) (h1 : (∃ i w, i ≤ 63 ∧ 1 ≤ w ∧ w ≤ 64 ∧ x = nI i ∧ y = nI w ∧ q = lN (cutN (tcN 64 (VX i)) w g)) ∨ ((noslot x ∨ (∀ w, 1 ≤ w → w ≤ 64 → w < 2 ^ 31 → y ≠ nI w)) ∧ q = lN 0)) (h2 : (∃ i w, i ≤ 63 ∧ 1 ≤ w ∧ w ≤ 64 ∧ x = nI i ∧ y = nI w ∧ q2 = lN (cutN (tcN 64 (VM i)) w g)) ∨ ((noslot x ∨ (∀ w, 1 ≤ w → w ≤ 64 → w < 2 ^ 31 → y ≠ nI w)) ∧ q2 = lN 0)) : q = q2 := by
  refine L_cut (x := x) (y := y) (F := fun i w => lN (cutN (tcN 64 (V i)) w g)) ?_ ?_
  · rcases h1 with ⟨i, w, a1, a2, a3, a4, a5, a6⟩ | h
    · exact Or.inl ⟨i, w, a1, a2, a3, a4, a5, by rw [← hVX i (by omega)]; exact a6⟩
    · exact Or.inr h
  · rcases h2 with ⟨i, w, a1, a2, a3, a4, a5, a6⟩ | h
    · exact Or.inl ⟨i, w, a1, a2, a3, a4, a5, by rw [← hVM i (by omega)]; exact a6⟩
    · exact Or.inr h
theorem M_write {x y : Int32} (hT : TR dv dc wr wf tp td tx wn) (hVX : ∀ i, i < 64 → VX i = V i) (hVM : ∀ i, i < 64 → VM i = V i) (h1 : (∃ i b n len, i ≤ 63 ∧ 2 ≤ b ∧ b ≤ 36 ∧ x = nI i ∧ y = nI b ∧ isND n b (VX i).natAbs ∧ len = n + (if VX i < 0 then 1 else 0) ∧ len ≤ 513 ∧ r = nI len ∧ ∃ wr2 : Nat → Nat, (∀ e, e < len → wr2 (512 - e) = tch b (VX i) n e) ∧ RX G b0 oX ax H VX dv dc wr2 (513 - len) H1) ∨ ((noslot x ∨ (∀ b, 2 ≤ b → b ≤ 36 → b < 2 ^ 31 → y ≠ nI b)) ∧ r = -3 ∧ RX G b0 oX ax H VX dv dc wr wf H1))
    (h2 : (∃ i b n len, i ≤ 63 ∧ 2 ≤ b ∧ b ≤ 36 ∧ x = nI i ∧ y = nI b ∧ isND n b (VM i).natAbs ∧ len = n + (if VM i < 0 then 1 else 0) ∧ len ≤ 513 ∧ r2 = nI len ∧ ∃ tx2 : Nat → Nat, (∀ e, e < len → tx2 e = tch b (VM i) n e) ∧ RM G b0 oM am H1 VM tp td tx2 len H2) ∨ ((noslot x ∨ (∀ b, 2 ≤ b → b ≤ 36 → b < 2 ^ 31 → y ≠ nI b)) ∧ r2 = -3 ∧ RM G b0 oM am H1 VM tp td tx wn H2)) :
    r = r2 ∧ ∃ (wr2 : Nat → Nat) (wf2 : Nat) (tx2 : Nat → Nat) (wn2 : Nat), RX G b0 oX ax H V dv dc wr2 wf2 H1 ∧ RM G b0 oM am H1 V tp td tx2 wn2 H2 ∧ TR dv dc wr2 wf2 tp td tx2 wn2 := by
  refine L_write (V := V) (x := x) (y := y) hT ?_ ?_
  · rcases h1 with ⟨i, k, n, len, a1, a2, a3, a4, a5, a6, a7, a8, a0, wr2, a9, a10⟩ | ⟨a1, a2, a3⟩
    · have e1 := hVX i (by omega)
      rw [e1] at a6 a7
      exact Or.inl ⟨i, k, n, len, a1, a2, a3, a4, a5, a6, a7, a8, a0, wr2, by rw [← e1]; exact a9, a10.val hVX⟩
    · exact Or.inr ⟨a1, a2, a3.val hVX⟩
  · rcases h2 with ⟨i, k, n, len, a1, a2, a3, a4, a5, a6, a7, a8, a0, wr2, a9, a10⟩ | ⟨a1, a2, a3⟩
    · have e1 := hVM i (by omega)
      rw [e1] at a6 a7
      exact Or.inl ⟨i, k, n, len, a1, a2, a3, a4, a5, a6, a7, a8, a0, wr2, by rw [← e1]; exact a9, a10.val hVM⟩
    · exact Or.inr ⟨a1, a2, a3.val hVM⟩
theorem adX_lt {h i : Nat} (hi : i < 71) : adX h i < h + 71 := by
  rw [adX_eq]
  (repeat' split) <;> omega
theorem IV0 : IV (fun _ _ => 0) (fun _ => 0) := fun i _ => ⟨fun _ _ => (by decide : (0 : Nat) < 4294967296), (by decide : (0 : Nat) ≤ 1), fun h => absurd h (by decide : ¬ (0 : Nat) = 1)⟩
theorem vX0 (i : Nat) : valX (fun _ _ => 0) (fun _ => 0) i = 0 := by
  unfold valX
  rw [sg_0, vl_zero_iff.mpr (fun _ _ => rfl)]
  rfl
theorem IM0 {lm : Nat → Nat} (h1 : dlm lm 330) (h2 : dl lm 330 = 2 ^ 512) : IM (fun _ => 0) (fun _ => 0) lm := by
  refine ⟨fun i _ => ?_, h1, h2⟩
  have h0 : dl (shf (fun _ => 0) (160 * i)) 160 = 0 := dl_zero_iff.mpr (fun _ _ => rfl)
  rw [h0]
  exact ⟨fun _ _ => (by decide : (0 : Nat) < 10), (by decide : (0 : Nat) ≤ 1), fun h => absurd h (by decide : ¬ (0 : Nat) = 1), Nat.pow_pos (by decide)⟩
theorem vM0 (i : Nat) : valM (fun _ => 0) (fun _ => 0) i = 0 := by
  unfold valM
  rw [sg_0, show dl (shf (fun _ => 0) (160 * i)) 160 = 0 from dl_zero_iff.mpr (fun _ _ => rfl)]
  rfl
theorem TR0 : TR (fun _ => 0) 0 (fun _ => 0) 513 (fun _ => 0) 0 (fun _ => 0) 0 := ⟨⟨rfl, by decide, fun _ _ => Nat.zero_le 35, fun _ _ => Nat.zero_le 35, fun j hj => absurd hj (by omega)⟩, by decide, rfl, fun j hj => absurd hj (by omega)⟩
end LW2
