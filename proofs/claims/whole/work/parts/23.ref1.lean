set_option maxRecDepth 100000 in
set_option maxHeartbeats 4000000 in
theorem c_M0_isSlot (l : Launch) (G : gG) (b0 : Nat) (H : Heap)  (x : Int32) : Met l yM0_isSlot wsM0_isSlot ({ frames := 0, cells := 0, slots := 0, locals := 0 } : Room) (PcH G H [.int x]) (QcI (fun r H1 => rng 0 63 x r ∧ H = H1)) 0 0 (fre b0) := by
  refine m_enter (cc := cM0_isSlot) (maxL := 1) (ret := (some .boolean)) (own := RM0) (by decide) rfl rfl (Nat.le_of_ble_eq_true rfl) ?_
  intro p e s m below meth c ls hF hnm hH hl
  have hl : lv_has ls 1 [(0, .int x)] := hl
  have hLc : lcs b0 [] := lcs_nil b0
  obtain ⟨hx, hb, hr, hml, hown, hts, hlocks, hK⟩ := id hF
  by_cases hz : x < 0
  · skip
    refine lv_iload_n hx hb dM0_isSlot_0 rfl (lv_at hl 0 rfl) ?_
    refine lv_if_lt (tgt := 14) hx hb dM0_isSlot_1 (by decide) (fun _ => ?_) (fun h => absurd (hz) h)
    refine lv_iconst (v := nI 0) hx hb dM0_isSlot_14 (by decide) ?_
    exact m_zret hx hb hr hlocks hLc (by decide) dM0_isSlot_15 (⟨rng_neg hz, rfl⟩)
  · obtain ⟨i, hi, rfl⟩ := nI_of hz
    refine lv_iload_n hx hb dM0_isSlot_0 rfl (lv_at hl 0 rfl) ?_
    refine lv_if_lt (tgt := 14) hx hb dM0_isSlot_1 (by decide) (fun h => absurd h (hz)) (fun _ => ?_)
    refine lv_iload_n hx hb dM0_isSlot_4 rfl (lv_at hl 0 rfl) ?_
    refine lv_bipush (v := nI 64) hx hb dM0_isSlot_5 (by decide) ?_
    refine m_icmp_ge (tgt := 14) hx hb (by omega) (by omega) dM0_isSlot_7 (by decide) (fun c7 => ?_) (fun c7 => ?_)
    · skip
      refine lv_iconst (v := nI 0) hx hb dM0_isSlot_14 (by decide) ?_
      exact m_zret hx hb hr hlocks hLc (by decide) dM0_isSlot_15 (⟨rng_out hi (by omega), rfl⟩)
    · skip
      refine lv_iconst (v := nI 1) hx hb dM0_isSlot_10 (by decide) ?_
      refine lv_goto (tgt := 15) hx hb dM0_isSlot_11 (by decide) ?_
      exact m_zret hx hb hr hlocks hLc (by decide) dM0_isSlot_15 (⟨rng_in (by omega) (by omega), rfl⟩)

set_option maxRecDepth 100000 in
set_option maxHeartbeats 4000000 in
theorem clear_2 {p : Program} {l : Launch} {e : Env} {s : State} {m : MethodId} {args : Array Value} {below : List Frame} {meth : Method} {c : Code} {G : gG} {b0 : Nat} {H : Heap} {a : Nat} {f : Nat → Nat} (hF : FxM p s m args meth c G cM0_clear 2 none RM0 wsM0_clear) (ht : H[a]? = some (aN G 330 f)) (hbt : b0 ≤ a) : ∀ (q : Nat) (i : Nat) (g : Nat → Nat), i + q = 330 → (∀ j, j < i → g j = 0) → ∀ (locs : List Loc) (ls : Array Slot), lcs b0 locs → lv_has ls 2 [(0, .ref a), (1, .int (nI i))] → W p l e ({ frames := 0, cells := 0, slots := 0, locals := 0 } : Room) s m args below meth c (hput H a (aN G 330 g)) locs 0 0 (MQ below (QcV (fun H1 => H1 = hput H a (aN G 330 (fun _ => 0)))) args s 0 0 (fre b0)) (F0 m 2 ls []) := by
  obtain ⟨hx, hb, hr, hml, hown, hts, hlocks, hK⟩ := id hF
  intro q
  induction q with
  | zero =>
    intro i g hi hg locs ls hLc hl
    refine lv_iload_n hx hb dM0_clear_2 rfl (lv_at hl 1 rfl) ?_
    refine lv_sipush (v := nI 330) hx hb dM0_clear_3 (by decide) ?_
    refine lv_icmp_ge (tgt := 19) hx hb dM0_clear_6 (by decide) (fun _ => ?_) (fun h => absurd (nI_le (by omega) (by omega)) h)
    exact m_vret hx hb hr hlocks hLc dM0_clear_19 (congrArg (hput H a) (aN_congr G (fun j hj => hg j (by omega))))
  | succ q ih =>
    intro i g hi hg locs ls hLc hl
    refine lv_iload_n hx hb dM0_clear_2 rfl (lv_at hl 1 rfl) ?_
    refine lv_sipush (v := nI 330) hx hb dM0_clear_3 (by decide) ?_
    refine lv_icmp_ge (tgt := 19) hx hb dM0_clear_6 (by decide) (fun h => absurd h (nI_ge (by omega) (by omega))) (fun _ => ?_)
    refine lv_aload_n hx hb dM0_clear_9 rfl (lv_at hl 0 rfl) ?_
    refine lv_iload_n hx hb dM0_clear_10 rfl (lv_at hl 1 rfl) ?_
    refine lv_iconst (v := nI 0) hx hb dM0_clear_11 (by decide) ?_
    refine m_nast (n := 330) (f := g) (b0 := b0) hx hb hK (hput_self _ (lt_of_at ht)) (by omega) (by decide) (hbt) hLc dM0_clear_12 (fun locs hLc => ?_)
    rw [hput_put]
    refine lv_iinc (v := nI (i + 1)) (lv' := [(1, .int (nI (i + 1))), (0, .ref a)]) hx hb dM0_clear_13 hl (k := 1) rfl (nI_add i 1) (by decide) rfl (fun ls hl => ?_)
    refine lv_goto (tgt := 2) hx hb dM0_clear_16 (by decide) ?_
    exact ih (i + 1) _ (by omega) (fup_eq hg rfl) _ _ hLc (lv_sub hl [1, 0] rfl)
set_option maxRecDepth 100000 in
set_option maxHeartbeats 4000000 in
theorem c_M0_clear (l : Launch) (G : gG) (b0 : Nat) (H : Heap) {a : Nat} {f : Nat → Nat} (ht : H[a]? = some (aN G 330 f)) (hbt : b0 ≤ a) : Met l yM0_clear wsM0_clear ({ frames := 0, cells := 0, slots := 0, locals := 0 } : Room) (PcH G H [.ref a]) (QcV (fun H1 => H1 = hput H a (aN G 330 (fun _ => 0)))) 0 0 (fre b0) := by
  refine m_enter (cc := cM0_clear) (maxL := 2) (ret := none) (own := RM0) (by decide) rfl rfl (Nat.le_of_ble_eq_true rfl) ?_
  intro p e s m below meth c ls hF hnm hH hl
  have hl : lv_has ls 2 [(0, .ref a)] := hl
  have hLc : lcs b0 [] := lcs_nil b0
  obtain ⟨hx, hb, hr, hml, hown, hts, hlocks, hK⟩ := id hF
  refine lv_iconst (v := nI 0) hx hb dM0_clear_0 (by decide) ?_
  refine lv_istore_n (lv' := [(1, .int (nI 0)), (0, .ref a)]) hx hb dM0_clear_1 rfl hl (by decide) rfl (fun ls hl => ?_)
  have hl := lv_sub (l' := [(0, .ref a), (1, .int (nI 0))]) hl [1, 0] rfl
  have hh := clear_2 (l := l) (e := e) (below := below) hF ht hbt 330 0 f (by omega) (fun j hj => absurd hj (by omega)) _ _ hLc hl
  rw [hput_same ht] at hh
  exact hh

set_option maxRecDepth 100000 in
set_option maxHeartbeats 4000000 in
theorem rcopy_2 {p : Program} {l : Launch} {e : Env} {s : State} {m : MethodId} {args : Array Value} {below : List Frame} {meth : Method} {c : Code} {G : gG} {b0 : Nat} {H : Heap} {a b : Nat} {f g0 : Nat → Nat} (hF : FxM p s m args meth c G cM0_copy 3 none RM0 wsM0_copy) (ha : H[a]? = some (aN G 330 f)) (ht : H[b]? = some (aN G 330 g0)) (hab : a ≠ b) (hbt : b0 ≤ b) : ∀ (q : Nat) (i : Nat) (g : Nat → Nat), i + q = 330 → (∀ j, j < i → g j = f j) → ∀ (locs : List Loc) (ls : Array Slot), lcs b0 locs → lv_has ls 3 [(0, .ref a), (1, .ref b), (2, .int (nI i))] → W p l e ({ frames := 0, cells := 0, slots := 0, locals := 0 } : Room) s m args below meth c (hput H b (aN G 330 g)) locs 0 0 (MQ below (QcV (fun H1 => H1 = hput H b (aN G 330 f))) args s 0 0 (fre b0)) (F0 m 2 ls []) := by
  obtain ⟨hx, hb, hr, hml, hown, hts, hlocks, hK⟩ := id hF
  intro q
  induction q with
  | zero =>
    intro i g hi hg locs ls hLc hl
    refine lv_iload_n hx hb dM0_copy_2 rfl (lv_at hl 2 rfl) ?_
    refine lv_sipush (v := nI 330) hx hb dM0_copy_3 (by decide) ?_
    refine lv_icmp_ge (tgt := 21) hx hb dM0_copy_6 (by decide) (fun _ => ?_) (fun h => absurd (nI_le (by omega) (by omega)) h)
    exact m_vret hx hb hr hlocks hLc dM0_copy_21 (congrArg (hput H b) (aN_congr G (fun j hj => hg j (by omega))))
  | succ q ih =>
    intro i g hi hg locs ls hLc hl
    refine lv_iload_n hx hb dM0_copy_2 rfl (lv_at hl 2 rfl) ?_
    refine lv_sipush (v := nI 330) hx hb dM0_copy_3 (by decide) ?_
    refine lv_icmp_ge (tgt := 21) hx hb dM0_copy_6 (by decide) (fun h => absurd h (nI_ge (by omega) (by omega))) (fun _ => ?_)
    refine lv_aload_n hx hb dM0_copy_9 rfl (lv_at hl 1 rfl) ?_
    refine lv_iload_n hx hb dM0_copy_10 rfl (lv_at hl 2 rfl) ?_
    refine lv_aload_n hx hb dM0_copy_11 rfl (lv_at hl 0 rfl) ?_
    refine lv_iload_n hx hb dM0_copy_12 rfl (lv_at hl 2 rfl) ?_
    refine m_nald (n := 330) (f := f) hx hb hK ((hput_ne _ hab).trans ha) (by omega) (by decide) dM0_copy_13 ?_
    refine m_nast (n := 330) (f := g) (b0 := b0) hx hb hK (hput_self _ (lt_of_at ht)) (by omega) (by decide) (hbt) hLc dM0_copy_14 (fun locs hLc => ?_)
    rw [hput_put]
    refine lv_iinc (v := nI (i + 1)) (lv' := [(2, .int (nI (i + 1))), (0, .ref a), (1, .ref b)]) hx hb dM0_copy_15 hl (k := 2) rfl (nI_add i 1) (by decide) rfl (fun ls hl => ?_)
    refine lv_goto (tgt := 2) hx hb dM0_copy_18 (by decide) ?_
    exact ih (i + 1) _ (by omega) (fup_eq hg rfl) _ _ hLc (lv_sub hl [1, 2, 0] rfl)
set_option maxRecDepth 100000 in
set_option maxHeartbeats 4000000 in
theorem c_M0_copy (l : Launch) (G : gG) (b0 : Nat) (H : Heap) {a b : Nat} {f g0 : Nat → Nat} (ha : H[a]? = some (aN G 330 f)) (ht : H[b]? = some (aN G 330 g0)) (hab : a ≠ b) (hbt : b0 ≤ b) : Met l yM0_copy wsM0_copy ({ frames := 0, cells := 0, slots := 0, locals := 0 } : Room) (PcH G H [.ref a, .ref b]) (QcV (fun H1 => H1 = hput H b (aN G 330 f))) 0 0 (fre b0) := by
  refine m_enter (cc := cM0_copy) (maxL := 3) (ret := none) (own := RM0) (by decide) rfl rfl (Nat.le_of_ble_eq_true rfl) ?_
  intro p e s m below meth c ls hF hnm hH hl
  have hl : lv_has ls 3 [(0, .ref a), (1, .ref b)] := hl
  have hLc : lcs b0 [] := lcs_nil b0
  obtain ⟨hx, hb, hr, hml, hown, hts, hlocks, hK⟩ := id hF
  refine lv_iconst (v := nI 0) hx hb dM0_copy_0 (by decide) ?_
  refine lv_istore_n (lv' := [(2, .int (nI 0)), (0, .ref a), (1, .ref b)]) hx hb dM0_copy_1 rfl hl (by decide) rfl (fun ls hl => ?_)
  have hl := lv_sub (l' := [(0, .ref a), (1, .ref b), (2, .int (nI 0))]) hl [1, 2, 0] rfl
  have hh := rcopy_2 (l := l) (e := e) (below := below) hF ha ht hab hbt 330 0 g0 (by omega) (fun j hj => absurd hj (by omega)) _ _ hLc hl
  rw [hput_same ht] at hh
  exact hh

set_option maxRecDepth 100000 in
set_option maxHeartbeats 4000000 in
theorem isZero_4 {p : Program} {l : Launch} {e : Env} {s : State} {m : MethodId} {args : Array Value} {below : List Frame} {meth : Method} {c : Code} {G : gG} {b0 : Nat} {H : Heap} {a : Nat} {f : Nat → Nat} (hF : FxM p s m args meth c G cM0_isZero 3 (some .boolean) RM0 wsM0_isZero) (ha : H[a]? = some (aN G 330 f)) (hf : dlm f 330) : ∀ (q : Nat) (i z : Nat), i + q = 330 → ((z = 1 ∧ ∀ j, j < i → f j = 0) ∨ (z = 0 ∧ ∃ j, j < i ∧ f j ≠ 0)) → ∀ (locs : List Loc) (ls : Array Slot), lcs b0 locs → lv_has ls 3 [(0, .ref a), (1, .int (nI z)), (2, .int (nI i))] → W p l e ({ frames := 0, cells := 0, slots := 0, locals := 0 } : Room) s m args below meth c H locs 0 0 (MQ below (QcI (fun r H1 => ((r = nI 1 ∧ dl f 330 = 0) ∨ (r = nI 0 ∧ dl f 330 ≠ 0)) ∧ H = H1)) args s 0 0 (fre b0)) (F0 m 4 ls []) := by
  obtain ⟨hx, hb, hr, hml, hown, hts, hlocks, hK⟩ := id hF
  intro q
  induction q with
  | zero =>
    intro i z hi hz locs ls hLc hl
    rcases hz with ⟨rfl, hz⟩ | ⟨rfl, hz⟩
    · skip
      refine lv_iload_n hx hb dM0_isZero_4 rfl (lv_at hl 2 rfl) ?_
      refine lv_sipush (v := nI 330) hx hb dM0_isZero_5 (by decide) ?_
      refine lv_icmp_ge (tgt := 33) hx hb dM0_isZero_8 (by decide) (fun _ => ?_) (fun h => absurd (nI_le (by omega) (by omega)) h)
      refine lv_iload_n hx hb dM0_isZero_33 rfl (lv_at hl 1 rfl) ?_
      exact m_zret hx hb hr hlocks hLc (by decide) dM0_isZero_34 (⟨Or.inl ⟨rfl, dl_zero_iff.mpr (fun j hj => hz j (by omega))⟩, rfl⟩)
    · skip
      refine lv_iload_n hx hb dM0_isZero_4 rfl (lv_at hl 2 rfl) ?_
      refine lv_sipush (v := nI 330) hx hb dM0_isZero_5 (by decide) ?_
      refine lv_icmp_ge (tgt := 33) hx hb dM0_isZero_8 (by decide) (fun _ => ?_) (fun h => absurd (nI_le (by omega) (by omega)) h)
      refine lv_iload_n hx hb dM0_isZero_33 rfl (lv_at hl 1 rfl) ?_
      exact m_zret hx hb hr hlocks hLc (by decide) dM0_isZero_34 (⟨Or.inr ⟨rfl, fun h => hz.elim (fun j hj => hj.2 (dl_zero_iff.mp h j (by omega)))⟩, rfl⟩)
  | succ q ih =>
    intro i z hi hz locs ls hLc hl
    have hfi := hf i (by omega)
    rcases hz with ⟨rfl, hz⟩ | ⟨rfl, hz⟩
    · skip
      refine lv_iload_n hx hb dM0_isZero_4 rfl (lv_at hl 2 rfl) ?_
      refine lv_sipush (v := nI 330) hx hb dM0_isZero_5 (by decide) ?_
      refine lv_icmp_ge (tgt := 33) hx hb dM0_isZero_8 (by decide) (fun h => absurd h (nI_ge (by omega) (by omega))) (fun _ => ?_)
      refine lv_iload_n hx hb dM0_isZero_11 rfl (lv_at hl 1 rfl) ?_
      refine m_if_eq (tgt := 25) hx hb (by decide) dM0_isZero_12 (by decide) (fun h => absurd h (by decide)) (fun _ => ?_)
      refine lv_aload_n hx hb dM0_isZero_15 rfl (lv_at hl 0 rfl) ?_
      refine lv_iload_n hx hb dM0_isZero_16 rfl (lv_at hl 2 rfl) ?_
      refine m_nald (n := 330) (f := f) hx hb hK (ha) (by omega) (by decide) dM0_isZero_17 ?_
      refine m_if_ne (tgt := 25) hx hb (by omega) dM0_isZero_18 (by decide) (fun c18 => ?_) (fun c18 => ?_)
      · skip
        refine lv_iconst (v := nI 0) hx hb dM0_isZero_25 (by decide) ?_
        refine lv_istore_n (lv' := [(1, .int (nI 0)), (0, .ref a), (2, .int (nI i))]) hx hb dM0_isZero_26 rfl hl (by decide) rfl (fun ls hl => ?_)
        refine lv_iinc (v := nI (i + 1)) (lv' := [(2, .int (nI (i + 1))), (1, .int (nI 0)), (0, .ref a)]) hx hb dM0_isZero_27 hl (k := 2) rfl (nI_add i 1) (by decide) rfl (fun ls hl => ?_)
        refine lv_goto (tgt := 4) hx hb dM0_isZero_30 (by decide) ?_
        exact ih (i + 1) 0 (by omega) (Or.inr ⟨rfl, i, by omega, c18⟩) _ _ hLc (lv_sub hl [2, 1, 0] rfl)
      · skip
        refine lv_iconst (v := nI 1) hx hb dM0_isZero_21 (by decide) ?_
        refine lv_goto (tgt := 26) hx hb dM0_isZero_22 (by decide) ?_
        refine lv_istore_n (lv' := [(1, .int (nI 1)), (0, .ref a), (2, .int (nI i))]) hx hb dM0_isZero_26 rfl hl (by decide) rfl (fun ls hl => ?_)
        refine lv_iinc (v := nI (i + 1)) (lv' := [(2, .int (nI (i + 1))), (1, .int (nI 1)), (0, .ref a)]) hx hb dM0_isZero_27 hl (k := 2) rfl (nI_add i 1) (by decide) rfl (fun ls hl => ?_)
        refine lv_goto (tgt := 4) hx hb dM0_isZero_30 (by decide) ?_
        exact ih (i + 1) 1 (by omega) (Or.inl ⟨rfl, fun j hj => if h : j = i then (by rw [h]; exact c18) else hz j (by omega)⟩) _ _ hLc (lv_sub hl [2, 1, 0] rfl)
    · skip
      refine lv_iload_n hx hb dM0_isZero_4 rfl (lv_at hl 2 rfl) ?_
      refine lv_sipush (v := nI 330) hx hb dM0_isZero_5 (by decide) ?_
      refine lv_icmp_ge (tgt := 33) hx hb dM0_isZero_8 (by decide) (fun h => absurd h (nI_ge (by omega) (by omega))) (fun _ => ?_)
      refine lv_iload_n hx hb dM0_isZero_11 rfl (lv_at hl 1 rfl) ?_
      refine m_if_eq (tgt := 25) hx hb (by decide) dM0_isZero_12 (by decide) (fun _ => ?_) (fun h => absurd h (by decide))
      refine lv_iconst (v := nI 0) hx hb dM0_isZero_25 (by decide) ?_
      refine lv_istore_n (lv' := [(1, .int (nI 0)), (0, .ref a), (2, .int (nI i))]) hx hb dM0_isZero_26 rfl hl (by decide) rfl (fun ls hl => ?_)
      refine lv_iinc (v := nI (i + 1)) (lv' := [(2, .int (nI (i + 1))), (1, .int (nI 0)), (0, .ref a)]) hx hb dM0_isZero_27 hl (k := 2) rfl (nI_add i 1) (by decide) rfl (fun ls hl => ?_)
      refine lv_goto (tgt := 4) hx hb dM0_isZero_30 (by decide) ?_
      exact ih (i + 1) 0 (by omega) (Or.inr ⟨rfl, hz.elim (fun j h => ⟨j, by omega, h.2⟩)⟩) _ _ hLc (lv_sub hl [2, 1, 0] rfl)
set_option maxRecDepth 100000 in
set_option maxHeartbeats 4000000 in
theorem c_M0_isZero (l : Launch) (G : gG) (b0 : Nat) (H : Heap) {a : Nat} {f : Nat → Nat} (ha : H[a]? = some (aN G 330 f)) (hf : dlm f 330) : Met l yM0_isZero wsM0_isZero ({ frames := 0, cells := 0, slots := 0, locals := 0 } : Room) (PcH G H [.ref a]) (QcI (fun r H1 => ((r = nI 1 ∧ dl f 330 = 0) ∨ (r = nI 0 ∧ dl f 330 ≠ 0)) ∧ H = H1)) 0 0 (fre b0) := by
  refine m_enter (cc := cM0_isZero) (maxL := 3) (ret := (some .boolean)) (own := RM0) (by decide) rfl rfl (Nat.le_of_ble_eq_true rfl) ?_
  intro p e s m below meth c ls hF hnm hH hl
  have hl : lv_has ls 3 [(0, .ref a)] := hl
  have hLc : lcs b0 [] := lcs_nil b0
  obtain ⟨hx, hb, hr, hml, hown, hts, hlocks, hK⟩ := id hF
  refine lv_iconst (v := nI 1) hx hb dM0_isZero_0 (by decide) ?_
  refine lv_istore_n (lv' := [(1, .int (nI 1)), (0, .ref a)]) hx hb dM0_isZero_1 rfl hl (by decide) rfl (fun ls hl => ?_)
  refine lv_iconst (v := nI 0) hx hb dM0_isZero_2 (by decide) ?_
  refine lv_istore_n (lv' := [(2, .int (nI 0)), (1, .int (nI 1)), (0, .ref a)]) hx hb dM0_isZero_3 rfl hl (by decide) rfl (fun ls hl => ?_)
  exact isZero_4 hF ha hf 330 0 1 (by omega) (Or.inl ⟨rfl, fun j hj => absurd hj (by omega)⟩) _ _ hLc (lv_sub hl [2, 1, 0] rfl)

set_option maxRecDepth 100000 in
set_option maxHeartbeats 4000000 in
theorem rorder_4 {p : Program} {l : Launch} {e : Env} {s : State} {m : MethodId} {args : Array Value} {below : List Frame} {meth : Method} {c : Code} {G : gG} {b0 : Nat} {H : Heap} {a b : Nat} {f g : Nat → Nat} (hF : FxM p s m args meth c G cM0_order 3 (some .int) RM0 wsM0_order) (ha : H[a]? = some (aN G 330 f)) (hb0 : H[b]? = some (aN G 330 g)) (hf : dlm f 330) (hg : dlm g 330) : ∀ (q : Nat) , q ≤ 330 → (∀ j, q ≤ j → j < 330 → f j = g j) → ∀ (locs : List Loc) (ls : Array Slot), lcs b0 locs → lv_has ls 3 [(0, .ref a), (1, .ref b), (2, .int (nI q - 1))] → W p l e ({ frames := 0, cells := 0, slots := 0, locals := 0 } : Room) s m args below meth c H locs 0 0 (MQ below (QcI (fun r H1 => ordP r (dl f 330) (dl g 330) ∧ H = H1)) args s 0 0 (fre b0)) (F0 m 4 ls []) := by
  obtain ⟨hx, hb, hr, hml, hown, hts, hlocks, hK⟩ := id hF
  intro q
  induction q with
  | zero =>
    intro hq he locs ls hLc hl
    refine lv_iload_n hx hb dM0_order_4 rfl (lv_at hl 2 rfl) ?_
    refine lv_if_lt (tgt := 38) hx hb dM0_order_5 (by decide) (fun _ => ?_) (fun h => absurd (by decide) h)
    refine lv_iconst (v := nI 0) hx hb dM0_order_38 (by decide) ?_
    exact m_iret hx hb hr hlocks hLc dM0_order_39 (⟨Or.inr (Or.inl ⟨dl_congr (fun j hj => he j (by omega) hj), nI_0⟩), rfl⟩)
  | succ q ih =>
    intro hq he locs ls hLc hl
    rw [nI_pred] at hl
    have h1 := hf q (by omega)
    have h2 := hg q (by omega)
    refine lv_iload_n hx hb dM0_order_4 rfl (lv_at hl 2 rfl) ?_
    refine lv_if_lt (tgt := 38) hx hb dM0_order_5 (by decide) (fun h => absurd h (nI_pos (by omega))) (fun _ => ?_)
    refine lv_aload_n hx hb dM0_order_8 rfl (lv_at hl 0 rfl) ?_
    refine lv_iload_n hx hb dM0_order_9 rfl (lv_at hl 2 rfl) ?_
    refine m_nald (n := 330) (f := f) hx hb hK (ha) (by omega) (by decide) dM0_order_10 ?_
    refine lv_aload_n hx hb dM0_order_11 rfl (lv_at hl 1 rfl) ?_
    refine lv_iload_n hx hb dM0_order_12 rfl (lv_at hl 2 rfl) ?_
    refine m_nald (n := 330) (f := g) hx hb hK (hb0) (by omega) (by decide) dM0_order_13 ?_
    refine m_icmp_eq (tgt := 32) hx hb (by omega) (by omega) dM0_order_14 (by decide) (fun c14 => ?_) (fun c14 => ?_)
    · skip
      have he2 : ∀ j, q ≤ j → j < 330 → f j = g j := fun j h3 h4 => (Nat.eq_or_lt_of_le h3).elim (fun h5 => by rw [← h5]; exact c14) (fun h5 => he j h5 h4)
      refine lv_iinc (v := nI q - 1) (lv' := [(2, .int (nI q - 1)), (0, .ref a), (1, .ref b)]) hx hb dM0_order_32 hl (k := 2) rfl (nI_decI _) (by decide) rfl (fun ls hl => ?_)
      refine lv_goto (tgt := 4) hx hb dM0_order_35 (by decide) ?_
      exact ih (by omega) he2 _ _ hLc (lv_sub hl [1, 2, 0] rfl)
    · skip
      refine lv_aload_n hx hb dM0_order_17 rfl (lv_at hl 0 rfl) ?_
      refine lv_iload_n hx hb dM0_order_18 rfl (lv_at hl 2 rfl) ?_
      refine m_nald (n := 330) (f := f) hx hb hK (ha) (by omega) (by decide) dM0_order_19 ?_
      refine lv_aload_n hx hb dM0_order_20 rfl (lv_at hl 1 rfl) ?_
      refine lv_iload_n hx hb dM0_order_21 rfl (lv_at hl 2 rfl) ?_
      refine m_nald (n := 330) (f := g) hx hb hK (hb0) (by omega) (by decide) dM0_order_22 ?_
      refine m_icmp_ge (tgt := 30) hx hb (by omega) (by omega) dM0_order_23 (by decide) (fun c23 => ?_) (fun c23 => ?_)
      · skip
        refine lv_iconst (v := nI 1) hx hb dM0_order_30 (by decide) ?_
        exact m_iret hx hb hr hlocks hLc dM0_order_31 (⟨Or.inr (Or.inr ⟨ord_ltd (by omega) hg (fun j h3 h4 => (he j h3 h4).symm) (by omega), rfl⟩), rfl⟩)
      · skip
        refine lv_iconst (v := -1) hx hb dM0_order_26 (by decide) ?_
        refine lv_goto (tgt := 31) hx hb dM0_order_27 (by decide) ?_
        exact m_iret hx hb hr hlocks hLc dM0_order_31 (⟨Or.inl ⟨ord_ltd (by omega) hf he c23, rfl⟩, rfl⟩)
set_option maxRecDepth 100000 in
set_option maxHeartbeats 4000000 in
theorem c_M0_order (l : Launch) (G : gG) (b0 : Nat) (H : Heap) {a b : Nat} {f g : Nat → Nat} (ha : H[a]? = some (aN G 330 f)) (hb0 : H[b]? = some (aN G 330 g)) (hf : dlm f 330) (hg : dlm g 330) : Met l yM0_order wsM0_order ({ frames := 0, cells := 0, slots := 0, locals := 0 } : Room) (PcH G H [.ref a, .ref b]) (QcI (fun r H1 => ordP r (dl f 330) (dl g 330) ∧ H = H1)) 0 0 (fre b0) := by
  refine m_enter (cc := cM0_order) (maxL := 3) (ret := (some .int)) (own := RM0) (by decide) rfl rfl (Nat.le_of_ble_eq_true rfl) ?_
  intro p e s m below meth c ls hF hnm hH hl
  have hl : lv_has ls 3 [(0, .ref a), (1, .ref b)] := hl
  have hLc : lcs b0 [] := lcs_nil b0
  obtain ⟨hx, hb, hr, hml, hown, hts, hlocks, hK⟩ := id hF
  refine lv_sipush (v := 329) hx hb dM0_order_0 (by decide) ?_
  refine lv_istore_n (lv' := [(2, .int 329), (0, .ref a), (1, .ref b)]) hx hb dM0_order_3 rfl hl (by decide) rfl (fun ls hl => ?_)
  have hl : lv_has ls 3 [(2, .int (nI 330 - 1)), (0, .ref a), (1, .ref b)] := hl
  exact rorder_4 hF ha hb0 hf hg 330 (Nat.le_refl 330) (fun j h1 h2 => absurd h2 (by omega)) _ _ hLc (lv_sub hl [1, 2, 0] rfl)

set_option maxRecDepth 100000 in
set_option maxHeartbeats 4000000 in
theorem grow_5 {p : Program} {l : Launch} {e : Env} {s : State} {m : MethodId} {args : Array Value} {below : List Frame} {meth : Method} {c : Code} {G : gG} {b0 : Nat} {H : Heap} {a x y : Nat} {f : Nat → Nat} (hF : FxM p s m args meth c G cM0_grow 6 none RM0 wsM0_grow) (ht : H[a]? = some (aN G 330 f)) (hf : dlm f 330) (hbt : b0 ≤ a) (hx0 : x ≤ 36) (hy0 : y ≤ 40) : ∀ (q : Nat) (i c1 : Nat) (g : Nat → Nat), i + q = 330 → dlm g 330 → (∀ j, i ≤ j → g j = f j) → c1 ≤ 40 → dl g i + c1 * 10 ^ i = dl f i * x + y → ∀ (locs : List Loc) (ls : Array Slot), lcs b0 locs → lv_has ls 6 [(0, .ref a), (1, .int (nI x)), (2, .int (nI y)), (3, .int (nI c1)), (4, .int (nI i))] → W p l e ({ frames := 0, cells := 0, slots := 0, locals := 0 } : Room) s m args below meth c (hput H a (aN G 330 g)) locs 0 0 (MQ below (QcV (fun H1 => ∃ (g : Nat → Nat) (c1 : Nat), dlm g 330 ∧ dl g 330 + c1 * 10 ^ 330 = dl f 330 * x + y ∧ H1 = hput H a (aN G 330 g))) args s 0 0 (fre b0)) (F0 m 5 ls []) := by
  obtain ⟨hx, hb, hr, hml, hown, hts, hlocks, hK⟩ := id hF
  intro q
  induction q with
  | zero =>
    intro i c1 g hi hg hs hc hv locs ls hLc hl
    have hin : i = 330 := by omega
    rw [hin] at hv
    refine lv_iload hx hb dM0_grow_5 (lv_at hl 4 rfl) ?_
    refine lv_sipush (v := nI 330) hx hb dM0_grow_7 (by decide) ?_
    refine lv_icmp_ge (tgt := 44) hx hb dM0_grow_10 (by decide) (fun _ => ?_) (fun h => absurd (nI_le (by omega) (by omega)) h)
    exact m_vret hx hb hr hlocks hLc dM0_grow_44 (⟨g, c1, hg, hv, rfl⟩)
  | succ q ih =>
    intro i c1 g hi hg hs hc hv locs ls hLc hl
    have hin : i < 330 := by omega
    have hgi := hg i hin
    have hM : g i * x ≤ 9 * 36 := Nat.mul_le_mul (by omega) hx0
    have hxl : (g i * x + c1) % 10 < 10 := Nat.mod_lt _ (by decide)
    refine lv_iload hx hb dM0_grow_5 (lv_at hl 4 rfl) ?_
    refine lv_sipush (v := nI 330) hx hb dM0_grow_7 (by decide) ?_
    refine lv_icmp_ge (tgt := 44) hx hb dM0_grow_10 (by decide) (fun h => absurd h (nI_ge (by omega) (by omega))) (fun _ => ?_)
    refine lv_aload_n hx hb dM0_grow_13 rfl (lv_at hl 0 rfl) ?_
    refine lv_iload hx hb dM0_grow_14 (lv_at hl 4 rfl) ?_
    refine m_nald (n := 330) (f := g) hx hb hK (hput_self _ (lt_of_at ht)) (by omega) (by decide) dM0_grow_16 ?_
    refine lv_iload_n hx hb dM0_grow_17 rfl (lv_at hl 1 rfl) ?_
    refine m_imul (a := g i) (b := x) hx hb dM0_grow_18 ?_
    refine lv_iload_n hx hb dM0_grow_19 rfl (lv_at hl 3 rfl) ?_
    refine m_iadd (a := (g i) * x) (b := c1) hx hb dM0_grow_20 ?_
    refine lv_istore (lv' := [(5, .int (nI (((g i) * x) + c1))), (0, .ref a), (1, .int (nI x)), (2, .int (nI y)), (3, .int (nI c1)), (4, .int (nI i))]) hx hb dM0_grow_21 hl (by decide) rfl (fun ls hl => ?_)
    refine lv_aload_n hx hb dM0_grow_23 rfl (lv_at hl 1 rfl) ?_
    refine lv_iload hx hb dM0_grow_24 (lv_at hl 5 rfl) ?_
    refine lv_iload hx hb dM0_grow_26 (lv_at hl 0 rfl) ?_
    refine lv_bipush (v := nI 10) hx hb dM0_grow_28 (by decide) ?_
    refine m_irem (a := ((g i) * x) + c1) (b := 10) hx hb (by omega) (by decide) (by decide) dM0_grow_30 ?_
    refine m_nast (n := 330) (f := g) (b0 := b0) hx hb hK (hput_self _ (lt_of_at ht)) (by omega) (by decide) (hbt) hLc dM0_grow_31 (fun locs hLc => ?_)
    rw [hput_put]
    refine lv_iload hx hb dM0_grow_32 (lv_at hl 0 rfl) ?_
    refine lv_bipush (v := nI 10) hx hb dM0_grow_34 (by decide) ?_
    refine m_idiv (a := ((g i) * x) + c1) (b := 10) hx hb (by omega) (by decide) (by decide) dM0_grow_36 ?_
    refine lv_istore_n (lv' := [(3, .int (nI ((((g i) * x) + c1) / 10))), (5, .int (nI (((g i) * x) + c1))), (0, .ref a), (1, .int (nI x)), (2, .int (nI y)), (4, .int (nI i))]) hx hb dM0_grow_37 rfl hl (by decide) rfl (fun ls hl => ?_)
    refine lv_iinc (v := nI (i + 1)) (lv' := [(4, .int (nI (i + 1))), (3, .int (nI ((((g i) * x) + c1) / 10))), (5, .int (nI (((g i) * x) + c1))), (0, .ref a), (1, .int (nI x)), (2, .int (nI y))]) hx hb dM0_grow_38 hl (k := 5) rfl (nI_add i 1) (by decide) rfl (fun ls hl => ?_)
    refine lv_goto (tgt := 5) hx hb dM0_grow_41 (by decide) ?_
    exact ih (i + 1) _ _ (by omega) (dlm_fup hg hxl) (fun j hj => by rw [fup_n _ _ (by omega)]; exact hs j (by omega)) (by omega) (mad_stepd (hs i (Nat.le_refl i)) hv) _ _ hLc (lv_sub hl [3, 4, 5, 1, 0] rfl)
set_option maxRecDepth 100000 in
set_option maxHeartbeats 4000000 in
theorem c_M0_grow (l : Launch) (G : gG) (b0 : Nat) (H : Heap) {a x y : Nat} {f : Nat → Nat} (ht : H[a]? = some (aN G 330 f)) (hf : dlm f 330) (hbt : b0 ≤ a) (hx0 : x ≤ 36) (hy0 : y ≤ 40) : Met l yM0_grow wsM0_grow ({ frames := 0, cells := 0, slots := 0, locals := 0 } : Room) (PcH G H [.ref a, .int (nI x), .int (nI y)]) (QcV (fun H1 => ∃ (g : Nat → Nat) (c1 : Nat), dlm g 330 ∧ dl g 330 + c1 * 10 ^ 330 = dl f 330 * x + y ∧ H1 = hput H a (aN G 330 g))) 0 0 (fre b0) := by
  refine m_enter (cc := cM0_grow) (maxL := 6) (ret := none) (own := RM0) (by decide) rfl rfl (Nat.le_of_ble_eq_true rfl) ?_
  intro p e s m below meth c ls hF hnm hH hl
  have hl : lv_has ls 6 [(0, .ref a), (1, .int (nI x)), (2, .int (nI y))] := hl
  have hLc : lcs b0 [] := lcs_nil b0
  obtain ⟨hx, hb, hr, hml, hown, hts, hlocks, hK⟩ := id hF
  refine lv_iload_n hx hb dM0_grow_0 rfl (lv_at hl 2 rfl) ?_
  refine lv_istore_n (lv' := [(3, .int (nI y)), (0, .ref a), (1, .int (nI x)), (2, .int (nI y))]) hx hb dM0_grow_1 rfl hl (by decide) rfl (fun ls hl => ?_)
  refine lv_iconst (v := nI 0) hx hb dM0_grow_2 (by decide) ?_
  refine lv_istore (lv' := [(4, .int (nI 0)), (3, .int (nI y)), (0, .ref a), (1, .int (nI x)), (2, .int (nI y))]) hx hb dM0_grow_3 hl (by decide) rfl (fun ls hl => ?_)
  have hl := lv_sub (l' := [(0, .ref a), (1, .int (nI x)), (2, .int (nI y)), (3, .int (nI y)), (4, .int (nI 0))]) hl [2, 3, 4, 1, 0] rfl
  have hh := grow_5 (l := l) (e := e) (below := below) hF ht hf hbt hx0 hy0 330 0 y f (by omega) hf (fun j _ => rfl) hy0 (by simp [dl]) _ _ hLc hl
  rw [hput_same ht] at hh
  exact hh

set_option maxRecDepth 100000 in
set_option maxHeartbeats 4000000 in
theorem shrink_6 {p : Program} {l : Launch} {e : Env} {s : State} {m : MethodId} {args : Array Value} {below : List Frame} {meth : Method} {c : Code} {G : gG} {b0 : Nat} {H : Heap} {a d : Nat} {f : Nat → Nat} (hF : FxM p s m args meth c G cM0_shrink 5 (some .int) RM0 wsM0_shrink) (ht : H[a]? = some (aN G 330 f)) (hf : dlm f 330) (hbt : b0 ≤ a) (hd1 : 1 ≤ d) (hd2 : d ≤ 36) : ∀ (k : Nat) (z : Nat) (g : Nat → Nat), k ≤ 330 → z < d → dlm g 330 → (∀ j, j < k → g j = f j) → dl f 330 + d * dl g k = d * dl g 330 + z * 10 ^ k + dl f k → ∀ (locs : List Loc) (ls : Array Slot), lcs b0 locs → lv_has ls 5 [(0, .ref a), (1, .int (nI d)), (2, .int (nI z)), (3, .int (nI k - 1))] → W p l e ({ frames := 0, cells := 0, slots := 0, locals := 0 } : Room) s m args below meth c (hput H a (aN G 330 g)) locs 0 0 (MQ below (QcI (fun r H1 => ∃ (g : Nat → Nat) (z : Nat), r = nI z ∧ z < d ∧ dlm g 330 ∧ dl f 330 = d * dl g 330 + z ∧ H1 = hput H a (aN G 330 g))) args s 0 0 (fre b0)) (F0 m 6 ls []) := by
  obtain ⟨hx, hb, hr, hml, hown, hts, hlocks, hK⟩ := id hF
  intro k
  induction k with
  | zero =>
    intro z g hk hz hg hs hv locs ls hLc hl
    refine lv_iload_n hx hb dM0_shrink_6 rfl (lv_at hl 3 rfl) ?_
    refine lv_if_lt (tgt := 38) hx hb dM0_shrink_7 (by decide) (fun _ => ?_) (fun h => absurd (by decide) h)
    refine lv_iload_n hx hb dM0_shrink_38 rfl (lv_at hl 2 rfl) ?_
    exact m_iret hx hb hr hlocks hLc dM0_shrink_39 (⟨g, z, rfl, hz, hg, by rw [show dl g 0 = 0 from rfl, show dl f 0 = 0 from rfl, Nat.pow_zero] at hv; omega, rfl⟩)
  | succ k ih =>
    intro z g hk hz hg hs hv locs ls hLc hl
    rw [nI_pred] at hl
    have hgk := hg k (by omega)
    have hq : (z * 10 + g k) / d < 10 := dbs_ltd hz hgk
    refine lv_iload_n hx hb dM0_shrink_6 rfl (lv_at hl 3 rfl) ?_
    refine lv_if_lt (tgt := 38) hx hb dM0_shrink_7 (by decide) (fun h => absurd h (nI_pos (by omega))) (fun _ => ?_)
    refine lv_bipush (v := nI 10) hx hb dM0_shrink_10 (by decide) ?_
    refine lv_iload_n hx hb dM0_shrink_12 rfl (lv_at hl 2 rfl) ?_
    refine m_imul (a := 10) (b := z) hx hb dM0_shrink_13 ?_
    refine lv_aload_n hx hb dM0_shrink_14 rfl (lv_at hl 0 rfl) ?_
    refine lv_iload_n hx hb dM0_shrink_15 rfl (lv_at hl 3 rfl) ?_
    refine m_nald (n := 330) (f := g) hx hb hK (hput_self _ (lt_of_at ht)) (by omega) (by decide) dM0_shrink_16 ?_
    refine m_iadd (a := 10 * z) (b := g k) hx hb dM0_shrink_17 ?_
    rw [Nat.mul_comm 10 z]
    refine lv_istore (lv' := [(4, .int (nI (z * 10 + g k))), (0, .ref a), (1, .int (nI d)), (2, .int (nI z)), (3, .int (nI k))]) hx hb dM0_shrink_18 hl (by decide) rfl (fun ls hl => ?_)
    refine lv_aload_n hx hb dM0_shrink_20 rfl (lv_at hl 1 rfl) ?_
    refine lv_iload_n hx hb dM0_shrink_21 rfl (lv_at hl 4 rfl) ?_
    refine lv_iload hx hb dM0_shrink_22 (lv_at hl 0 rfl) ?_
    refine lv_iload_n hx hb dM0_shrink_24 rfl (lv_at hl 2 rfl) ?_
    refine m_idiv (a := z * 10 + g k) (b := d) hx hb (by omega) (by omega) (by omega) dM0_shrink_25 ?_
    refine m_nast (n := 330) (f := g) (b0 := b0) hx hb hK (hput_self _ (lt_of_at ht)) (by omega) (by decide) (hbt) hLc dM0_shrink_26 (fun locs hLc => ?_)
    rw [hput_put]
    refine lv_iload hx hb dM0_shrink_27 (lv_at hl 0 rfl) ?_
    refine lv_iload_n hx hb dM0_shrink_29 rfl (lv_at hl 2 rfl) ?_
    refine m_irem (a := z * 10 + g k) (b := d) hx hb (by omega) (by omega) (by omega) dM0_shrink_30 ?_
    refine lv_istore_n (lv' := [(2, .int (nI ((z * 10 + g k) % d))), (4, .int (nI (z * 10 + g k))), (0, .ref a), (1, .int (nI d)), (3, .int (nI k))]) hx hb dM0_shrink_31 rfl hl (by decide) rfl (fun ls hl => ?_)
    refine lv_iinc (v := nI k - 1) (lv' := [(3, .int (nI k - 1)), (2, .int (nI ((z * 10 + g k) % d))), (4, .int (nI (z * 10 + g k))), (0, .ref a), (1, .int (nI d))]) hx hb dM0_shrink_32 hl (k := 4) rfl (nI_decI _) (by decide) rfl (fun ls hl => ?_)
    refine lv_goto (tgt := 6) hx hb dM0_shrink_35 (by decide) ?_
    exact ih _ _ (by omega) (Nat.mod_lt _ (by omega)) (dlm_fup hg hq) (fun j hj => by rw [fup_n _ _ (by omega)]; exact hs j (by omega)) (dbs_stepd (by omega) (hs k (by omega)) hv) _ _ hLc (lv_sub hl [3, 4, 1, 0] rfl)
set_option maxRecDepth 100000 in
set_option maxHeartbeats 4000000 in
theorem c_M0_shrink (l : Launch) (G : gG) (b0 : Nat) (H : Heap) {a d : Nat} {f : Nat → Nat} (ht : H[a]? = some (aN G 330 f)) (hf : dlm f 330) (hbt : b0 ≤ a) (hd1 : 1 ≤ d) (hd2 : d ≤ 36) : Met l yM0_shrink wsM0_shrink ({ frames := 0, cells := 0, slots := 0, locals := 0 } : Room) (PcH G H [.ref a, .int (nI d)]) (QcI (fun r H1 => ∃ (g : Nat → Nat) (z : Nat), r = nI z ∧ z < d ∧ dlm g 330 ∧ dl f 330 = d * dl g 330 + z ∧ H1 = hput H a (aN G 330 g))) 0 0 (fre b0) := by
  refine m_enter (cc := cM0_shrink) (maxL := 5) (ret := (some .int)) (own := RM0) (by decide) rfl rfl (Nat.le_of_ble_eq_true rfl) ?_
  intro p e s m below meth c ls hF hnm hH hl
  have hl : lv_has ls 5 [(0, .ref a), (1, .int (nI d))] := hl
  have hLc : lcs b0 [] := lcs_nil b0
  obtain ⟨hx, hb, hr, hml, hown, hts, hlocks, hK⟩ := id hF
  refine lv_iconst (v := nI 0) hx hb dM0_shrink_0 (by decide) ?_
  refine lv_istore_n (lv' := [(2, .int (nI 0)), (0, .ref a), (1, .int (nI d))]) hx hb dM0_shrink_1 rfl hl (by decide) rfl (fun ls hl => ?_)
  refine lv_sipush (v := 329) hx hb dM0_shrink_2 (by decide) ?_
  refine lv_istore_n (lv' := [(3, .int 329), (2, .int (nI 0)), (0, .ref a), (1, .int (nI d))]) hx hb dM0_shrink_5 rfl hl (by decide) rfl (fun ls hl => ?_)
  have hl : lv_has ls 5 [(3, .int (nI 330 - 1)), (2, .int (nI 0)), (0, .ref a), (1, .int (nI d))] := hl
  have hh := shrink_6 (l := l) (e := e) (below := below) hF ht hf hbt hd1 hd2 330 0 f (Nat.le_refl 330) (by omega) hf (fun j _ => rfl) (by omega) _ _ hLc (lv_sub hl [2, 3, 1, 0] rfl)
  rw [hput_same ht] at hh
  exact hh

set_option maxRecDepth 100000 in
set_option maxHeartbeats 4000000 in
theorem radd_4 {p : Program} {l : Launch} {e : Env} {s : State} {m : MethodId} {args : Array Value} {below : List Frame} {meth : Method} {c : Code} {G : gG} {b0 : Nat} {H : Heap} {a b : Nat} {f1 f2 : Nat → Nat} (hF : FxM p s m args meth c G cM0_add 5 none RM0 wsM0_add) (ht : H[a]? = some (aN G 330 f1)) (hb0 : H[b]? = some (aN G 330 f2)) (hf1 : dlm f1 330) (hf2 : dlm f2 330) (hba : b ≠ a) (hbt : b0 ≤ a) : ∀ (q : Nat) (i c1 : Nat) (g : Nat → Nat), i + q = 330 → dlm g 330 → (∀ j, i ≤ j → g j = f1 j) → c1 ≤ 1 → dl g i + c1 * 10 ^ i = dl f1 i + dl f2 i → ∀ (locs : List Loc) (ls : Array Slot), lcs b0 locs → lv_has ls 5 [(0, .ref a), (1, .ref b), (2, .int (nI c1)), (3, .int (nI i))] → W p l e ({ frames := 0, cells := 0, slots := 0, locals := 0 } : Room) s m args below meth c (hput H a (aN G 330 g)) locs 0 0 (MQ below (QcV (fun H1 => ∃ (g : Nat → Nat) (c1 : Nat), dlm g 330 ∧ dl g 330 + c1 * 10 ^ 330 = dl f1 330 + dl f2 330 ∧ H1 = hput H a (aN G 330 g))) args s 0 0 (fre b0)) (F0 m 4 ls []) := by
  obtain ⟨hx, hb, hr, hml, hown, hts, hlocks, hK⟩ := id hF
  intro q
  induction q with
  | zero =>
    intro i c1 g hi hg hs hc hv locs ls hLc hl
    have hin : i = 330 := by omega
    rw [hin] at hv
    refine lv_iload_n hx hb dM0_add_4 rfl (lv_at hl 3 rfl) ?_
    refine lv_sipush (v := nI 330) hx hb dM0_add_5 (by decide) ?_
    refine lv_icmp_ge (tgt := 42) hx hb dM0_add_8 (by decide) (fun _ => ?_) (fun h => absurd (nI_le (by omega) (by omega)) h)
    exact m_vret hx hb hr hlocks hLc dM0_add_42 (⟨g, c1, hg, hv, rfl⟩)
  | succ q ih =>
    intro i c1 g hi hg hs hc hv locs ls hLc hl
    have hin : i < 330 := by omega
    have hgf : g i = f1 i := hs i (Nat.le_refl i)
    have h1 := hf1 i hin
    have h2 := hf2 i hin
    have hxl : (g i + f2 i + c1) % 10 < 10 := Nat.mod_lt _ (by decide)
    refine lv_iload_n hx hb dM0_add_4 rfl (lv_at hl 3 rfl) ?_
    refine lv_sipush (v := nI 330) hx hb dM0_add_5 (by decide) ?_
    refine lv_icmp_ge (tgt := 42) hx hb dM0_add_8 (by decide) (fun h => absurd h (nI_ge (by omega) (by omega))) (fun _ => ?_)
    refine lv_aload_n hx hb dM0_add_11 rfl (lv_at hl 0 rfl) ?_
    refine lv_iload_n hx hb dM0_add_12 rfl (lv_at hl 3 rfl) ?_
    refine m_nald (n := 330) (f := g) hx hb hK (hput_self _ (lt_of_at ht)) (by omega) (by decide) dM0_add_13 ?_
    refine lv_aload_n hx hb dM0_add_14 rfl (lv_at hl 1 rfl) ?_
    refine lv_iload_n hx hb dM0_add_15 rfl (lv_at hl 3 rfl) ?_
    refine m_nald (n := 330) (f := f2) hx hb hK ((hput_ne _ hba).trans hb0) (by omega) (by decide) dM0_add_16 ?_
    refine m_iadd (a := g i) (b := f2 i) hx hb dM0_add_17 ?_
    refine lv_iload_n hx hb dM0_add_18 rfl (lv_at hl 2 rfl) ?_
    refine m_iadd (a := (g i) + (f2 i)) (b := c1) hx hb dM0_add_19 ?_
    refine lv_istore (lv' := [(4, .int (nI (((g i) + (f2 i)) + c1))), (0, .ref a), (1, .ref b), (2, .int (nI c1)), (3, .int (nI i))]) hx hb dM0_add_20 hl (by decide) rfl (fun ls hl => ?_)
    refine lv_aload_n hx hb dM0_add_22 rfl (lv_at hl 1 rfl) ?_
    refine lv_iload_n hx hb dM0_add_23 rfl (lv_at hl 4 rfl) ?_
    refine lv_iload hx hb dM0_add_24 (lv_at hl 0 rfl) ?_
    refine lv_bipush (v := nI 10) hx hb dM0_add_26 (by decide) ?_
    refine m_irem (a := ((g i) + (f2 i)) + c1) (b := 10) hx hb (by omega) (by decide) (by decide) dM0_add_28 ?_
    refine m_nast (n := 330) (f := g) (b0 := b0) hx hb hK (hput_self _ (lt_of_at ht)) (by omega) (by decide) (hbt) hLc dM0_add_29 (fun locs hLc => ?_)
    rw [hput_put]
    refine lv_iload hx hb dM0_add_30 (lv_at hl 0 rfl) ?_
    refine lv_bipush (v := nI 10) hx hb dM0_add_32 (by decide) ?_
    refine m_idiv (a := ((g i) + (f2 i)) + c1) (b := 10) hx hb (by omega) (by decide) (by decide) dM0_add_34 ?_
    refine lv_istore_n (lv' := [(2, .int (nI ((((g i) + (f2 i)) + c1) / 10))), (4, .int (nI (((g i) + (f2 i)) + c1))), (0, .ref a), (1, .ref b), (3, .int (nI i))]) hx hb dM0_add_35 rfl hl (by decide) rfl (fun ls hl => ?_)
    refine lv_iinc (v := nI (i + 1)) (lv' := [(3, .int (nI (i + 1))), (2, .int (nI ((((g i) + (f2 i)) + c1) / 10))), (4, .int (nI (((g i) + (f2 i)) + c1))), (0, .ref a), (1, .ref b)]) hx hb dM0_add_36 hl (k := 4) rfl (nI_add i 1) (by decide) rfl (fun ls hl => ?_)
    refine lv_goto (tgt := 4) hx hb dM0_add_39 (by decide) ?_
    exact ih (i + 1) _ _ (by omega) (dlm_fup hg hxl) (fun j hj => by rw [fup_n _ _ (by omega)]; exact hs j (by omega)) (by omega) (by rw [hgf]; exact add_stepd hv) _ _ hLc (lv_sub hl [3, 4, 1, 0] rfl)
set_option maxRecDepth 100000 in
set_option maxHeartbeats 4000000 in
theorem c_M0_add (l : Launch) (G : gG) (b0 : Nat) (H : Heap) {a b : Nat} {f1 f2 : Nat → Nat} (ht : H[a]? = some (aN G 330 f1)) (hb0 : H[b]? = some (aN G 330 f2)) (hf1 : dlm f1 330) (hf2 : dlm f2 330) (hba : b ≠ a) (hbt : b0 ≤ a) : Met l yM0_add wsM0_add ({ frames := 0, cells := 0, slots := 0, locals := 0 } : Room) (PcH G H [.ref a, .ref b]) (QcV (fun H1 => ∃ (g : Nat → Nat) (c1 : Nat), dlm g 330 ∧ dl g 330 + c1 * 10 ^ 330 = dl f1 330 + dl f2 330 ∧ H1 = hput H a (aN G 330 g))) 0 0 (fre b0) := by
  refine m_enter (cc := cM0_add) (maxL := 5) (ret := none) (own := RM0) (by decide) rfl rfl (Nat.le_of_ble_eq_true rfl) ?_
  intro p e s m below meth c ls hF hnm hH hl
  have hl : lv_has ls 5 [(0, .ref a), (1, .ref b)] := hl
  have hLc : lcs b0 [] := lcs_nil b0
  obtain ⟨hx, hb, hr, hml, hown, hts, hlocks, hK⟩ := id hF
  refine lv_iconst (v := nI 0) hx hb dM0_add_0 (by decide) ?_
  refine lv_istore_n (lv' := [(2, .int (nI 0)), (0, .ref a), (1, .ref b)]) hx hb dM0_add_1 rfl hl (by decide) rfl (fun ls hl => ?_)
  refine lv_iconst (v := nI 0) hx hb dM0_add_2 (by decide) ?_
  refine lv_istore_n (lv' := [(3, .int (nI 0)), (2, .int (nI 0)), (0, .ref a), (1, .ref b)]) hx hb dM0_add_3 rfl hl (by decide) rfl (fun ls hl => ?_)
  have hl := lv_sub (l' := [(0, .ref a), (1, .ref b), (2, .int (nI 0)), (3, .int (nI 0))]) hl [2, 3, 1, 0] rfl
  have hh := radd_4 (l := l) (e := e) (below := below) hF ht hb0 hf1 hf2 hba hbt 330 0 0 f1 (by omega) hf1 (fun j _ => rfl) (by omega) rfl _ _ hLc hl
  rw [hput_same ht] at hh
  exact hh

set_option maxRecDepth 100000 in
set_option maxHeartbeats 4000000 in
theorem rsubtract_4 {p : Program} {l : Launch} {e : Env} {s : State} {m : MethodId} {args : Array Value} {below : List Frame} {meth : Method} {c : Code} {G : gG} {b0 : Nat} {H : Heap} {a b : Nat} {f1 f2 : Nat → Nat} (hF : FxM p s m args meth c G cM0_subtract 5 none RM0 wsM0_subtract) (ht : H[a]? = some (aN G 330 f1)) (hb0 : H[b]? = some (aN G 330 f2)) (hf1 : dlm f1 330) (hf2 : dlm f2 330) (hba : b ≠ a) (hbt : b0 ≤ a) : ∀ (q : Nat) (i c1 : Nat) (g : Nat → Nat), i + q = 330 → dlm g 330 → (∀ j, i ≤ j → g j = f1 j) → c1 ≤ 1 → dl g i + dl f2 i = dl f1 i + c1 * 10 ^ i → ∀ (locs : List Loc) (ls : Array Slot), lcs b0 locs → lv_has ls 5 [(0, .ref a), (1, .ref b), (2, .int (nI c1)), (3, .int (nI i))] → W p l e ({ frames := 0, cells := 0, slots := 0, locals := 0 } : Room) s m args below meth c (hput H a (aN G 330 g)) locs 0 0 (MQ below (QcV (fun H1 => ∃ (g : Nat → Nat) (c1 : Nat), dlm g 330 ∧ dl g 330 + dl f2 330 = dl f1 330 + c1 * 10 ^ 330 ∧ H1 = hput H a (aN G 330 g))) args s 0 0 (fre b0)) (F0 m 4 ls []) := by
  obtain ⟨hx, hb, hr, hml, hown, hts, hlocks, hK⟩ := id hF
  intro q
  induction q with
  | zero =>
    intro i c1 g hi hg hs hc hv locs ls hLc hl
    have hin : i = 330 := by omega
    rw [hin] at hv
    refine lv_iload_n hx hb dM0_subtract_4 rfl (lv_at hl 3 rfl) ?_
    refine lv_sipush (v := nI 330) hx hb dM0_subtract_5 (by decide) ?_
    refine lv_icmp_ge (tgt := 49) hx hb dM0_subtract_8 (by decide) (fun _ => ?_) (fun h => absurd (nI_le (by omega) (by omega)) h)
    exact m_vret hx hb hr hlocks hLc dM0_subtract_49 (⟨g, c1, hg, hv, rfl⟩)
  | succ q ih =>
    intro i c1 g hi hg hs hc hv locs ls hLc hl
    have hin : i < 330 := by omega
    have hgf : g i = f1 i := hs i (Nat.le_refl i)
    have h1 := hf1 i hin
    have h2 := hf2 i hin
    refine lv_iload_n hx hb dM0_subtract_4 rfl (lv_at hl 3 rfl) ?_
    refine lv_sipush (v := nI 330) hx hb dM0_subtract_5 (by decide) ?_
    refine lv_icmp_ge (tgt := 49) hx hb dM0_subtract_8 (by decide) (fun h => absurd h (nI_ge (by omega) (by omega))) (fun _ => ?_)
    refine lv_aload_n hx hb dM0_subtract_11 rfl (lv_at hl 0 rfl) ?_
    refine lv_iload_n hx hb dM0_subtract_12 rfl (lv_at hl 3 rfl) ?_
    refine m_nald (n := 330) (f := g) hx hb hK (hput_self _ (lt_of_at ht)) (by omega) (by decide) dM0_subtract_13 ?_
    refine lv_aload_n hx hb dM0_subtract_14 rfl (lv_at hl 1 rfl) ?_
    refine lv_iload_n hx hb dM0_subtract_15 rfl (lv_at hl 3 rfl) ?_
    refine m_nald (n := 330) (f := f2) hx hb hK ((hput_ne _ hba).trans hb0) (by omega) (by decide) dM0_subtract_16 ?_
    refine lv_isub hx hb dM0_subtract_17 ?_
    refine lv_iload_n hx hb dM0_subtract_18 rfl (lv_at hl 2 rfl) ?_
    refine lv_isub hx hb dM0_subtract_19 ?_
    refine lv_istore (lv' := [(4, .int ((nI (g i) - nI (f2 i)) - nI c1)), (0, .ref a), (1, .ref b), (2, .int (nI c1)), (3, .int (nI i))]) hx hb dM0_subtract_20 hl (by decide) rfl (fun ls hl => ?_)
    refine lv_iload hx hb dM0_subtract_22 (lv_at hl 0 rfl) ?_
    refine lv_if_ge (tgt := 31) hx hb dM0_subtract_24 (by decide) (fun c24 => ?_) (fun c24 => ?_)
    · skip
      have c24 := (isb_ge (by omega) (by omega) (by omega)).mp c24
      refine lv_iconst (v := nI 0) hx hb dM0_subtract_31 (by decide) ?_
      refine lv_istore_n (lv' := [(2, .int (nI 0)), (4, .int ((nI (g i) - nI (f2 i)) - nI c1)), (0, .ref a), (1, .ref b), (3, .int (nI i))]) hx hb dM0_subtract_32 rfl hl (by decide) rfl (fun ls hl => ?_)
      refine lv_aload_n hx hb dM0_subtract_33 rfl (lv_at hl 2 rfl) ?_
      refine lv_iload_n hx hb dM0_subtract_34 rfl (lv_at hl 4 rfl) ?_
      refine lv_iload hx hb dM0_subtract_35 (lv_at hl 1 rfl) ?_
      refine lv_bipush (v := nI 10) hx hb dM0_subtract_37 (by decide) ?_
      refine lv_iload_n hx hb dM0_subtract_39 rfl (lv_at hl 0 rfl) ?_
      refine m_imul (a := 10) (b := 0) hx hb dM0_subtract_40 ?_
      refine lv_iadd hx hb dM0_subtract_41 ?_
      rw [isb0 (by omega)]
      refine m_nast (n := 330) (f := g) (b0 := b0) hx hb hK (hput_self _ (lt_of_at ht)) (by omega) (by decide) (hbt) hLc dM0_subtract_42 (fun locs hLc => ?_)
      rw [hput_put]
      refine lv_iinc (v := nI (i + 1)) (lv' := [(3, .int (nI (i + 1))), (2, .int (nI 0)), (4, .int ((nI (g i) - nI (f2 i)) - nI c1)), (0, .ref a), (1, .ref b)]) hx hb dM0_subtract_43 hl (k := 4) rfl (nI_add i 1) (by decide) rfl (fun ls hl => ?_)
      refine lv_goto (tgt := 4) hx hb dM0_subtract_46 (by decide) ?_
      exact ih (i + 1) _ _ (by omega) (dlm_fup hg (by omega)) (fun j hj => by rw [fup_n _ _ (by omega)]; exact hs j (by omega)) (by omega) (by rw [hgf]; exact sub_stepd0 (by omega) hv) _ _ hLc (lv_sub hl [3, 4, 1, 0] rfl)
    · skip
      have c24 : ¬ (f2 i + c1 ≤ g i) := fun z => c24 ((isb_ge (by omega) (by omega) (by omega)).mpr z)
      refine lv_iconst (v := nI 1) hx hb dM0_subtract_27 (by decide) ?_
      refine lv_goto (tgt := 32) hx hb dM0_subtract_28 (by decide) ?_
      refine lv_istore_n (lv' := [(2, .int (nI 1)), (4, .int ((nI (g i) - nI (f2 i)) - nI c1)), (0, .ref a), (1, .ref b), (3, .int (nI i))]) hx hb dM0_subtract_32 rfl hl (by decide) rfl (fun ls hl => ?_)
      refine lv_aload_n hx hb dM0_subtract_33 rfl (lv_at hl 2 rfl) ?_
      refine lv_iload_n hx hb dM0_subtract_34 rfl (lv_at hl 4 rfl) ?_
      refine lv_iload hx hb dM0_subtract_35 (lv_at hl 1 rfl) ?_
      refine lv_bipush (v := nI 10) hx hb dM0_subtract_37 (by decide) ?_
      refine lv_iload_n hx hb dM0_subtract_39 rfl (lv_at hl 0 rfl) ?_
      refine m_imul (a := 10) (b := 1) hx hb dM0_subtract_40 ?_
      refine lv_iadd hx hb dM0_subtract_41 ?_
      rw [isb1 (by omega)]
      refine m_nast (n := 330) (f := g) (b0 := b0) hx hb hK (hput_self _ (lt_of_at ht)) (by omega) (by decide) (hbt) hLc dM0_subtract_42 (fun locs hLc => ?_)
      rw [hput_put]
      refine lv_iinc (v := nI (i + 1)) (lv' := [(3, .int (nI (i + 1))), (2, .int (nI 1)), (4, .int ((nI (g i) - nI (f2 i)) - nI c1)), (0, .ref a), (1, .ref b)]) hx hb dM0_subtract_43 hl (k := 4) rfl (nI_add i 1) (by decide) rfl (fun ls hl => ?_)
      refine lv_goto (tgt := 4) hx hb dM0_subtract_46 (by decide) ?_
      exact ih (i + 1) _ _ (by omega) (dlm_fup hg (by omega)) (fun j hj => by rw [fup_n _ _ (by omega)]; exact hs j (by omega)) (by omega) (by rw [hgf]; exact sub_stepd1 (by omega) hv) _ _ hLc (lv_sub hl [3, 4, 1, 0] rfl)
set_option maxRecDepth 100000 in
set_option maxHeartbeats 4000000 in
theorem c_M0_subtract (l : Launch) (G : gG) (b0 : Nat) (H : Heap) {a b : Nat} {f1 f2 : Nat → Nat} (ht : H[a]? = some (aN G 330 f1)) (hb0 : H[b]? = some (aN G 330 f2)) (hf1 : dlm f1 330) (hf2 : dlm f2 330) (hba : b ≠ a) (hbt : b0 ≤ a) : Met l yM0_subtract wsM0_subtract ({ frames := 0, cells := 0, slots := 0, locals := 0 } : Room) (PcH G H [.ref a, .ref b]) (QcV (fun H1 => ∃ (g : Nat → Nat) (c1 : Nat), dlm g 330 ∧ dl g 330 + dl f2 330 = dl f1 330 + c1 * 10 ^ 330 ∧ H1 = hput H a (aN G 330 g))) 0 0 (fre b0) := by
  refine m_enter (cc := cM0_subtract) (maxL := 5) (ret := none) (own := RM0) (by decide) rfl rfl (Nat.le_of_ble_eq_true rfl) ?_
  intro p e s m below meth c ls hF hnm hH hl
  have hl : lv_has ls 5 [(0, .ref a), (1, .ref b)] := hl
  have hLc : lcs b0 [] := lcs_nil b0
  obtain ⟨hx, hb, hr, hml, hown, hts, hlocks, hK⟩ := id hF
  refine lv_iconst (v := nI 0) hx hb dM0_subtract_0 (by decide) ?_
  refine lv_istore_n (lv' := [(2, .int (nI 0)), (0, .ref a), (1, .ref b)]) hx hb dM0_subtract_1 rfl hl (by decide) rfl (fun ls hl => ?_)
  refine lv_iconst (v := nI 0) hx hb dM0_subtract_2 (by decide) ?_
  refine lv_istore_n (lv' := [(3, .int (nI 0)), (2, .int (nI 0)), (0, .ref a), (1, .ref b)]) hx hb dM0_subtract_3 rfl hl (by decide) rfl (fun ls hl => ?_)
  have hl := lv_sub (l' := [(0, .ref a), (1, .ref b), (2, .int (nI 0)), (3, .int (nI 0))]) hl [2, 3, 1, 0] rfl
  have hh := rsubtract_4 (l := l) (e := e) (below := below) hF ht hb0 hf1 hf2 hba hbt 330 0 0 f1 (by omega) hf1 (fun j _ => rfl) (by omega) rfl _ _ hLc hl
  rw [hput_same ht] at hh
  exact hh

set_option maxRecDepth 100000 in
set_option maxHeartbeats 4000000 in
theorem power_10 {p : Program} {l : Launch} {e : Env} {s : State} {m : MethodId} {args : Array Value} {below : List Frame} {meth : Method} {c : Code} {G : gG} {b0 : Nat} {H : Heap} {a n : Nat} {f : Nat → Nat} (hF : FxM p s m args meth c G cM0_power 3 none RM0 wsM0_power) (ht : H[a]? = some (aN G 330 f)) (hbt : b0 ≤ a) (hn : n ≤ 512) : ∀ (q : Nat) (i : Nat) (g : Nat → Nat), i + q = n → dlm g 330 → dl g 330 = 2 ^ i → ∀ (locs : List Loc) (ls : Array Slot), lcs b0 locs → lv_has ls 3 [(0, .ref a), (1, .int (nI n)), (2, .int (nI i))] → W p l e ({ frames := 1, cells := 0, slots := 0, locals := 25 } : Room) s m args below meth c (hput H a (aN G 330 g)) locs 0 0 (MQ below (QcV (fun H1 => ∃ g : Nat → Nat, dlm g 330 ∧ dl g 330 = 2 ^ n ∧ H1 = hput H a (aN G 330 g))) args s 0 0 (fre b0)) (F0 m 10 ls []) := by
  obtain ⟨hx, hb, hr, hml, hown, hts, hlocks, hK⟩ := id hF
  intro q
  induction q with
  | zero =>
    intro i g hi hg hv locs ls hLc hl
    refine lv_iload_n hx hb dM0_power_10 rfl (lv_at hl 2 rfl) ?_
    refine lv_iload_n hx hb dM0_power_11 rfl (lv_at hl 1 rfl) ?_
    refine lv_icmp_ge (tgt := 27) hx hb dM0_power_12 (by decide) (fun _ => ?_) (fun h => absurd (nI_le (by omega) (by omega)) h)
    exact m_vret hx hb hr hlocks hLc dM0_power_27 (⟨g, hg, by rw [hv, show i = n by omega], rfl⟩)
  | succ q ih =>
    intro i g hi hg hv locs ls hLc hl
    refine lv_iload_n hx hb dM0_power_10 rfl (lv_at hl 2 rfl) ?_
    refine lv_iload_n hx hb dM0_power_11 rfl (lv_at hl 1 rfl) ?_
    refine lv_icmp_ge (tgt := 27) hx hb dM0_power_12 (by decide) (fun h => absurd h (nI_ge (by omega) (by omega))) (fun _ => ?_)
    refine lv_aload_n hx hb dM0_power_15 rfl (lv_at hl 0 rfl) ?_
    refine lv_iconst (v := nI 2) hx hb dM0_power_16 (by decide) ?_
    refine lv_iconst (v := nI 0) hx hb dM0_power_17 (by decide) ?_
    refine mc_v0 (va_runS (As := [.ref a, .int (nI 2), .int (nI 0)]) (rest := []) ⟨hx, hb, hml, hown, hts⟩ (c_M0_grow l G b0 (hput H a (aN G 330 g)) (hput_self _ (lt_of_at ht)) hg hbt (by decide) (by decide)) (va_cwS 3 hts gM0_power_M0_grow rfl rfl rfl (by decide +kernel) ⟨Nat.le_of_ble_eq_true rfl, Nat.le_of_ble_eq_true rfl⟩) (mp_S hK) rfl rfl hl.1 rfl (lv_room (Nat.le_of_ble_eq_true rfl)) dM0_power_18 ⟨Nat.le_of_ble_eq_true rfl, Nat.le_of_ble_eq_true rfl⟩) hLc (fun H1 locs hP hLc => ?_)
    obtain ⟨g2, c2, hg2, hv2, rfl⟩ := hP
    rw [hput_put]
    have hv3 : dl g2 330 = 2 ^ (i + 1) := by rw [hv] at hv2; exact pow_fit (pw10 (show i + 1 ≤ 512 by omega)) hv2
    refine lv_iinc (v := nI (i + 1)) (lv' := [(2, .int (nI (i + 1))), (0, .ref a), (1, .int (nI n))]) hx hb dM0_power_21 hl (k := 2) rfl (nI_add i 1) (by decide) rfl (fun ls hl => ?_)
    refine lv_goto (tgt := 10) hx hb dM0_power_24 (by decide) ?_
    exact ih (i + 1) g2 (by omega) hg2 hv3 _ _ hLc (lv_sub hl [1, 2, 0] rfl)
set_option maxRecDepth 100000 in
set_option maxHeartbeats 4000000 in
theorem c_M0_power (l : Launch) (G : gG) (b0 : Nat) (H : Heap) {a n : Nat} {f : Nat → Nat} (ht : H[a]? = some (aN G 330 f)) (hbt : b0 ≤ a) (hn : n ≤ 512) : Met l yM0_power wsM0_power ({ frames := 1, cells := 0, slots := 0, locals := 25 } : Room) (PcH G H [.ref a, .int (nI n)]) (QcV (fun H1 => ∃ g : Nat → Nat, dlm g 330 ∧ dl g 330 = 2 ^ n ∧ H1 = hput H a (aN G 330 g))) 0 0 (fre b0) := by
  refine m_enter (cc := cM0_power) (maxL := 3) (ret := none) (own := RM0) (by decide) rfl rfl (Nat.le_of_ble_eq_true rfl) ?_
  intro p e s m below meth c ls hF hnm hH hl
  have hl : lv_has ls 3 [(0, .ref a), (1, .int (nI n))] := hl
  have hLc : lcs b0 [] := lcs_nil b0
  obtain ⟨hx, hb, hr, hml, hown, hts, hlocks, hK⟩ := id hF
  refine lv_aload_n hx hb dM0_power_0 rfl (lv_at hl 0 rfl) ?_
  refine mc_v0 (va_runS (As := [.ref a]) (rest := []) ⟨hx, hb, hml, hown, hts⟩ (c_M0_clear l G b0 H ht hbt) (va_cwS 1 hts gM0_power_M0_clear rfl rfl rfl (by decide +kernel) ⟨Nat.le_of_ble_eq_true rfl, Nat.le_of_ble_eq_true rfl⟩) (mp_S hK) rfl rfl hl.1 rfl (lv_room (Nat.le_of_ble_eq_true rfl)) dM0_power_1 ⟨Nat.le_of_ble_eq_true rfl, Nat.le_of_ble_eq_true rfl⟩) hLc (fun H1 locs hP hLc => ?_)
  subst hP
  refine lv_aload_n hx hb dM0_power_4 rfl (lv_at hl 0 rfl) ?_
  refine lv_iconst (v := nI 0) hx hb dM0_power_5 (by decide) ?_
  refine lv_iconst (v := nI 1) hx hb dM0_power_6 (by decide) ?_
  refine m_nast (n := 330) (f := (fun _ => 0)) (b0 := b0) hx hb hK (hput_self _ (lt_of_at ht)) (by omega) (by decide) (hbt) hLc dM0_power_7 (fun locs hLc => ?_)
  rw [hput_put]
  refine lv_iconst (v := nI 0) hx hb dM0_power_8 (by decide) ?_
  refine lv_istore_n (lv' := [(2, .int (nI 0)), (0, .ref a), (1, .int (nI n))]) hx hb dM0_power_9 rfl hl (by decide) rfl (fun ls hl => ?_)
  exact power_10 hF ht hbt hn n 0 _ (by omega) (dlm_fup (fun j _ => (by decide : 0 < 10)) (by decide)) (dl_one 329) _ _ hLc (lv_sub hl [1, 2, 0] rfl)

set_option maxRecDepth 100000 in
set_option maxHeartbeats 4000000 in
theorem c_M0_worth (l : Launch) (G : gG) (b0 : Nat) (H : Heap) {x : Nat} (hx0 : x < 256) : Met l yM0_worth wsM0_worth ({ frames := 0, cells := 0, slots := 0, locals := 0 } : Room) (PcH G H [.int (nI x)]) (QcI (fun r H1 => r = nI (worthN x) ∧ H = H1)) 0 0 (fre b0) := by
  refine m_enter (cc := cM0_worth) (maxL := 1) (ret := (some .int)) (own := RM0) (by decide) rfl rfl (Nat.le_of_ble_eq_true rfl) ?_
  intro p e s m below meth c ls hF hnm hH hl
  have hl : lv_has ls 1 [(0, .int (nI x))] := hl
  have hLc : lcs b0 [] := lcs_nil b0
  obtain ⟨hx, hb, hr, hml, hown, hts, hlocks, hK⟩ := id hF
  refine lv_iload_n hx hb dM0_worth_0 rfl (lv_at hl 0 rfl) ?_
  refine lv_bipush (v := nI 48) hx hb dM0_worth_1 (by decide) ?_
  refine m_icmp_lt (tgt := 19) hx hb (by omega) (by omega) dM0_worth_3 (by decide) (fun c3 => ?_) (fun c3 => ?_)
  · skip
    refine lv_iload_n hx hb dM0_worth_19 rfl (lv_at hl 0 rfl) ?_
    refine lv_bipush (v := nI 97) hx hb dM0_worth_20 (by decide) ?_
    refine m_icmp_lt (tgt := 41) hx hb (by omega) (by omega) dM0_worth_22 (by decide) (fun c22 => ?_) (fun c22 => ?_)
    · skip
      refine lv_iload_n hx hb dM0_worth_41 rfl (lv_at hl 0 rfl) ?_
      refine lv_bipush (v := nI 65) hx hb dM0_worth_42 (by decide) ?_
      refine m_icmp_lt (tgt := 63) hx hb (by omega) (by omega) dM0_worth_44 (by decide) (fun c44 => ?_) (fun c44 => ?_)
      · skip
        refine lv_bipush (v := nI 99) hx hb dM0_worth_63 (by decide) ?_
        exact m_iret hx hb hr hlocks hLc dM0_worth_65 (⟨congrArg nI (by unfold worthN; (repeat' split) <;> omega), rfl⟩)
      · skip
        refine lv_iload_n hx hb dM0_worth_47 rfl (lv_at hl 0 rfl) ?_
        refine lv_bipush (v := nI 90) hx hb dM0_worth_48 (by decide) ?_
        refine m_icmp_gt (tgt := 63) hx hb (by omega) (by omega) dM0_worth_50 (by decide) (fun c50 => ?_) (fun c50 => ?_)
        · skip
          refine lv_bipush (v := nI 99) hx hb dM0_worth_63 (by decide) ?_
          exact m_iret hx hb hr hlocks hLc dM0_worth_65 (⟨congrArg nI (by unfold worthN; (repeat' split) <;> omega), rfl⟩)
        · skip
          refine lv_iload_n hx hb dM0_worth_53 rfl (lv_at hl 0 rfl) ?_
          refine lv_bipush (v := nI 65) hx hb dM0_worth_54 (by decide) ?_
          refine m_isub (a := x) (b := 65) hx hb (by omega) dM0_worth_56 ?_
          refine lv_bipush (v := nI 10) hx hb dM0_worth_57 (by decide) ?_
          refine m_iadd (a := x - 65) (b := 10) hx hb dM0_worth_59 ?_
          refine lv_goto (tgt := 65) hx hb dM0_worth_60 (by decide) ?_
          exact m_iret hx hb hr hlocks hLc dM0_worth_65 (⟨congrArg nI (by unfold worthN; (repeat' split) <;> omega), rfl⟩)
    · skip
      refine lv_iload_n hx hb dM0_worth_25 rfl (lv_at hl 0 rfl) ?_
      refine lv_bipush (v := nI 122) hx hb dM0_worth_26 (by decide) ?_
      refine m_icmp_gt (tgt := 41) hx hb (by omega) (by omega) dM0_worth_28 (by decide) (fun c28 => ?_) (fun c28 => ?_)
      · skip
        refine lv_iload_n hx hb dM0_worth_41 rfl (lv_at hl 0 rfl) ?_
        refine lv_bipush (v := nI 65) hx hb dM0_worth_42 (by decide) ?_
        refine m_icmp_lt (tgt := 63) hx hb (by omega) (by omega) dM0_worth_44 (by decide) (fun c44 => ?_) (fun c44 => ?_)
        · skip
          refine lv_bipush (v := nI 99) hx hb dM0_worth_63 (by decide) ?_
          exact m_iret hx hb hr hlocks hLc dM0_worth_65 (⟨congrArg nI (by unfold worthN; (repeat' split) <;> omega), rfl⟩)
        · skip
          refine lv_iload_n hx hb dM0_worth_47 rfl (lv_at hl 0 rfl) ?_
          refine lv_bipush (v := nI 90) hx hb dM0_worth_48 (by decide) ?_
          refine m_icmp_gt (tgt := 63) hx hb (by omega) (by omega) dM0_worth_50 (by decide) (fun c50 => ?_) (fun c50 => ?_)
          · skip
            refine lv_bipush (v := nI 99) hx hb dM0_worth_63 (by decide) ?_
            exact m_iret hx hb hr hlocks hLc dM0_worth_65 (⟨congrArg nI (by unfold worthN; (repeat' split) <;> omega), rfl⟩)
          · skip
            refine lv_iload_n hx hb dM0_worth_53 rfl (lv_at hl 0 rfl) ?_
            refine lv_bipush (v := nI 65) hx hb dM0_worth_54 (by decide) ?_
            refine m_isub (a := x) (b := 65) hx hb (by omega) dM0_worth_56 ?_
            refine lv_bipush (v := nI 10) hx hb dM0_worth_57 (by decide) ?_
            refine m_iadd (a := x - 65) (b := 10) hx hb dM0_worth_59 ?_
            refine lv_goto (tgt := 65) hx hb dM0_worth_60 (by decide) ?_
            exact m_iret hx hb hr hlocks hLc dM0_worth_65 (⟨congrArg nI (by unfold worthN; (repeat' split) <;> omega), rfl⟩)
      · skip
        refine lv_iload_n hx hb dM0_worth_31 rfl (lv_at hl 0 rfl) ?_
        refine lv_bipush (v := nI 97) hx hb dM0_worth_32 (by decide) ?_
        refine m_isub (a := x) (b := 97) hx hb (by omega) dM0_worth_34 ?_
        refine lv_bipush (v := nI 10) hx hb dM0_worth_35 (by decide) ?_
        refine m_iadd (a := x - 97) (b := 10) hx hb dM0_worth_37 ?_
        refine lv_goto (tgt := 65) hx hb dM0_worth_38 (by decide) ?_
        exact m_iret hx hb hr hlocks hLc dM0_worth_65 (⟨congrArg nI (by unfold worthN; (repeat' split) <;> omega), rfl⟩)
  · skip
    refine lv_iload_n hx hb dM0_worth_6 rfl (lv_at hl 0 rfl) ?_
    refine lv_bipush (v := nI 57) hx hb dM0_worth_7 (by decide) ?_
    refine m_icmp_gt (tgt := 19) hx hb (by omega) (by omega) dM0_worth_9 (by decide) (fun c9 => ?_) (fun c9 => ?_)
    · skip
      refine lv_iload_n hx hb dM0_worth_19 rfl (lv_at hl 0 rfl) ?_
      refine lv_bipush (v := nI 97) hx hb dM0_worth_20 (by decide) ?_
      refine m_icmp_lt (tgt := 41) hx hb (by omega) (by omega) dM0_worth_22 (by decide) (fun c22 => ?_) (fun c22 => ?_)
      · skip
        refine lv_iload_n hx hb dM0_worth_41 rfl (lv_at hl 0 rfl) ?_
        refine lv_bipush (v := nI 65) hx hb dM0_worth_42 (by decide) ?_
        refine m_icmp_lt (tgt := 63) hx hb (by omega) (by omega) dM0_worth_44 (by decide) (fun c44 => ?_) (fun c44 => ?_)
        · skip
          refine lv_bipush (v := nI 99) hx hb dM0_worth_63 (by decide) ?_
          exact m_iret hx hb hr hlocks hLc dM0_worth_65 (⟨congrArg nI (by unfold worthN; (repeat' split) <;> omega), rfl⟩)
        · skip
          refine lv_iload_n hx hb dM0_worth_47 rfl (lv_at hl 0 rfl) ?_
          refine lv_bipush (v := nI 90) hx hb dM0_worth_48 (by decide) ?_
          refine m_icmp_gt (tgt := 63) hx hb (by omega) (by omega) dM0_worth_50 (by decide) (fun c50 => ?_) (fun c50 => ?_)
          · skip
            refine lv_bipush (v := nI 99) hx hb dM0_worth_63 (by decide) ?_
            exact m_iret hx hb hr hlocks hLc dM0_worth_65 (⟨congrArg nI (by unfold worthN; (repeat' split) <;> omega), rfl⟩)
          · skip
            refine lv_iload_n hx hb dM0_worth_53 rfl (lv_at hl 0 rfl) ?_
            refine lv_bipush (v := nI 65) hx hb dM0_worth_54 (by decide) ?_
            refine m_isub (a := x) (b := 65) hx hb (by omega) dM0_worth_56 ?_
            refine lv_bipush (v := nI 10) hx hb dM0_worth_57 (by decide) ?_
            refine m_iadd (a := x - 65) (b := 10) hx hb dM0_worth_59 ?_
            refine lv_goto (tgt := 65) hx hb dM0_worth_60 (by decide) ?_
            exact m_iret hx hb hr hlocks hLc dM0_worth_65 (⟨congrArg nI (by unfold worthN; (repeat' split) <;> omega), rfl⟩)
      · skip
        refine lv_iload_n hx hb dM0_worth_25 rfl (lv_at hl 0 rfl) ?_
        refine lv_bipush (v := nI 122) hx hb dM0_worth_26 (by decide) ?_
        refine m_icmp_gt (tgt := 41) hx hb (by omega) (by omega) dM0_worth_28 (by decide) (fun c28 => ?_) (fun c28 => ?_)
        · skip
          refine lv_iload_n hx hb dM0_worth_41 rfl (lv_at hl 0 rfl) ?_
          refine lv_bipush (v := nI 65) hx hb dM0_worth_42 (by decide) ?_
          refine m_icmp_lt (tgt := 63) hx hb (by omega) (by omega) dM0_worth_44 (by decide) (fun c44 => ?_) (fun c44 => ?_)
          · skip
            refine lv_bipush (v := nI 99) hx hb dM0_worth_63 (by decide) ?_
            exact m_iret hx hb hr hlocks hLc dM0_worth_65 (⟨congrArg nI (by unfold worthN; (repeat' split) <;> omega), rfl⟩)
          · skip
            refine lv_iload_n hx hb dM0_worth_47 rfl (lv_at hl 0 rfl) ?_
            refine lv_bipush (v := nI 90) hx hb dM0_worth_48 (by decide) ?_
            refine m_icmp_gt (tgt := 63) hx hb (by omega) (by omega) dM0_worth_50 (by decide) (fun c50 => ?_) (fun c50 => ?_)
            · skip
              refine lv_bipush (v := nI 99) hx hb dM0_worth_63 (by decide) ?_
              exact m_iret hx hb hr hlocks hLc dM0_worth_65 (⟨congrArg nI (by unfold worthN; (repeat' split) <;> omega), rfl⟩)
            · skip
              refine lv_iload_n hx hb dM0_worth_53 rfl (lv_at hl 0 rfl) ?_
              refine lv_bipush (v := nI 65) hx hb dM0_worth_54 (by decide) ?_
              refine m_isub (a := x) (b := 65) hx hb (by omega) dM0_worth_56 ?_
              refine lv_bipush (v := nI 10) hx hb dM0_worth_57 (by decide) ?_
              refine m_iadd (a := x - 65) (b := 10) hx hb dM0_worth_59 ?_
              refine lv_goto (tgt := 65) hx hb dM0_worth_60 (by decide) ?_
              exact m_iret hx hb hr hlocks hLc dM0_worth_65 (⟨congrArg nI (by unfold worthN; (repeat' split) <;> omega), rfl⟩)
        · skip
          refine lv_iload_n hx hb dM0_worth_31 rfl (lv_at hl 0 rfl) ?_
          refine lv_bipush (v := nI 97) hx hb dM0_worth_32 (by decide) ?_
          refine m_isub (a := x) (b := 97) hx hb (by omega) dM0_worth_34 ?_
          refine lv_bipush (v := nI 10) hx hb dM0_worth_35 (by decide) ?_
          refine m_iadd (a := x - 97) (b := 10) hx hb dM0_worth_37 ?_
          refine lv_goto (tgt := 65) hx hb dM0_worth_38 (by decide) ?_
          exact m_iret hx hb hr hlocks hLc dM0_worth_65 (⟨congrArg nI (by unfold worthN; (repeat' split) <;> omega), rfl⟩)
    · skip
      refine lv_iload_n hx hb dM0_worth_12 rfl (lv_at hl 0 rfl) ?_
      refine lv_bipush (v := nI 48) hx hb dM0_worth_13 (by decide) ?_
      refine m_isub (a := x) (b := 48) hx hb (by omega) dM0_worth_15 ?_
      refine lv_goto (tgt := 65) hx hb dM0_worth_16 (by decide) ?_
      exact m_iret hx hb hr hlocks hLc dM0_worth_65 (⟨congrArg nI (by unfold worthN; (repeat' split) <;> omega), rfl⟩)
