set_option maxRecDepth 100000 in
set_option maxHeartbeats 4000000 in
theorem fill_6 {p : Program} {l : Launch} {e : Env} {s : State} {m : MethodId} {args : Array Value} {below : List Frame} {meth : Method} {c : Code} {G : gG} {b0 : Nat} {H : Heap} {a n x : Nat} {f : Nat → Nat} (hF : FxM p s m args meth c G cJ7_fill_d0a16 5 none RJ7 wsJ7_fill_d0a16) (ht : H[a]? = some (aJ G n f)) (hn : n < 2 ^ 31) (hbt : b0 ≤ a) : ∀ (q : Nat) (i : Nat) (g : Nat → Nat), i + q = n → (∀ j, j < i → g j = x) → ∀ (locs : List Loc) (ls : Array Slot), lcs b0 locs → lv_has ls 5 [(0, .ref a), (1, .long (lN x)), (3, .int (nI i)), (4, .int (nI n))] → W p l e ({ frames := 0, cells := 0, slots := 0, locals := 0 } : Room) s m args below meth c (hput H a (aJ G n g)) locs 0 0 (MQ below (QcV (fun H1 => H1 = hput H a (aJ G n (fun _ => x)))) args s 0 0 (fre b0)) (F0 m 6 ls []) := by
  obtain ⟨hx, hb, hr, hml, hown, hts, hlocks, hK⟩ := id hF
  intro q
  induction q with
  | zero =>
    intro i g hi hg locs ls hLc hl
    refine lv_iload_n hx hb dJ7_fill_d0a16_6 rfl (lv_at hl 2 rfl) ?_
    refine lv_iload hx hb dJ7_fill_d0a16_7 (lv_at hl 3 rfl) ?_
    refine lv_icmp_ge (tgt := 22) hx hb dJ7_fill_d0a16_9 (by decide) (fun _ => ?_) (fun h => absurd (nI_le (by omega) (by omega)) h)
    exact m_vret hx hb hr hlocks hLc dJ7_fill_d0a16_22 (congrArg (hput H a) (aJ_congr G (fun j hj => hg j (by omega))))
  | succ q ih =>
    intro i g hi hg locs ls hLc hl
    refine lv_iload_n hx hb dJ7_fill_d0a16_6 rfl (lv_at hl 2 rfl) ?_
    refine lv_iload hx hb dJ7_fill_d0a16_7 (lv_at hl 3 rfl) ?_
    refine lv_icmp_ge (tgt := 22) hx hb dJ7_fill_d0a16_9 (by decide) (fun h => absurd h (nI_ge (by omega) (by omega))) (fun _ => ?_)
    refine lv_aload_n hx hb dJ7_fill_d0a16_12 rfl (lv_at hl 0 rfl) ?_
    refine lv_iload_n hx hb dJ7_fill_d0a16_13 rfl (lv_at hl 2 rfl) ?_
    refine lv_lload_n hx hb dJ7_fill_d0a16_14 rfl (lv_at hl 1 rfl) ?_
    refine m_last (n := n) (f := g) (b0 := b0) hx hb hK (hput_self _ (lt_of_at ht)) (by omega) (hn) (hbt) hLc dJ7_fill_d0a16_15 (fun locs hLc => ?_)
    rw [hput_put]
    refine lv_iinc (v := nI (i + 1)) (lv' := [(3, .int (nI (i + 1))), (0, .ref a), (1, .long (lN x)), (4, .int (nI n))]) hx hb dJ7_fill_d0a16_16 hl (k := 2) rfl (nI_add i 1) (by decide) rfl (fun ls hl => ?_)
    refine lv_goto (tgt := 6) hx hb dJ7_fill_d0a16_19 (by decide) ?_
    exact ih (i + 1) _ (by omega) (fup_eq hg rfl) _ _ hLc (lv_sub hl [1, 2, 0, 3] rfl)
set_option maxRecDepth 100000 in
set_option maxHeartbeats 4000000 in
theorem c_J7_fill_d0a16 (l : Launch) (G : gG) (b0 : Nat) (H : Heap) {a n x : Nat} {f : Nat → Nat} (ht : H[a]? = some (aJ G n f)) (hn : n < 2 ^ 31) (hbt : b0 ≤ a) : Met l yJ7_fill_d0a16 wsJ7_fill_d0a16 ({ frames := 0, cells := 0, slots := 0, locals := 0 } : Room) (PcH G H [.ref a, .long (lN x)]) (QcV (fun H1 => H1 = hput H a (aJ G n (fun _ => x)))) 0 0 (fre b0) := by
  refine m_enter (cc := cJ7_fill_d0a16) (maxL := 5) (ret := none) (own := RJ7) (by decide) rfl rfl (Nat.le_of_ble_eq_true rfl) ?_
  intro p e s m below meth c ls hF hnm hH hl
  have hl : lv_has ls 5 [(0, .ref a), (1, .long (lN x))] := hl
  have hLc : lcs b0 [] := lcs_nil b0
  obtain ⟨hx, hb, hr, hml, hown, hts, hlocks, hK⟩ := id hF
  refine lv_iconst (v := nI 0) hx hb dJ7_fill_d0a16_0 (by decide) ?_
  refine lv_istore_n (lv' := [(3, .int (nI 0)), (0, .ref a), (1, .long (lN x))]) hx hb dJ7_fill_d0a16_1 rfl hl (by decide) rfl (fun ls hl => ?_)
  refine lv_aload_n hx hb dJ7_fill_d0a16_2 rfl (lv_at hl 1 rfl) ?_
  refine m_alenJ (n := n) (f := f) hx hb hK (ht) dJ7_fill_d0a16_3 ?_
  refine lv_istore (lv' := [(4, .int (nI n)), (3, .int (nI 0)), (0, .ref a), (1, .long (lN x))]) hx hb dJ7_fill_d0a16_4 hl (by decide) rfl (fun ls hl => ?_)
  have hl := lv_sub (l' := [(0, .ref a), (1, .long (lN x)), (3, .int (nI 0)), (4, .int (nI n))]) hl [2, 3, 1, 0] rfl
  have hh := fill_6 (l := l) (e := e) (below := below) hF ht hn hbt n 0 f (by omega) (fun j hj => absurd hj (by omega)) _ _ hLc hl
  rw [hput_same ht] at hh
  exact hh

set_option maxRecDepth 100000 in
set_option maxHeartbeats 4000000 in
theorem nlz_73 {p : Program} {l : Launch} {e : Env} {s : State} {m : MethodId} {args : Array Value} {below : List Frame} {meth : Method} {c : Code} {G : gG} {b0 : Nat} {H : Heap} {x y n : Nat} (hF : FxM p s m args meth c G cJ6_numberOfLeadingZeros_0f7a4 2 (some .int) RJ6 wsJ6_numberOfLeadingZeros_0f7a4) (hn : n ≤ 31) (hy : y = x / 2 ^ (31 - n)) (hy0 : 0 < y) (hyb : y < 4) (hnk : 1 ≤ n) : ∀ (locs : List Loc) (ls : Array Slot), lcs b0 locs → lv_has ls 2 [(0, .int (nI y)), (1, .int (nI n))] → W p l e ({ frames := 0, cells := 0, slots := 0, locals := 0 } : Room) s m args below meth c H locs 0 0 (MQ below (QcI (fun r H1 => (∃ k, r = nI (31 - k) ∧ k ≤ 31 ∧ 2 ^ k ≤ x ∧ x < 2 ^ (k + 1)) ∧ H = H1)) args s 0 0 (fre b0)) (F0 m 73 ls []) := by
  obtain ⟨hx, hb, hr, hml, hown, hts, hlocks, hK⟩ := id hF
  intro locs ls hLc hl
  refine lv_iload_n hx hb dJ6_numberOfLeadingZeros_0f7a4_73 rfl (lv_at hl 1 rfl) ?_
  refine lv_iload_n hx hb dJ6_numberOfLeadingZeros_0f7a4_74 rfl (lv_at hl 0 rfl) ?_
  refine lv_iconst (v := nI 1) hx hb dJ6_numberOfLeadingZeros_0f7a4_75 (by decide) ?_
  refine m_iushr hx hb (by omega) (by decide) dJ6_numberOfLeadingZeros_0f7a4_76 ?_
  refine m_isub (a := n) (b := y / 2 ^ 1) hx hb (by omega) dJ6_numberOfLeadingZeros_0f7a4_77 ?_
  exact m_iret hx hb hr hlocks hLc dJ6_numberOfLeadingZeros_0f7a4_78 (⟨⟨31 - n + y / 2, by rw [nlz_eq hn hyb hy0], nlz_end hn hy hyb hy0 hnk⟩, rfl⟩)
set_option maxRecDepth 100000 in
set_option maxHeartbeats 4000000 in
theorem nlz_61 {p : Program} {l : Launch} {e : Env} {s : State} {m : MethodId} {args : Array Value} {below : List Frame} {meth : Method} {c : Code} {G : gG} {b0 : Nat} {H : Heap} {x y n : Nat} (hF : FxM p s m args meth c G cJ6_numberOfLeadingZeros_0f7a4 2 (some .int) RJ6 wsJ6_numberOfLeadingZeros_0f7a4) (hn : n ≤ 31) (hy : y = x / 2 ^ (31 - n)) (hy0 : 0 < y) (hyb : y < 16) (hnk : 3 ≤ n) : ∀ (locs : List Loc) (ls : Array Slot), lcs b0 locs → lv_has ls 2 [(0, .int (nI y)), (1, .int (nI n))] → W p l e ({ frames := 0, cells := 0, slots := 0, locals := 0 } : Room) s m args below meth c H locs 0 0 (MQ below (QcI (fun r H1 => (∃ k, r = nI (31 - k) ∧ k ≤ 31 ∧ 2 ^ k ≤ x ∧ x < 2 ^ (k + 1)) ∧ H = H1)) args s 0 0 (fre b0)) (F0 m 61 ls []) := by
  obtain ⟨hx, hb, hr, hml, hown, hts, hlocks, hK⟩ := id hF
  intro locs ls hLc hl
  refine lv_iload_n hx hb dJ6_numberOfLeadingZeros_0f7a4_61 rfl (lv_at hl 0 rfl) ?_
  refine lv_iconst (v := nI 4) hx hb dJ6_numberOfLeadingZeros_0f7a4_62 (by decide) ?_
  refine m_icmp_lt (tgt := 73) hx hb (by omega) (by decide) dJ6_numberOfLeadingZeros_0f7a4_63 (by decide) (fun c63 => ?_) (fun c63 => ?_)
  · skip
    exact nlz_73 hF hn hy hy0 (by omega) (by omega) _ _ hLc (lv_sub hl [0, 1] rfl)
  · skip
    refine lv_iinc (v := nI (n - 2)) (lv' := [(1, .int (nI (n - 2))), (0, .int (nI y))]) hx hb dJ6_numberOfLeadingZeros_0f7a4_66 hl (k := 1) rfl (nI_decK 2 rfl (by omega)) (by decide) rfl (fun ls hl => ?_)
    refine lv_iload_n hx hb dJ6_numberOfLeadingZeros_0f7a4_69 rfl (lv_at hl 1 rfl) ?_
    refine lv_iconst (v := nI 2) hx hb dJ6_numberOfLeadingZeros_0f7a4_70 (by decide) ?_
    refine m_iushr hx hb (by omega) (by decide) dJ6_numberOfLeadingZeros_0f7a4_71 ?_
    refine lv_istore_n (lv' := [(0, .int (nI (y / 2 ^ 2))), (1, .int (nI (n - 2)))]) hx hb dJ6_numberOfLeadingZeros_0f7a4_72 rfl hl (by decide) rfl (fun ls hl => ?_)
    exact nlz_73 hF (by omega) (nlz_step hn (by omega) hy) (nlz_pos (by omega)) (by omega) (by omega) _ _ hLc (lv_sub hl [0, 1] rfl)
set_option maxRecDepth 100000 in
set_option maxHeartbeats 4000000 in
theorem nlz_48 {p : Program} {l : Launch} {e : Env} {s : State} {m : MethodId} {args : Array Value} {below : List Frame} {meth : Method} {c : Code} {G : gG} {b0 : Nat} {H : Heap} {x y n : Nat} (hF : FxM p s m args meth c G cJ6_numberOfLeadingZeros_0f7a4 2 (some .int) RJ6 wsJ6_numberOfLeadingZeros_0f7a4) (hn : n ≤ 31) (hy : y = x / 2 ^ (31 - n)) (hy0 : 0 < y) (hyb : y < 256) (hnk : 7 ≤ n) : ∀ (locs : List Loc) (ls : Array Slot), lcs b0 locs → lv_has ls 2 [(0, .int (nI y)), (1, .int (nI n))] → W p l e ({ frames := 0, cells := 0, slots := 0, locals := 0 } : Room) s m args below meth c H locs 0 0 (MQ below (QcI (fun r H1 => (∃ k, r = nI (31 - k) ∧ k ≤ 31 ∧ 2 ^ k ≤ x ∧ x < 2 ^ (k + 1)) ∧ H = H1)) args s 0 0 (fre b0)) (F0 m 48 ls []) := by
  obtain ⟨hx, hb, hr, hml, hown, hts, hlocks, hK⟩ := id hF
  intro locs ls hLc hl
  refine lv_iload_n hx hb dJ6_numberOfLeadingZeros_0f7a4_48 rfl (lv_at hl 0 rfl) ?_
  refine lv_bipush (v := nI 16) hx hb dJ6_numberOfLeadingZeros_0f7a4_49 (by decide) ?_
  refine m_icmp_lt (tgt := 61) hx hb (by omega) (by decide) dJ6_numberOfLeadingZeros_0f7a4_51 (by decide) (fun c51 => ?_) (fun c51 => ?_)
  · skip
    exact nlz_61 hF hn hy hy0 (by omega) (by omega) _ _ hLc (lv_sub hl [0, 1] rfl)
  · skip
    refine lv_iinc (v := nI (n - 4)) (lv' := [(1, .int (nI (n - 4))), (0, .int (nI y))]) hx hb dJ6_numberOfLeadingZeros_0f7a4_54 hl (k := 1) rfl (nI_decK 4 rfl (by omega)) (by decide) rfl (fun ls hl => ?_)
    refine lv_iload_n hx hb dJ6_numberOfLeadingZeros_0f7a4_57 rfl (lv_at hl 1 rfl) ?_
    refine lv_iconst (v := nI 4) hx hb dJ6_numberOfLeadingZeros_0f7a4_58 (by decide) ?_
    refine m_iushr hx hb (by omega) (by decide) dJ6_numberOfLeadingZeros_0f7a4_59 ?_
    refine lv_istore_n (lv' := [(0, .int (nI (y / 2 ^ 4))), (1, .int (nI (n - 4)))]) hx hb dJ6_numberOfLeadingZeros_0f7a4_60 rfl hl (by decide) rfl (fun ls hl => ?_)
    exact nlz_61 hF (by omega) (nlz_step hn (by omega) hy) (nlz_pos (by omega)) (by omega) (by omega) _ _ hLc (lv_sub hl [0, 1] rfl)
set_option maxRecDepth 100000 in
set_option maxHeartbeats 4000000 in
theorem nlz_33 {p : Program} {l : Launch} {e : Env} {s : State} {m : MethodId} {args : Array Value} {below : List Frame} {meth : Method} {c : Code} {G : gG} {b0 : Nat} {H : Heap} {x y n : Nat} (hF : FxM p s m args meth c G cJ6_numberOfLeadingZeros_0f7a4 2 (some .int) RJ6 wsJ6_numberOfLeadingZeros_0f7a4) (hn : n ≤ 31) (hy : y = x / 2 ^ (31 - n)) (hy0 : 0 < y) (hyb : y < 65536) (hnk : 15 ≤ n) : ∀ (locs : List Loc) (ls : Array Slot), lcs b0 locs → lv_has ls 2 [(0, .int (nI y)), (1, .int (nI n))] → W p l e ({ frames := 0, cells := 0, slots := 0, locals := 0 } : Room) s m args below meth c H locs 0 0 (MQ below (QcI (fun r H1 => (∃ k, r = nI (31 - k) ∧ k ≤ 31 ∧ 2 ^ k ≤ x ∧ x < 2 ^ (k + 1)) ∧ H = H1)) args s 0 0 (fre b0)) (F0 m 33 ls []) := by
  obtain ⟨hx, hb, hr, hml, hown, hts, hlocks, hK⟩ := id hF
  intro locs ls hLc hl
  refine lv_iload_n hx hb dJ6_numberOfLeadingZeros_0f7a4_33 rfl (lv_at hl 0 rfl) ?_
  refine lv_sipush (v := nI 256) hx hb dJ6_numberOfLeadingZeros_0f7a4_34 (by decide) ?_
  refine m_icmp_lt (tgt := 48) hx hb (by omega) (by decide) dJ6_numberOfLeadingZeros_0f7a4_37 (by decide) (fun c37 => ?_) (fun c37 => ?_)
  · skip
    exact nlz_48 hF hn hy hy0 (by omega) (by omega) _ _ hLc (lv_sub hl [0, 1] rfl)
  · skip
    refine lv_iinc (v := nI (n - 8)) (lv' := [(1, .int (nI (n - 8))), (0, .int (nI y))]) hx hb dJ6_numberOfLeadingZeros_0f7a4_40 hl (k := 1) rfl (nI_decK 8 rfl (by omega)) (by decide) rfl (fun ls hl => ?_)
    refine lv_iload_n hx hb dJ6_numberOfLeadingZeros_0f7a4_43 rfl (lv_at hl 1 rfl) ?_
    refine lv_bipush (v := nI 8) hx hb dJ6_numberOfLeadingZeros_0f7a4_44 (by decide) ?_
    refine m_iushr hx hb (by omega) (by decide) dJ6_numberOfLeadingZeros_0f7a4_46 ?_
    refine lv_istore_n (lv' := [(0, .int (nI (y / 2 ^ 8))), (1, .int (nI (n - 8)))]) hx hb dJ6_numberOfLeadingZeros_0f7a4_47 rfl hl (by decide) rfl (fun ls hl => ?_)
    exact nlz_48 hF (by omega) (nlz_step hn (by omega) hy) (nlz_pos (by omega)) (by omega) (by omega) _ _ hLc (lv_sub hl [0, 1] rfl)
set_option maxRecDepth 100000 in
set_option maxHeartbeats 4000000 in
theorem c_J6_numberOfLeadingZeros_0f7a4 (l : Launch) (G : gG) (b0 : Nat) (H : Heap) {x : Nat} (hx0 : 0 < x) (hx1 : x < 2 ^ 32) : Met l yJ6_numberOfLeadingZeros_0f7a4 wsJ6_numberOfLeadingZeros_0f7a4 ({ frames := 0, cells := 0, slots := 0, locals := 0 } : Room) (PcH G H [.int (nI x)]) (QcI (fun r H1 => (∃ k, r = nI (31 - k) ∧ k ≤ 31 ∧ 2 ^ k ≤ x ∧ x < 2 ^ (k + 1)) ∧ H = H1)) 0 0 (fre b0) := by
  refine m_enter (cc := cJ6_numberOfLeadingZeros_0f7a4) (maxL := 2) (ret := (some .int)) (own := RJ6) (by decide) rfl rfl (Nat.le_of_ble_eq_true rfl) ?_
  intro p e s m below meth c ls hF hnm hH hl
  have hl : lv_has ls 2 [(0, .int (nI x))] := hl
  have hLc : lcs b0 [] := lcs_nil b0
  obtain ⟨hx, hb, hr, hml, hown, hts, hlocks, hK⟩ := id hF
  by_cases hz : x < 2 ^ 31
  · skip
    refine lv_iload_n hx hb dJ6_numberOfLeadingZeros_0f7a4_0 rfl (lv_at hl 0 rfl) ?_
    refine lv_if_gt (tgt := 15) hx hb dJ6_numberOfLeadingZeros_0f7a4_1 (by decide) (fun _ => ?_) (fun h => absurd (nI_gt0 hx0 hz) h)
    refine lv_bipush (v := nI 31) hx hb dJ6_numberOfLeadingZeros_0f7a4_15 (by decide) ?_
    refine lv_istore_n (lv' := [(1, .int (nI 31)), (0, .int (nI x))]) hx hb dJ6_numberOfLeadingZeros_0f7a4_17 rfl hl (by decide) rfl (fun ls hl => ?_)
    refine lv_iload_n hx hb dJ6_numberOfLeadingZeros_0f7a4_18 rfl (lv_at hl 1 rfl) ?_
    refine lv_ldcw (v := nI 65536) hx hb hown (hts (.constant RJ6 264 (nI 65536)) (by decide +kernel)) dJ6_numberOfLeadingZeros_0f7a4_19 ?_
    refine m_icmp_lt (tgt := 33) hx hb (by omega) (by decide) dJ6_numberOfLeadingZeros_0f7a4_22 (by decide) (fun c22 => ?_) (fun c22 => ?_)
    · skip
      exact nlz_33 hF (by omega) (by simp) hx0 (by omega) (by omega) _ _ hLc (lv_sub hl [1, 0] rfl)
    · skip
      refine lv_iinc (v := nI 15) (lv' := [(1, .int (nI 15)), (0, .int (nI x))]) hx hb dJ6_numberOfLeadingZeros_0f7a4_25 hl (k := 0) rfl (by decide) (by decide) rfl (fun ls hl => ?_)
      refine lv_iload_n hx hb dJ6_numberOfLeadingZeros_0f7a4_28 rfl (lv_at hl 1 rfl) ?_
      refine lv_bipush (v := nI 16) hx hb dJ6_numberOfLeadingZeros_0f7a4_29 (by decide) ?_
      refine m_iushr hx hb (by omega) (by decide) dJ6_numberOfLeadingZeros_0f7a4_31 ?_
      refine lv_istore_n (lv' := [(0, .int (nI (x / 2 ^ 16))), (1, .int (nI 15))]) hx hb dJ6_numberOfLeadingZeros_0f7a4_32 rfl hl (by decide) rfl (fun ls hl => ?_)
      exact nlz_33 hF (by omega) (by simp) (nlz_pos (by omega)) (by omega) (by omega) _ _ hLc (lv_sub hl [0, 1] rfl)
  · skip
    refine lv_iload_n hx hb dJ6_numberOfLeadingZeros_0f7a4_0 rfl (lv_at hl 0 rfl) ?_
    refine lv_if_gt (tgt := 15) hx hb dJ6_numberOfLeadingZeros_0f7a4_1 (by decide) (fun h => absurd h (nI_neg (by omega) hx1)) (fun _ => ?_)
    refine lv_iload_n hx hb dJ6_numberOfLeadingZeros_0f7a4_4 rfl (lv_at hl 0 rfl) ?_
    refine lv_if_ne (tgt := 13) hx hb dJ6_numberOfLeadingZeros_0f7a4_5 (by decide) (fun _ => ?_) (fun h => absurd h (nI_nez hx0 hx1))
    refine lv_iconst (v := nI 0) hx hb dJ6_numberOfLeadingZeros_0f7a4_13 (by decide) ?_
    exact m_iret hx hb hr hlocks hLc dJ6_numberOfLeadingZeros_0f7a4_14 (⟨⟨31, rfl, by omega, by omega, by omega⟩, rfl⟩)

set_option maxRecDepth 100000 in
set_option maxHeartbeats 4000000 in
theorem c_J13_numberOfLeadingZeros_95d88 (l : Launch) (G : gG) (b0 : Nat) (H : Heap) {x : Nat} (hx0 : 0 < x) (hx1 : x < 2 ^ 32) : Met l yJ13_numberOfLeadingZeros_95d88 wsJ13_numberOfLeadingZeros_95d88 ({ frames := 1, cells := 0, slots := 0, locals := 21 } : Room) (PcH G H [.long (lN x)]) (QcI (fun r H1 => (∃ k, r = nI (32 + (31 - k)) ∧ k ≤ 31 ∧ 2 ^ k ≤ x ∧ x < 2 ^ (k + 1)) ∧ H = H1)) 0 0 (fre b0) := by
  refine m_enter (cc := cJ13_numberOfLeadingZeros_95d88) (maxL := 3) (ret := (some .int)) (own := RJ13) (by decide) rfl rfl (Nat.le_of_ble_eq_true rfl) ?_
  intro p e s m below meth c ls hF hnm hH hl
  have hl : lv_has ls 3 [(0, .long (lN x))] := hl
  have hLc : lcs b0 [] := lcs_nil b0
  obtain ⟨hx, hb, hr, hml, hown, hts, hlocks, hK⟩ := id hF
  refine lv_lload_n hx hb dJ13_numberOfLeadingZeros_95d88_0 rfl (lv_at hl 0 rfl) ?_
  refine lv_bipush (v := nI 32) hx hb dJ13_numberOfLeadingZeros_95d88_1 (by decide) ?_
  refine m_lushr32 hx hb (by omega) dJ13_numberOfLeadingZeros_95d88_3 ?_
  rw [show x / 4294967296 = 0 by omega]
  refine m_l2i hx hb dJ13_numberOfLeadingZeros_95d88_4 ?_
  refine lv_istore_n (lv' := [(2, .int (nI 0)), (0, .long (lN x))]) hx hb dJ13_numberOfLeadingZeros_95d88_5 rfl hl (by decide) rfl (fun ls hl => ?_)
  refine lv_iload_n hx hb dJ13_numberOfLeadingZeros_95d88_6 rfl (lv_at hl 0 rfl) ?_
  refine m_if_ne (tgt := 21) hx hb (by decide) dJ13_numberOfLeadingZeros_95d88_7 (by decide) (fun h => absurd h (by decide)) (fun _ => ?_)
  refine lv_bipush (v := nI 32) hx hb dJ13_numberOfLeadingZeros_95d88_10 (by decide) ?_
  refine lv_lload_n hx hb dJ13_numberOfLeadingZeros_95d88_12 rfl (lv_at hl 1 rfl) ?_
  refine m_l2i hx hb dJ13_numberOfLeadingZeros_95d88_13 ?_
  refine mc_i0 (va_runS (As := [.int (nI x)]) (rest := [.int (nI 32)]) ⟨hx, hb, hml, hown, hts⟩ (c_J6_numberOfLeadingZeros_0f7a4 l G b0 H hx0 hx1) (va_cwS 1 hts gJ13_numberOfLeadingZeros_95d88_J6_numberOfLeadingZeros_0f7a4 rfl rfl rfl (by decide +kernel) ⟨Nat.le_of_ble_eq_true rfl, Nat.le_of_ble_eq_true rfl⟩) (mp_S hK) rfl rfl hl.1 rfl (lv_room (Nat.le_of_ble_eq_true rfl)) dJ13_numberOfLeadingZeros_95d88_14 ⟨Nat.le_of_ble_eq_true rfl, Nat.le_of_ble_eq_true rfl⟩) hLc (fun r H1 locs hP hLc => ?_)
  obtain ⟨⟨k, rfl, hk⟩, rfl⟩ := hP
  refine m_iadd (a := 32) (b := 31 - k) hx hb dJ13_numberOfLeadingZeros_95d88_17 ?_
  refine lv_goto (tgt := 25) hx hb dJ13_numberOfLeadingZeros_95d88_18 (by decide) ?_
  exact m_iret hx hb hr hlocks hLc dJ13_numberOfLeadingZeros_95d88_25 (⟨⟨k, rfl, hk⟩, rfl⟩)

set_option maxRecDepth 100000 in
set_option maxHeartbeats 4000000 in
theorem ntz_74 {p : Program} {l : Launch} {e : Env} {s : State} {m : MethodId} {args : Array Value} {below : List Frame} {meth : Method} {c : Code} {G : gG} {b0 : Nat} {H : Heap} {x t w n : Nat} (hF : FxM p s m args meth c G cJ6_numberOfTrailingZeros_0f7a4 2 (some .int) RJ6 wsJ6_numberOfTrailingZeros_0f7a4) (hw1 : 1 ≤ w) (hnw : n + w = t + 1) (ht2 : t ≤ 31) (hw : w ≤ 2) : ∀ (locs : List Loc) (ls : Array Slot), lcs b0 locs → lv_has ls 2 [(0, .int (nI (2 ^ w - 1))), (1, .int (nI n))] → W p l e ({ frames := 0, cells := 0, slots := 0, locals := 0 } : Room) s m args below meth c H locs 0 0 (MQ below (QcI (fun r H1 => r = nI t ∧ H = H1)) args s 0 0 (fre b0)) (F0 m 74 ls []) := by
  obtain ⟨hx, hb, hr, hml, hown, hts, hlocks, hK⟩ := id hF
  intro locs ls hLc hl
  refine lv_iload_n hx hb dJ6_numberOfTrailingZeros_0f7a4_74 rfl (lv_at hl 1 rfl) ?_
  refine lv_iload_n hx hb dJ6_numberOfTrailingZeros_0f7a4_75 rfl (lv_at hl 0 rfl) ?_
  refine lv_iconst (v := nI 1) hx hb dJ6_numberOfTrailingZeros_0f7a4_76 (by decide) ?_
  refine m_iushr hx hb (pw_lt (by omega)) (by decide) dJ6_numberOfTrailingZeros_0f7a4_77 ?_
  refine m_iadd (a := n) (b := (2 ^ w - 1) / 2 ^ 1) hx hb dJ6_numberOfTrailingZeros_0f7a4_78 ?_
  exact m_iret hx hb hr hlocks hLc dJ6_numberOfTrailingZeros_0f7a4_79 (⟨congrArg nI (ntz_end hw1 hw hnw), rfl⟩)
set_option maxRecDepth 100000 in
set_option maxHeartbeats 4000000 in
theorem ntz_62 {p : Program} {l : Launch} {e : Env} {s : State} {m : MethodId} {args : Array Value} {below : List Frame} {meth : Method} {c : Code} {G : gG} {b0 : Nat} {H : Heap} {x t w n : Nat} (hF : FxM p s m args meth c G cJ6_numberOfTrailingZeros_0f7a4 2 (some .int) RJ6 wsJ6_numberOfTrailingZeros_0f7a4) (hw1 : 1 ≤ w) (hnw : n + w = t + 1) (ht2 : t ≤ 31) (hw : w ≤ 4) : ∀ (locs : List Loc) (ls : Array Slot), lcs b0 locs → lv_has ls 2 [(0, .int (nI (2 ^ w - 1))), (1, .int (nI n))] → W p l e ({ frames := 0, cells := 0, slots := 0, locals := 0 } : Room) s m args below meth c H locs 0 0 (MQ below (QcI (fun r H1 => r = nI t ∧ H = H1)) args s 0 0 (fre b0)) (F0 m 62 ls []) := by
  obtain ⟨hx, hb, hr, hml, hown, hts, hlocks, hK⟩ := id hF
  intro locs ls hLc hl
  refine lv_iload_n hx hb dJ6_numberOfTrailingZeros_0f7a4_62 rfl (lv_at hl 0 rfl) ?_
  refine lv_iconst (v := nI 4) hx hb dJ6_numberOfTrailingZeros_0f7a4_63 (by decide) ?_
  refine m_icmp_le (tgt := 74) hx hb (pw_lt31 (by omega)) (by decide) dJ6_numberOfTrailingZeros_0f7a4_64 (by decide) (fun c64 => ?_) (fun c64 => ?_)
  · skip
    exact ntz_74 (x := x) hF hw1 hnw ht2 (pw_le (k := 2) (by decide) (by omega)) _ _ hLc (lv_sub hl [0, 1] rfl)
  · skip
    refine lv_iinc (v := nI (n + 2)) (lv' := [(1, .int (nI (n + 2))), (0, .int (nI (2 ^ w - 1)))]) hx hb dJ6_numberOfTrailingZeros_0f7a4_67 hl (k := 1) rfl (nI_add n 2) (by decide) rfl (fun ls hl => ?_)
    refine lv_iload_n hx hb dJ6_numberOfTrailingZeros_0f7a4_70 rfl (lv_at hl 1 rfl) ?_
    refine lv_iconst (v := nI 2) hx hb dJ6_numberOfTrailingZeros_0f7a4_71 (by decide) ?_
    refine m_iushr hx hb (pw_lt (by omega)) (by decide) dJ6_numberOfTrailingZeros_0f7a4_72 ?_
    rw [pw_div (Nat.le_of_lt (pw_ge (k := 2) (w := w) (by omega)))]
    refine lv_istore_n (lv' := [(0, .int (nI (2 ^ (w - 2) - 1))), (1, .int (nI (n + 2)))]) hx hb dJ6_numberOfTrailingZeros_0f7a4_73 rfl hl (by decide) rfl (fun ls hl => ?_)
    exact ntz_74 (x := x) hF (by have := pw_ge (k := 2) (w := w) (by omega); omega) (by have := pw_ge (k := 2) (w := w) (by omega); omega) ht2 (by omega) _ _ hLc (lv_sub hl [0, 1] rfl)
set_option maxRecDepth 100000 in
set_option maxHeartbeats 4000000 in
theorem ntz_49 {p : Program} {l : Launch} {e : Env} {s : State} {m : MethodId} {args : Array Value} {below : List Frame} {meth : Method} {c : Code} {G : gG} {b0 : Nat} {H : Heap} {x t w n : Nat} (hF : FxM p s m args meth c G cJ6_numberOfTrailingZeros_0f7a4 2 (some .int) RJ6 wsJ6_numberOfTrailingZeros_0f7a4) (hw1 : 1 ≤ w) (hnw : n + w = t + 1) (ht2 : t ≤ 31) (hw : w ≤ 8) : ∀ (locs : List Loc) (ls : Array Slot), lcs b0 locs → lv_has ls 2 [(0, .int (nI (2 ^ w - 1))), (1, .int (nI n))] → W p l e ({ frames := 0, cells := 0, slots := 0, locals := 0 } : Room) s m args below meth c H locs 0 0 (MQ below (QcI (fun r H1 => r = nI t ∧ H = H1)) args s 0 0 (fre b0)) (F0 m 49 ls []) := by
  obtain ⟨hx, hb, hr, hml, hown, hts, hlocks, hK⟩ := id hF
  intro locs ls hLc hl
  refine lv_iload_n hx hb dJ6_numberOfTrailingZeros_0f7a4_49 rfl (lv_at hl 0 rfl) ?_
  refine lv_bipush (v := nI 16) hx hb dJ6_numberOfTrailingZeros_0f7a4_50 (by decide) ?_
  refine m_icmp_le (tgt := 62) hx hb (pw_lt31 (by omega)) (by decide) dJ6_numberOfTrailingZeros_0f7a4_52 (by decide) (fun c52 => ?_) (fun c52 => ?_)
  · skip
    exact ntz_62 (x := x) hF hw1 hnw ht2 (pw_le (k := 4) (by decide) (by omega)) _ _ hLc (lv_sub hl [0, 1] rfl)
  · skip
    refine lv_iinc (v := nI (n + 4)) (lv' := [(1, .int (nI (n + 4))), (0, .int (nI (2 ^ w - 1)))]) hx hb dJ6_numberOfTrailingZeros_0f7a4_55 hl (k := 1) rfl (nI_add n 4) (by decide) rfl (fun ls hl => ?_)
    refine lv_iload_n hx hb dJ6_numberOfTrailingZeros_0f7a4_58 rfl (lv_at hl 1 rfl) ?_
    refine lv_iconst (v := nI 4) hx hb dJ6_numberOfTrailingZeros_0f7a4_59 (by decide) ?_
    refine m_iushr hx hb (pw_lt (by omega)) (by decide) dJ6_numberOfTrailingZeros_0f7a4_60 ?_
    rw [pw_div (Nat.le_of_lt (pw_ge (k := 4) (w := w) (by omega)))]
    refine lv_istore_n (lv' := [(0, .int (nI (2 ^ (w - 4) - 1))), (1, .int (nI (n + 4)))]) hx hb dJ6_numberOfTrailingZeros_0f7a4_61 rfl hl (by decide) rfl (fun ls hl => ?_)
    exact ntz_62 (x := x) hF (by have := pw_ge (k := 4) (w := w) (by omega); omega) (by have := pw_ge (k := 4) (w := w) (by omega); omega) ht2 (by omega) _ _ hLc (lv_sub hl [0, 1] rfl)
set_option maxRecDepth 100000 in
set_option maxHeartbeats 4000000 in
theorem ntz_34 {p : Program} {l : Launch} {e : Env} {s : State} {m : MethodId} {args : Array Value} {below : List Frame} {meth : Method} {c : Code} {G : gG} {b0 : Nat} {H : Heap} {x t w n : Nat} (hF : FxM p s m args meth c G cJ6_numberOfTrailingZeros_0f7a4 2 (some .int) RJ6 wsJ6_numberOfTrailingZeros_0f7a4) (hw1 : 1 ≤ w) (hnw : n + w = t + 1) (ht2 : t ≤ 31) (hw : w ≤ 16) : ∀ (locs : List Loc) (ls : Array Slot), lcs b0 locs → lv_has ls 2 [(0, .int (nI (2 ^ w - 1))), (1, .int (nI n))] → W p l e ({ frames := 0, cells := 0, slots := 0, locals := 0 } : Room) s m args below meth c H locs 0 0 (MQ below (QcI (fun r H1 => r = nI t ∧ H = H1)) args s 0 0 (fre b0)) (F0 m 34 ls []) := by
  obtain ⟨hx, hb, hr, hml, hown, hts, hlocks, hK⟩ := id hF
  intro locs ls hLc hl
  refine lv_iload_n hx hb dJ6_numberOfTrailingZeros_0f7a4_34 rfl (lv_at hl 0 rfl) ?_
  refine lv_sipush (v := nI 256) hx hb dJ6_numberOfTrailingZeros_0f7a4_35 (by decide) ?_
  refine m_icmp_le (tgt := 49) hx hb (pw_lt31 (by omega)) (by decide) dJ6_numberOfTrailingZeros_0f7a4_38 (by decide) (fun c38 => ?_) (fun c38 => ?_)
  · skip
    exact ntz_49 (x := x) hF hw1 hnw ht2 (pw_le (k := 8) (by decide) (by omega)) _ _ hLc (lv_sub hl [0, 1] rfl)
  · skip
    refine lv_iinc (v := nI (n + 8)) (lv' := [(1, .int (nI (n + 8))), (0, .int (nI (2 ^ w - 1)))]) hx hb dJ6_numberOfTrailingZeros_0f7a4_41 hl (k := 1) rfl (nI_add n 8) (by decide) rfl (fun ls hl => ?_)
    refine lv_iload_n hx hb dJ6_numberOfTrailingZeros_0f7a4_44 rfl (lv_at hl 1 rfl) ?_
    refine lv_bipush (v := nI 8) hx hb dJ6_numberOfTrailingZeros_0f7a4_45 (by decide) ?_
    refine m_iushr hx hb (pw_lt (by omega)) (by decide) dJ6_numberOfTrailingZeros_0f7a4_47 ?_
    rw [pw_div (Nat.le_of_lt (pw_ge (k := 8) (w := w) (by omega)))]
    refine lv_istore_n (lv' := [(0, .int (nI (2 ^ (w - 8) - 1))), (1, .int (nI (n + 8)))]) hx hb dJ6_numberOfTrailingZeros_0f7a4_48 rfl hl (by decide) rfl (fun ls hl => ?_)
    exact ntz_49 (x := x) hF (by have := pw_ge (k := 8) (w := w) (by omega); omega) (by have := pw_ge (k := 8) (w := w) (by omega); omega) ht2 (by omega) _ _ hLc (lv_sub hl [0, 1] rfl)
set_option maxRecDepth 100000 in
set_option maxHeartbeats 4000000 in
theorem c_J6_numberOfTrailingZeros_0f7a4 (l : Launch) (G : gG) (b0 : Nat) (H : Heap) {x t : Nat} (hx1 : x < 2 ^ 32) (ht : isTZ t x) : Met l yJ6_numberOfTrailingZeros_0f7a4 wsJ6_numberOfTrailingZeros_0f7a4 ({ frames := 0, cells := 0, slots := 0, locals := 0 } : Room) (PcH G H [.int (nI x)]) (QcI (fun r H1 => r = nI t ∧ H = H1)) 0 0 (fre b0) := by
  refine m_enter (cc := cJ6_numberOfTrailingZeros_0f7a4) (maxL := 2) (ret := (some .int)) (own := RJ6) (by decide) rfl rfl (Nat.le_of_ble_eq_true rfl) ?_
  intro p e s m below meth c ls hF hnm hH hl
  have hl : lv_has ls 2 [(0, .int (nI x))] := hl
  have hLc : lcs b0 [] := lcs_nil b0
  obtain ⟨hx, hb, hr, hml, hown, hts, hlocks, hK⟩ := id hF
  have htl := tz_lt ht hx1
  by_cases hz : t = 0
  · subst hz
    refine lv_iload_n hx hb dJ6_numberOfTrailingZeros_0f7a4_0 rfl (lv_at hl 0 rfl) ?_
    refine lv_iconst (v := -1) hx hb dJ6_numberOfTrailingZeros_0f7a4_1 (by decide) ?_
    refine lv_ixor hx hb dJ6_numberOfTrailingZeros_0f7a4_2 ?_
    refine lv_iload_n hx hb dJ6_numberOfTrailingZeros_0f7a4_3 rfl (lv_at hl 0 rfl) ?_
    refine lv_iconst (v := 1) hx hb dJ6_numberOfTrailingZeros_0f7a4_4 (by decide) ?_
    refine lv_isub hx hb dJ6_numberOfTrailingZeros_0f7a4_5 ?_
    refine lv_iand hx hb dJ6_numberOfTrailingZeros_0f7a4_6 ?_
    rw [tz_mask ht hx1]
    refine lv_istore_n (lv' := [(0, .int (nI (2 ^ 0 - 1)))]) hx hb dJ6_numberOfTrailingZeros_0f7a4_7 rfl hl (by decide) rfl (fun ls hl => ?_)
    refine lv_iload_n hx hb dJ6_numberOfTrailingZeros_0f7a4_8 rfl (lv_at hl 0 rfl) ?_
    refine lv_if_gt (tgt := 17) hx hb dJ6_numberOfTrailingZeros_0f7a4_9 (by decide) (fun h => absurd h (by decide)) (fun _ => ?_)
    refine lv_iload_n hx hb dJ6_numberOfTrailingZeros_0f7a4_12 rfl (lv_at hl 0 rfl) ?_
    refine lv_bipush (v := nI 32) hx hb dJ6_numberOfTrailingZeros_0f7a4_13 (by decide) ?_
    refine lv_iand hx hb dJ6_numberOfTrailingZeros_0f7a4_15 ?_
    exact m_iret hx hb hr hlocks hLc dJ6_numberOfTrailingZeros_0f7a4_16 (⟨by decide, rfl⟩)
  · skip
    refine lv_iload_n hx hb dJ6_numberOfTrailingZeros_0f7a4_0 rfl (lv_at hl 0 rfl) ?_
    refine lv_iconst (v := -1) hx hb dJ6_numberOfTrailingZeros_0f7a4_1 (by decide) ?_
    refine lv_ixor hx hb dJ6_numberOfTrailingZeros_0f7a4_2 ?_
    refine lv_iload_n hx hb dJ6_numberOfTrailingZeros_0f7a4_3 rfl (lv_at hl 0 rfl) ?_
    refine lv_iconst (v := 1) hx hb dJ6_numberOfTrailingZeros_0f7a4_4 (by decide) ?_
    refine lv_isub hx hb dJ6_numberOfTrailingZeros_0f7a4_5 ?_
    refine lv_iand hx hb dJ6_numberOfTrailingZeros_0f7a4_6 ?_
    rw [tz_mask ht hx1]
    refine lv_istore_n (lv' := [(0, .int (nI (2 ^ t - 1)))]) hx hb dJ6_numberOfTrailingZeros_0f7a4_7 rfl hl (by decide) rfl (fun ls hl => ?_)
    refine lv_iload_n hx hb dJ6_numberOfTrailingZeros_0f7a4_8 rfl (lv_at hl 0 rfl) ?_
    refine lv_if_gt (tgt := 17) hx hb dJ6_numberOfTrailingZeros_0f7a4_9 (by decide) (fun _ => ?_) (fun h => absurd (nI_gt0 (by have := pw_le2 (show 1 ≤ t by omega); omega) (pw_lt31 (by omega))) h)
    refine lv_iconst (v := nI 1) hx hb dJ6_numberOfTrailingZeros_0f7a4_17 (by decide) ?_
    refine lv_istore_n (lv' := [(1, .int (nI 1)), (0, .int (nI (2 ^ t - 1)))]) hx hb dJ6_numberOfTrailingZeros_0f7a4_18 rfl hl (by decide) rfl (fun ls hl => ?_)
    refine lv_iload_n hx hb dJ6_numberOfTrailingZeros_0f7a4_19 rfl (lv_at hl 1 rfl) ?_
    refine lv_ldcw (v := nI 65536) hx hb hown (hts (.constant RJ6 264 (nI 65536)) (by decide +kernel)) dJ6_numberOfTrailingZeros_0f7a4_20 ?_
    refine m_icmp_le (tgt := 34) hx hb (pw_lt31 (by omega)) (by decide) dJ6_numberOfTrailingZeros_0f7a4_23 (by decide) (fun c23 => ?_) (fun c23 => ?_)
    · skip
      exact ntz_34 (x := x) hF (by omega) (by omega) (by omega) (pw_le (k := 16) (by decide) (by omega)) _ _ hLc (lv_sub hl [1, 0] rfl)
    · skip
      refine lv_iinc (v := nI (1 + 16)) (lv' := [(1, .int (nI (1 + 16))), (0, .int (nI (2 ^ t - 1)))]) hx hb dJ6_numberOfTrailingZeros_0f7a4_26 hl (k := 0) rfl (nI_add 1 16) (by decide) rfl (fun ls hl => ?_)
      refine lv_iload_n hx hb dJ6_numberOfTrailingZeros_0f7a4_29 rfl (lv_at hl 1 rfl) ?_
      refine lv_bipush (v := nI 16) hx hb dJ6_numberOfTrailingZeros_0f7a4_30 (by decide) ?_
      refine m_iushr hx hb (pw_lt (by omega)) (by decide) dJ6_numberOfTrailingZeros_0f7a4_32 ?_
      rw [pw_div (Nat.le_of_lt (pw_ge (k := 16) (w := t) (by omega)))]
      refine lv_istore_n (lv' := [(0, .int (nI (2 ^ (t - 16) - 1))), (1, .int (nI (1 + 16)))]) hx hb dJ6_numberOfTrailingZeros_0f7a4_33 rfl hl (by decide) rfl (fun ls hl => ?_)
      exact ntz_34 (x := x) hF (by have := pw_ge (k := 16) (w := t) (by omega); omega) (by have := pw_ge (k := 16) (w := t) (by omega); omega) (by omega) (by omega) _ _ hLc (lv_sub hl [0, 1] rfl)

set_option maxRecDepth 100000 in
set_option maxHeartbeats 4000000 in
theorem c_J13_numberOfTrailingZeros_95d88 (l : Launch) (G : gG) (b0 : Nat) (H : Heap) {x t : Nat} (hx0 : 0 < x) (hx1 : x < 2 ^ 32) (ht : isTZ t x) : Met l yJ13_numberOfTrailingZeros_95d88 wsJ13_numberOfTrailingZeros_95d88 ({ frames := 1, cells := 0, slots := 0, locals := 21 } : Room) (PcH G H [.long (lN x)]) (QcI (fun r H1 => r = nI t ∧ H = H1)) 0 0 (fre b0) := by
  refine m_enter (cc := cJ13_numberOfTrailingZeros_95d88) (maxL := 3) (ret := (some .int)) (own := RJ13) (by decide) rfl rfl (Nat.le_of_ble_eq_true rfl) ?_
  intro p e s m below meth c ls hF hnm hH hl
  have hl : lv_has ls 3 [(0, .long (lN x))] := hl
  have hLc : lcs b0 [] := lcs_nil b0
  obtain ⟨hx, hb, hr, hml, hown, hts, hlocks, hK⟩ := id hF
  refine lv_lload_n hx hb dJ13_numberOfTrailingZeros_95d88_0 rfl (lv_at hl 0 rfl) ?_
  refine m_l2i hx hb dJ13_numberOfTrailingZeros_95d88_1 ?_
  refine lv_istore_n (lv' := [(2, .int (nI x)), (0, .long (lN x))]) hx hb dJ13_numberOfTrailingZeros_95d88_2 rfl hl (by decide) rfl (fun ls hl => ?_)
  refine lv_iload_n hx hb dJ13_numberOfTrailingZeros_95d88_3 rfl (lv_at hl 0 rfl) ?_
  refine lv_if_ne (tgt := 21) hx hb dJ13_numberOfTrailingZeros_95d88_4 (by decide) (fun _ => ?_) (fun h => absurd h (nI_nez hx0 hx1))
  refine lv_iload_n hx hb dJ13_numberOfTrailingZeros_95d88_21 rfl (lv_at hl 0 rfl) ?_
  refine mc_i0 (va_runS (As := [.int (nI x)]) (rest := []) ⟨hx, hb, hml, hown, hts⟩ (c_J6_numberOfTrailingZeros_0f7a4 l G b0 H hx1 ht) (va_cwS 1 hts gJ13_numberOfTrailingZeros_95d88_J6_numberOfTrailingZeros_0f7a4 rfl rfl rfl (by decide +kernel) ⟨Nat.le_of_ble_eq_true rfl, Nat.le_of_ble_eq_true rfl⟩) (mp_S hK) rfl rfl hl.1 rfl (lv_room (Nat.le_of_ble_eq_true rfl)) dJ13_numberOfTrailingZeros_95d88_22 ⟨Nat.le_of_ble_eq_true rfl, Nat.le_of_ble_eq_true rfl⟩) hLc (fun r H1 locs hP hLc => ?_)
  obtain ⟨rfl, rfl⟩ := hP
  exact m_iret hx hb hr hlocks hLc dJ13_numberOfTrailingZeros_95d88_25 (⟨rfl, rfl⟩)
