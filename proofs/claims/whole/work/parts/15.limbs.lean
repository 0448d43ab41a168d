set_option maxRecDepth 100000 in
set_option maxHeartbeats 4000000 in
theorem c_X0_limbAt (l : Launch) (G : gG) (b0 : Nat) (H : Heap) {a n : Nat} {f : Nat → Nat} (ha : H[a]? = some (aJ G n f)) (hn : n < 2 ^ 31) (x : Int32) : Met l yX0_limbAt wsX0_limbAt ({ frames := 0, cells := 0, slots := 0, locals := 0 } : Room) (PcH G H [.ref a, .int x]) (QcL (fun r H1 => r = lN (latI n f x.toInt) ∧ H = H1)) 0 0 (fre b0) := by
  refine m_enter (cc := cX0_limbAt) (maxL := 2) (ret := (some .long)) (own := RX0) (by decide) rfl rfl (Nat.le_of_ble_eq_true rfl) ?_
  intro p e s m below meth c ls hF hnm hH hl
  have hl : lv_has ls 2 [(0, .ref a), (1, .int x)] := hl
  have hLc : lcs b0 [] := lcs_nil b0
  obtain ⟨hx, hb, hr, hml, hown, hts, hlocks, hK⟩ := id hF
  by_cases hz : x < 0
  · have hz2 : x.toInt < 0 := by rw [Int32.lt_iff_toInt_lt, Int32.toInt_zero] at hz; exact hz
    refine lv_iload_n hx hb dX0_limbAt_0 rfl (lv_at hl 1 rfl) ?_
    refine lv_if_lt (tgt := 16) hx hb dX0_limbAt_1 (by decide) (fun _ => ?_) (fun h => absurd (hz) h)
    refine lv_lconst (v := lN 0) hx hb dX0_limbAt_16 (by decide) ?_
    exact m_lret hx hb hr hlocks hLc dX0_limbAt_17 (⟨by rw [latI_neg n f hz2], rfl⟩)
  · obtain ⟨i, hi, rfl⟩ := nI_of hz
    rw [nI_toInt hi, latI_nat]
    refine lv_iload_n hx hb dX0_limbAt_0 rfl (lv_at hl 1 rfl) ?_
    refine lv_if_lt (tgt := 16) hx hb dX0_limbAt_1 (by decide) (fun h => absurd h (hz)) (fun _ => ?_)
    refine lv_iload_n hx hb dX0_limbAt_4 rfl (lv_at hl 1 rfl) ?_
    refine lv_aload_n hx hb dX0_limbAt_5 rfl (lv_at hl 0 rfl) ?_
    refine m_alenJ (n := n) (f := f) hx hb hK (ha) dX0_limbAt_6 ?_
    refine m_icmp_ge (tgt := 16) hx hb (by omega) (by omega) dX0_limbAt_7 (by decide) (fun c7 => ?_) (fun c7 => ?_)
    · skip
      refine lv_lconst (v := lN 0) hx hb dX0_limbAt_16 (by decide) ?_
      exact m_lret hx hb hr hlocks hLc dX0_limbAt_17 (⟨by rw [lat_ge c7], rfl⟩)
    · skip
      refine lv_aload_n hx hb dX0_limbAt_10 rfl (lv_at hl 0 rfl) ?_
      refine lv_iload_n hx hb dX0_limbAt_11 rfl (lv_at hl 1 rfl) ?_
      refine m_lald (n := n) (f := f) hx hb hK (ha) (c7) (hn) dX0_limbAt_12 ?_
      refine lv_goto (tgt := 17) hx hb dX0_limbAt_13 (by decide) ?_
      exact m_lret hx hb hr hlocks hLc dX0_limbAt_17 (⟨by rw [lat_lt c7], rfl⟩)

set_option maxRecDepth 100000 in
set_option maxHeartbeats 4000000 in
theorem used_5 {p : Program} {l : Launch} {e : Env} {s : State} {m : MethodId} {args : Array Value} {below : List Frame} {meth : Method} {c : Code} {G : gG} {b0 : Nat} {H : Heap} {a n : Nat} {f : Nat → Nat} (hF : FxM p s m args meth c G cX0_used 2 (some .int) RX0 wsX0_used) (ha : H[a]? = some (aJ G n f)) (hn : n < 2 ^ 31) (hf : lim f n) : ∀ (k : Nat) , k ≤ n → us f n = us f k → ∀ (locs : List Loc) (ls : Array Slot), lcs b0 locs → lv_has ls 2 [(0, .ref a), (1, .int (nI k - 1))] → W p l e ({ frames := 0, cells := 0, slots := 0, locals := 0 } : Room) s m args below meth c H locs 0 0 (MQ below (QcI (fun r H1 => r = nI (us f n) ∧ H = H1)) args s 0 0 (fre b0)) (F0 m 5 ls []) := by
  obtain ⟨hx, hb, hr, hml, hown, hts, hlocks, hK⟩ := id hF
  intro k
  induction k with
  | zero =>
    intro hk hu locs ls hLc hl
    refine lv_iload_n hx hb dX0_used_5 rfl (lv_at hl 1 rfl) ?_
    refine lv_if_lt (tgt := 27) hx hb dX0_used_6 (by decide) (fun _ => ?_) (fun h => absurd (by decide) h)
    refine lv_iconst (v := nI 0) hx hb dX0_used_27 (by decide) ?_
    exact m_iret hx hb hr hlocks hLc dX0_used_28 (⟨by rw [hu]; rfl, rfl⟩)
  | succ k ih =>
    intro hk hu locs ls hLc hl
    rw [nI_pred] at hl
    have hfk := hf k (by omega)
    refine lv_iload_n hx hb dX0_used_5 rfl (lv_at hl 1 rfl) ?_
    refine lv_if_lt (tgt := 27) hx hb dX0_used_6 (by decide) (fun h => absurd h (nI_pos (by omega))) (fun _ => ?_)
    refine lv_aload_n hx hb dX0_used_9 rfl (lv_at hl 0 rfl) ?_
    refine lv_iload_n hx hb dX0_used_10 rfl (lv_at hl 1 rfl) ?_
    refine m_lald (n := n) (f := f) hx hb hK (ha) (by omega) (hn) dX0_used_11 ?_
    refine lv_lconst (v := lN 0) hx hb dX0_used_12 (by decide) ?_
    refine m_lc_eq (tgt := 21) hx hb (by omega) (by omega) dX0_used_13 dX0_used_14 (by decide) (fun c13 => ?_) (fun c13 => ?_)
    · skip
      have hu2 : us f n = us f k := by rw [hu]; exact us_s0 c13
      refine lv_iinc (v := nI k - 1) (lv' := [(1, .int (nI k - 1)), (0, .ref a)]) hx hb dX0_used_21 hl (k := 1) rfl (nI_decI _) (by decide) rfl (fun ls hl => ?_)
      refine lv_goto (tgt := 5) hx hb dX0_used_24 (by decide) ?_
      exact ih (by omega) hu2 _ _ hLc (lv_sub hl [1, 0] rfl)
    · skip
      refine lv_iload_n hx hb dX0_used_17 rfl (lv_at hl 1 rfl) ?_
      refine lv_iconst (v := nI 1) hx hb dX0_used_18 (by decide) ?_
      refine m_iadd (a := k) (b := 1) hx hb dX0_used_19 ?_
      exact m_iret hx hb hr hlocks hLc dX0_used_20 (⟨by rw [hu, us_s1 c13], rfl⟩)
set_option maxRecDepth 100000 in
set_option maxHeartbeats 4000000 in
theorem c_X0_used (l : Launch) (G : gG) (b0 : Nat) (H : Heap) {a n : Nat} {f : Nat → Nat} (ha : H[a]? = some (aJ G n f)) (hn : n < 2 ^ 31) (hf : lim f n) : Met l yX0_used wsX0_used ({ frames := 0, cells := 0, slots := 0, locals := 0 } : Room) (PcH G H [.ref a]) (QcI (fun r H1 => r = nI (us f n) ∧ H = H1)) 0 0 (fre b0) := by
  refine m_enter (cc := cX0_used) (maxL := 2) (ret := (some .int)) (own := RX0) (by decide) rfl rfl (Nat.le_of_ble_eq_true rfl) ?_
  intro p e s m below meth c ls hF hnm hH hl
  have hl : lv_has ls 2 [(0, .ref a)] := hl
  have hLc : lcs b0 [] := lcs_nil b0
  obtain ⟨hx, hb, hr, hml, hown, hts, hlocks, hK⟩ := id hF
  refine lv_aload_n hx hb dX0_used_0 rfl (lv_at hl 0 rfl) ?_
  refine m_alenJ (n := n) (f := f) hx hb hK (ha) dX0_used_1 ?_
  refine lv_iconst (v := 1) hx hb dX0_used_2 (by decide) ?_
  refine lv_isub hx hb dX0_used_3 ?_
  refine lv_istore_n (lv' := [(1, .int (nI n - 1)), (0, .ref a)]) hx hb dX0_used_4 rfl hl (by decide) rfl (fun ls hl => ?_)
  exact used_5 hF ha hn hf n (Nat.le_refl n) rfl _ _ hLc (lv_sub hl [1, 0] rfl)

set_option maxRecDepth 100000 in
set_option maxHeartbeats 4000000 in
theorem order_3 {p : Program} {l : Launch} {e : Env} {s : State} {m : MethodId} {args : Array Value} {below : List Frame} {meth : Method} {c : Code} {G : gG} {b0 : Nat} {H : Heap} {a b n k : Nat} {f g : Nat → Nat} (hF : FxM p s m args meth c G cX0_order 3 (some .int) RX0 wsX0_order) (ha : H[a]? = some (aJ G n f)) (hb0 : H[b]? = some (aJ G k g)) (hn : n < 2 ^ 31) (hk : k < 2 ^ 31) (hf : lim f n) (hg : lim g k) : ∀ (q : Nat) , q ≤ 16 → (∀ j, q ≤ j → j < 16 → lat n f j = lat k g j) → ∀ (locs : List Loc) (ls : Array Slot), lcs b0 locs → lv_has ls 3 [(0, .ref a), (1, .ref b), (2, .int (nI q - 1))] → W p l e ({ frames := 1, cells := 0, slots := 0, locals := 21 } : Room) s m args below meth c H locs 0 0 (MQ below (QcI (fun r H1 => ordP r (vl (lat n f) 16) (vl (lat k g) 16) ∧ H = H1)) args s 0 0 (fre b0)) (F0 m 3 ls []) := by
  obtain ⟨hx, hb, hr, hml, hown, hts, hlocks, hK⟩ := id hF
  intro q
  induction q with
  | zero =>
    intro hq he locs ls hLc hl
    refine lv_iload_n hx hb dX0_order_3 rfl (lv_at hl 2 rfl) ?_
    refine lv_if_lt (tgt := 47) hx hb dX0_order_4 (by decide) (fun _ => ?_) (fun h => absurd (by decide) h)
    refine lv_iconst (v := nI 0) hx hb dX0_order_47 (by decide) ?_
    exact m_iret hx hb hr hlocks hLc dX0_order_48 (⟨Or.inr (Or.inl ⟨vl_congr (fun j hj => he j (by omega) hj), nI_0⟩), rfl⟩)
  | succ q ih =>
    intro hq he locs ls hLc hl
    rw [nI_pred] at hl
    have h1 := lat_lim hf q
    have h2 := lat_lim hg q
    refine lv_iload_n hx hb dX0_order_3 rfl (lv_at hl 2 rfl) ?_
    refine lv_if_lt (tgt := 47) hx hb dX0_order_4 (by decide) (fun h => absurd h (nI_pos (by omega))) (fun _ => ?_)
    refine lv_aload_n hx hb dX0_order_7 rfl (lv_at hl 0 rfl) ?_
    refine lv_iload_n hx hb dX0_order_8 rfl (lv_at hl 2 rfl) ?_
    refine mc_l0 (va_runS (As := [.ref a, .int (nI q)]) (rest := []) ⟨hx, hb, hml, hown, hts⟩ (c_X0_limbAt l G b0 H (ha) hn (nI q)) (va_cwS 2 hts gX0_order_X0_limbAt rfl rfl rfl (by decide +kernel) ⟨Nat.le_of_ble_eq_true rfl, Nat.le_of_ble_eq_true rfl⟩) (mp_S hK) rfl rfl hl.1 rfl (lv_room (Nat.le_of_ble_eq_true rfl)) dX0_order_9 ⟨Nat.le_of_ble_eq_true rfl, Nat.le_of_ble_eq_true rfl⟩) hLc (fun r H1 locs hP hLc => ?_)
    obtain ⟨rfl, rfl⟩ := hP
    rw [nI_toInt (by omega), latI_nat]
    refine lv_aload_n hx hb dX0_order_12 rfl (lv_at hl 1 rfl) ?_
    refine lv_iload_n hx hb dX0_order_13 rfl (lv_at hl 2 rfl) ?_
    refine mc_l0 (va_runS (As := [.ref b, .int (nI q)]) (rest := [.long (lN (lat n f q))]) ⟨hx, hb, hml, hown, hts⟩ (c_X0_limbAt l G b0 H (hb0) hk (nI q)) (va_cwS 2 hts gX0_order_X0_limbAt rfl rfl rfl (by decide +kernel) ⟨Nat.le_of_ble_eq_true rfl, Nat.le_of_ble_eq_true rfl⟩) (mp_S hK) rfl rfl hl.1 rfl (lv_room (Nat.le_of_ble_eq_true rfl)) dX0_order_14 ⟨Nat.le_of_ble_eq_true rfl, Nat.le_of_ble_eq_true rfl⟩) hLc (fun r H1 locs hP hLc => ?_)
    obtain ⟨rfl, rfl⟩ := hP
    rw [nI_toInt (by omega), latI_nat]
    refine m_lc_eq (tgt := 41) hx hb (by omega) (by omega) dX0_order_17 dX0_order_18 (by decide) (fun c17 => ?_) (fun c17 => ?_)
    · skip
      have he2 : ∀ j, q ≤ j → j < 16 → lat n f j = lat k g j := fun j h3 h4 => (Nat.eq_or_lt_of_le h3).elim (fun h5 => by rw [← h5]; exact c17) (fun h5 => he j h5 h4)
      refine lv_iinc (v := nI q - 1) (lv' := [(2, .int (nI q - 1)), (0, .ref a), (1, .ref b)]) hx hb dX0_order_41 hl (k := 2) rfl (nI_decI _) (by decide) rfl (fun ls hl => ?_)
      refine lv_goto (tgt := 3) hx hb dX0_order_44 (by decide) ?_
      exact ih (by omega) he2 _ _ hLc (lv_sub hl [1, 2, 0] rfl)
    · skip
      refine lv_aload_n hx hb dX0_order_21 rfl (lv_at hl 0 rfl) ?_
      refine lv_iload_n hx hb dX0_order_22 rfl (lv_at hl 2 rfl) ?_
      refine mc_l0 (va_runS (As := [.ref a, .int (nI q)]) (rest := []) ⟨hx, hb, hml, hown, hts⟩ (c_X0_limbAt l G b0 H (ha) hn (nI q)) (va_cwS 2 hts gX0_order_X0_limbAt rfl rfl rfl (by decide +kernel) ⟨Nat.le_of_ble_eq_true rfl, Nat.le_of_ble_eq_true rfl⟩) (mp_S hK) rfl rfl hl.1 rfl (lv_room (Nat.le_of_ble_eq_true rfl)) dX0_order_23 ⟨Nat.le_of_ble_eq_true rfl, Nat.le_of_ble_eq_true rfl⟩) hLc (fun r H1 locs hP hLc => ?_)
      obtain ⟨rfl, rfl⟩ := hP
      rw [nI_toInt (by omega), latI_nat]
      refine lv_aload_n hx hb dX0_order_26 rfl (lv_at hl 1 rfl) ?_
      refine lv_iload_n hx hb dX0_order_27 rfl (lv_at hl 2 rfl) ?_
      refine mc_l0 (va_runS (As := [.ref b, .int (nI q)]) (rest := [.long (lN (lat n f q))]) ⟨hx, hb, hml, hown, hts⟩ (c_X0_limbAt l G b0 H (hb0) hk (nI q)) (va_cwS 2 hts gX0_order_X0_limbAt rfl rfl rfl (by decide +kernel) ⟨Nat.le_of_ble_eq_true rfl, Nat.le_of_ble_eq_true rfl⟩) (mp_S hK) rfl rfl hl.1 rfl (lv_room (Nat.le_of_ble_eq_true rfl)) dX0_order_28 ⟨Nat.le_of_ble_eq_true rfl, Nat.le_of_ble_eq_true rfl⟩) hLc (fun r H1 locs hP hLc => ?_)
      obtain ⟨rfl, rfl⟩ := hP
      rw [nI_toInt (by omega), latI_nat]
      refine m_lc_ge (tgt := 39) hx hb (by omega) (by omega) dX0_order_31 dX0_order_32 (by decide) (fun c31 => ?_) (fun c31 => ?_)
      · skip
        refine lv_iconst (v := nI 1) hx hb dX0_order_39 (by decide) ?_
        exact m_iret hx hb hr hlocks hLc dX0_order_40 (⟨Or.inr (Or.inr ⟨ord_lt (by omega) (lim_lat hg 16) (fun j h3 h4 => (he j h3 h4).symm) (by omega), rfl⟩), rfl⟩)
      · skip
        refine lv_iconst (v := -1) hx hb dX0_order_35 (by decide) ?_
        refine lv_goto (tgt := 40) hx hb dX0_order_36 (by decide) ?_
        exact m_iret hx hb hr hlocks hLc dX0_order_40 (⟨Or.inl ⟨ord_lt (by omega) (lim_lat hf 16) he c31, rfl⟩, rfl⟩)
set_option maxRecDepth 100000 in
set_option maxHeartbeats 4000000 in
theorem c_X0_order (l : Launch) (G : gG) (b0 : Nat) (H : Heap) {a b n k : Nat} {f g : Nat → Nat} (ha : H[a]? = some (aJ G n f)) (hb0 : H[b]? = some (aJ G k g)) (hn : n < 2 ^ 31) (hk : k < 2 ^ 31) (hf : lim f n) (hg : lim g k) : Met l yX0_order wsX0_order ({ frames := 1, cells := 0, slots := 0, locals := 21 } : Room) (PcH G H [.ref a, .ref b]) (QcI (fun r H1 => ordP r (vl (lat n f) 16) (vl (lat k g) 16) ∧ H = H1)) 0 0 (fre b0) := by
  refine m_enter (cc := cX0_order) (maxL := 3) (ret := (some .int)) (own := RX0) (by decide) rfl rfl (Nat.le_of_ble_eq_true rfl) ?_
  intro p e s m below meth c ls hF hnm hH hl
  have hl : lv_has ls 3 [(0, .ref a), (1, .ref b)] := hl
  have hLc : lcs b0 [] := lcs_nil b0
  obtain ⟨hx, hb, hr, hml, hown, hts, hlocks, hK⟩ := id hF
  refine lv_bipush (v := 15) hx hb dX0_order_0 (by decide) ?_
  refine lv_istore_n (lv' := [(2, .int 15), (0, .ref a), (1, .ref b)]) hx hb dX0_order_2 rfl hl (by decide) rfl (fun ls hl => ?_)
  have hl : lv_has ls 3 [(2, .int (nI 16 - 1)), (0, .ref a), (1, .ref b)] := hl
  exact order_3 hF ha hb0 hn hk hf hg 16 (Nat.le_refl 16) (fun j h1 h2 => absurd h2 (by omega)) _ _ hLc (lv_sub hl [1, 2, 0] rfl)

set_option maxRecDepth 100000 in
set_option maxHeartbeats 4000000 in
theorem copy_2 {p : Program} {l : Launch} {e : Env} {s : State} {m : MethodId} {args : Array Value} {below : List Frame} {meth : Method} {c : Code} {G : gG} {b0 : Nat} {H : Heap} {a b n k : Nat} {f : Nat → Nat} (hF : FxM p s m args meth c G cX0_copy 3 none RX0 wsX0_copy) (ha : H[a]? = some (aJ G n f)) {g0 : Nat → Nat} (hb0 : H[b]? = some (aJ G k g0)) (hn : n < 2 ^ 31) (hk : k < 2 ^ 31) (hab : a ≠ b) (hbb : b0 ≤ b) : ∀ (q : Nat) (i : Nat) (g : Nat → Nat), i + q = k → (∀ j, j < i → g j = lat n f j) → ∀ (locs : List Loc) (ls : Array Slot), lcs b0 locs → lv_has ls 3 [(0, .ref a), (1, .ref b), (2, .int (nI i))] → W p l e ({ frames := 1, cells := 0, slots := 0, locals := 21 } : Room) s m args below meth c (hput H b (aJ G k g)) locs 0 0 (MQ below (QcV (fun H1 => ∃ g2 : Nat → Nat, (∀ j, j < k → g2 j = lat n f j) ∧ H1 = hput H b (aJ G k g2))) args s 0 0 (fre b0)) (F0 m 2 ls []) := by
  obtain ⟨hx, hb, hr, hml, hown, hts, hlocks, hK⟩ := id hF
  intro q
  induction q with
  | zero =>
    intro i g hi hg locs ls hLc hl
    refine lv_iload_n hx hb dX0_copy_2 rfl (lv_at hl 2 rfl) ?_
    refine lv_aload_n hx hb dX0_copy_3 rfl (lv_at hl 1 rfl) ?_
    refine m_alenJ (n := k) (f := g) hx hb hK (hput_self _ (lt_of_at hb0)) dX0_copy_4 ?_
    refine lv_icmp_ge (tgt := 22) hx hb dX0_copy_5 (by decide) (fun _ => ?_) (fun h => absurd (nI_le (by omega) (by omega)) h)
    exact m_vret hx hb hr hlocks hLc dX0_copy_22 (⟨g, fun j hj => hg j (by omega), rfl⟩)
  | succ q ih =>
    intro i g hi hg locs ls hLc hl
    refine lv_iload_n hx hb dX0_copy_2 rfl (lv_at hl 2 rfl) ?_
    refine lv_aload_n hx hb dX0_copy_3 rfl (lv_at hl 1 rfl) ?_
    refine m_alenJ (n := k) (f := g) hx hb hK (hput_self _ (lt_of_at hb0)) dX0_copy_4 ?_
    refine lv_icmp_ge (tgt := 22) hx hb dX0_copy_5 (by decide) (fun h => absurd h (nI_ge (by omega) hk)) (fun _ => ?_)
    refine lv_aload_n hx hb dX0_copy_8 rfl (lv_at hl 1 rfl) ?_
    refine lv_iload_n hx hb dX0_copy_9 rfl (lv_at hl 2 rfl) ?_
    refine lv_aload_n hx hb dX0_copy_10 rfl (lv_at hl 0 rfl) ?_
    refine lv_iload_n hx hb dX0_copy_11 rfl (lv_at hl 2 rfl) ?_
    refine mc_l0 (va_runS (As := [.ref a, .int (nI i)]) (rest := [.int (nI i), .ref b]) ⟨hx, hb, hml, hown, hts⟩ (c_X0_limbAt l G b0 (hput H b (aJ G k g)) ((hput_ne _ hab).trans ha) hn (nI i)) (va_cwS 2 hts gX0_copy_X0_limbAt rfl rfl rfl (by decide +kernel) ⟨Nat.le_of_ble_eq_true rfl, Nat.le_of_ble_eq_true rfl⟩) (mp_S hK) rfl rfl hl.1 rfl (lv_room (Nat.le_of_ble_eq_true rfl)) dX0_copy_12 ⟨Nat.le_of_ble_eq_true rfl, Nat.le_of_ble_eq_true rfl⟩) hLc (fun r H1 locs hP hLc => ?_)
    obtain ⟨rfl, rfl⟩ := hP
    rw [nI_toInt (by omega), latI_nat]
    refine m_last (n := k) (f := g) (b0 := b0) hx hb hK (hput_self _ (lt_of_at hb0)) (by omega) (hk) (hbb) hLc dX0_copy_15 (fun locs hLc => ?_)
    rw [hput_put]
    refine lv_iinc (v := nI (i + 1)) (lv' := [(2, .int (nI (i + 1))), (0, .ref a), (1, .ref b)]) hx hb dX0_copy_16 hl (k := 2) rfl (nI_add i 1) (by decide) rfl (fun ls hl => ?_)
    refine lv_goto (tgt := 2) hx hb dX0_copy_19 (by decide) ?_
    exact ih (i + 1) _ (by omega) (fup_eq hg rfl) _ _ hLc (lv_sub hl [1, 2, 0] rfl)
set_option maxRecDepth 100000 in
set_option maxHeartbeats 4000000 in
theorem c_X0_copy (l : Launch) (G : gG) (b0 : Nat) (H : Heap) {a b n k : Nat} {f : Nat → Nat} (ha : H[a]? = some (aJ G n f)) {g0 : Nat → Nat} (hb0 : H[b]? = some (aJ G k g0)) (hn : n < 2 ^ 31) (hk : k < 2 ^ 31) (hab : a ≠ b) (hbb : b0 ≤ b) : Met l yX0_copy wsX0_copy ({ frames := 1, cells := 0, slots := 0, locals := 21 } : Room) (PcH G H [.ref a, .ref b]) (QcV (fun H1 => ∃ g2 : Nat → Nat, (∀ j, j < k → g2 j = lat n f j) ∧ H1 = hput H b (aJ G k g2))) 0 0 (fre b0) := by
  refine m_enter (cc := cX0_copy) (maxL := 3) (ret := none) (own := RX0) (by decide) rfl rfl (Nat.le_of_ble_eq_true rfl) ?_
  intro p e s m below meth c ls hF hnm hH hl
  have hl : lv_has ls 3 [(0, .ref a), (1, .ref b)] := hl
  have hLc : lcs b0 [] := lcs_nil b0
  obtain ⟨hx, hb, hr, hml, hown, hts, hlocks, hK⟩ := id hF
  refine lv_iconst (v := nI 0) hx hb dX0_copy_0 (by decide) ?_
  refine lv_istore_n (lv' := [(2, .int (nI 0)), (0, .ref a), (1, .ref b)]) hx hb dX0_copy_1 rfl hl (by decide) rfl (fun ls hl => ?_)
  have hl := lv_sub (l' := [(0, .ref a), (1, .ref b), (2, .int (nI 0))]) hl [1, 2, 0] rfl
  have hh := copy_2 (l := l) (e := e) (below := below) hF ha hb0 hn hk hab hbb k 0 g0 (by omega) (fun j hj => absurd hj (by omega)) _ _ hLc hl
  rw [hput_same hb0] at hh
  exact hh

set_option maxRecDepth 100000 in
set_option maxHeartbeats 4000000 in
theorem increase_2 {p : Program} {l : Launch} {e : Env} {s : State} {m : MethodId} {args : Array Value} {below : List Frame} {meth : Method} {c : Code} {G : gG} {b0 : Nat} {H : Heap} {a n : Nat} {f : Nat → Nat} (hF : FxM p s m args meth c G cX0_increase 2 none RX0 wsX0_increase) (ht : H[a]? = some (aJ G n f)) (hn : n < 2 ^ 31) (hf : lim f n) (hbt : b0 ≤ a) : ∀ (q : Nat) (i : Nat) (g : Nat → Nat), i + q = n → lim g n → (∀ j, j < i → g j = 0) → vl g n + 4294967296 ^ i = vl f n + 1 → ∀ (locs : List Loc) (ls : Array Slot), lcs b0 locs → lv_has ls 2 [(0, .ref a), (1, .int (nI i))] → W p l e ({ frames := 0, cells := 0, slots := 0, locals := 0 } : Room) s m args below meth c (hput H a (aJ G n g)) locs 0 0 (MQ below (QcV (fun H1 => ∃ g : Nat → Nat, lim g n ∧ vl g n = (vl f n + 1) % 4294967296 ^ n ∧ H1 = hput H a (aJ G n g))) args s 0 0 (fre b0)) (F0 m 2 ls []) := by
  obtain ⟨hx, hb, hr, hml, hown, hts, hlocks, hK⟩ := id hF
  intro q
  induction q with
  | zero =>
    intro i g hi hg h0 hv locs ls hLc hl
    refine lv_iload_n hx hb dX0_increase_2 rfl (lv_at hl 1 rfl) ?_
    refine lv_aload_n hx hb dX0_increase_3 rfl (lv_at hl 0 rfl) ?_
    refine m_alenJ (n := n) (f := g) hx hb hK (hput_self _ (lt_of_at ht)) dX0_increase_4 ?_
    refine lv_icmp_ge (tgt := 35) hx hb dX0_increase_5 (by decide) (fun _ => ?_) (fun h => absurd (nI_le (by omega) (by omega)) h)
    exact m_vret hx hb hr hlocks hLc dX0_increase_35 (⟨g, hg, inc_end (fun j hj => h0 j (by omega)) (by rw [← hv, show i = n by omega]), rfl⟩)
  | succ q ih =>
    intro i g hi hg h0 hv locs ls hLc hl
    have hin : i < n := by omega
    have hgi := hg i hin
    have hxl : (g i + 1) % 4294967296 < 4294967296 := Nat.mod_lt _ (by decide)
    refine lv_iload_n hx hb dX0_increase_2 rfl (lv_at hl 1 rfl) ?_
    refine lv_aload_n hx hb dX0_increase_3 rfl (lv_at hl 0 rfl) ?_
    refine m_alenJ (n := n) (f := g) hx hb hK (hput_self _ (lt_of_at ht)) dX0_increase_4 ?_
    refine lv_icmp_ge (tgt := 35) hx hb dX0_increase_5 (by decide) (fun h => absurd h (nI_ge (by omega) (by omega))) (fun _ => ?_)
    refine lv_aload_n hx hb dX0_increase_8 rfl (lv_at hl 0 rfl) ?_
    refine lv_iload_n hx hb dX0_increase_9 rfl (lv_at hl 1 rfl) ?_
    refine lv_aload_n hx hb dX0_increase_10 rfl (lv_at hl 0 rfl) ?_
    refine lv_iload_n hx hb dX0_increase_11 rfl (lv_at hl 1 rfl) ?_
    refine m_lald (n := n) (f := g) hx hb hK (hput_self _ (lt_of_at ht)) (by omega) (hn) dX0_increase_12 ?_
    refine lv_lconst (v := lN 1) hx hb dX0_increase_13 (by decide) ?_
    refine m_ladd hx hb dX0_increase_14 ?_
    refine lv_ldc2 (v := lN 4294967295) hx hb hown (hts (.constantLong RX0 28 (lN 4294967295)) (by decide +kernel)) dX0_increase_15 ?_
    refine m_mask hx hb dX0_increase_18 ?_
    refine m_last (n := n) (f := g) (b0 := b0) hx hb hK (hput_self _ (lt_of_at ht)) (by omega) (hn) (hbt) hLc dX0_increase_19 (fun locs hLc => ?_)
    rw [hput_put]
    refine lv_aload_n hx hb dX0_increase_20 rfl (lv_at hl 0 rfl) ?_
    refine lv_iload_n hx hb dX0_increase_21 rfl (lv_at hl 1 rfl) ?_
    refine m_lald (n := n) (f := fup g i (((g i) + 1) % 4294967296)) hx hb hK (hput_self _ (lt_of_at ht)) (by omega) (hn) dX0_increase_22 ?_
    rw [fup_s]
    refine lv_lconst (v := lN 0) hx hb dX0_increase_23 (by decide) ?_
    refine m_lc_eq (tgt := 29) hx hb (by omega) (by omega) dX0_increase_24 dX0_increase_25 (by decide) (fun c24 => ?_) (fun c24 => ?_)
    · skip
      refine lv_iinc (v := nI (i + 1)) (lv' := [(1, .int (nI (i + 1))), (0, .ref a)]) hx hb dX0_increase_29 hl (k := 1) rfl (nI_add i 1) (by decide) rfl (fun ls hl => ?_)
      refine lv_goto (tgt := 2) hx hb dX0_increase_32 (by decide) ?_
      exact ih (i + 1) _ (by omega) (lim_fup hg hxl) (fun j hj => if h : j = i then (by rw [h, fup_s]; exact c24) else (by rw [fup_n _ _ h]; exact h0 j (by omega))) (inc_step hg hin hv c24) _ _ hLc (lv_sub hl [1, 0] rfl)
    · skip
      exact m_vret hx hb hr hlocks hLc dX0_increase_28 (⟨_, lim_fup hg hxl, inc_exit hg hin hv c24, rfl⟩)
set_option maxRecDepth 100000 in
set_option maxHeartbeats 4000000 in
theorem c_X0_increase (l : Launch) (G : gG) (b0 : Nat) (H : Heap) {a n : Nat} {f : Nat → Nat} (ht : H[a]? = some (aJ G n f)) (hn : n < 2 ^ 31) (hf : lim f n) (hbt : b0 ≤ a) : Met l yX0_increase wsX0_increase ({ frames := 0, cells := 0, slots := 0, locals := 0 } : Room) (PcH G H [.ref a]) (QcV (fun H1 => ∃ g : Nat → Nat, lim g n ∧ vl g n = (vl f n + 1) % 4294967296 ^ n ∧ H1 = hput H a (aJ G n g))) 0 0 (fre b0) := by
  refine m_enter (cc := cX0_increase) (maxL := 2) (ret := none) (own := RX0) (by decide) rfl rfl (Nat.le_of_ble_eq_true rfl) ?_
  intro p e s m below meth c ls hF hnm hH hl
  have hl : lv_has ls 2 [(0, .ref a)] := hl
  have hLc : lcs b0 [] := lcs_nil b0
  obtain ⟨hx, hb, hr, hml, hown, hts, hlocks, hK⟩ := id hF
  refine lv_iconst (v := nI 0) hx hb dX0_increase_0 (by decide) ?_
  refine lv_istore_n (lv' := [(1, .int (nI 0)), (0, .ref a)]) hx hb dX0_increase_1 rfl hl (by decide) rfl (fun ls hl => ?_)
  have hl := lv_sub (l' := [(0, .ref a), (1, .int (nI 0))]) hl [1, 0] rfl
  have hh := increase_2 (l := l) (e := e) (below := below) hF ht hn hf hbt n 0 f (by omega) hf (fun j hj => absurd hj (by omega)) (by rw [Nat.pow_zero]) _ _ hLc hl
  rw [hput_same ht] at hh
  exact hh

set_option maxRecDepth 100000 in
set_option maxHeartbeats 4000000 in
theorem decrease_2 {p : Program} {l : Launch} {e : Env} {s : State} {m : MethodId} {args : Array Value} {below : List Frame} {meth : Method} {c : Code} {G : gG} {b0 : Nat} {H : Heap} {a n : Nat} {f : Nat → Nat} (hF : FxM p s m args meth c G cX0_decrease 2 none RX0 wsX0_decrease) (ht : H[a]? = some (aJ G n f)) (hn : n < 2 ^ 31) (hf : lim f n) (hbt : b0 ≤ a) (hv0 : 0 < vl f n) : ∀ (q : Nat) (i : Nat) (g : Nat → Nat), i + q = n → lim g n → (∀ j, j < i → f j = 0) → (∀ j, i ≤ j → g j = f j) → vl g n + 1 = vl f n + 4294967296 ^ i → ∀ (locs : List Loc) (ls : Array Slot), lcs b0 locs → lv_has ls 2 [(0, .ref a), (1, .int (nI i))] → W p l e ({ frames := 0, cells := 0, slots := 0, locals := 0 } : Room) s m args below meth c (hput H a (aJ G n g)) locs 0 0 (MQ below (QcV (fun H1 => ∃ g : Nat → Nat, lim g n ∧ vl g n + 1 = vl f n ∧ H1 = hput H a (aJ G n g))) args s 0 0 (fre b0)) (F0 m 2 ls []) := by
  obtain ⟨hx, hb, hr, hml, hown, hts, hlocks, hK⟩ := id hF
  intro q
  induction q with
  | zero =>
    intro i g hi hg h0 hs hv locs ls hLc hl
    exact absurd ((vl_zero_iff (f := f) (n := n)).mpr (fun j hj => h0 j (by omega))) (by omega)
  | succ q ih =>
    intro i g hi hg h0 hs hv locs ls hLc hl
    have hin : i < n := by omega
    have hgi := hg i hin
    have hxl : (g i + 4294967296 - 1) % 4294967296 < 4294967296 := Nat.mod_lt _ (by decide)
    refine lv_iload_n hx hb dX0_decrease_2 rfl (lv_at hl 1 rfl) ?_
    refine lv_aload_n hx hb dX0_decrease_3 rfl (lv_at hl 0 rfl) ?_
    refine m_alenJ (n := n) (f := g) hx hb hK (hput_self _ (lt_of_at ht)) dX0_decrease_4 ?_
    refine lv_icmp_ge (tgt := 37) hx hb dX0_decrease_5 (by decide) (fun h => absurd h (nI_ge (by omega) (by omega))) (fun _ => ?_)
    refine lv_aload_n hx hb dX0_decrease_8 rfl (lv_at hl 0 rfl) ?_
    refine lv_iload_n hx hb dX0_decrease_9 rfl (lv_at hl 1 rfl) ?_
    refine lv_aload_n hx hb dX0_decrease_10 rfl (lv_at hl 0 rfl) ?_
    refine lv_iload_n hx hb dX0_decrease_11 rfl (lv_at hl 1 rfl) ?_
    refine m_lald (n := n) (f := g) hx hb hK (hput_self _ (lt_of_at ht)) (by omega) (hn) dX0_decrease_12 ?_
    refine lv_lconst (v := lN 1) hx hb dX0_decrease_13 (by decide) ?_
    refine lv_lsub hx hb dX0_decrease_14 ?_
    refine lv_ldc2 (v := lN 4294967295) hx hb hown (hts (.constantLong RX0 28 (lN 4294967295)) (by decide +kernel)) dX0_decrease_15 ?_
    refine lv_land hx hb dX0_decrease_18 ?_
    rw [sub_mask (by decide)]
    refine m_last (n := n) (f := g) (b0 := b0) hx hb hK (hput_self _ (lt_of_at ht)) (by omega) (hn) (hbt) hLc dX0_decrease_19 (fun locs hLc => ?_)
    rw [hput_put]
    refine lv_aload_n hx hb dX0_decrease_20 rfl (lv_at hl 0 rfl) ?_
    refine lv_iload_n hx hb dX0_decrease_21 rfl (lv_at hl 1 rfl) ?_
    refine m_lald (n := n) (f := fup g i ((g i + 4294967296 - 1) % 4294967296)) hx hb hK (hput_self _ (lt_of_at ht)) (by omega) (hn) dX0_decrease_22 ?_
    rw [fup_s]
    refine lv_ldc2 (v := lN 4294967295) hx hb hown (hts (.constantLong RX0 28 (lN 4294967295)) (by decide +kernel)) dX0_decrease_23 ?_
    refine m_lc_eq (tgt := 31) hx hb (by omega) (by omega) dX0_decrease_26 dX0_decrease_27 (by decide) (fun c26 => ?_) (fun c26 => ?_)
    · skip
      refine lv_iinc (v := nI (i + 1)) (lv' := [(1, .int (nI (i + 1))), (0, .ref a)]) hx hb dX0_decrease_31 hl (k := 1) rfl (nI_add i 1) (by decide) rfl (fun ls hl => ?_)
      refine lv_goto (tgt := 2) hx hb dX0_decrease_34 (by decide) ?_
      exact ih (i + 1) _ (by omega) (lim_fup hg hxl) (fun j hj => if h : j = i then (by rw [h, ← hs i (Nat.le_refl i)]; exact (dec_step hg hin hv c26).1) else h0 j (by omega)) (fun j hj => by rw [fup_n _ _ (by omega)]; exact hs j (by omega)) (dec_step hg hin hv c26).2 _ _ hLc (lv_sub hl [1, 0] rfl)
    · skip
      exact m_vret hx hb hr hlocks hLc dX0_decrease_30 (⟨_, lim_fup hg hxl, dec_exit hg hin hv c26, rfl⟩)
set_option maxRecDepth 100000 in
set_option maxHeartbeats 4000000 in
theorem c_X0_decrease (l : Launch) (G : gG) (b0 : Nat) (H : Heap) {a n : Nat} {f : Nat → Nat} (ht : H[a]? = some (aJ G n f)) (hn : n < 2 ^ 31) (hf : lim f n) (hbt : b0 ≤ a) (hv0 : 0 < vl f n) : Met l yX0_decrease wsX0_decrease ({ frames := 0, cells := 0, slots := 0, locals := 0 } : Room) (PcH G H [.ref a]) (QcV (fun H1 => ∃ g : Nat → Nat, lim g n ∧ vl g n + 1 = vl f n ∧ H1 = hput H a (aJ G n g))) 0 0 (fre b0) := by
  refine m_enter (cc := cX0_decrease) (maxL := 2) (ret := none) (own := RX0) (by decide) rfl rfl (Nat.le_of_ble_eq_true rfl) ?_
  intro p e s m below meth c ls hF hnm hH hl
  have hl : lv_has ls 2 [(0, .ref a)] := hl
  have hLc : lcs b0 [] := lcs_nil b0
  obtain ⟨hx, hb, hr, hml, hown, hts, hlocks, hK⟩ := id hF
  refine lv_iconst (v := nI 0) hx hb dX0_decrease_0 (by decide) ?_
  refine lv_istore_n (lv' := [(1, .int (nI 0)), (0, .ref a)]) hx hb dX0_decrease_1 rfl hl (by decide) rfl (fun ls hl => ?_)
  have hl := lv_sub (l' := [(0, .ref a), (1, .int (nI 0))]) hl [1, 0] rfl
  have hh := decrease_2 (l := l) (e := e) (below := below) hF ht hn hf hbt hv0 n 0 f (by omega) hf (fun j hj => absurd hj (by omega)) (fun j _ => rfl) (by rw [Nat.pow_zero]) _ _ hLc hl
  rw [hput_same ht] at hh
  exact hh

set_option maxRecDepth 100000 in
set_option maxHeartbeats 4000000 in
theorem negate_2 {p : Program} {l : Launch} {e : Env} {s : State} {m : MethodId} {args : Array Value} {below : List Frame} {meth : Method} {c : Code} {G : gG} {b0 : Nat} {H : Heap} {a n : Nat} {f : Nat → Nat} (hF : FxM p s m args meth c G cX0_negate 2 none RX0 wsX0_negate) (ht : H[a]? = some (aJ G n f)) (hn : n < 2 ^ 31) (hf : lim f n) (hbt : b0 ≤ a) : ∀ (q : Nat) (i : Nat) (g : Nat → Nat), i + q = n → lim g n → (∀ j, i ≤ j → g j = f j) → vl g i + vl f i + 1 = 4294967296 ^ i → ∀ (locs : List Loc) (ls : Array Slot), lcs b0 locs → lv_has ls 2 [(0, .ref a), (1, .int (nI i))] → W p l e ({ frames := 1, cells := 0, slots := 0, locals := 21 } : Room) s m args below meth c (hput H a (aJ G n g)) locs 0 0 (MQ below (QcV (fun H1 => ∃ g : Nat → Nat, lim g n ∧ vl g n = (4294967296 ^ n - vl f n) % 4294967296 ^ n ∧ H1 = hput H a (aJ G n g))) args s 0 0 (fre b0)) (F0 m 2 ls []) := by
  obtain ⟨hx, hb, hr, hml, hown, hts, hlocks, hK⟩ := id hF
  intro q
  induction q with
  | zero =>
    intro i g hi hg hs hv locs ls hLc hl
    have hin : i = n := by omega
    rw [hin] at hv
    refine lv_iload_n hx hb dX0_negate_2 rfl (lv_at hl 1 rfl) ?_
    refine lv_aload_n hx hb dX0_negate_3 rfl (lv_at hl 0 rfl) ?_
    refine m_alenJ (n := n) (f := g) hx hb hK (hput_self _ (lt_of_at ht)) dX0_negate_4 ?_
    refine lv_icmp_ge (tgt := 28) hx hb dX0_negate_5 (by decide) (fun _ => ?_) (fun h => absurd (nI_le (by omega) (by omega)) h)
    refine lv_aload_n hx hb dX0_negate_28 rfl (lv_at hl 0 rfl) ?_
    refine mc_v0 (va_runS (As := [.ref a]) (rest := []) ⟨hx, hb, hml, hown, hts⟩ (c_X0_increase l G b0 (hput H a (aJ G n g)) (hput_self _ (lt_of_at ht)) hn hg hbt) (va_cwS 1 hts gX0_negate_X0_increase rfl rfl rfl (by decide +kernel) ⟨Nat.le_of_ble_eq_true rfl, Nat.le_of_ble_eq_true rfl⟩) (mp_S hK) rfl rfl hl.1 rfl (lv_room (Nat.le_of_ble_eq_true rfl)) dX0_negate_29 ⟨Nat.le_of_ble_eq_true rfl, Nat.le_of_ble_eq_true rfl⟩) hLc (fun H1 locs hP hLc => ?_)
    obtain ⟨g2, hg2, hv2, rfl⟩ := hP
    rw [hput_put]
    exact m_vret hx hb hr hlocks hLc dX0_negate_32 (⟨g2, hg2, by rw [hv2, show vl g n + 1 = 4294967296 ^ n - vl f n by omega], rfl⟩)
  | succ q ih =>
    intro i g hi hg hs hv locs ls hLc hl
    have hin : i < n := by omega
    have hgi := hg i hin
    refine lv_iload_n hx hb dX0_negate_2 rfl (lv_at hl 1 rfl) ?_
    refine lv_aload_n hx hb dX0_negate_3 rfl (lv_at hl 0 rfl) ?_
    refine m_alenJ (n := n) (f := g) hx hb hK (hput_self _ (lt_of_at ht)) dX0_negate_4 ?_
    refine lv_icmp_ge (tgt := 28) hx hb dX0_negate_5 (by decide) (fun h => absurd h (nI_ge (by omega) (by omega))) (fun _ => ?_)
    refine lv_aload_n hx hb dX0_negate_8 rfl (lv_at hl 0 rfl) ?_
    refine lv_iload_n hx hb dX0_negate_9 rfl (lv_at hl 1 rfl) ?_
    refine lv_aload_n hx hb dX0_negate_10 rfl (lv_at hl 0 rfl) ?_
    refine lv_iload_n hx hb dX0_negate_11 rfl (lv_at hl 1 rfl) ?_
    refine m_lald (n := n) (f := g) hx hb hK (hput_self _ (lt_of_at ht)) (by omega) (hn) dX0_negate_12 ?_
    refine lv_ldc2 (v := -1) hx hb hown (hts (.constantLong RX0 30 (-1)) (by decide +kernel)) dX0_negate_13 ?_
    refine lv_lxor hx hb dX0_negate_16 ?_
    refine lv_ldc2 (v := lN 4294967295) hx hb hown (hts (.constantLong RX0 28 (lN 4294967295)) (by decide +kernel)) dX0_negate_17 ?_
    refine lv_land hx hb dX0_negate_20 ?_
    rw [not_mask hgi]
    refine m_last (n := n) (f := g) (b0 := b0) hx hb hK (hput_self _ (lt_of_at ht)) (by omega) (hn) (hbt) hLc dX0_negate_21 (fun locs hLc => ?_)
    rw [hput_put]
    refine lv_iinc (v := nI (i + 1)) (lv' := [(1, .int (nI (i + 1))), (0, .ref a)]) hx hb dX0_negate_22 hl (k := 1) rfl (nI_add i 1) (by decide) rfl (fun ls hl => ?_)
    refine lv_goto (tgt := 2) hx hb dX0_negate_25 (by decide) ?_
    exact ih (i + 1) _ (by omega) (lim_fup hg (by omega)) (fun j hj => by rw [fup_n _ _ (by omega)]; exact hs j (by omega)) (neg_step (hf i hin) (hs i (Nat.le_refl i)) hv) _ _ hLc (lv_sub hl [1, 0] rfl)
set_option maxRecDepth 100000 in
set_option maxHeartbeats 4000000 in
theorem c_X0_negate (l : Launch) (G : gG) (b0 : Nat) (H : Heap) {a n : Nat} {f : Nat → Nat} (ht : H[a]? = some (aJ G n f)) (hn : n < 2 ^ 31) (hf : lim f n) (hbt : b0 ≤ a) : Met l yX0_negate wsX0_negate ({ frames := 1, cells := 0, slots := 0, locals := 21 } : Room) (PcH G H [.ref a]) (QcV (fun H1 => ∃ g : Nat → Nat, lim g n ∧ vl g n = (4294967296 ^ n - vl f n) % 4294967296 ^ n ∧ H1 = hput H a (aJ G n g))) 0 0 (fre b0) := by
  refine m_enter (cc := cX0_negate) (maxL := 2) (ret := none) (own := RX0) (by decide) rfl rfl (Nat.le_of_ble_eq_true rfl) ?_
  intro p e s m below meth c ls hF hnm hH hl
  have hl : lv_has ls 2 [(0, .ref a)] := hl
  have hLc : lcs b0 [] := lcs_nil b0
  obtain ⟨hx, hb, hr, hml, hown, hts, hlocks, hK⟩ := id hF
  refine lv_iconst (v := nI 0) hx hb dX0_negate_0 (by decide) ?_
  refine lv_istore_n (lv' := [(1, .int (nI 0)), (0, .ref a)]) hx hb dX0_negate_1 rfl hl (by decide) rfl (fun ls hl => ?_)
  have hl := lv_sub (l' := [(0, .ref a), (1, .int (nI 0))]) hl [1, 0] rfl
  have hh := negate_2 (l := l) (e := e) (below := below) hF ht hn hf hbt n 0 f (by omega) hf (fun j _ => rfl) rfl _ _ hLc hl
  rw [hput_same ht] at hh
  exact hh

set_option maxRecDepth 100000 in
set_option maxHeartbeats 4000000 in
theorem add_5 {p : Program} {l : Launch} {e : Env} {s : State} {m : MethodId} {args : Array Value} {below : List Frame} {meth : Method} {c : Code} {G : gG} {b0 : Nat} {H : Heap} {a b t n1 n2 n : Nat} {f1 f2 f : Nat → Nat} (hF : FxM p s m args meth c G cX0_add 8 none RX0 wsX0_add) (ha : H[a]? = some (aJ G n1 f1)) (hb0 : H[b]? = some (aJ G n2 f2)) (ht : H[t]? = some (aJ G n f)) (hn1 : n1 < 2 ^ 31) (hn2 : n2 < 2 ^ 31) (hn : n < 2 ^ 31) (hf1 : lim f1 n1) (hf2 : lim f2 n2) (hat : a ≠ t) (hbn : b ≠ t) (hbt : b0 ≤ t) : ∀ (q : Nat) (i c1 : Nat) (g : Nat → Nat), i + q = n → lim g i → c1 ≤ 1 → vl g i + c1 * 4294967296 ^ i = vl (lat n1 f1) i + vl (lat n2 f2) i → ∀ (locs : List Loc) (ls : Array Slot), lcs b0 locs → lv_has ls 8 [(0, .ref a), (1, .ref b), (2, .ref t), (3, .long (lN c1)), (5, .int (nI i))] → W p l e ({ frames := 1, cells := 0, slots := 0, locals := 21 } : Room) s m args below meth c (hput H t (aJ G n g)) locs 0 0 (MQ below (QcV (fun H1 => ∃ (g : Nat → Nat) (c1 : Nat), lim g n ∧ vl g n + c1 * 4294967296 ^ n = vl (lat n1 f1) n + vl (lat n2 f2) n ∧ H1 = hput H t (aJ G n g))) args s 0 0 (fre b0)) (F0 m 5 ls []) := by
  obtain ⟨hx, hb, hr, hml, hown, hts, hlocks, hK⟩ := id hF
  intro q
  induction q with
  | zero =>
    intro i c1 g hi hg hc hv locs ls hLc hl
    have hin : i = n := by omega
    rw [hin] at hv hg
    refine lv_iload hx hb dX0_add_5 (lv_at hl 4 rfl) ?_
    refine lv_aload_n hx hb dX0_add_7 rfl (lv_at hl 2 rfl) ?_
    refine m_alenJ (n := n) (f := g) hx hb hK (hput_self _ (lt_of_at ht)) dX0_add_8 ?_
    refine lv_icmp_ge (tgt := 51) hx hb dX0_add_9 (by decide) (fun _ => ?_) (fun h => absurd (nI_le (by omega) (by omega)) h)
    exact m_vret hx hb hr hlocks hLc dX0_add_51 (⟨g, c1, hg, hv, rfl⟩)
  | succ q ih =>
    intro i c1 g hi hg hc hv locs ls hLc hl
    have hin : i < n := by omega
    have h1 := lat_lim hf1 i
    have h2 := lat_lim hf2 i
    have hxl : (lat n1 f1 i + lat n2 f2 i + c1) % 4294967296 < 4294967296 := Nat.mod_lt _ (by decide)
    refine lv_iload hx hb dX0_add_5 (lv_at hl 4 rfl) ?_
    refine lv_aload_n hx hb dX0_add_7 rfl (lv_at hl 2 rfl) ?_
    refine m_alenJ (n := n) (f := g) hx hb hK (hput_self _ (lt_of_at ht)) dX0_add_8 ?_
    refine lv_icmp_ge (tgt := 51) hx hb dX0_add_9 (by decide) (fun h => absurd h (nI_ge (by omega) (by omega))) (fun _ => ?_)
    refine lv_aload_n hx hb dX0_add_12 rfl (lv_at hl 0 rfl) ?_
    refine lv_iload hx hb dX0_add_13 (lv_at hl 4 rfl) ?_
    refine mc_l0 (va_runS (As := [.ref a, .int (nI i)]) (rest := []) ⟨hx, hb, hml, hown, hts⟩ (c_X0_limbAt l G b0 (hput H t (aJ G n g)) ((hput_ne _ hat).trans ha) hn1 (nI i)) (va_cwS 2 hts gX0_add_X0_limbAt rfl rfl rfl (by decide +kernel) ⟨Nat.le_of_ble_eq_true rfl, Nat.le_of_ble_eq_true rfl⟩) (mp_S hK) rfl rfl hl.1 rfl (lv_room (Nat.le_of_ble_eq_true rfl)) dX0_add_15 ⟨Nat.le_of_ble_eq_true rfl, Nat.le_of_ble_eq_true rfl⟩) hLc (fun r H1 locs hP hLc => ?_)
    obtain ⟨rfl, rfl⟩ := hP
    rw [nI_toInt (by omega), latI_nat]
    refine lv_aload_n hx hb dX0_add_18 rfl (lv_at hl 1 rfl) ?_
    refine lv_iload hx hb dX0_add_19 (lv_at hl 4 rfl) ?_
    refine mc_l0 (va_runS (As := [.ref b, .int (nI i)]) (rest := [.long (lN (lat n1 f1 i))]) ⟨hx, hb, hml, hown, hts⟩ (c_X0_limbAt l G b0 (hput H t (aJ G n g)) ((hput_ne _ hbn).trans hb0) hn2 (nI i)) (va_cwS 2 hts gX0_add_X0_limbAt rfl rfl rfl (by decide +kernel) ⟨Nat.le_of_ble_eq_true rfl, Nat.le_of_ble_eq_true rfl⟩) (mp_S hK) rfl rfl hl.1 rfl (lv_room (Nat.le_of_ble_eq_true rfl)) dX0_add_21 ⟨Nat.le_of_ble_eq_true rfl, Nat.le_of_ble_eq_true rfl⟩) hLc (fun r H1 locs hP hLc => ?_)
    obtain ⟨rfl, rfl⟩ := hP
    rw [nI_toInt (by omega), latI_nat]
    refine m_ladd hx hb dX0_add_24 ?_
    refine lv_lload_n hx hb dX0_add_25 rfl (lv_at hl 3 rfl) ?_
    refine m_ladd hx hb dX0_add_26 ?_
    refine lv_lstore (lv' := [(6, .long (lN (((lat n1 f1 i) + (lat n2 f2 i)) + c1))), (0, .ref a), (1, .ref b), (2, .ref t), (3, .long (lN c1)), (5, .int (nI i))]) hx hb dX0_add_27 hl (by decide) rfl (fun ls hl => ?_)
    refine lv_aload_n hx hb dX0_add_29 rfl (lv_at hl 3 rfl) ?_
    refine lv_iload hx hb dX0_add_30 (lv_at hl 5 rfl) ?_
    refine lv_lload hx hb dX0_add_32 (lv_at hl 0 rfl) ?_
    refine lv_ldc2 (v := lN 4294967295) hx hb hown (hts (.constantLong RX0 28 (lN 4294967295)) (by decide +kernel)) dX0_add_34 ?_
    refine m_mask hx hb dX0_add_37 ?_
    refine m_last (n := n) (f := g) (b0 := b0) hx hb hK (hput_self _ (lt_of_at ht)) (by omega) (hn) (hbt) hLc dX0_add_38 (fun locs hLc => ?_)
    rw [hput_put]
    refine lv_lload hx hb dX0_add_39 (lv_at hl 0 rfl) ?_
    refine lv_bipush (v := nI 32) hx hb dX0_add_41 (by decide) ?_
    refine m_lushr32 hx hb (by omega) dX0_add_43 ?_
    refine lv_lstore_n (lv' := [(3, .long (lN ((((lat n1 f1 i) + (lat n2 f2 i)) + c1) / 4294967296))), (6, .long (lN (((lat n1 f1 i) + (lat n2 f2 i)) + c1))), (0, .ref a), (1, .ref b), (2, .ref t), (5, .int (nI i))]) hx hb dX0_add_44 rfl hl (by decide) rfl (fun ls hl => ?_)
    refine lv_iinc (v := nI (i + 1)) (lv' := [(5, .int (nI (i + 1))), (3, .long (lN ((((lat n1 f1 i) + (lat n2 f2 i)) + c1) / 4294967296))), (6, .long (lN (((lat n1 f1 i) + (lat n2 f2 i)) + c1))), (0, .ref a), (1, .ref b), (2, .ref t)]) hx hb dX0_add_45 hl (k := 5) rfl (nI_add i 1) (by decide) rfl (fun ls hl => ?_)
    refine lv_goto (tgt := 5) hx hb dX0_add_48 (by decide) ?_
    exact ih (i + 1) _ _ (by omega) (lim_succ hg hxl) (by omega) (add_step hv) _ _ hLc (lv_sub hl [3, 4, 5, 1, 0] rfl)
set_option maxRecDepth 100000 in
set_option maxHeartbeats 4000000 in
theorem c_X0_add (l : Launch) (G : gG) (b0 : Nat) (H : Heap) {a b t n1 n2 n : Nat} {f1 f2 f : Nat → Nat} (ha : H[a]? = some (aJ G n1 f1)) (hb0 : H[b]? = some (aJ G n2 f2)) (ht : H[t]? = some (aJ G n f)) (hn1 : n1 < 2 ^ 31) (hn2 : n2 < 2 ^ 31) (hn : n < 2 ^ 31) (hf1 : lim f1 n1) (hf2 : lim f2 n2) (hat : a ≠ t) (hbn : b ≠ t) (hbt : b0 ≤ t) : Met l yX0_add wsX0_add ({ frames := 1, cells := 0, slots := 0, locals := 21 } : Room) (PcH G H [.ref a, .ref b, .ref t]) (QcV (fun H1 => ∃ (g : Nat → Nat) (c1 : Nat), lim g n ∧ vl g n + c1 * 4294967296 ^ n = vl (lat n1 f1) n + vl (lat n2 f2) n ∧ H1 = hput H t (aJ G n g))) 0 0 (fre b0) := by
  refine m_enter (cc := cX0_add) (maxL := 8) (ret := none) (own := RX0) (by decide) rfl rfl (Nat.le_of_ble_eq_true rfl) ?_
  intro p e s m below meth c ls hF hnm hH hl
  have hl : lv_has ls 8 [(0, .ref a), (1, .ref b), (2, .ref t)] := hl
  have hLc : lcs b0 [] := lcs_nil b0
  obtain ⟨hx, hb, hr, hml, hown, hts, hlocks, hK⟩ := id hF
  refine lv_lconst (v := lN 0) hx hb dX0_add_0 (by decide) ?_
  refine lv_lstore_n (lv' := [(3, .long (lN 0)), (0, .ref a), (1, .ref b), (2, .ref t)]) hx hb dX0_add_1 rfl hl (by decide) rfl (fun ls hl => ?_)
  refine lv_iconst (v := nI 0) hx hb dX0_add_2 (by decide) ?_
  refine lv_istore (lv' := [(5, .int (nI 0)), (3, .long (lN 0)), (0, .ref a), (1, .ref b), (2, .ref t)]) hx hb dX0_add_3 hl (by decide) rfl (fun ls hl => ?_)
  have hl := lv_sub (l' := [(0, .ref a), (1, .ref b), (2, .ref t), (3, .long (lN 0)), (5, .int (nI 0))]) hl [2, 3, 4, 1, 0] rfl
  have hh := add_5 (l := l) (e := e) (below := below) hF ha hb0 ht hn1 hn2 hn hf1 hf2 hat hbn hbt n 0 0 f (by omega) (fun j hj => absurd hj (by omega)) (by omega) rfl _ _ hLc hl
  rw [hput_same ht] at hh
  exact hh

set_option maxRecDepth 100000 in
set_option maxHeartbeats 4000000 in
theorem subtract_5 {p : Program} {l : Launch} {e : Env} {s : State} {m : MethodId} {args : Array Value} {below : List Frame} {meth : Method} {c : Code} {G : gG} {b0 : Nat} {H : Heap} {a b t n1 n2 n : Nat} {f1 f2 f : Nat → Nat} (hF : FxM p s m args meth c G cX0_subtract 8 none RX0 wsX0_subtract) (ha : H[a]? = some (aJ G n1 f1)) (hb0 : H[b]? = some (aJ G n2 f2)) (ht : H[t]? = some (aJ G n f)) (hn1 : n1 < 2 ^ 31) (hn2 : n2 < 2 ^ 31) (hn : n < 2 ^ 31) (hf1 : lim f1 n1) (hf2 : lim f2 n2) (hat : a ≠ t) (hbn : b ≠ t) (hbt : b0 ≤ t) : ∀ (q : Nat) (i c1 : Nat) (g : Nat → Nat), i + q = n → lim g i → c1 ≤ 1 → vl g i + vl (lat n2 f2) i = vl (lat n1 f1) i + c1 * 4294967296 ^ i → ∀ (locs : List Loc) (ls : Array Slot), lcs b0 locs → lv_has ls 8 [(0, .ref a), (1, .ref b), (2, .ref t), (3, .long (lN c1)), (5, .int (nI i))] → W p l e ({ frames := 1, cells := 0, slots := 0, locals := 21 } : Room) s m args below meth c (hput H t (aJ G n g)) locs 0 0 (MQ below (QcV (fun H1 => ∃ (g : Nat → Nat) (c1 : Nat), lim g n ∧ vl g n + vl (lat n2 f2) n = vl (lat n1 f1) n + c1 * 4294967296 ^ n ∧ H1 = hput H t (aJ G n g))) args s 0 0 (fre b0)) (F0 m 5 ls []) := by
  obtain ⟨hx, hb, hr, hml, hown, hts, hlocks, hK⟩ := id hF
  intro q
  induction q with
  | zero =>
    intro i c1 g hi hg hc hv locs ls hLc hl
    have hin : i = n := by omega
    rw [hin] at hv hg
    refine lv_iload hx hb dX0_subtract_5 (lv_at hl 4 rfl) ?_
    refine lv_aload_n hx hb dX0_subtract_7 rfl (lv_at hl 2 rfl) ?_
    refine m_alenJ (n := n) (f := g) hx hb hK (hput_self _ (lt_of_at ht)) dX0_subtract_8 ?_
    refine lv_icmp_ge (tgt := 58) hx hb dX0_subtract_9 (by decide) (fun _ => ?_) (fun h => absurd (nI_le (by omega) (by omega)) h)
    exact m_vret hx hb hr hlocks hLc dX0_subtract_58 (⟨g, c1, hg, hv, rfl⟩)
  | succ q ih =>
    intro i c1 g hi hg hc hv locs ls hLc hl
    have hin : i < n := by omega
    have h1 := lat_lim hf1 i
    have h2 := lat_lim hf2 i
    have hxl : (lat n1 f1 i + 4294967296 - (lat n2 f2 i + c1)) % 4294967296 < 4294967296 := Nat.mod_lt _ (by decide)
    refine lv_iload hx hb dX0_subtract_5 (lv_at hl 4 rfl) ?_
    refine lv_aload_n hx hb dX0_subtract_7 rfl (lv_at hl 2 rfl) ?_
    refine m_alenJ (n := n) (f := g) hx hb hK (hput_self _ (lt_of_at ht)) dX0_subtract_8 ?_
    refine lv_icmp_ge (tgt := 58) hx hb dX0_subtract_9 (by decide) (fun h => absurd h (nI_ge (by omega) (by omega))) (fun _ => ?_)
    refine lv_aload_n hx hb dX0_subtract_12 rfl (lv_at hl 0 rfl) ?_
    refine lv_iload hx hb dX0_subtract_13 (lv_at hl 4 rfl) ?_
    refine mc_l0 (va_runS (As := [.ref a, .int (nI i)]) (rest := []) ⟨hx, hb, hml, hown, hts⟩ (c_X0_limbAt l G b0 (hput H t (aJ G n g)) ((hput_ne _ hat).trans ha) hn1 (nI i)) (va_cwS 2 hts gX0_subtract_X0_limbAt rfl rfl rfl (by decide +kernel) ⟨Nat.le_of_ble_eq_true rfl, Nat.le_of_ble_eq_true rfl⟩) (mp_S hK) rfl rfl hl.1 rfl (lv_room (Nat.le_of_ble_eq_true rfl)) dX0_subtract_15 ⟨Nat.le_of_ble_eq_true rfl, Nat.le_of_ble_eq_true rfl⟩) hLc (fun r H1 locs hP hLc => ?_)
    obtain ⟨rfl, rfl⟩ := hP
    rw [nI_toInt (by omega), latI_nat]
    refine lv_aload_n hx hb dX0_subtract_18 rfl (lv_at hl 1 rfl) ?_
    refine lv_iload hx hb dX0_subtract_19 (lv_at hl 4 rfl) ?_
    refine mc_l0 (va_runS (As := [.ref b, .int (nI i)]) (rest := [.long (lN (lat n1 f1 i))]) ⟨hx, hb, hml, hown, hts⟩ (c_X0_limbAt l G b0 (hput H t (aJ G n g)) ((hput_ne _ hbn).trans hb0) hn2 (nI i)) (va_cwS 2 hts gX0_subtract_X0_limbAt rfl rfl rfl (by decide +kernel) ⟨Nat.le_of_ble_eq_true rfl, Nat.le_of_ble_eq_true rfl⟩) (mp_S hK) rfl rfl hl.1 rfl (lv_room (Nat.le_of_ble_eq_true rfl)) dX0_subtract_21 ⟨Nat.le_of_ble_eq_true rfl, Nat.le_of_ble_eq_true rfl⟩) hLc (fun r H1 locs hP hLc => ?_)
    obtain ⟨rfl, rfl⟩ := hP
    rw [nI_toInt (by omega), latI_nat]
    refine lv_lsub hx hb dX0_subtract_24 ?_
    refine lv_lload_n hx hb dX0_subtract_25 rfl (lv_at hl 3 rfl) ?_
    refine lv_lsub hx hb dX0_subtract_26 ?_
    rw [sub_sub_lN]
    refine lv_lstore (lv' := [(6, .long (lN (lat n1 f1 i) - lN (lat n2 f2 i + c1))), (0, .ref a), (1, .ref b), (2, .ref t), (3, .long (lN c1)), (5, .int (nI i))]) hx hb dX0_subtract_27 hl (by decide) rfl (fun ls hl => ?_)
    refine lv_aload_n hx hb dX0_subtract_29 rfl (lv_at hl 3 rfl) ?_
    refine lv_iload hx hb dX0_subtract_30 (lv_at hl 5 rfl) ?_
    refine lv_lload hx hb dX0_subtract_32 (lv_at hl 0 rfl) ?_
    refine lv_ldc2 (v := lN 4294967295) hx hb hown (hts (.constantLong RX0 28 (lN 4294967295)) (by decide +kernel)) dX0_subtract_34 ?_
    refine lv_land hx hb dX0_subtract_37 ?_
    rw [sub_mask (by omega)]
    refine m_last (n := n) (f := g) (b0 := b0) hx hb hK (hput_self _ (lt_of_at ht)) (by omega) (hn) (hbt) hLc dX0_subtract_38 (fun locs hLc => ?_)
    rw [hput_put]
    refine lv_lload hx hb dX0_subtract_39 (lv_at hl 0 rfl) ?_
    refine lv_lconst (v := lN 0) hx hb dX0_subtract_41 (by decide) ?_
    refine m_lr_ge (tgt := 50) hx hb dX0_subtract_42 dX0_subtract_43 (by decide) (fun c42 => ?_) (fun c42 => ?_)
    · skip
      have c42 := (sub_ge0 (by omega) (by omega)).mp c42
      refine lv_lconst (v := lN 0) hx hb dX0_subtract_50 (by decide) ?_
      refine lv_lstore_n (lv' := [(3, .long (lN 0)), (6, .long (lN (lat n1 f1 i) - lN (lat n2 f2 i + c1))), (0, .ref a), (1, .ref b), (2, .ref t), (5, .int (nI i))]) hx hb dX0_subtract_51 rfl hl (by decide) rfl (fun ls hl => ?_)
      refine lv_iinc (v := nI (i + 1)) (lv' := [(5, .int (nI (i + 1))), (3, .long (lN 0)), (6, .long (lN (lat n1 f1 i) - lN (lat n2 f2 i + c1))), (0, .ref a), (1, .ref b), (2, .ref t)]) hx hb dX0_subtract_52 hl (k := 5) rfl (nI_add i 1) (by decide) rfl (fun ls hl => ?_)
      refine lv_goto (tgt := 5) hx hb dX0_subtract_55 (by decide) ?_
      exact ih (i + 1) _ _ (by omega) (lim_succ hg hxl) (by omega) (sub_step0 h1 c42 hv) _ _ hLc (lv_sub hl [3, 4, 5, 1, 0] rfl)
    · skip
      have c42 : ¬ (lat n2 f2 i + c1 ≤ lat n1 f1 i) := fun z => c42 ((sub_ge0 (by omega) (by omega)).mpr z)
      refine lv_lconst (v := lN 1) hx hb dX0_subtract_46 (by decide) ?_
      refine lv_goto (tgt := 51) hx hb dX0_subtract_47 (by decide) ?_
      refine lv_lstore_n (lv' := [(3, .long (lN 1)), (6, .long (lN (lat n1 f1 i) - lN (lat n2 f2 i + c1))), (0, .ref a), (1, .ref b), (2, .ref t), (5, .int (nI i))]) hx hb dX0_subtract_51 rfl hl (by decide) rfl (fun ls hl => ?_)
      refine lv_iinc (v := nI (i + 1)) (lv' := [(5, .int (nI (i + 1))), (3, .long (lN 1)), (6, .long (lN (lat n1 f1 i) - lN (lat n2 f2 i + c1))), (0, .ref a), (1, .ref b), (2, .ref t)]) hx hb dX0_subtract_52 hl (k := 5) rfl (nI_add i 1) (by decide) rfl (fun ls hl => ?_)
      refine lv_goto (tgt := 5) hx hb dX0_subtract_55 (by decide) ?_
      exact ih (i + 1) _ _ (by omega) (lim_succ hg hxl) (by omega) (sub_step1 h1 (by omega) (by omega) hv) _ _ hLc (lv_sub hl [3, 4, 5, 1, 0] rfl)
set_option maxRecDepth 100000 in
set_option maxHeartbeats 4000000 in
theorem c_X0_subtract (l : Launch) (G : gG) (b0 : Nat) (H : Heap) {a b t n1 n2 n : Nat} {f1 f2 f : Nat → Nat} (ha : H[a]? = some (aJ G n1 f1)) (hb0 : H[b]? = some (aJ G n2 f2)) (ht : H[t]? = some (aJ G n f)) (hn1 : n1 < 2 ^ 31) (hn2 : n2 < 2 ^ 31) (hn : n < 2 ^ 31) (hf1 : lim f1 n1) (hf2 : lim f2 n2) (hat : a ≠ t) (hbn : b ≠ t) (hbt : b0 ≤ t) : Met l yX0_subtract wsX0_subtract ({ frames := 1, cells := 0, slots := 0, locals := 21 } : Room) (PcH G H [.ref a, .ref b, .ref t]) (QcV (fun H1 => ∃ (g : Nat → Nat) (c1 : Nat), lim g n ∧ vl g n + vl (lat n2 f2) n = vl (lat n1 f1) n + c1 * 4294967296 ^ n ∧ H1 = hput H t (aJ G n g))) 0 0 (fre b0) := by
  refine m_enter (cc := cX0_subtract) (maxL := 8) (ret := none) (own := RX0) (by decide) rfl rfl (Nat.le_of_ble_eq_true rfl) ?_
  intro p e s m below meth c ls hF hnm hH hl
  have hl : lv_has ls 8 [(0, .ref a), (1, .ref b), (2, .ref t)] := hl
  have hLc : lcs b0 [] := lcs_nil b0
  obtain ⟨hx, hb, hr, hml, hown, hts, hlocks, hK⟩ := id hF
  refine lv_lconst (v := lN 0) hx hb dX0_subtract_0 (by decide) ?_
  refine lv_lstore_n (lv' := [(3, .long (lN 0)), (0, .ref a), (1, .ref b), (2, .ref t)]) hx hb dX0_subtract_1 rfl hl (by decide) rfl (fun ls hl => ?_)
  refine lv_iconst (v := nI 0) hx hb dX0_subtract_2 (by decide) ?_
  refine lv_istore (lv' := [(5, .int (nI 0)), (3, .long (lN 0)), (0, .ref a), (1, .ref b), (2, .ref t)]) hx hb dX0_subtract_3 hl (by decide) rfl (fun ls hl => ?_)
  have hl := lv_sub (l' := [(0, .ref a), (1, .ref b), (2, .ref t), (3, .long (lN 0)), (5, .int (nI 0))]) hl [2, 3, 4, 1, 0] rfl
  have hh := subtract_5 (l := l) (e := e) (below := below) hF ha hb0 ht hn1 hn2 hn hf1 hf2 hat hbn hbt n 0 0 f (by omega) (fun j hj => absurd hj (by omega)) (by omega) rfl _ _ hLc hl
  rw [hput_same ht] at hh
  exact hh
