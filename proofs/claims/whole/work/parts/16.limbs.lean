set_option maxRecDepth 100000 in
set_option maxHeartbeats 4000000 in
theorem multiplyAndAdd_6 {p : Program} {l : Launch} {e : Env} {s : State} {m : MethodId} {args : Array Value} {below : List Frame} {meth : Method} {c : Code} {G : gG} {b0 : Nat} {H : Heap} {a n x y : Nat} {f : Nat → Nat} (hF : FxM p s m args meth c G cX0_multiplyAndAdd 10 none RX0 wsX0_multiplyAndAdd) (ht : H[a]? = some (aJ G n f)) (hn : n < 2 ^ 31) (hf : lim f n) (hbt : b0 ≤ a) (hx0 : x < 4294967296) (hy0 : y < 4294967296) : ∀ (q : Nat) (i c1 : Nat) (g : Nat → Nat), i + q = n → lim g n → (∀ j, i ≤ j → g j = f j) → c1 < 4294967296 → vl g i + c1 * 4294967296 ^ i = vl f i * x + y → ∀ (locs : List Loc) (ls : Array Slot), lcs b0 locs → lv_has ls 10 [(0, .ref a), (1, .long (lN x)), (3, .long (lN y)), (5, .long (lN c1)), (7, .int (nI i))] → W p l e ({ frames := 0, cells := 0, slots := 0, locals := 0 } : Room) s m args below meth c (hput H a (aJ G n g)) locs 0 0 (MQ below (QcV (fun H1 => ∃ (g : Nat → Nat) (c1 : Nat), lim g n ∧ vl g n + c1 * 4294967296 ^ n = vl f n * x + y ∧ H1 = hput H a (aJ G n g))) args s 0 0 (fre b0)) (F0 m 6 ls []) := by
  obtain ⟨hx, hb, hr, hml, hown, hts, hlocks, hK⟩ := id hF
  intro q
  induction q with
  | zero =>
    intro i c1 g hi hg hs hc hv locs ls hLc hl
    have hin : i = n := by omega
    rw [hin] at hv
    refine lv_iload hx hb dX0_multiplyAndAdd_6 (lv_at hl 4 rfl) ?_
    refine lv_aload_n hx hb dX0_multiplyAndAdd_8 rfl (lv_at hl 0 rfl) ?_
    refine m_alenJ (n := n) (f := g) hx hb hK (hput_self _ (lt_of_at ht)) dX0_multiplyAndAdd_9 ?_
    refine lv_icmp_ge (tgt := 47) hx hb dX0_multiplyAndAdd_10 (by decide) (fun _ => ?_) (fun h => absurd (nI_le (by omega) (by omega)) h)
    exact m_vret hx hb hr hlocks hLc dX0_multiplyAndAdd_47 (⟨g, c1, hg, hv, rfl⟩)
  | succ q ih =>
    intro i c1 g hi hg hs hc hv locs ls hLc hl
    have hin : i < n := by omega
    have hgi := hg i hin
    have hM := mul_lt_B2 hgi hx0 hc (show 0 < 4294967296 by decide)
    have hQ := mul_div_B hgi hx0 hc (show 0 < 4294967296 by decide)
    have hxl : (g i * x + c1) % 4294967296 < 4294967296 := Nat.mod_lt _ (by decide)
    refine lv_iload hx hb dX0_multiplyAndAdd_6 (lv_at hl 4 rfl) ?_
    refine lv_aload_n hx hb dX0_multiplyAndAdd_8 rfl (lv_at hl 0 rfl) ?_
    refine m_alenJ (n := n) (f := g) hx hb hK (hput_self _ (lt_of_at ht)) dX0_multiplyAndAdd_9 ?_
    refine lv_icmp_ge (tgt := 47) hx hb dX0_multiplyAndAdd_10 (by decide) (fun h => absurd h (nI_ge (by omega) (by omega))) (fun _ => ?_)
    refine lv_aload_n hx hb dX0_multiplyAndAdd_13 rfl (lv_at hl 0 rfl) ?_
    refine lv_iload hx hb dX0_multiplyAndAdd_14 (lv_at hl 4 rfl) ?_
    refine m_lald (n := n) (f := g) hx hb hK (hput_self _ (lt_of_at ht)) (by omega) (hn) dX0_multiplyAndAdd_16 ?_
    refine lv_lload_n hx hb dX0_multiplyAndAdd_17 rfl (lv_at hl 1 rfl) ?_
    refine m_lmul hx hb dX0_multiplyAndAdd_18 ?_
    refine lv_lload hx hb dX0_multiplyAndAdd_19 (lv_at hl 3 rfl) ?_
    refine m_ladd hx hb dX0_multiplyAndAdd_21 ?_
    refine lv_lstore (lv' := [(8, .long (lN (((g i) * x) + c1))), (0, .ref a), (1, .long (lN x)), (3, .long (lN y)), (5, .long (lN c1)), (7, .int (nI i))]) hx hb dX0_multiplyAndAdd_22 hl (by decide) rfl (fun ls hl => ?_)
    refine lv_aload_n hx hb dX0_multiplyAndAdd_24 rfl (lv_at hl 1 rfl) ?_
    refine lv_iload hx hb dX0_multiplyAndAdd_25 (lv_at hl 5 rfl) ?_
    refine lv_lload hx hb dX0_multiplyAndAdd_27 (lv_at hl 0 rfl) ?_
    refine lv_ldc2 (v := lN 4294967295) hx hb hown (hts (.constantLong RX0 28 (lN 4294967295)) (by decide +kernel)) dX0_multiplyAndAdd_29 ?_
    refine m_mask hx hb dX0_multiplyAndAdd_32 ?_
    refine m_last (n := n) (f := g) (b0 := b0) hx hb hK (hput_self _ (lt_of_at ht)) (by omega) (hn) (hbt) hLc dX0_multiplyAndAdd_33 (fun locs hLc => ?_)
    rw [hput_put]
    refine lv_lload hx hb dX0_multiplyAndAdd_34 (lv_at hl 0 rfl) ?_
    refine lv_bipush (v := nI 32) hx hb dX0_multiplyAndAdd_36 (by decide) ?_
    refine m_lushr32 hx hb (by omega) dX0_multiplyAndAdd_38 ?_
    refine lv_lstore (lv' := [(5, .long (lN ((((g i) * x) + c1) / 4294967296))), (8, .long (lN (((g i) * x) + c1))), (0, .ref a), (1, .long (lN x)), (3, .long (lN y)), (7, .int (nI i))]) hx hb dX0_multiplyAndAdd_39 hl (by decide) rfl (fun ls hl => ?_)
    refine lv_iinc (v := nI (i + 1)) (lv' := [(7, .int (nI (i + 1))), (5, .long (lN ((((g i) * x) + c1) / 4294967296))), (8, .long (lN (((g i) * x) + c1))), (0, .ref a), (1, .long (lN x)), (3, .long (lN y))]) hx hb dX0_multiplyAndAdd_41 hl (k := 5) rfl (nI_add i 1) (by decide) rfl (fun ls hl => ?_)
    refine lv_goto (tgt := 6) hx hb dX0_multiplyAndAdd_44 (by decide) ?_
    exact ih (i + 1) _ _ (by omega) (lim_fup hg hxl) (fun j hj => by rw [fup_n _ _ (by omega)]; exact hs j (by omega)) hQ (mad_step (hs i (Nat.le_refl i)) hv) _ _ hLc (lv_sub hl [3, 4, 5, 1, 0] rfl)
set_option maxRecDepth 100000 in
set_option maxHeartbeats 4000000 in
theorem c_X0_multiplyAndAdd (l : Launch) (G : gG) (b0 : Nat) (H : Heap) {a n x y : Nat} {f : Nat → Nat} (ht : H[a]? = some (aJ G n f)) (hn : n < 2 ^ 31) (hf : lim f n) (hbt : b0 ≤ a) (hx0 : x < 4294967296) (hy0 : y < 4294967296) : Met l yX0_multiplyAndAdd wsX0_multiplyAndAdd ({ frames := 0, cells := 0, slots := 0, locals := 0 } : Room) (PcH G H [.ref a, .long (lN x), .long (lN y)]) (QcV (fun H1 => ∃ (g : Nat → Nat) (c1 : Nat), lim g n ∧ vl g n + c1 * 4294967296 ^ n = vl f n * x + y ∧ H1 = hput H a (aJ G n g))) 0 0 (fre b0) := by
  refine m_enter (cc := cX0_multiplyAndAdd) (maxL := 10) (ret := none) (own := RX0) (by decide) rfl rfl (Nat.le_of_ble_eq_true rfl) ?_
  intro p e s m below meth c ls hF hnm hH hl
  have hl : lv_has ls 10 [(0, .ref a), (1, .long (lN x)), (3, .long (lN y))] := hl
  have hLc : lcs b0 [] := lcs_nil b0
  obtain ⟨hx, hb, hr, hml, hown, hts, hlocks, hK⟩ := id hF
  refine lv_lload_n hx hb dX0_multiplyAndAdd_0 rfl (lv_at hl 2 rfl) ?_
  refine lv_lstore (lv' := [(5, .long (lN y)), (0, .ref a), (1, .long (lN x)), (3, .long (lN y))]) hx hb dX0_multiplyAndAdd_1 hl (by decide) rfl (fun ls hl => ?_)
  refine lv_iconst (v := nI 0) hx hb dX0_multiplyAndAdd_3 (by decide) ?_
  refine lv_istore (lv' := [(7, .int (nI 0)), (5, .long (lN y)), (0, .ref a), (1, .long (lN x)), (3, .long (lN y))]) hx hb dX0_multiplyAndAdd_4 hl (by decide) rfl (fun ls hl => ?_)
  have hl := lv_sub (l' := [(0, .ref a), (1, .long (lN x)), (3, .long (lN y)), (5, .long (lN y)), (7, .int (nI 0))]) hl [2, 3, 4, 1, 0] rfl
  have hh := multiplyAndAdd_6 (l := l) (e := e) (below := below) hF ht hn hf hbt hx0 hy0 n 0 y f (by omega) hf (fun j _ => rfl) hy0 (by simp [vl]) _ _ hLc hl
  rw [hput_same ht] at hh
  exact hh

set_option maxRecDepth 100000 in
set_option maxHeartbeats 4000000 in
theorem divideBySmall_31 {p : Program} {l : Launch} {e : Env} {s : State} {m : MethodId} {args : Array Value} {below : List Frame} {meth : Method} {c : Code} {G : gG} {b0 : Nat} {H : Heap} {a n u d : Nat} {f : Nat → Nat} (hF : FxM p s m args meth c G cX0_divideBySmall 9 (some .long) RX0 wsX0_divideBySmall) (ht : H[a]? = some (aJ G n f)) (hn : n < 2 ^ 31) (hf : lim f n) (hbt : b0 ≤ a) (hd1 : 1 ≤ d) (hd2 : d ≤ 2147483648) (hu : u ≤ n) : ∀ (k : Nat) (z : Nat) (g : Nat → Nat), k ≤ u → z < d → lim g n → (∀ j, j < k → g j = f j) → (∀ j, u ≤ j → g j = f j) → vl f u + d * vl g k = d * vl g u + z * 4294967296 ^ k + vl f k → ∀ (locs : List Loc) (ls : Array Slot), lcs b0 locs → lv_has ls 9 [(0, .ref a), (1, .int (nI u)), (2, .long (lN d)), (4, .long (lN z)), (6, .int (nI k - 1))] → W p l e ({ frames := 0, cells := 0, slots := 0, locals := 0 } : Room) s m args below meth c (hput H a (aJ G n g)) locs 0 0 (MQ below (QcL (fun r H1 => ∃ (g : Nat → Nat) (z : Nat), r = lN z ∧ z < d ∧ lim g n ∧ vl f u = d * vl g u + z ∧ (∀ j, u ≤ j → g j = f j) ∧ H1 = hput H a (aJ G n g))) args s 0 0 (fre b0)) (F0 m 31 ls []) := by
  obtain ⟨hx, hb, hr, hml, hown, hts, hlocks, hK⟩ := id hF
  intro k
  induction k with
  | zero =>
    intro z g hk hz hg hs hh hv locs ls hLc hl
    refine lv_iload hx hb dX0_divideBySmall_31 (lv_at hl 4 rfl) ?_
    refine lv_if_lt (tgt := 68) hx hb dX0_divideBySmall_33 (by decide) (fun _ => ?_) (fun h => absurd (by decide) h)
    refine lv_lload hx hb dX0_divideBySmall_68 (lv_at hl 3 rfl) ?_
    exact m_lret hx hb hr hlocks hLc dX0_divideBySmall_70 (⟨g, z, rfl, hz, hg, by simp [vl] at hv; omega, hh, rfl⟩)
  | succ k ih =>
    intro z g hk hz hg hs hh hv locs ls hLc hl
    rw [nI_pred] at hl
    have hgk := hg k (by omega)
    have hq : (z * 4294967296 + g k) / d < 4294967296 := dbs_lt hz hgk
    refine lv_iload hx hb dX0_divideBySmall_31 (lv_at hl 4 rfl) ?_
    refine lv_if_lt (tgt := 68) hx hb dX0_divideBySmall_33 (by decide) (fun h => absurd h (nI_pos (by omega))) (fun _ => ?_)
    refine lv_lload hx hb dX0_divideBySmall_36 (lv_at hl 3 rfl) ?_
    refine lv_bipush (v := nI 32) hx hb dX0_divideBySmall_38 (by decide) ?_
    refine m_lshl32 hx hb dX0_divideBySmall_40 ?_
    refine lv_aload_n hx hb dX0_divideBySmall_41 rfl (lv_at hl 0 rfl) ?_
    refine lv_iload hx hb dX0_divideBySmall_42 (lv_at hl 4 rfl) ?_
    refine m_lald (n := n) (f := g) hx hb hK (hput_self _ (lt_of_at ht)) (by omega) (hn) dX0_divideBySmall_44 ?_
    refine m_lor32 hx hb (by omega) (by omega) dX0_divideBySmall_45 ?_
    refine lv_lstore (lv' := [(7, .long (lN (z * 4294967296 + (g k)))), (0, .ref a), (1, .int (nI u)), (2, .long (lN d)), (4, .long (lN z)), (6, .int (nI k))]) hx hb dX0_divideBySmall_46 hl (by decide) rfl (fun ls hl => ?_)
    refine lv_aload_n hx hb dX0_divideBySmall_48 rfl (lv_at hl 1 rfl) ?_
    refine lv_iload hx hb dX0_divideBySmall_49 (lv_at hl 5 rfl) ?_
    refine lv_lload hx hb dX0_divideBySmall_51 (lv_at hl 0 rfl) ?_
    refine lv_lload_n hx hb dX0_divideBySmall_53 rfl (lv_at hl 3 rfl) ?_
    refine m_ldiv hx hb (by omega) (by omega) (by omega) dX0_divideBySmall_54 ?_
    refine m_last (n := n) (f := g) (b0 := b0) hx hb hK (hput_self _ (lt_of_at ht)) (by omega) (hn) (hbt) hLc dX0_divideBySmall_55 (fun locs hLc => ?_)
    rw [hput_put]
    refine lv_lload hx hb dX0_divideBySmall_56 (lv_at hl 0 rfl) ?_
    refine lv_lload_n hx hb dX0_divideBySmall_58 rfl (lv_at hl 3 rfl) ?_
    refine m_lrem hx hb (by omega) (by omega) (by omega) dX0_divideBySmall_59 ?_
    refine lv_lstore (lv' := [(4, .long (lN ((z * 4294967296 + (g k)) % d))), (7, .long (lN (z * 4294967296 + (g k)))), (0, .ref a), (1, .int (nI u)), (2, .long (lN d)), (6, .int (nI k))]) hx hb dX0_divideBySmall_60 hl (by decide) rfl (fun ls hl => ?_)
    refine lv_iinc (v := nI k - 1) (lv' := [(6, .int (nI k - 1)), (4, .long (lN ((z * 4294967296 + (g k)) % d))), (7, .long (lN (z * 4294967296 + (g k)))), (0, .ref a), (1, .int (nI u)), (2, .long (lN d))]) hx hb dX0_divideBySmall_62 hl (k := 5) rfl (nI_decI _) (by decide) rfl (fun ls hl => ?_)
    refine lv_goto (tgt := 31) hx hb dX0_divideBySmall_65 (by decide) ?_
    exact ih _ _ (by omega) (Nat.mod_lt _ (by omega)) (lim_fup hg hq) (fun j hj => by rw [fup_n _ _ (by omega)]; exact hs j (by omega)) (fun j hj => by rw [fup_n _ _ (by omega)]; exact hh j hj) (dbs_step (by omega) (hs k (by omega)) hv) _ _ hLc (lv_sub hl [3, 4, 5, 1, 0] rfl)
set_option maxRecDepth 100000 in
set_option maxHeartbeats 4000000 in
theorem c_X0_divideBySmall (l : Launch) (G : gG) (b0 : Nat) (H : Heap) {a n u d : Nat} {f : Nat → Nat} (ht : H[a]? = some (aJ G n f)) (hn : n < 2 ^ 31) (hf : lim f n) (hbt : b0 ≤ a) (hd1 : 1 ≤ d) (hd2 : d ≤ 2147483648) (hu : u ≤ n) : Met l yX0_divideBySmall wsX0_divideBySmall ({ frames := 0, cells := 0, slots := 0, locals := 0 } : Room) (PcH G H [.ref a, .int (nI u), .long (lN d)]) (QcL (fun r H1 => ∃ (g : Nat → Nat) (z : Nat), r = lN z ∧ z < d ∧ lim g n ∧ vl f u = d * vl g u + z ∧ (∀ j, u ≤ j → g j = f j) ∧ H1 = hput H a (aJ G n g))) 0 0 (fre b0) := by
  refine m_enter (cc := cX0_divideBySmall) (maxL := 9) (ret := (some .long)) (own := RX0) (by decide) rfl rfl (Nat.le_of_ble_eq_true rfl) ?_
  intro p e s m below meth c ls hF hnm hH hl
  have hl : lv_has ls 9 [(0, .ref a), (1, .int (nI u)), (2, .long (lN d))] := hl
  have hLc : lcs b0 [] := lcs_nil b0
  obtain ⟨hx, hb, hr, hml, hown, hts, hlocks, hK⟩ := id hF
  refine lv_lconst (v := lN 0) hx hb dX0_divideBySmall_0 (by decide) ?_
  refine lv_lstore (lv' := [(4, .long (lN 0)), (0, .ref a), (1, .int (nI u)), (2, .long (lN d))]) hx hb dX0_divideBySmall_1 hl (by decide) rfl (fun ls hl => ?_)
  refine lv_lload_n hx hb dX0_divideBySmall_3 rfl (lv_at hl 3 rfl) ?_
  refine lv_lconst (v := lN 1) hx hb dX0_divideBySmall_4 (by decide) ?_
  refine m_lc_lt (tgt := 23) hx hb (by omega) (by omega) dX0_divideBySmall_5 dX0_divideBySmall_6 (by decide) (fun h => absurd h (by omega)) (fun _ => ?_)
  refine lv_lload_n hx hb dX0_divideBySmall_9 rfl (lv_at hl 3 rfl) ?_
  refine lv_ldc2 (v := lN 2147483648) hx hb hown (hts (.constantLong RX0 42 (lN 2147483648)) (by decide +kernel)) dX0_divideBySmall_10 ?_
  refine m_lc_gt (tgt := 23) hx hb (by omega) (by omega) dX0_divideBySmall_13 dX0_divideBySmall_14 (by decide) (fun h => absurd h (by omega)) (fun _ => ?_)
  refine lv_iload_n hx hb dX0_divideBySmall_17 rfl (lv_at hl 2 rfl) ?_
  refine lv_aload_n hx hb dX0_divideBySmall_18 rfl (lv_at hl 1 rfl) ?_
  refine m_alenJ (n := n) (f := f) hx hb hK (ht) dX0_divideBySmall_19 ?_
  refine m_icmp_le (tgt := 26) hx hb (by omega) (by omega) dX0_divideBySmall_20 (by decide) (fun _ => ?_) (fun h => absurd h (by omega))
  refine lv_iload_n hx hb dX0_divideBySmall_26 rfl (lv_at hl 2 rfl) ?_
  refine lv_iconst (v := 1) hx hb dX0_divideBySmall_27 (by decide) ?_
  refine lv_isub hx hb dX0_divideBySmall_28 ?_
  refine lv_istore (lv' := [(6, .int (nI u - 1)), (4, .long (lN 0)), (0, .ref a), (1, .int (nI u)), (2, .long (lN d))]) hx hb dX0_divideBySmall_29 hl (by decide) rfl (fun ls hl => ?_)
  have hl := lv_sub (l' := [(0, .ref a), (1, .int (nI u)), (2, .long (lN d)), (4, .long (lN 0)), (6, .int (nI u - 1))]) hl [2, 3, 4, 1, 0] rfl
  have hh := divideBySmall_31 (l := l) (e := e) (below := below) hF ht hn hf hbt hd1 hd2 hu u 0 f (Nat.le_refl u) (by omega) hf (fun j _ => rfl) (fun j _ => rfl) (by omega) _ _ hLc hl
  rw [hput_same ht] at hh
  exact hh

set_option maxRecDepth 100000 in
set_option maxHeartbeats 4000000 in
theorem c_X0_guess (l : Launch) (G : gG) (b0 : Nat) (H : Heap) {u1 u0 v : Nat} (h1 : u1 < 4294967296) (h0 : u0 < 4294967296) (hv : v < 4294967296) : Met l yX0_guess wsX0_guess ({ frames := 0, cells := 0, slots := 0, locals := 0 } : Room) (PcH G H [.long (lN u1), .long (lN u0), .long (lN v)]) (QcL (fun r H1 => r = lN (if v ≤ u1 then 4294967295 else (u1 * 4294967296 + u0) / v) ∧ H = H1)) 0 0 (fre b0) := by
  refine m_enter (cc := cX0_guess) (maxL := 10) (ret := (some .long)) (own := RX0) (by decide) rfl rfl (Nat.le_of_ble_eq_true rfl) ?_
  intro p e s m below meth c ls hF hnm hH hl
  have hl : lv_has ls 10 [(0, .long (lN u1)), (2, .long (lN u0)), (4, .long (lN v))] := hl
  have hLc : lcs b0 [] := lcs_nil b0
  obtain ⟨hx, hb, hr, hml, hown, hts, hlocks, hK⟩ := id hF
  refine lv_lload_n hx hb dX0_guess_0 rfl (lv_at hl 0 rfl) ?_
  refine lv_lload hx hb dX0_guess_1 (lv_at hl 2 rfl) ?_
  refine m_lc_lt (tgt := 11) hx hb (by omega) (by omega) dX0_guess_3 dX0_guess_4 (by decide) (fun c3 => ?_) (fun c3 => ?_)
  · skip
    have hl1 := gs_le (u0 := u0) h0 c3
    have hl2 := gs_lt (u0 := u0) h0 hv c3
    refine lv_lload_n hx hb dX0_guess_11 rfl (lv_at hl 0 rfl) ?_
    refine lv_bipush (v := nI 32) hx hb dX0_guess_12 (by decide) ?_
    refine m_lshl32 hx hb dX0_guess_14 ?_
    refine lv_lload_n hx hb dX0_guess_15 rfl (lv_at hl 1 rfl) ?_
    refine m_lor32 hx hb (by omega) (by omega) dX0_guess_16 ?_
    refine lv_lstore (lv' := [(6, .long (lN (u1 * 4294967296 + u0))), (0, .long (lN u1)), (2, .long (lN u0)), (4, .long (lN v))]) hx hb dX0_guess_17 hl (by decide) rfl (fun ls hl => ?_)
    refine lv_lload hx hb dX0_guess_19 (lv_at hl 0 rfl) ?_
    refine lv_iconst (v := nI 1) hx hb dX0_guess_21 (by decide) ?_
    refine m_lushr hx hb (by omega) (by decide) dX0_guess_22 ?_
    refine lv_lload hx hb dX0_guess_23 (lv_at hl 3 rfl) ?_
    refine m_ldiv hx hb (by omega) (by omega) (by omega) dX0_guess_25 ?_
    refine lv_iconst (v := nI 1) hx hb dX0_guess_26 (by decide) ?_
    refine m_lshl hx hb (by decide) dX0_guess_27 ?_
    refine lv_lstore (lv' := [(8, .long (lN ((((u1 * 4294967296 + u0) / 2 ^ 1) / v) * 2 ^ 1))), (6, .long (lN (u1 * 4294967296 + u0))), (0, .long (lN u1)), (2, .long (lN u0)), (4, .long (lN v))]) hx hb dX0_guess_28 hl (by decide) rfl (fun ls hl => ?_)
    refine lv_lload hx hb dX0_guess_30 (lv_at hl 1 rfl) ?_
    refine lv_lload hx hb dX0_guess_32 (lv_at hl 0 rfl) ?_
    refine lv_lload hx hb dX0_guess_34 (lv_at hl 4 rfl) ?_
    refine m_lmul hx hb dX0_guess_36 ?_
    refine m_lsub hx hb (by simpa using hl1) dX0_guess_37 ?_
    refine lv_lload hx hb dX0_guess_38 (lv_at hl 4 rfl) ?_
    refine m_lc_lt (tgt := 51) hx hb (by simp at hl2 ⊢; omega) (by omega) dX0_guess_40 dX0_guess_41 (by decide) (fun c40 => ?_) (fun c40 => ?_)
    · skip
      refine lv_lload hx hb dX0_guess_51 (lv_at hl 0 rfl) ?_
      exact m_lret hx hb hr hlocks hLc dX0_guess_53 (⟨by rw [if_neg (by omega)]; exact congrArg lN (gs_eq0 (by omega) c40), rfl⟩)
    · skip
      refine lv_lload hx hb dX0_guess_44 (lv_at hl 0 rfl) ?_
      refine lv_lconst (v := lN 1) hx hb dX0_guess_46 (by decide) ?_
      refine m_ladd hx hb dX0_guess_47 ?_
      refine lv_goto (tgt := 53) hx hb dX0_guess_48 (by decide) ?_
      exact m_lret hx hb hr hlocks hLc dX0_guess_53 (⟨by rw [if_neg (by omega)]; exact congrArg lN (gs_eq1 (by omega) c40), rfl⟩)
  · skip
    refine lv_ldc2 (v := lN 4294967295) hx hb hown (hts (.constantLong RX0 28 (lN 4294967295)) (by decide +kernel)) dX0_guess_7 ?_
    exact m_lret hx hb hr hlocks hLc dX0_guess_10 (⟨by rw [if_pos c3], rfl⟩)

set_option maxRecDepth 100000 in
set_option maxHeartbeats 4000000 in
theorem subtractProduct_6 {p : Program} {l : Launch} {e : Env} {s : State} {m : MethodId} {args : Array Value} {below : List Frame} {meth : Method} {c : Code} {G : gG} {b0 : Nat} {H : Heap} {a b n n2 ln p0 q : Nat} {f v : Nat → Nat} (hF : FxM p s m args meth c G cX0_subtractProduct 13 (some .boolean) RX0 wsX0_subtractProduct) (ht : H[a]? = some (aJ G n f)) (hb0 : H[b]? = some (aJ G n2 v)) (hn : n < 2 ^ 31) (hn2 : n2 < 2 ^ 31) (hf : lim f n) (hv : lim v n2) (hbt : b0 ≤ a) (hba : b ≠ a) (hpm : p0 + ln < n) (hmn : ln ≤ n2) (hq : q < 4294967296) : ∀ (w : Nat) (i c1 : Nat) (g : Nat → Nat), i + w = ln → lim g n → (∀ j, j < p0 ∨ p0 + i ≤ j → g j = f j) → c1 ≤ 4294967296 → vl (shf g p0) i + q * vl v i = vl (shf f p0) i + c1 * 4294967296 ^ i → ∀ (locs : List Loc) (ls : Array Slot), lcs b0 locs → lv_has ls 13 [(0, .ref a), (1, .ref b), (2, .int (nI ln)), (3, .int (nI p0)), (4, .long (lN q)), (6, .long (lN c1)), (8, .int (nI i))] → W p l e ({ frames := 0, cells := 0, slots := 0, locals := 0 } : Room) s m args below meth c (hput H a (aJ G n g)) locs 0 0 (MQ below (QcI (fun r H1 => ∃ g : Nat → Nat, lim g n ∧ (∀ j, j < p0 ∨ p0 + ln < j → g j = f j) ∧ ((r = nI 0 ∧ vl (shf g p0) (ln + 1) + q * vl v ln = vl (shf f p0) (ln + 1)) ∨ (r = nI 1 ∧ vl (shf g p0) (ln + 1) + q * vl v ln = vl (shf f p0) (ln + 1) + 4294967296 ^ (ln + 1))) ∧ H1 = hput H a (aJ G n g))) args s 0 0 (fre b0)) (F0 m 6 ls []) := by
  obtain ⟨hx, hb, hr, hml, hown, hts, hlocks, hK⟩ := id hF
  intro w
  induction w with
  | zero =>
    intro i c1 g hi hg hs hc hv1 locs ls hLc hl
    have him : i = ln := by omega
    rw [him] at hs hv1
    have hgi := hg (p0 + ln) (by omega)
    have hxl : (g (p0 + ln) + 4294967296 - c1) % 4294967296 < 4294967296 := Nat.mod_lt _ (by decide)
    have hgf : g (p0 + ln) = shf f p0 ln := hs _ (Or.inr (by omega))
    have hfi : shf f p0 ln < 4294967296 := hf _ (by omega)
    refine lv_iload hx hb dX0_subtractProduct_6 (lv_at hl 6 rfl) ?_
    refine lv_iload_n hx hb dX0_subtractProduct_8 rfl (lv_at hl 2 rfl) ?_
    refine lv_icmp_ge (tgt := 78) hx hb dX0_subtractProduct_9 (by decide) (fun _ => ?_) (fun h => absurd (nI_le (by omega) (by omega)) h)
    refine lv_aload_n hx hb dX0_subtractProduct_78 rfl (lv_at hl 0 rfl) ?_
    refine lv_iload_n hx hb dX0_subtractProduct_79 rfl (lv_at hl 3 rfl) ?_
    refine lv_iload_n hx hb dX0_subtractProduct_80 rfl (lv_at hl 2 rfl) ?_
    refine m_iadd (a := p0) (b := ln) hx hb dX0_subtractProduct_81 ?_
    refine m_lald (n := n) (f := g) hx hb hK (hput_self _ (lt_of_at ht)) (by omega) (hn) dX0_subtractProduct_82 ?_
    refine lv_lload hx hb dX0_subtractProduct_83 (lv_at hl 5 rfl) ?_
    refine lv_lsub hx hb dX0_subtractProduct_85 ?_
    refine lv_lstore (lv' := [(8, .long (lN (g (p0 + ln)) - lN c1)), (0, .ref a), (1, .ref b), (2, .int (nI ln)), (3, .int (nI p0)), (4, .long (lN q)), (6, .long (lN c1))]) hx hb dX0_subtractProduct_86 hl (by decide) rfl (fun ls hl => ?_)
    refine lv_aload_n hx hb dX0_subtractProduct_88 rfl (lv_at hl 1 rfl) ?_
    refine lv_iload_n hx hb dX0_subtractProduct_89 rfl (lv_at hl 4 rfl) ?_
    refine lv_iload_n hx hb dX0_subtractProduct_90 rfl (lv_at hl 3 rfl) ?_
    refine m_iadd (a := p0) (b := ln) hx hb dX0_subtractProduct_91 ?_
    refine lv_lload hx hb dX0_subtractProduct_92 (lv_at hl 0 rfl) ?_
    refine lv_ldc2 (v := lN 4294967295) hx hb hown (hts (.constantLong RX0 28 (lN 4294967295)) (by decide +kernel)) dX0_subtractProduct_94 ?_
    refine lv_land hx hb dX0_subtractProduct_97 ?_
    rw [sub_mask hc]
    refine m_last (n := n) (f := g) (b0 := b0) hx hb hK (hput_self _ (lt_of_at ht)) (by omega) (hn) (hbt) hLc dX0_subtractProduct_98 (fun locs hLc => ?_)
    rw [hput_put]
    refine lv_lload hx hb dX0_subtractProduct_99 (lv_at hl 0 rfl) ?_
    refine lv_lconst (v := lN 0) hx hb dX0_subtractProduct_101 (by decide) ?_
    refine m_lr_ge (tgt := 110) hx hb dX0_subtractProduct_102 dX0_subtractProduct_103 (by decide) (fun c102 => ?_) (fun c102 => ?_)
    · skip
      have c102 := (sub_ge0 (by omega) (by omega)).mp c102
      refine lv_iconst (v := nI 0) hx hb dX0_subtractProduct_110 (by decide) ?_
      exact m_zret hx hb hr hlocks hLc (by decide) dX0_subtractProduct_111 (⟨_, lim_fup hg hxl, fun j hj => by rw [fup_n _ _ (by omega)]; exact hs j (by omega), Or.inl ⟨rfl, by rw [shf_fup, hgf]; exact sp_end0 hfi (by omega) hv1⟩, rfl⟩)
    · skip
      have c102 : ¬ (c1 ≤ g (p0 + ln)) := fun z => c102 ((sub_ge0 (by omega) (by omega)).mpr z)
      refine lv_iconst (v := nI 1) hx hb dX0_subtractProduct_106 (by decide) ?_
      refine lv_goto (tgt := 111) hx hb dX0_subtractProduct_107 (by decide) ?_
      exact m_zret hx hb hr hlocks hLc (by decide) dX0_subtractProduct_111 (⟨_, lim_fup hg hxl, fun j hj => by rw [fup_n _ _ (by omega)]; exact hs j (by omega), Or.inr ⟨rfl, by rw [shf_fup, hgf]; exact sp_end1 hfi hc (by omega) hv1⟩, rfl⟩)
  | succ w ih =>
    intro i c1 g hi hg hs hc hv1 locs ls hLc hl
    have hin : i < ln := by omega
    have hgi := hg (p0 + i) (by omega)
    have hvi := hv i (by omega)
    have hL := sp_lt hvi hq hc
    have hML : (v i * q + c1) % 4294967296 < 4294967296 := Nat.mod_lt _ (by decide)
    have hxl : (g (p0 + i) + 4294967296 - (v i * q + c1) % 4294967296) % 4294967296 < 4294967296 := Nat.mod_lt _ (by decide)
    have hgf : g (p0 + i) = shf f p0 i := hs _ (Or.inr (by omega))
    have hfi : shf f p0 i < 4294967296 := hf _ (by omega)
    refine lv_iload hx hb dX0_subtractProduct_6 (lv_at hl 6 rfl) ?_
    refine lv_iload_n hx hb dX0_subtractProduct_8 rfl (lv_at hl 2 rfl) ?_
    refine lv_icmp_ge (tgt := 78) hx hb dX0_subtractProduct_9 (by decide) (fun h => absurd h (nI_ge (by omega) (by omega))) (fun _ => ?_)
    refine lv_aload_n hx hb dX0_subtractProduct_12 rfl (lv_at hl 1 rfl) ?_
    refine lv_iload hx hb dX0_subtractProduct_13 (lv_at hl 6 rfl) ?_
    refine m_lald (n := n2) (f := v) hx hb hK ((hput_ne _ hba).trans hb0) (by omega) (hn2) dX0_subtractProduct_15 ?_
    refine lv_lload hx hb dX0_subtractProduct_16 (lv_at hl 4 rfl) ?_
    refine m_lmul hx hb dX0_subtractProduct_18 ?_
    refine lv_lload hx hb dX0_subtractProduct_19 (lv_at hl 5 rfl) ?_
    refine m_ladd hx hb dX0_subtractProduct_21 ?_
    refine lv_lstore (lv' := [(9, .long (lN (((v i) * q) + c1))), (0, .ref a), (1, .ref b), (2, .int (nI ln)), (3, .int (nI p0)), (4, .long (lN q)), (6, .long (lN c1)), (8, .int (nI i))]) hx hb dX0_subtractProduct_22 hl (by decide) rfl (fun ls hl => ?_)
    refine lv_aload_n hx hb dX0_subtractProduct_24 rfl (lv_at hl 1 rfl) ?_
    refine lv_iload_n hx hb dX0_subtractProduct_25 rfl (lv_at hl 4 rfl) ?_
    refine lv_iload hx hb dX0_subtractProduct_26 (lv_at hl 7 rfl) ?_
    refine m_iadd (a := p0) (b := i) hx hb dX0_subtractProduct_28 ?_
    refine m_lald (n := n) (f := g) hx hb hK (hput_self _ (lt_of_at ht)) (by omega) (hn) dX0_subtractProduct_29 ?_
    refine lv_lload hx hb dX0_subtractProduct_30 (lv_at hl 0 rfl) ?_
    refine lv_ldc2 (v := lN 4294967295) hx hb hown (hts (.constantLong RX0 28 (lN 4294967295)) (by decide +kernel)) dX0_subtractProduct_32 ?_
    refine m_mask hx hb dX0_subtractProduct_35 ?_
    refine lv_lsub hx hb dX0_subtractProduct_36 ?_
    refine lv_lstore (lv' := [(11, .long (lN (g (p0 + i)) - lN ((((v i) * q) + c1) % 4294967296))), (9, .long (lN (((v i) * q) + c1))), (0, .ref a), (1, .ref b), (2, .int (nI ln)), (3, .int (nI p0)), (4, .long (lN q)), (6, .long (lN c1)), (8, .int (nI i))]) hx hb dX0_subtractProduct_37 hl (by decide) rfl (fun ls hl => ?_)
    refine lv_aload_n hx hb dX0_subtractProduct_39 rfl (lv_at hl 2 rfl) ?_
    refine lv_iload_n hx hb dX0_subtractProduct_40 rfl (lv_at hl 5 rfl) ?_
    refine lv_iload hx hb dX0_subtractProduct_41 (lv_at hl 8 rfl) ?_
    refine m_iadd (a := p0) (b := i) hx hb dX0_subtractProduct_43 ?_
    refine lv_lload hx hb dX0_subtractProduct_44 (lv_at hl 0 rfl) ?_
    refine lv_ldc2 (v := lN 4294967295) hx hb hown (hts (.constantLong RX0 28 (lN 4294967295)) (by decide +kernel)) dX0_subtractProduct_46 ?_
    refine lv_land hx hb dX0_subtractProduct_49 ?_
    rw [sub_mask (by omega)]
    refine m_last (n := n) (f := g) (b0 := b0) hx hb hK (hput_self _ (lt_of_at ht)) (by omega) (hn) (hbt) hLc dX0_subtractProduct_50 (fun locs hLc => ?_)
    rw [hput_put]
    refine lv_lload hx hb dX0_subtractProduct_51 (lv_at hl 1 rfl) ?_
    refine lv_bipush (v := nI 32) hx hb dX0_subtractProduct_53 (by decide) ?_
    refine m_lushr32 hx hb (by omega) dX0_subtractProduct_55 ?_
    refine lv_lload hx hb dX0_subtractProduct_56 (lv_at hl 0 rfl) ?_
    refine lv_lconst (v := lN 0) hx hb dX0_subtractProduct_58 (by decide) ?_
    refine m_lr_ge (tgt := 67) hx hb dX0_subtractProduct_59 dX0_subtractProduct_60 (by decide) (fun c59 => ?_) (fun c59 => ?_)
    · skip
      have c59 := (sub_ge0 (by omega) (by omega)).mp c59
      refine lv_iconst (v := nI 0) hx hb dX0_subtractProduct_67 (by decide) ?_
      refine m_i2l hx hb (by decide) dX0_subtractProduct_68 ?_
      refine m_ladd hx hb dX0_subtractProduct_69 ?_
      refine lv_lstore (lv' := [(6, .long (lN (((((v i) * q) + c1) / 4294967296) + 0))), (11, .long (lN (g (p0 + i)) - lN ((((v i) * q) + c1) % 4294967296))), (9, .long (lN (((v i) * q) + c1))), (0, .ref a), (1, .ref b), (2, .int (nI ln)), (3, .int (nI p0)), (4, .long (lN q)), (8, .int (nI i))]) hx hb dX0_subtractProduct_70 hl (by decide) rfl (fun ls hl => ?_)
      refine lv_iinc (v := nI (i + 1)) (lv' := [(8, .int (nI (i + 1))), (6, .long (lN (((((v i) * q) + c1) / 4294967296) + 0))), (11, .long (lN (g (p0 + i)) - lN ((((v i) * q) + c1) % 4294967296))), (9, .long (lN (((v i) * q) + c1))), (0, .ref a), (1, .ref b), (2, .int (nI ln)), (3, .int (nI p0)), (4, .long (lN q))]) hx hb dX0_subtractProduct_72 hl (k := 8) rfl (nI_add i 1) (by decide) rfl (fun ls hl => ?_)
      refine lv_goto (tgt := 6) hx hb dX0_subtractProduct_75 (by decide) ?_
      exact ih (i + 1) _ _ (by omega) (lim_fup hg hxl) (fun j hj => by rw [fup_n _ _ (by omega)]; exact hs j (by omega)) (by omega) (by rw [shf_fup, hgf]; exact sp_step0 hfi (by omega) hv1) _ _ hLc (lv_sub hl [4, 5, 6, 7, 8, 1, 0] rfl)
    · skip
      have c59 : ¬ ((v i * q + c1) % 4294967296 ≤ g (p0 + i)) := fun z => c59 ((sub_ge0 (by omega) (by omega)).mpr z)
      refine lv_iconst (v := nI 1) hx hb dX0_subtractProduct_63 (by decide) ?_
      refine lv_goto (tgt := 68) hx hb dX0_subtractProduct_64 (by decide) ?_
      refine m_i2l hx hb (by decide) dX0_subtractProduct_68 ?_
      refine m_ladd hx hb dX0_subtractProduct_69 ?_
      refine lv_lstore (lv' := [(6, .long (lN (((((v i) * q) + c1) / 4294967296) + 1))), (11, .long (lN (g (p0 + i)) - lN ((((v i) * q) + c1) % 4294967296))), (9, .long (lN (((v i) * q) + c1))), (0, .ref a), (1, .ref b), (2, .int (nI ln)), (3, .int (nI p0)), (4, .long (lN q)), (8, .int (nI i))]) hx hb dX0_subtractProduct_70 hl (by decide) rfl (fun ls hl => ?_)
      refine lv_iinc (v := nI (i + 1)) (lv' := [(8, .int (nI (i + 1))), (6, .long (lN (((((v i) * q) + c1) / 4294967296) + 1))), (11, .long (lN (g (p0 + i)) - lN ((((v i) * q) + c1) % 4294967296))), (9, .long (lN (((v i) * q) + c1))), (0, .ref a), (1, .ref b), (2, .int (nI ln)), (3, .int (nI p0)), (4, .long (lN q))]) hx hb dX0_subtractProduct_72 hl (k := 8) rfl (nI_add i 1) (by decide) rfl (fun ls hl => ?_)
      refine lv_goto (tgt := 6) hx hb dX0_subtractProduct_75 (by decide) ?_
      exact ih (i + 1) _ _ (by omega) (lim_fup hg hxl) (fun j hj => by rw [fup_n _ _ (by omega)]; exact hs j (by omega)) (by omega) (by rw [shf_fup, hgf]; exact sp_step1 hfi (by omega) hv1) _ _ hLc (lv_sub hl [4, 5, 6, 7, 8, 1, 0] rfl)
set_option maxRecDepth 100000 in
set_option maxHeartbeats 4000000 in
theorem c_X0_subtractProduct (l : Launch) (G : gG) (b0 : Nat) (H : Heap) {a b n n2 ln p0 q : Nat} {f v : Nat → Nat} (ht : H[a]? = some (aJ G n f)) (hb0 : H[b]? = some (aJ G n2 v)) (hn : n < 2 ^ 31) (hn2 : n2 < 2 ^ 31) (hf : lim f n) (hv : lim v n2) (hbt : b0 ≤ a) (hba : b ≠ a) (hpm : p0 + ln < n) (hmn : ln ≤ n2) (hq : q < 4294967296) : Met l yX0_subtractProduct wsX0_subtractProduct ({ frames := 0, cells := 0, slots := 0, locals := 0 } : Room) (PcH G H [.ref a, .ref b, .int (nI ln), .int (nI p0), .long (lN q)]) (QcI (fun r H1 => ∃ g : Nat → Nat, lim g n ∧ (∀ j, j < p0 ∨ p0 + ln < j → g j = f j) ∧ ((r = nI 0 ∧ vl (shf g p0) (ln + 1) + q * vl v ln = vl (shf f p0) (ln + 1)) ∨ (r = nI 1 ∧ vl (shf g p0) (ln + 1) + q * vl v ln = vl (shf f p0) (ln + 1) + 4294967296 ^ (ln + 1))) ∧ H1 = hput H a (aJ G n g))) 0 0 (fre b0) := by
  refine m_enter (cc := cX0_subtractProduct) (maxL := 13) (ret := (some .boolean)) (own := RX0) (by decide) rfl rfl (Nat.le_of_ble_eq_true rfl) ?_
  intro p e s m below meth c ls hF hnm hH hl
  have hl : lv_has ls 13 [(0, .ref a), (1, .ref b), (2, .int (nI ln)), (3, .int (nI p0)), (4, .long (lN q))] := hl
  have hLc : lcs b0 [] := lcs_nil b0
  obtain ⟨hx, hb, hr, hml, hown, hts, hlocks, hK⟩ := id hF
  refine lv_lconst (v := lN 0) hx hb dX0_subtractProduct_0 (by decide) ?_
  refine lv_lstore (lv' := [(6, .long (lN 0)), (0, .ref a), (1, .ref b), (2, .int (nI ln)), (3, .int (nI p0)), (4, .long (lN q))]) hx hb dX0_subtractProduct_1 hl (by decide) rfl (fun ls hl => ?_)
  refine lv_iconst (v := nI 0) hx hb dX0_subtractProduct_3 (by decide) ?_
  refine lv_istore (lv' := [(8, .int (nI 0)), (6, .long (lN 0)), (0, .ref a), (1, .ref b), (2, .int (nI ln)), (3, .int (nI p0)), (4, .long (lN q))]) hx hb dX0_subtractProduct_4 hl (by decide) rfl (fun ls hl => ?_)
  have hl := lv_sub (l' := [(0, .ref a), (1, .ref b), (2, .int (nI ln)), (3, .int (nI p0)), (4, .long (lN q)), (6, .long (lN 0)), (8, .int (nI 0))]) hl [2, 3, 4, 5, 6, 1, 0] rfl
  have hh := subtractProduct_6 (l := l) (e := e) (below := below) hF ht hb0 hn hn2 hf hv hbt hba hpm hmn hq ln 0 0 f (by omega) hf (fun j _ => rfl) (by omega) (by simp [vl]) _ _ hLc hl
  rw [hput_same ht] at hh
  exact hh

set_option maxRecDepth 100000 in
set_option maxHeartbeats 4000000 in
theorem addBack_6 {p : Program} {l : Launch} {e : Env} {s : State} {m : MethodId} {args : Array Value} {below : List Frame} {meth : Method} {c : Code} {G : gG} {b0 : Nat} {H : Heap} {a b n n2 ln p0 : Nat} {f v : Nat → Nat} (hF : FxM p s m args meth c G cX0_addBack 9 (some .boolean) RX0 wsX0_addBack) (ht : H[a]? = some (aJ G n f)) (hb0 : H[b]? = some (aJ G n2 v)) (hn : n < 2 ^ 31) (hn2 : n2 < 2 ^ 31) (hf : lim f n) (hv : lim v n2) (hbt : b0 ≤ a) (hba : b ≠ a) (hpm : p0 + ln < n) (hmn : ln ≤ n2) : ∀ (w : Nat) (i c1 : Nat) (g : Nat → Nat), i + w = ln → lim g n → (∀ j, j < p0 ∨ p0 + i ≤ j → g j = f j) → c1 ≤ 1 → vl (shf g p0) i + c1 * 4294967296 ^ i = vl (shf f p0) i + vl v i → ∀ (locs : List Loc) (ls : Array Slot), lcs b0 locs → lv_has ls 9 [(0, .ref a), (1, .ref b), (2, .int (nI ln)), (3, .int (nI p0)), (4, .long (lN c1)), (6, .int (nI i))] → W p l e ({ frames := 0, cells := 0, slots := 0, locals := 0 } : Room) s m args below meth c (hput H a (aJ G n g)) locs 0 0 (MQ below (QcI (fun r H1 => ∃ g : Nat → Nat, lim g n ∧ (∀ j, j < p0 ∨ p0 + ln < j → g j = f j) ∧ ((r = nI 0 ∧ vl (shf g p0) (ln + 1) = vl (shf f p0) (ln + 1) + vl v ln) ∨ (r = nI 1 ∧ vl (shf g p0) (ln + 1) + 4294967296 ^ (ln + 1) = vl (shf f p0) (ln + 1) + vl v ln)) ∧ H1 = hput H a (aJ G n g))) args s 0 0 (fre b0)) (F0 m 6 ls []) := by
  obtain ⟨hx, hb, hr, hml, hown, hts, hlocks, hK⟩ := id hF
  intro w
  induction w with
  | zero =>
    intro i c1 g hi hg hs hc hv1 locs ls hLc hl
    have him : i = ln := by omega
    rw [him] at hs hv1
    have hgi := hg (p0 + ln) (by omega)
    have hxl : (g (p0 + ln) + c1) % 4294967296 < 4294967296 := Nat.mod_lt _ (by decide)
    have hgf : g (p0 + ln) = shf f p0 ln := hs _ (Or.inr (by omega))
    have hfi : shf f p0 ln < 4294967296 := hf _ (by omega)
    refine lv_iload hx hb dX0_addBack_6 (lv_at hl 5 rfl) ?_
    refine lv_iload_n hx hb dX0_addBack_8 rfl (lv_at hl 2 rfl) ?_
    refine lv_icmp_ge (tgt := 53) hx hb dX0_addBack_9 (by decide) (fun _ => ?_) (fun h => absurd (nI_le (by omega) (by omega)) h)
    refine lv_aload_n hx hb dX0_addBack_53 rfl (lv_at hl 0 rfl) ?_
    refine lv_iload_n hx hb dX0_addBack_54 rfl (lv_at hl 3 rfl) ?_
    refine lv_iload_n hx hb dX0_addBack_55 rfl (lv_at hl 2 rfl) ?_
    refine m_iadd (a := p0) (b := ln) hx hb dX0_addBack_56 ?_
    refine m_lald (n := n) (f := g) hx hb hK (hput_self _ (lt_of_at ht)) (by omega) (hn) dX0_addBack_57 ?_
    refine lv_lload hx hb dX0_addBack_58 (lv_at hl 4 rfl) ?_
    refine m_ladd hx hb dX0_addBack_60 ?_
    refine lv_lstore (lv' := [(6, .long (lN ((g (p0 + ln)) + c1))), (0, .ref a), (1, .ref b), (2, .int (nI ln)), (3, .int (nI p0)), (4, .long (lN c1))]) hx hb dX0_addBack_61 hl (by decide) rfl (fun ls hl => ?_)
    refine lv_aload_n hx hb dX0_addBack_63 rfl (lv_at hl 1 rfl) ?_
    refine lv_iload_n hx hb dX0_addBack_64 rfl (lv_at hl 4 rfl) ?_
    refine lv_iload_n hx hb dX0_addBack_65 rfl (lv_at hl 3 rfl) ?_
    refine m_iadd (a := p0) (b := ln) hx hb dX0_addBack_66 ?_
    refine lv_lload hx hb dX0_addBack_67 (lv_at hl 0 rfl) ?_
    refine lv_ldc2 (v := lN 4294967295) hx hb hown (hts (.constantLong RX0 28 (lN 4294967295)) (by decide +kernel)) dX0_addBack_69 ?_
    refine m_mask hx hb dX0_addBack_72 ?_
    refine m_last (n := n) (f := g) (b0 := b0) hx hb hK (hput_self _ (lt_of_at ht)) (by omega) (hn) (hbt) hLc dX0_addBack_73 (fun locs hLc => ?_)
    rw [hput_put]
    refine lv_lload hx hb dX0_addBack_74 (lv_at hl 0 rfl) ?_
    refine lv_ldc2 (v := lN 4294967295) hx hb hown (hts (.constantLong RX0 28 (lN 4294967295)) (by decide +kernel)) dX0_addBack_76 ?_
    refine m_lc_le (tgt := 87) hx hb (by omega) (by omega) dX0_addBack_79 dX0_addBack_80 (by decide) (fun c79 => ?_) (fun c79 => ?_)
    · skip
      refine lv_iconst (v := nI 0) hx hb dX0_addBack_87 (by decide) ?_
      exact m_zret hx hb hr hlocks hLc (by decide) dX0_addBack_88 (⟨_, lim_fup hg hxl, fun j hj => by rw [fup_n _ _ (by omega)]; exact hs j (by omega), Or.inl ⟨rfl, by rw [shf_fup, hgf]; exact ab_end0 (by omega) hv1⟩, rfl⟩)
    · skip
      refine lv_iconst (v := nI 1) hx hb dX0_addBack_83 (by decide) ?_
      refine lv_goto (tgt := 88) hx hb dX0_addBack_84 (by decide) ?_
      exact m_zret hx hb hr hlocks hLc (by decide) dX0_addBack_88 (⟨_, lim_fup hg hxl, fun j hj => by rw [fup_n _ _ (by omega)]; exact hs j (by omega), Or.inr ⟨rfl, by rw [shf_fup, hgf]; exact ab_end1 hfi hc (by omega) hv1⟩, rfl⟩)
  | succ w ih =>
    intro i c1 g hi hg hs hc hv1 locs ls hLc hl
    have hin : i < ln := by omega
    have hgi := hg (p0 + i) (by omega)
    have hvi := hv i (by omega)
    have hxl : (g (p0 + i) + v i + c1) % 4294967296 < 4294967296 := Nat.mod_lt _ (by decide)
    have hgf : g (p0 + i) = shf f p0 i := hs _ (Or.inr (by omega))
    have hfi : shf f p0 i < 4294967296 := hf _ (by omega)
    refine lv_iload hx hb dX0_addBack_6 (lv_at hl 5 rfl) ?_
    refine lv_iload_n hx hb dX0_addBack_8 rfl (lv_at hl 2 rfl) ?_
    refine lv_icmp_ge (tgt := 53) hx hb dX0_addBack_9 (by decide) (fun h => absurd h (nI_ge (by omega) (by omega))) (fun _ => ?_)
    refine lv_aload_n hx hb dX0_addBack_12 rfl (lv_at hl 0 rfl) ?_
    refine lv_iload_n hx hb dX0_addBack_13 rfl (lv_at hl 3 rfl) ?_
    refine lv_iload hx hb dX0_addBack_14 (lv_at hl 5 rfl) ?_
    refine m_iadd (a := p0) (b := i) hx hb dX0_addBack_16 ?_
    refine m_lald (n := n) (f := g) hx hb hK (hput_self _ (lt_of_at ht)) (by omega) (hn) dX0_addBack_17 ?_
    refine lv_aload_n hx hb dX0_addBack_18 rfl (lv_at hl 1 rfl) ?_
    refine lv_iload hx hb dX0_addBack_19 (lv_at hl 5 rfl) ?_
    refine m_lald (n := n2) (f := v) hx hb hK ((hput_ne _ hba).trans hb0) (by omega) (hn2) dX0_addBack_21 ?_
    refine m_ladd hx hb dX0_addBack_22 ?_
    refine lv_lload hx hb dX0_addBack_23 (lv_at hl 4 rfl) ?_
    refine m_ladd hx hb dX0_addBack_25 ?_
    refine lv_lstore (lv' := [(7, .long (lN (((g (p0 + i)) + (v i)) + c1))), (0, .ref a), (1, .ref b), (2, .int (nI ln)), (3, .int (nI p0)), (4, .long (lN c1)), (6, .int (nI i))]) hx hb dX0_addBack_26 hl (by decide) rfl (fun ls hl => ?_)
    refine lv_aload_n hx hb dX0_addBack_28 rfl (lv_at hl 1 rfl) ?_
    refine lv_iload_n hx hb dX0_addBack_29 rfl (lv_at hl 4 rfl) ?_
    refine lv_iload hx hb dX0_addBack_30 (lv_at hl 6 rfl) ?_
    refine m_iadd (a := p0) (b := i) hx hb dX0_addBack_32 ?_
    refine lv_lload hx hb dX0_addBack_33 (lv_at hl 0 rfl) ?_
    refine lv_ldc2 (v := lN 4294967295) hx hb hown (hts (.constantLong RX0 28 (lN 4294967295)) (by decide +kernel)) dX0_addBack_35 ?_
    refine m_mask hx hb dX0_addBack_38 ?_
    refine m_last (n := n) (f := g) (b0 := b0) hx hb hK (hput_self _ (lt_of_at ht)) (by omega) (hn) (hbt) hLc dX0_addBack_39 (fun locs hLc => ?_)
    rw [hput_put]
    refine lv_lload hx hb dX0_addBack_40 (lv_at hl 0 rfl) ?_
    refine lv_bipush (v := nI 32) hx hb dX0_addBack_42 (by decide) ?_
    refine m_lushr32 hx hb (by omega) dX0_addBack_44 ?_
    refine lv_lstore (lv' := [(4, .long (lN ((((g (p0 + i)) + (v i)) + c1) / 4294967296))), (7, .long (lN (((g (p0 + i)) + (v i)) + c1))), (0, .ref a), (1, .ref b), (2, .int (nI ln)), (3, .int (nI p0)), (6, .int (nI i))]) hx hb dX0_addBack_45 hl (by decide) rfl (fun ls hl => ?_)
    refine lv_iinc (v := nI (i + 1)) (lv' := [(6, .int (nI (i + 1))), (4, .long (lN ((((g (p0 + i)) + (v i)) + c1) / 4294967296))), (7, .long (lN (((g (p0 + i)) + (v i)) + c1))), (0, .ref a), (1, .ref b), (2, .int (nI ln)), (3, .int (nI p0))]) hx hb dX0_addBack_47 hl (k := 6) rfl (nI_add i 1) (by decide) rfl (fun ls hl => ?_)
    refine lv_goto (tgt := 6) hx hb dX0_addBack_50 (by decide) ?_
    exact ih (i + 1) _ _ (by omega) (lim_fup hg hxl) (fun j hj => by rw [fup_n _ _ (by omega)]; exact hs j (by omega)) (by omega) (by rw [shf_fup, hgf]; exact add_step hv1) _ _ hLc (lv_sub hl [3, 4, 5, 6, 1, 0] rfl)
set_option maxRecDepth 100000 in
set_option maxHeartbeats 4000000 in
theorem c_X0_addBack (l : Launch) (G : gG) (b0 : Nat) (H : Heap) {a b n n2 ln p0 : Nat} {f v : Nat → Nat} (ht : H[a]? = some (aJ G n f)) (hb0 : H[b]? = some (aJ G n2 v)) (hn : n < 2 ^ 31) (hn2 : n2 < 2 ^ 31) (hf : lim f n) (hv : lim v n2) (hbt : b0 ≤ a) (hba : b ≠ a) (hpm : p0 + ln < n) (hmn : ln ≤ n2) : Met l yX0_addBack wsX0_addBack ({ frames := 0, cells := 0, slots := 0, locals := 0 } : Room) (PcH G H [.ref a, .ref b, .int (nI ln), .int (nI p0)]) (QcI (fun r H1 => ∃ g : Nat → Nat, lim g n ∧ (∀ j, j < p0 ∨ p0 + ln < j → g j = f j) ∧ ((r = nI 0 ∧ vl (shf g p0) (ln + 1) = vl (shf f p0) (ln + 1) + vl v ln) ∨ (r = nI 1 ∧ vl (shf g p0) (ln + 1) + 4294967296 ^ (ln + 1) = vl (shf f p0) (ln + 1) + vl v ln)) ∧ H1 = hput H a (aJ G n g))) 0 0 (fre b0) := by
  refine m_enter (cc := cX0_addBack) (maxL := 9) (ret := (some .boolean)) (own := RX0) (by decide) rfl rfl (Nat.le_of_ble_eq_true rfl) ?_
  intro p e s m below meth c ls hF hnm hH hl
  have hl : lv_has ls 9 [(0, .ref a), (1, .ref b), (2, .int (nI ln)), (3, .int (nI p0))] := hl
  have hLc : lcs b0 [] := lcs_nil b0
  obtain ⟨hx, hb, hr, hml, hown, hts, hlocks, hK⟩ := id hF
  refine lv_lconst (v := lN 0) hx hb dX0_addBack_0 (by decide) ?_
  refine lv_lstore (lv' := [(4, .long (lN 0)), (0, .ref a), (1, .ref b), (2, .int (nI ln)), (3, .int (nI p0))]) hx hb dX0_addBack_1 hl (by decide) rfl (fun ls hl => ?_)
  refine lv_iconst (v := nI 0) hx hb dX0_addBack_3 (by decide) ?_
  refine lv_istore (lv' := [(6, .int (nI 0)), (4, .long (lN 0)), (0, .ref a), (1, .ref b), (2, .int (nI ln)), (3, .int (nI p0))]) hx hb dX0_addBack_4 hl (by decide) rfl (fun ls hl => ?_)
  have hl := lv_sub (l' := [(0, .ref a), (1, .ref b), (2, .int (nI ln)), (3, .int (nI p0)), (4, .long (lN 0)), (6, .int (nI 0))]) hl [2, 3, 4, 5, 1, 0] rfl
  have hh := addBack_6 (l := l) (e := e) (below := below) hF ht hb0 hn hn2 hf hv hbt hba hpm hmn ln 0 0 f (by omega) hf (fun j _ => rfl) (by omega) (by simp [vl]) _ _ hLc hl
  rw [hput_same ht] at hh
  exact hh

set_option maxRecDepth 100000 in
set_option maxHeartbeats 4000000 in
theorem c_X0_takeOut (l : Launch) (G : gG) (b0 : Nat) (H : Heap) {a b n n2 ln p0 : Nat} {f v : Nat → Nat} (ht : H[a]? = some (aJ G n f)) (hb0 : H[b]? = some (aJ G n2 v)) (hn : n < 2 ^ 31) (hn2 : n2 < 2 ^ 31) (hf : lim f n) (hv : lim v n2) (hbt : b0 ≤ a) (hba : b ≠ a) (hpm : p0 + ln < n) (hmn : ln ≤ n2) (hm1 : 1 ≤ ln) (htop : 2147483648 ≤ v (ln - 1)) (hlt : vl (shf f p0) (ln + 1) < vl v ln * 4294967296) : Met l yX0_takeOut wsX0_takeOut ({ frames := 1, cells := 0, slots := 0, locals := 32 } : Room) (PcH G H [.ref a, .ref b, .int (nI ln), .int (nI p0)]) (QcL (fun r H1 => r = lN (vl (shf f p0) (ln + 1) / vl v ln) ∧ ∃ g : Nat → Nat, lim g n ∧ (∀ j, j < p0 ∨ p0 + ln < j → g j = f j) ∧ vl (shf g p0) (ln + 1) = vl (shf f p0) (ln + 1) % vl v ln ∧ H1 = hput H a (aJ G n g))) 0 0 (fre b0) := by
  refine m_enter (cc := cX0_takeOut) (maxL := 9) (ret := (some .long)) (own := RX0) (by decide) rfl rfl (Nat.le_of_ble_eq_true rfl) ?_
  intro p e s m below meth c ls hF hnm hH hl
  have hl : lv_has ls 9 [(0, .ref a), (1, .ref b), (2, .int (nI ln)), (3, .int (nI p0))] := hl
  have hLc : lcs b0 [] := lcs_nil b0
  obtain ⟨hx, hb, hr, hml, hown, hts, hlocks, hK⟩ := id hF
  have hVp : 0 < vl v ln := (Nat.eq_zero_or_pos (vl v ln)).elim (fun h => by rw [h] at hlt; omega) (fun h => h)
  refine lv_iload_n hx hb dX0_takeOut_0 rfl (lv_at hl 3 rfl) ?_
  refine lv_iload_n hx hb dX0_takeOut_1 rfl (lv_at hl 2 rfl) ?_
  refine m_iadd (a := p0) (b := ln) hx hb dX0_takeOut_2 ?_
  refine lv_istore (lv' := [(4, .int (nI (p0 + ln))), (0, .ref a), (1, .ref b), (2, .int (nI ln)), (3, .int (nI p0))]) hx hb dX0_takeOut_3 hl (by decide) rfl (fun ls hl => ?_)
  refine lv_iload_n hx hb dX0_takeOut_5 rfl (lv_at hl 3 rfl) ?_
  refine lv_iconst (v := nI 1) hx hb dX0_takeOut_6 (by decide) ?_
  refine m_icmp_lt (tgt := 27) hx hb (by omega) (by omega) dX0_takeOut_7 (by decide) (fun h => absurd h (by omega)) (fun _ => ?_)
  refine lv_iload_n hx hb dX0_takeOut_10 rfl (lv_at hl 3 rfl) ?_
  refine lv_aload_n hx hb dX0_takeOut_11 rfl (lv_at hl 2 rfl) ?_
  refine m_alenJ (n := n2) (f := v) hx hb hK (hb0) dX0_takeOut_12 ?_
  refine m_icmp_gt (tgt := 27) hx hb (by omega) (by omega) dX0_takeOut_13 (by decide) (fun h => absurd h (by omega)) (fun _ => ?_)
  refine lv_iload_n hx hb dX0_takeOut_16 rfl (lv_at hl 4 rfl) ?_
  refine lv_if_lt (tgt := 27) hx hb dX0_takeOut_17 (by decide) (fun h => absurd h (nI_pos (by omega))) (fun _ => ?_)
  refine lv_iload hx hb dX0_takeOut_20 (lv_at hl 0 rfl) ?_
  refine lv_aload_n hx hb dX0_takeOut_22 rfl (lv_at hl 1 rfl) ?_
  refine m_alenJ (n := n) (f := f) hx hb hK (ht) dX0_takeOut_23 ?_
  refine m_icmp_lt (tgt := 29) hx hb (by omega) (by omega) dX0_takeOut_24 (by decide) (fun _ => ?_) (fun h => absurd h (by omega))
  refine lv_aload_n hx hb dX0_takeOut_29 rfl (lv_at hl 1 rfl) ?_
  refine lv_iload hx hb dX0_takeOut_30 (lv_at hl 0 rfl) ?_
  refine m_lald (n := n) (f := f) hx hb hK (ht) (by omega) (hn) dX0_takeOut_32 ?_
  refine lv_aload_n hx hb dX0_takeOut_33 rfl (lv_at hl 1 rfl) ?_
  refine lv_iload hx hb dX0_takeOut_34 (lv_at hl 0 rfl) ?_
  refine lv_iconst (v := nI 1) hx hb dX0_takeOut_36 (by decide) ?_
  refine m_isub (a := p0 + ln) (b := 1) hx hb (by omega) dX0_takeOut_37 ?_
  refine m_lald (n := n) (f := f) hx hb hK (ht) (by omega) (hn) dX0_takeOut_38 ?_
  refine lv_aload_n hx hb dX0_takeOut_39 rfl (lv_at hl 2 rfl) ?_
  refine lv_iload_n hx hb dX0_takeOut_40 rfl (lv_at hl 3 rfl) ?_
  refine lv_iconst (v := nI 1) hx hb dX0_takeOut_41 (by decide) ?_
  refine m_isub (a := ln) (b := 1) hx hb (by omega) dX0_takeOut_42 ?_
  refine m_lald (n := n2) (f := v) hx hb hK (hb0) (by omega) (hn2) dX0_takeOut_43 ?_
  refine mc_l0 (va_runS (As := [.long (lN (f (p0 + ln))), .long (lN (f ((p0 + ln) - 1))), .long (lN (v (ln - 1)))]) (rest := []) ⟨hx, hb, hml, hown, hts⟩ (c_X0_guess l G b0 H (hf (p0 + ln) (by omega)) (hf (p0 + ln - 1) (by omega)) (hv (ln - 1) (by omega))) (va_cwS 3 hts gX0_takeOut_X0_guess rfl rfl rfl (by decide +kernel) ⟨Nat.le_of_ble_eq_true rfl, Nat.le_of_ble_eq_true rfl⟩) (mp_S hK) rfl rfl hl.1 rfl (lv_room (Nat.le_of_ble_eq_true rfl)) dX0_takeOut_44 ⟨Nat.le_of_ble_eq_true rfl, Nat.le_of_ble_eq_true rfl⟩) hLc (fun r H1 locs hP hLc => ?_)
  obtain ⟨hqe, rfl⟩ := hP
  obtain ⟨qh, hqh⟩ : ∃ qh, qh = (if v (ln - 1) ≤ shf f p0 ln then 4294967295 else (shf f p0 ln * 4294967296 + shf f p0 (ln - 1)) / v (ln - 1)) := ⟨_, rfl⟩
  have hqe2 : r = lN qh := by rw [hqe, hqh]; unfold shf; rw [Nat.add_sub_assoc hm1]
  subst hqe2
  obtain ⟨hK1, hK2, hK3⟩ := knuth hm1 (lim_shf hf (by omega)) (lim_le hv hmn) htop hlt hqh
  generalize hDq : vl (shf f p0) (ln + 1) / vl v ln = Dq at hK2 hK3
  refine lv_lstore (lv' := [(5, .long (lN qh)), (4, .int (nI (p0 + ln))), (0, .ref a), (1, .ref b), (2, .int (nI ln)), (3, .int (nI p0))]) hx hb dX0_takeOut_47 hl (by decide) rfl (fun ls hl => ?_)
  refine lv_aload_n hx hb dX0_takeOut_49 rfl (lv_at hl 2 rfl) ?_
  refine lv_aload_n hx hb dX0_takeOut_50 rfl (lv_at hl 3 rfl) ?_
  refine lv_iload_n hx hb dX0_takeOut_51 rfl (lv_at hl 4 rfl) ?_
  refine lv_iload_n hx hb dX0_takeOut_52 rfl (lv_at hl 5 rfl) ?_
  refine lv_lload hx hb dX0_takeOut_53 (lv_at hl 0 rfl) ?_
  refine mc_i0 (va_runS (As := [.ref a, .ref b, .int (nI ln), .int (nI p0), .long (lN qh)]) (rest := []) ⟨hx, hb, hml, hown, hts⟩ (c_X0_subtractProduct l G b0 H ht hb0 hn hn2 hf hv hbt hba hpm hmn hK1) (va_cwS 5 hts gX0_takeOut_X0_subtractProduct rfl rfl rfl (by decide +kernel) ⟨Nat.le_of_ble_eq_true rfl, Nat.le_of_ble_eq_true rfl⟩) (mp_S hK) rfl rfl hl.1 rfl (lv_room (Nat.le_of_ble_eq_true rfl)) dX0_takeOut_55 ⟨Nat.le_of_ble_eq_true rfl, Nat.le_of_ble_eq_true rfl⟩) hLc (fun r H1 locs hP hLc => ?_)
  obtain ⟨g1, hg1, hs1, hor1, rfl⟩ := hP
  have hU1 := vl_lt (lim_shf hg1 (show p0 + (ln + 1) ≤ n by omega))
  rcases hor1 with ⟨rfl, he1⟩ | ⟨rfl, he1⟩
  · skip
    refine lv_istore (lv' := [(7, .int (nI 0)), (5, .long (lN qh)), (4, .int (nI (p0 + ln))), (0, .ref a), (1, .ref b), (2, .int (nI ln)), (3, .int (nI p0))]) hx hb dX0_takeOut_58 hl (by decide) rfl (fun ls hl => ?_)
    refine lv_iconst (v := nI 0) hx hb dX0_takeOut_60 (by decide) ?_
    refine lv_istore (lv' := [(8, .int (nI 0)), (7, .int (nI 0)), (5, .long (lN qh)), (4, .int (nI (p0 + ln))), (0, .ref a), (1, .ref b), (2, .int (nI ln)), (3, .int (nI p0))]) hx hb dX0_takeOut_61 hl (by decide) rfl (fun ls hl => ?_)
    refine lv_iload hx hb dX0_takeOut_63 (lv_at hl 0 rfl) ?_
    refine lv_iconst (v := nI 2) hx hb dX0_takeOut_65 (by decide) ?_
    refine m_icmp_ge (tgt := 103) hx hb (by decide) (by decide) dX0_takeOut_66 (by decide) (fun h => absurd h (by decide)) (fun _ => ?_)
    refine lv_iload hx hb dX0_takeOut_69 (lv_at hl 1 rfl) ?_
    refine m_if_eq (tgt := 103) hx hb (by decide) dX0_takeOut_71 (by decide) (fun _ => ?_) (fun h => absurd h (by decide))
    refine lv_lload hx hb dX0_takeOut_103 (lv_at hl 2 rfl) ?_
    have hfin := to_done hVp he1 (by rw [hDq]; omega)
    exact m_lret hx hb hr hlocks hLc dX0_takeOut_105 (⟨congrArg lN (hfin.1.trans hDq), g1, hg1, fun j hj => hs1 j hj, hfin.2, rfl⟩)
  · skip
    have hs : vl (shf f p0) (ln + 1) < qh * vl v ln := by omega
    have hq1 := to_le hVp hs
    rw [hDq] at hq1
    refine lv_istore (lv' := [(7, .int (nI 1)), (5, .long (lN qh)), (4, .int (nI (p0 + ln))), (0, .ref a), (1, .ref b), (2, .int (nI ln)), (3, .int (nI p0))]) hx hb dX0_takeOut_58 hl (by decide) rfl (fun ls hl => ?_)
    refine lv_iconst (v := nI 0) hx hb dX0_takeOut_60 (by decide) ?_
    refine lv_istore (lv' := [(8, .int (nI 0)), (7, .int (nI 1)), (5, .long (lN qh)), (4, .int (nI (p0 + ln))), (0, .ref a), (1, .ref b), (2, .int (nI ln)), (3, .int (nI p0))]) hx hb dX0_takeOut_61 hl (by decide) rfl (fun ls hl => ?_)
    refine lv_iload hx hb dX0_takeOut_63 (lv_at hl 0 rfl) ?_
    refine lv_iconst (v := nI 2) hx hb dX0_takeOut_65 (by decide) ?_
    refine m_icmp_ge (tgt := 103) hx hb (by decide) (by decide) dX0_takeOut_66 (by decide) (fun h => absurd h (by decide)) (fun _ => ?_)
    refine lv_iload hx hb dX0_takeOut_69 (lv_at hl 1 rfl) ?_
    refine m_if_eq (tgt := 103) hx hb (by decide) dX0_takeOut_71 (by decide) (fun h => absurd h (by decide)) (fun _ => ?_)
    refine lv_lload hx hb dX0_takeOut_74 (lv_at hl 2 rfl) ?_
    refine lv_lconst (v := lN 1) hx hb dX0_takeOut_76 (by decide) ?_
    refine m_lsub hx hb (by omega) dX0_takeOut_77 ?_
    refine lv_lstore (lv' := [(5, .long (lN (qh - 1))), (8, .int (nI 0)), (7, .int (nI 1)), (4, .int (nI (p0 + ln))), (0, .ref a), (1, .ref b), (2, .int (nI ln)), (3, .int (nI p0))]) hx hb dX0_takeOut_78 hl (by decide) rfl (fun ls hl => ?_)
    refine lv_aload_n hx hb dX0_takeOut_80 rfl (lv_at hl 4 rfl) ?_
    refine lv_aload_n hx hb dX0_takeOut_81 rfl (lv_at hl 5 rfl) ?_
    refine lv_iload_n hx hb dX0_takeOut_82 rfl (lv_at hl 6 rfl) ?_
    refine lv_iload_n hx hb dX0_takeOut_83 rfl (lv_at hl 7 rfl) ?_
    refine mc_i0 (va_runS (As := [.ref a, .ref b, .int (nI ln), .int (nI p0)]) (rest := []) ⟨hx, hb, hml, hown, hts⟩ (c_X0_addBack l G b0 (hput H a (aJ G n g1)) (hput_self _ (lt_of_at ht)) ((hput_ne _ hba).trans hb0) hn hn2 hg1 hv hbt hba hpm hmn) (va_cwS 4 hts gX0_takeOut_X0_addBack rfl rfl rfl (by decide +kernel) ⟨Nat.le_of_ble_eq_true rfl, Nat.le_of_ble_eq_true rfl⟩) (mp_S hK) rfl rfl hl.1 rfl (lv_room (Nat.le_of_ble_eq_true rfl)) dX0_takeOut_84 ⟨Nat.le_of_ble_eq_true rfl, Nat.le_of_ble_eq_true rfl⟩) hLc (fun r H1 locs hP hLc => ?_)
    obtain ⟨g2, hg2, hs2, hor2, rfl⟩ := hP
    rw [hput_put]
    have hU2 := vl_lt (lim_shf hg2 (show p0 + (ln + 1) ≤ n by omega))
    rcases hor2 with ⟨rfl, he2⟩ | ⟨rfl, he2⟩
    · skip
      have hm2 := to_more he1 he2 (by omega)
      have hs2b : vl (shf f p0) (ln + 1) < (qh - 1) * vl v ln := by omega
      have hq2 := to_le hVp hs2b
      rw [hDq] at hq2
      refine m_if_ne (tgt := 94) hx hb (by decide) dX0_takeOut_87 (by decide) (fun h => absurd h (by decide)) (fun _ => ?_)
      refine lv_iconst (v := nI 1) hx hb dX0_takeOut_90 (by decide) ?_
      refine lv_goto (tgt := 95) hx hb dX0_takeOut_91 (by decide) ?_
      refine lv_istore (lv' := [(7, .int (nI 1)), (5, .long (lN (qh - 1))), (8, .int (nI 0)), (4, .int (nI (p0 + ln))), (0, .ref a), (1, .ref b), (2, .int (nI ln)), (3, .int (nI p0))]) hx hb dX0_takeOut_95 hl (by decide) rfl (fun ls hl => ?_)
      refine lv_iinc (v := nI (0 + 1)) (lv' := [(8, .int (nI (0 + 1))), (7, .int (nI 1)), (5, .long (lN (qh - 1))), (4, .int (nI (p0 + ln))), (0, .ref a), (1, .ref b), (2, .int (nI ln)), (3, .int (nI p0))]) hx hb dX0_takeOut_97 hl (k := 2) rfl (nI_add 0 1) (by decide) rfl (fun ls hl => ?_)
      refine lv_goto (tgt := 63) hx hb dX0_takeOut_100 (by decide) ?_
      refine lv_iload hx hb dX0_takeOut_63 (lv_at hl 0 rfl) ?_
      refine lv_iconst (v := nI 2) hx hb dX0_takeOut_65 (by decide) ?_
      refine m_icmp_ge (tgt := 103) hx hb (by decide) (by decide) dX0_takeOut_66 (by decide) (fun h => absurd h (by decide)) (fun _ => ?_)
      refine lv_iload hx hb dX0_takeOut_69 (lv_at hl 1 rfl) ?_
      refine m_if_eq (tgt := 103) hx hb (by decide) dX0_takeOut_71 (by decide) (fun h => absurd h (by decide)) (fun _ => ?_)
      refine lv_lload hx hb dX0_takeOut_74 (lv_at hl 2 rfl) ?_
      refine lv_lconst (v := lN 1) hx hb dX0_takeOut_76 (by decide) ?_
      refine m_lsub hx hb (by omega) dX0_takeOut_77 ?_
      refine lv_lstore (lv' := [(5, .long (lN ((qh - 1) - 1))), (8, .int (nI (0 + 1))), (7, .int (nI 1)), (4, .int (nI (p0 + ln))), (0, .ref a), (1, .ref b), (2, .int (nI ln)), (3, .int (nI p0))]) hx hb dX0_takeOut_78 hl (by decide) rfl (fun ls hl => ?_)
      refine lv_aload_n hx hb dX0_takeOut_80 rfl (lv_at hl 4 rfl) ?_
      refine lv_aload_n hx hb dX0_takeOut_81 rfl (lv_at hl 5 rfl) ?_
      refine lv_iload_n hx hb dX0_takeOut_82 rfl (lv_at hl 6 rfl) ?_
      refine lv_iload_n hx hb dX0_takeOut_83 rfl (lv_at hl 7 rfl) ?_
      refine mc_i0 (va_runS (As := [.ref a, .ref b, .int (nI ln), .int (nI p0)]) (rest := []) ⟨hx, hb, hml, hown, hts⟩ (c_X0_addBack l G b0 (hput H a (aJ G n g2)) (hput_self _ (lt_of_at ht)) ((hput_ne _ hba).trans hb0) hn hn2 hg2 hv hbt hba hpm hmn) (va_cwS 4 hts gX0_takeOut_X0_addBack rfl rfl rfl (by decide +kernel) ⟨Nat.le_of_ble_eq_true rfl, Nat.le_of_ble_eq_true rfl⟩) (mp_S hK) rfl rfl hl.1 rfl (lv_room (Nat.le_of_ble_eq_true rfl)) dX0_takeOut_84 ⟨Nat.le_of_ble_eq_true rfl, Nat.le_of_ble_eq_true rfl⟩) hLc (fun r H1 locs hP hLc => ?_)
      obtain ⟨g3, hg3, hs3, hor3, rfl⟩ := hP
      rw [hput_put]
      have hU3 := vl_lt (lim_shf hg3 (show p0 + (ln + 1) ≤ n by omega))
      rcases hor3 with ⟨rfl, he3⟩ | ⟨rfl, he3⟩
      · skip
        have hm3 := to_more hm2 he3 (by omega)
        have hs3b : vl (shf f p0) (ln + 1) < (qh - 1 - 1) * vl v ln := by omega
        have hq3 := to_le hVp hs3b
        rw [hDq] at hq3
        exact absurd hK3 (by omega)
      · skip
        have hd := to_back hm2 he3 (by omega)
        refine m_if_ne (tgt := 94) hx hb (by decide) dX0_takeOut_87 (by decide) (fun _ => ?_) (fun h => absurd h (by decide))
        refine lv_iconst (v := nI 0) hx hb dX0_takeOut_94 (by decide) ?_
        refine lv_istore (lv' := [(7, .int (nI 0)), (5, .long (lN ((qh - 1) - 1))), (8, .int (nI (0 + 1))), (4, .int (nI (p0 + ln))), (0, .ref a), (1, .ref b), (2, .int (nI ln)), (3, .int (nI p0))]) hx hb dX0_takeOut_95 hl (by decide) rfl (fun ls hl => ?_)
        refine lv_iinc (v := nI (0 + 1 + 1)) (lv' := [(8, .int (nI (0 + 1 + 1))), (7, .int (nI 0)), (5, .long (lN ((qh - 1) - 1))), (4, .int (nI (p0 + ln))), (0, .ref a), (1, .ref b), (2, .int (nI ln)), (3, .int (nI p0))]) hx hb dX0_takeOut_97 hl (k := 2) rfl (nI_add (0 + 1) 1) (by decide) rfl (fun ls hl => ?_)
        refine lv_goto (tgt := 63) hx hb dX0_takeOut_100 (by decide) ?_
        refine lv_iload hx hb dX0_takeOut_63 (lv_at hl 0 rfl) ?_
        refine lv_iconst (v := nI 2) hx hb dX0_takeOut_65 (by decide) ?_
        refine m_icmp_ge (tgt := 103) hx hb (by decide) (by decide) dX0_takeOut_66 (by decide) (fun _ => ?_) (fun h => absurd h (by decide))
        refine lv_lload hx hb dX0_takeOut_103 (lv_at hl 2 rfl) ?_
        have hfin := to_done hVp hd (by rw [hDq]; omega)
        exact m_lret hx hb hr hlocks hLc dX0_takeOut_105 (⟨congrArg lN (hfin.1.trans hDq), g3, hg3, fun j hj => (hs3 j hj).trans ((hs2 j hj).trans (hs1 j hj)), hfin.2, rfl⟩)
    · skip
      have hd := to_back he1 he2 (by omega)
      refine m_if_ne (tgt := 94) hx hb (by decide) dX0_takeOut_87 (by decide) (fun _ => ?_) (fun h => absurd h (by decide))
      refine lv_iconst (v := nI 0) hx hb dX0_takeOut_94 (by decide) ?_
      refine lv_istore (lv' := [(7, .int (nI 0)), (5, .long (lN (qh - 1))), (8, .int (nI 0)), (4, .int (nI (p0 + ln))), (0, .ref a), (1, .ref b), (2, .int (nI ln)), (3, .int (nI p0))]) hx hb dX0_takeOut_95 hl (by decide) rfl (fun ls hl => ?_)
      refine lv_iinc (v := nI (0 + 1)) (lv' := [(8, .int (nI (0 + 1))), (7, .int (nI 0)), (5, .long (lN (qh - 1))), (4, .int (nI (p0 + ln))), (0, .ref a), (1, .ref b), (2, .int (nI ln)), (3, .int (nI p0))]) hx hb dX0_takeOut_97 hl (k := 2) rfl (nI_add 0 1) (by decide) rfl (fun ls hl => ?_)
      refine lv_goto (tgt := 63) hx hb dX0_takeOut_100 (by decide) ?_
      refine lv_iload hx hb dX0_takeOut_63 (lv_at hl 0 rfl) ?_
      refine lv_iconst (v := nI 2) hx hb dX0_takeOut_65 (by decide) ?_
      refine m_icmp_ge (tgt := 103) hx hb (by decide) (by decide) dX0_takeOut_66 (by decide) (fun h => absurd h (by decide)) (fun _ => ?_)
      refine lv_iload hx hb dX0_takeOut_69 (lv_at hl 1 rfl) ?_
      refine m_if_eq (tgt := 103) hx hb (by decide) dX0_takeOut_71 (by decide) (fun _ => ?_) (fun h => absurd h (by decide))
      refine lv_lload hx hb dX0_takeOut_103 (lv_at hl 2 rfl) ?_
      have hfin := to_done hVp hd (by rw [hDq]; omega)
      exact m_lret hx hb hr hlocks hLc dX0_takeOut_105 (⟨congrArg lN (hfin.1.trans hDq), g2, hg2, fun j hj => (hs2 j hj).trans (hs1 j hj), hfin.2, rfl⟩)

set_option maxRecDepth 100000 in
set_option maxHeartbeats 4000000 in
theorem moveUp_14 {p : Program} {l : Launch} {e : Env} {s : State} {m : MethodId} {args : Array Value} {below : List Frame} {meth : Method} {c : Code} {G : gG} {b0 : Nat} {H : Heap} {a t n k s0 : Nat} {f f0 : Nat → Nat} (hF : FxM p s m args meth c G cX0_moveUp 10 none RX0 wsX0_moveUp) (ha : H[a]? = some (aJ G n f)) (ht : H[t]? = some (aJ G k f0)) (hn : n < 2 ^ 31) (hk : k < 2 ^ 20) (hs0 : s0 < 2 ^ 20) (hf : lim f n) (hat : a ≠ t) (hbt : b0 ≤ t) : ∀ (q : Nat) (i : Nat) (g : Nat → Nat), i + q = k → (∀ j, j < i → g j = vl f n * 2 ^ s0 / 4294967296 ^ j % 4294967296) → ∀ (locs : List Loc) (ls : Array Slot), lcs b0 locs → lv_has ls 10 [(0, .ref a), (1, .int (nI s0)), (2, .ref t), (3, .int (nI (s0 / 32))), (4, .int (nI (s0 % 32))), (5, .int (nI i))] → W p l e ({ frames := 1, cells := 0, slots := 0, locals := 21 } : Room) s m args below meth c (hput H t (aJ G k g)) locs 0 0 (MQ below (QcV (fun H1 => ∃ g : Nat → Nat, (∀ i, i < k → g i = vl f n * 2 ^ s0 / 4294967296 ^ i % 4294967296) ∧ H1 = hput H t (aJ G k g))) args s 0 0 (fre b0)) (F0 m 14 ls []) := by
  obtain ⟨hx, hb, hr, hml, hown, hts, hlocks, hK⟩ := id hF
  intro q
  induction q with
  | zero =>
    intro i g hi hg locs ls hLc hl
    refine lv_iload hx hb dX0_moveUp_14 (lv_at hl 5 rfl) ?_
    refine lv_aload_n hx hb dX0_moveUp_16 rfl (lv_at hl 2 rfl) ?_
    refine m_alenJ (n := k) (f := g) hx hb hK (hput_self _ (lt_of_at ht)) dX0_moveUp_17 ?_
    refine lv_icmp_ge (tgt := 71) hx hb dX0_moveUp_18 (by decide) (fun _ => ?_) (fun h => absurd (nI_le (by omega) (by omega)) h)
    exact m_vret hx hb hr hlocks hLc dX0_moveUp_71 (⟨g, fun j hj => hg j (by omega), rfl⟩)
  | succ q ih =>
    intro i g hi hg locs ls hLc hl
    have hin : i < k := by omega
    have h1 : latI n f ((i : Int) - ((s0 / 32 : Nat) : Int)) < 4294967296 := latI_lim hf _
    have h2 : latI n f ((i : Int) - ((s0 / 32 : Nat) : Int) - 1) < 4294967296 := latI_lim hf _
    have h3 := mul_pow_lt h1 (show s0 % 32 ≤ 32 by omega)
    have h4 := div_lt_pow h2 (show s0 % 32 ≤ 32 by omega)
    have h5 := Nat.div_le_self (latI n f ((i : Int) - ((s0 / 32 : Nat) : Int) - 1)) (2 ^ (32 - s0 % 32))
    refine lv_iload hx hb dX0_moveUp_14 (lv_at hl 5 rfl) ?_
    refine lv_aload_n hx hb dX0_moveUp_16 rfl (lv_at hl 2 rfl) ?_
    refine m_alenJ (n := k) (f := g) hx hb hK (hput_self _ (lt_of_at ht)) dX0_moveUp_17 ?_
    refine lv_icmp_ge (tgt := 71) hx hb dX0_moveUp_18 (by decide) (fun h => absurd h (nI_ge (by omega) (by omega))) (fun _ => ?_)
    refine lv_aload_n hx hb dX0_moveUp_21 rfl (lv_at hl 0 rfl) ?_
    refine lv_iload hx hb dX0_moveUp_22 (lv_at hl 5 rfl) ?_
    refine lv_iload_n hx hb dX0_moveUp_24 rfl (lv_at hl 3 rfl) ?_
    refine lv_isub hx hb dX0_moveUp_25 ?_
    refine mc_l0 (va_runS (As := [.ref a, .int (nI i - nI (s0 / 32))]) (rest := []) ⟨hx, hb, hml, hown, hts⟩ (c_X0_limbAt l G b0 (hput H t (aJ G k g)) ((hput_ne _ hat).trans ha) hn (nI i - nI (s0 / 32))) (va_cwS 2 hts gX0_moveUp_X0_limbAt rfl rfl rfl (by decide +kernel) ⟨Nat.le_of_ble_eq_true rfl, Nat.le_of_ble_eq_true rfl⟩) (mp_S hK) rfl rfl hl.1 rfl (lv_room (Nat.le_of_ble_eq_true rfl)) dX0_moveUp_26 ⟨Nat.le_of_ble_eq_true rfl, Nat.le_of_ble_eq_true rfl⟩) hLc (fun r H1 locs hP hLc => ?_)
    obtain ⟨rfl, rfl⟩ := hP
    rw [pk_sub_toInt (by omega) (by omega)]
    refine lv_iload hx hb dX0_moveUp_29 (lv_at hl 4 rfl) ?_
    refine m_lshl hx hb (by omega) dX0_moveUp_31 ?_
    refine lv_lstore (lv' := [(6, .long (lN ((latI n f ((i : Int) - ((s0 / 32 : Nat) : Int))) * 2 ^ (s0 % 32)))), (0, .ref a), (1, .int (nI s0)), (2, .ref t), (3, .int (nI (s0 / 32))), (4, .int (nI (s0 % 32))), (5, .int (nI i))]) hx hb dX0_moveUp_32 hl (by decide) rfl (fun ls hl => ?_)
    refine lv_aload_n hx hb dX0_moveUp_34 rfl (lv_at hl 1 rfl) ?_
    refine lv_iload hx hb dX0_moveUp_35 (lv_at hl 6 rfl) ?_
    refine lv_iload_n hx hb dX0_moveUp_37 rfl (lv_at hl 4 rfl) ?_
    refine lv_isub hx hb dX0_moveUp_38 ?_
    refine lv_iconst (v := nI 1) hx hb dX0_moveUp_39 (by decide) ?_
    refine lv_isub hx hb dX0_moveUp_40 ?_
    refine mc_l0 (va_runS (As := [.ref a, .int ((nI i - nI (s0 / 32)) - nI 1)]) (rest := []) ⟨hx, hb, hml, hown, hts⟩ (c_X0_limbAt l G b0 (hput H t (aJ G k g)) ((hput_ne _ hat).trans ha) hn ((nI i - nI (s0 / 32)) - nI 1)) (va_cwS 2 hts gX0_moveUp_X0_limbAt rfl rfl rfl (by decide +kernel) ⟨Nat.le_of_ble_eq_true rfl, Nat.le_of_ble_eq_true rfl⟩) (mp_S hK) rfl rfl hl.1 rfl (lv_room (Nat.le_of_ble_eq_true rfl)) dX0_moveUp_41 ⟨Nat.le_of_ble_eq_true rfl, Nat.le_of_ble_eq_true rfl⟩) hLc (fun r H1 locs hP hLc => ?_)
    obtain ⟨rfl, rfl⟩ := hP
    rw [sub1_toInt (by omega) (by omega)]
    refine lv_bipush (v := nI 32) hx hb dX0_moveUp_44 (by decide) ?_
    refine lv_iload hx hb dX0_moveUp_46 (lv_at hl 5 rfl) ?_
    refine m_isub (a := 32) (b := s0 % 32) hx hb (by omega) dX0_moveUp_48 ?_
    refine m_lushr hx hb (by omega) (by omega) dX0_moveUp_49 ?_
    refine lv_lstore (lv' := [(8, .long (lN ((latI n f ((i : Int) - ((s0 / 32 : Nat) : Int) - 1)) / 2 ^ (32 - (s0 % 32))))), (6, .long (lN ((latI n f ((i : Int) - ((s0 / 32 : Nat) : Int))) * 2 ^ (s0 % 32)))), (0, .ref a), (1, .int (nI s0)), (2, .ref t), (3, .int (nI (s0 / 32))), (4, .int (nI (s0 % 32))), (5, .int (nI i))]) hx hb dX0_moveUp_50 hl (by decide) rfl (fun ls hl => ?_)
    refine lv_aload_n hx hb dX0_moveUp_52 rfl (lv_at hl 4 rfl) ?_
    refine lv_iload hx hb dX0_moveUp_53 (lv_at hl 7 rfl) ?_
    refine lv_lload hx hb dX0_moveUp_55 (lv_at hl 1 rfl) ?_
    refine lv_lload hx hb dX0_moveUp_57 (lv_at hl 0 rfl) ?_
    refine m_lor hx hb (by omega) (by omega) dX0_moveUp_59 ?_
    refine lv_ldc2 (v := lN 4294967295) hx hb hown (hts (.constantLong RX0 28 (lN 4294967295)) (by decide +kernel)) dX0_moveUp_60 ?_
    refine m_mask hx hb dX0_moveUp_63 ?_
    rw [or_sum h4, ← up_limb hf]
    refine m_last (n := k) (f := g) (b0 := b0) hx hb hK (hput_self _ (lt_of_at ht)) (by omega) (by omega) (hbt) hLc dX0_moveUp_64 (fun locs hLc => ?_)
    rw [hput_put]
    refine lv_iinc (v := nI (i + 1)) (lv' := [(5, .int (nI (i + 1))), (8, .long (lN ((latI n f ((i : Int) - ((s0 / 32 : Nat) : Int) - 1)) / 2 ^ (32 - (s0 % 32))))), (6, .long (lN ((latI n f ((i : Int) - ((s0 / 32 : Nat) : Int))) * 2 ^ (s0 % 32)))), (0, .ref a), (1, .int (nI s0)), (2, .ref t), (3, .int (nI (s0 / 32))), (4, .int (nI (s0 % 32)))]) hx hb dX0_moveUp_65 hl (k := 7) rfl (nI_add i 1) (by decide) rfl (fun ls hl => ?_)
    refine lv_goto (tgt := 14) hx hb dX0_moveUp_68 (by decide) ?_
    exact ih (i + 1) _ (by omega) (fup_eq hg rfl) _ _ hLc (lv_sub hl [3, 4, 5, 6, 7, 0] rfl)
set_option maxRecDepth 100000 in
set_option maxHeartbeats 4000000 in
theorem c_X0_moveUp (l : Launch) (G : gG) (b0 : Nat) (H : Heap) {a t n k s0 : Nat} {f f0 : Nat → Nat} (ha : H[a]? = some (aJ G n f)) (ht : H[t]? = some (aJ G k f0)) (hn : n < 2 ^ 31) (hk : k < 2 ^ 20) (hs0 : s0 < 2 ^ 20) (hf : lim f n) (hat : a ≠ t) (hbt : b0 ≤ t) : Met l yX0_moveUp wsX0_moveUp ({ frames := 1, cells := 0, slots := 0, locals := 21 } : Room) (PcH G H [.ref a, .int (nI s0), .ref t]) (QcV (fun H1 => ∃ g : Nat → Nat, (∀ i, i < k → g i = vl f n * 2 ^ s0 / 4294967296 ^ i % 4294967296) ∧ H1 = hput H t (aJ G k g))) 0 0 (fre b0) := by
  refine m_enter (cc := cX0_moveUp) (maxL := 10) (ret := none) (own := RX0) (by decide) rfl rfl (Nat.le_of_ble_eq_true rfl) ?_
  intro p e s m below meth c ls hF hnm hH hl
  have hl : lv_has ls 10 [(0, .ref a), (1, .int (nI s0)), (2, .ref t)] := hl
  have hLc : lcs b0 [] := lcs_nil b0
  obtain ⟨hx, hb, hr, hml, hown, hts, hlocks, hK⟩ := id hF
  refine lv_iload_n hx hb dX0_moveUp_0 rfl (lv_at hl 1 rfl) ?_
  refine lv_bipush (v := nI 32) hx hb dX0_moveUp_1 (by decide) ?_
  refine m_idiv (a := s0) (b := 32) hx hb (by omega) (by decide) (by decide) dX0_moveUp_3 ?_
  refine lv_istore_n (lv' := [(3, .int (nI (s0 / 32))), (0, .ref a), (1, .int (nI s0)), (2, .ref t)]) hx hb dX0_moveUp_4 rfl hl (by decide) rfl (fun ls hl => ?_)
  refine lv_iload_n hx hb dX0_moveUp_5 rfl (lv_at hl 2 rfl) ?_
  refine lv_bipush (v := nI 32) hx hb dX0_moveUp_6 (by decide) ?_
  refine m_irem (a := s0) (b := 32) hx hb (by omega) (by decide) (by decide) dX0_moveUp_8 ?_
  refine lv_istore (lv' := [(4, .int (nI (s0 % 32))), (3, .int (nI (s0 / 32))), (0, .ref a), (1, .int (nI s0)), (2, .ref t)]) hx hb dX0_moveUp_9 hl (by decide) rfl (fun ls hl => ?_)
  refine lv_iconst (v := nI 0) hx hb dX0_moveUp_11 (by decide) ?_
  refine lv_istore (lv' := [(5, .int (nI 0)), (4, .int (nI (s0 % 32))), (3, .int (nI (s0 / 32))), (0, .ref a), (1, .int (nI s0)), (2, .ref t)]) hx hb dX0_moveUp_12 hl (by decide) rfl (fun ls hl => ?_)
  have hl := lv_sub (l' := [(0, .ref a), (1, .int (nI s0)), (2, .ref t), (3, .int (nI (s0 / 32))), (4, .int (nI (s0 % 32))), (5, .int (nI 0))]) hl [3, 4, 5, 2, 1, 0] rfl
  have hh := moveUp_14 (l := l) (e := e) (below := below) hF ha ht hn hk hs0 hf hat hbt k 0 f0 (by omega) (fun j hj => absurd hj (by omega)) _ _ hLc hl
  rw [hput_same ht] at hh
  exact hh

set_option maxRecDepth 100000 in
set_option maxHeartbeats 4000000 in
theorem moveDown_14 {p : Program} {l : Launch} {e : Env} {s : State} {m : MethodId} {args : Array Value} {below : List Frame} {meth : Method} {c : Code} {G : gG} {b0 : Nat} {H : Heap} {a t n k s0 : Nat} {f f0 : Nat → Nat} (hF : FxM p s m args meth c G cX0_moveDown 10 none RX0 wsX0_moveDown) (ha : H[a]? = some (aJ G n f)) (ht : H[t]? = some (aJ G k f0)) (hn : n < 2 ^ 31) (hk : k < 2 ^ 20) (hs0 : s0 < 2 ^ 20) (hf : lim f n) (hat : a ≠ t) (hbt : b0 ≤ t) : ∀ (q : Nat) (i : Nat) (g : Nat → Nat), i + q = k → (∀ j, j < i → g j = vl f n / 2 ^ s0 / 4294967296 ^ j % 4294967296) → ∀ (locs : List Loc) (ls : Array Slot), lcs b0 locs → lv_has ls 10 [(0, .ref a), (1, .int (nI s0)), (2, .ref t), (3, .int (nI (s0 / 32))), (4, .int (nI (s0 % 32))), (5, .int (nI i))] → W p l e ({ frames := 1, cells := 0, slots := 0, locals := 21 } : Room) s m args below meth c (hput H t (aJ G k g)) locs 0 0 (MQ below (QcV (fun H1 => ∃ g : Nat → Nat, (∀ i, i < k → g i = vl f n / 2 ^ s0 / 4294967296 ^ i % 4294967296) ∧ H1 = hput H t (aJ G k g))) args s 0 0 (fre b0)) (F0 m 14 ls []) := by
  obtain ⟨hx, hb, hr, hml, hown, hts, hlocks, hK⟩ := id hF
  intro q
  induction q with
  | zero =>
    intro i g hi hg locs ls hLc hl
    refine lv_iload hx hb dX0_moveDown_14 (lv_at hl 5 rfl) ?_
    refine lv_aload_n hx hb dX0_moveDown_16 rfl (lv_at hl 2 rfl) ?_
    refine m_alenJ (n := k) (f := g) hx hb hK (hput_self _ (lt_of_at ht)) dX0_moveDown_17 ?_
    refine lv_icmp_ge (tgt := 71) hx hb dX0_moveDown_18 (by decide) (fun _ => ?_) (fun h => absurd (nI_le (by omega) (by omega)) h)
    exact m_vret hx hb hr hlocks hLc dX0_moveDown_71 (⟨g, fun j hj => hg j (by omega), rfl⟩)
  | succ q ih =>
    intro i g hi hg locs ls hLc hl
    have hin : i < k := by omega
    have h1 : lat n f (i + s0 / 32) < 4294967296 := lat_lim hf _
    have h2 : lat n f (i + s0 / 32 + 1) < 4294967296 := lat_lim hf _
    have h3 := mul_pow_lt h2 (show 32 - s0 % 32 ≤ 32 by omega)
    have h4 := div_lt_pow2 h1 (show s0 % 32 ≤ 32 by omega)
    have h5 := Nat.div_le_self (lat n f (i + s0 / 32)) (2 ^ (s0 % 32))
    refine lv_iload hx hb dX0_moveDown_14 (lv_at hl 5 rfl) ?_
    refine lv_aload_n hx hb dX0_moveDown_16 rfl (lv_at hl 2 rfl) ?_
    refine m_alenJ (n := k) (f := g) hx hb hK (hput_self _ (lt_of_at ht)) dX0_moveDown_17 ?_
    refine lv_icmp_ge (tgt := 71) hx hb dX0_moveDown_18 (by decide) (fun h => absurd h (nI_ge (by omega) (by omega))) (fun _ => ?_)
    refine lv_aload_n hx hb dX0_moveDown_21 rfl (lv_at hl 0 rfl) ?_
    refine lv_iload hx hb dX0_moveDown_22 (lv_at hl 5 rfl) ?_
    refine lv_iload_n hx hb dX0_moveDown_24 rfl (lv_at hl 3 rfl) ?_
    refine m_iadd (a := i) (b := s0 / 32) hx hb dX0_moveDown_25 ?_
    refine mc_l0 (va_runS (As := [.ref a, .int (nI (i + (s0 / 32)))]) (rest := []) ⟨hx, hb, hml, hown, hts⟩ (c_X0_limbAt l G b0 (hput H t (aJ G k g)) ((hput_ne _ hat).trans ha) hn (nI (i + s0 / 32))) (va_cwS 2 hts gX0_moveDown_X0_limbAt rfl rfl rfl (by decide +kernel) ⟨Nat.le_of_ble_eq_true rfl, Nat.le_of_ble_eq_true rfl⟩) (mp_S hK) rfl rfl hl.1 rfl (lv_room (Nat.le_of_ble_eq_true rfl)) dX0_moveDown_26 ⟨Nat.le_of_ble_eq_true rfl, Nat.le_of_ble_eq_true rfl⟩) hLc (fun r H1 locs hP hLc => ?_)
    obtain ⟨rfl, rfl⟩ := hP
    rw [nI_toInt (by omega), latI_nat]
    refine lv_iload hx hb dX0_moveDown_29 (lv_at hl 4 rfl) ?_
    refine m_lushr hx hb (by omega) (by omega) dX0_moveDown_31 ?_
    refine lv_lstore (lv' := [(6, .long (lN ((lat n f (i + s0 / 32)) / 2 ^ (s0 % 32)))), (0, .ref a), (1, .int (nI s0)), (2, .ref t), (3, .int (nI (s0 / 32))), (4, .int (nI (s0 % 32))), (5, .int (nI i))]) hx hb dX0_moveDown_32 hl (by decide) rfl (fun ls hl => ?_)
    refine lv_aload_n hx hb dX0_moveDown_34 rfl (lv_at hl 1 rfl) ?_
    refine lv_iload hx hb dX0_moveDown_35 (lv_at hl 6 rfl) ?_
    refine lv_iload_n hx hb dX0_moveDown_37 rfl (lv_at hl 4 rfl) ?_
    refine m_iadd (a := i) (b := s0 / 32) hx hb dX0_moveDown_38 ?_
    refine lv_iconst (v := nI 1) hx hb dX0_moveDown_39 (by decide) ?_
    refine m_iadd (a := i + (s0 / 32)) (b := 1) hx hb dX0_moveDown_40 ?_
    refine mc_l0 (va_runS (As := [.ref a, .int (nI ((i + (s0 / 32)) + 1))]) (rest := []) ⟨hx, hb, hml, hown, hts⟩ (c_X0_limbAt l G b0 (hput H t (aJ G k g)) ((hput_ne _ hat).trans ha) hn (nI (i + s0 / 32 + 1))) (va_cwS 2 hts gX0_moveDown_X0_limbAt rfl rfl rfl (by decide +kernel) ⟨Nat.le_of_ble_eq_true rfl, Nat.le_of_ble_eq_true rfl⟩) (mp_S hK) rfl rfl hl.1 rfl (lv_room (Nat.le_of_ble_eq_true rfl)) dX0_moveDown_41 ⟨Nat.le_of_ble_eq_true rfl, Nat.le_of_ble_eq_true rfl⟩) hLc (fun r H1 locs hP hLc => ?_)
    obtain ⟨rfl, rfl⟩ := hP
    rw [nI_toInt (by omega), latI_nat]
    refine lv_bipush (v := nI 32) hx hb dX0_moveDown_44 (by decide) ?_
    refine lv_iload hx hb dX0_moveDown_46 (lv_at hl 5 rfl) ?_
    refine m_isub (a := 32) (b := s0 % 32) hx hb (by omega) dX0_moveDown_48 ?_
    refine m_lshl hx hb (by omega) dX0_moveDown_49 ?_
    refine lv_lstore (lv' := [(8, .long (lN ((lat n f (i + s0 / 32 + 1)) * 2 ^ (32 - (s0 % 32))))), (6, .long (lN ((lat n f (i + s0 / 32)) / 2 ^ (s0 % 32)))), (0, .ref a), (1, .int (nI s0)), (2, .ref t), (3, .int (nI (s0 / 32))), (4, .int (nI (s0 % 32))), (5, .int (nI i))]) hx hb dX0_moveDown_50 hl (by decide) rfl (fun ls hl => ?_)
    refine lv_aload_n hx hb dX0_moveDown_52 rfl (lv_at hl 4 rfl) ?_
    refine lv_iload hx hb dX0_moveDown_53 (lv_at hl 7 rfl) ?_
    refine lv_lload hx hb dX0_moveDown_55 (lv_at hl 0 rfl) ?_
    refine lv_lload hx hb dX0_moveDown_57 (lv_at hl 1 rfl) ?_
    refine m_lor hx hb (by omega) (by omega) dX0_moveDown_59 ?_
    refine lv_ldc2 (v := lN 4294967295) hx hb hown (hts (.constantLong RX0 28 (lN 4294967295)) (by decide +kernel)) dX0_moveDown_60 ?_
    refine m_mask hx hb dX0_moveDown_63 ?_
    rw [or_sum h4, ← dn_limb hf]
    refine m_last (n := k) (f := g) (b0 := b0) hx hb hK (hput_self _ (lt_of_at ht)) (by omega) (by omega) (hbt) hLc dX0_moveDown_64 (fun locs hLc => ?_)
    rw [hput_put]
    refine lv_iinc (v := nI (i + 1)) (lv' := [(5, .int (nI (i + 1))), (8, .long (lN ((lat n f (i + s0 / 32 + 1)) * 2 ^ (32 - (s0 % 32))))), (6, .long (lN ((lat n f (i + s0 / 32)) / 2 ^ (s0 % 32)))), (0, .ref a), (1, .int (nI s0)), (2, .ref t), (3, .int (nI (s0 / 32))), (4, .int (nI (s0 % 32)))]) hx hb dX0_moveDown_65 hl (k := 7) rfl (nI_add i 1) (by decide) rfl (fun ls hl => ?_)
    refine lv_goto (tgt := 14) hx hb dX0_moveDown_68 (by decide) ?_
    exact ih (i + 1) _ (by omega) (fup_eq hg rfl) _ _ hLc (lv_sub hl [3, 4, 5, 6, 7, 0] rfl)
set_option maxRecDepth 100000 in
set_option maxHeartbeats 4000000 in
theorem c_X0_moveDown (l : Launch) (G : gG) (b0 : Nat) (H : Heap) {a t n k s0 : Nat} {f f0 : Nat → Nat} (ha : H[a]? = some (aJ G n f)) (ht : H[t]? = some (aJ G k f0)) (hn : n < 2 ^ 31) (hk : k < 2 ^ 20) (hs0 : s0 < 2 ^ 20) (hf : lim f n) (hat : a ≠ t) (hbt : b0 ≤ t) : Met l yX0_moveDown wsX0_moveDown ({ frames := 1, cells := 0, slots := 0, locals := 21 } : Room) (PcH G H [.ref a, .int (nI s0), .ref t]) (QcV (fun H1 => ∃ g : Nat → Nat, (∀ i, i < k → g i = vl f n / 2 ^ s0 / 4294967296 ^ i % 4294967296) ∧ H1 = hput H t (aJ G k g))) 0 0 (fre b0) := by
  refine m_enter (cc := cX0_moveDown) (maxL := 10) (ret := none) (own := RX0) (by decide) rfl rfl (Nat.le_of_ble_eq_true rfl) ?_
  intro p e s m below meth c ls hF hnm hH hl
  have hl : lv_has ls 10 [(0, .ref a), (1, .int (nI s0)), (2, .ref t)] := hl
  have hLc : lcs b0 [] := lcs_nil b0
  obtain ⟨hx, hb, hr, hml, hown, hts, hlocks, hK⟩ := id hF
  refine lv_iload_n hx hb dX0_moveDown_0 rfl (lv_at hl 1 rfl) ?_
  refine lv_bipush (v := nI 32) hx hb dX0_moveDown_1 (by decide) ?_
  refine m_idiv (a := s0) (b := 32) hx hb (by omega) (by decide) (by decide) dX0_moveDown_3 ?_
  refine lv_istore_n (lv' := [(3, .int (nI (s0 / 32))), (0, .ref a), (1, .int (nI s0)), (2, .ref t)]) hx hb dX0_moveDown_4 rfl hl (by decide) rfl (fun ls hl => ?_)
  refine lv_iload_n hx hb dX0_moveDown_5 rfl (lv_at hl 2 rfl) ?_
  refine lv_bipush (v := nI 32) hx hb dX0_moveDown_6 (by decide) ?_
  refine m_irem (a := s0) (b := 32) hx hb (by omega) (by decide) (by decide) dX0_moveDown_8 ?_
  refine lv_istore (lv' := [(4, .int (nI (s0 % 32))), (3, .int (nI (s0 / 32))), (0, .ref a), (1, .int (nI s0)), (2, .ref t)]) hx hb dX0_moveDown_9 hl (by decide) rfl (fun ls hl => ?_)
  refine lv_iconst (v := nI 0) hx hb dX0_moveDown_11 (by decide) ?_
  refine lv_istore (lv' := [(5, .int (nI 0)), (4, .int (nI (s0 % 32))), (3, .int (nI (s0 / 32))), (0, .ref a), (1, .int (nI s0)), (2, .ref t)]) hx hb dX0_moveDown_12 hl (by decide) rfl (fun ls hl => ?_)
  have hl := lv_sub (l' := [(0, .ref a), (1, .int (nI s0)), (2, .ref t), (3, .int (nI (s0 / 32))), (4, .int (nI (s0 % 32))), (5, .int (nI 0))]) hl [3, 4, 5, 2, 1, 0] rfl
  have hh := moveDown_14 (l := l) (e := e) (below := below) hF ha ht hn hk hs0 hf hat hbt k 0 f0 (by omega) (fun j hj => absurd hj (by omega)) _ _ hLc hl
  rw [hput_same ht] at hh
  exact hh

set_option maxRecDepth 100000 in
set_option maxHeartbeats 4000000 in
theorem multiply_41 {p : Program} {l : Launch} {e : Env} {s : State} {m : MethodId} {args : Array Value} {below : List Frame} {meth : Method} {c : Code} {G : gG} {b0 : Nat} {H : Heap} {a b t n1 n2 : Nat} {f1 f2 f0 : Nat → Nat} {i : Nat} (hF : FxM p s m args meth c G cX0_multiply 11 none RX0 wsX0_multiply) (ha : H[a]? = some (aJ G n1 f1)) (hb0 : H[b]? = some (aJ G n2 f2)) (ht : H[t]? = some (aJ G 32 f0)) (hn1 : n1 ≤ 16) (hn2 : n2 ≤ 16) (hf1 : lim f1 n1) (hf2 : lim f2 n2) (hat : a ≠ t) (hbn : b ≠ t) (hbt : b0 ≤ t) (hi : i < us f1 n1) (K : ∀ (c1 : Nat) (g : Nat → Nat), lim g 32 → c1 < 4294967296 → (∀ z, i + us f2 n2 ≤ z → z < 32 → g z = 0) → vl g 32 + c1 * 4294967296 ^ (i + us f2 n2) = vl f1 i * vl f2 (us f2 n2) + f1 i * 4294967296 ^ i * vl f2 (us f2 n2) → ∀ (locs : List Loc) (ls : Array Slot), lcs b0 locs → lv_has ls 11 [(0, .ref a), (1, .ref b), (2, .ref t), (3, .int (nI (us f1 n1))), (4, .int (nI (us f2 n2))), (5, .int (nI i)), (6, .long (lN c1))] → W p l e ({ frames := 1, cells := 0, slots := 0, locals := 24 } : Room) s m args below meth c (hput H t (aJ G 32 g)) locs 0 0 (MQ below (QcV (fun H1 => ∃ g : Nat → Nat, lim g 32 ∧ vl g 32 = vl f1 n1 * vl f2 n2 ∧ H1 = hput H t (aJ G 32 g))) args s 0 0 (fre b0)) (F0 m 96 ls [])) : ∀ (q : Nat) (j c1 : Nat) (g : Nat → Nat), j + q = us f2 n2 → lim g 32 → c1 < 4294967296 → (∀ z, i + us f2 n2 ≤ z → z < 32 → g z = 0) → vl g 32 + c1 * 4294967296 ^ (i + j) = vl f1 i * vl f2 (us f2 n2) + f1 i * 4294967296 ^ i * vl f2 j → ∀ (locs : List Loc) (ls : Array Slot), lcs b0 locs → lv_has ls 11 [(0, .ref a), (1, .ref b), (2, .ref t), (3, .int (nI (us f1 n1))), (4, .int (nI (us f2 n2))), (5, .int (nI i)), (6, .long (lN c1)), (8, .int (nI j))] → W p l e ({ frames := 1, cells := 0, slots := 0, locals := 24 } : Room) s m args below meth c (hput H t (aJ G 32 g)) locs 0 0 (MQ below (QcV (fun H1 => ∃ g : Nat → Nat, lim g 32 ∧ vl g 32 = vl f1 n1 * vl f2 n2 ∧ H1 = hput H t (aJ G 32 g))) args s 0 0 (fre b0)) (F0 m 41 ls []) := by
  obtain ⟨hx, hb, hr, hml, hown, hts, hlocks, hK⟩ := id hF
  intro q
  induction q with
  | zero =>
    intro j c1 g hj hg hc h0 hv locs ls hLc hl
    have hA := us_le f1 n1
    have hB := us_le f2 n2
    obtain hjb : j = us f2 n2 := by omega
    rw [hjb] at hv
    refine lv_iload hx hb dX0_multiply_41 (lv_at hl 7 rfl) ?_
    refine lv_iload hx hb dX0_multiply_43 (lv_at hl 4 rfl) ?_
    refine lv_icmp_ge (tgt := 96) hx hb dX0_multiply_45 (by decide) (fun _ => ?_) (fun h => absurd (nI_le (by omega) (by omega)) h)
    exact K c1 g hg hc h0 hv _ _ hLc (lv_sub hl [0, 1, 2, 3, 4, 5, 6] rfl)
  | succ q ih =>
    intro j c1 g hj hg hc h0 hv locs ls hLc hl
    have hA := us_le f1 n1
    have hB := us_le f2 n2
    have h1 := hf1 i (by omega)
    have h2 := hf2 j (by omega)
    have h3 := hg (i + j) (by omega)
    have hM := mul_lt_B2 h1 h2 h3 hc
    have hQ := mul_div_B h1 h2 h3 hc
    have hxl : (f1 i * f2 j + g (i + j) + c1) % 4294967296 < 4294967296 := Nat.mod_lt _ (by decide)
    refine lv_iload hx hb dX0_multiply_41 (lv_at hl 7 rfl) ?_
    refine lv_iload hx hb dX0_multiply_43 (lv_at hl 4 rfl) ?_
    refine lv_icmp_ge (tgt := 96) hx hb dX0_multiply_45 (by decide) (fun h => absurd h (nI_ge (by omega) (by omega))) (fun _ => ?_)
    refine lv_aload_n hx hb dX0_multiply_48 rfl (lv_at hl 0 rfl) ?_
    refine lv_iload hx hb dX0_multiply_49 (lv_at hl 5 rfl) ?_
    refine m_lald (n := n1) (f := f1) hx hb hK ((hput_ne _ hat).trans ha) (by omega) (by omega) dX0_multiply_51 ?_
    refine lv_aload_n hx hb dX0_multiply_52 rfl (lv_at hl 1 rfl) ?_
    refine lv_iload hx hb dX0_multiply_53 (lv_at hl 7 rfl) ?_
    refine m_lald (n := n2) (f := f2) hx hb hK ((hput_ne _ hbn).trans hb0) (by omega) (by omega) dX0_multiply_55 ?_
    refine m_lmul hx hb dX0_multiply_56 ?_
    refine lv_aload_n hx hb dX0_multiply_57 rfl (lv_at hl 2 rfl) ?_
    refine lv_iload hx hb dX0_multiply_58 (lv_at hl 5 rfl) ?_
    refine lv_iload hx hb dX0_multiply_60 (lv_at hl 7 rfl) ?_
    refine m_iadd (a := i) (b := j) hx hb dX0_multiply_62 ?_
    refine m_lald (n := 32) (f := g) hx hb hK (hput_self _ (lt_of_at ht)) (by omega) (by decide) dX0_multiply_63 ?_
    refine m_ladd hx hb dX0_multiply_64 ?_
    refine lv_lload hx hb dX0_multiply_65 (lv_at hl 6 rfl) ?_
    refine m_ladd hx hb dX0_multiply_67 ?_
    refine lv_lstore (lv' := [(9, .long (lN ((((f1 i) * (f2 j)) + (g (i + j))) + c1))), (0, .ref a), (1, .ref b), (2, .ref t), (3, .int (nI (us f1 n1))), (4, .int (nI (us f2 n2))), (5, .int (nI i)), (6, .long (lN c1)), (8, .int (nI j))]) hx hb dX0_multiply_68 hl (by decide) rfl (fun ls hl => ?_)
    refine lv_aload_n hx hb dX0_multiply_70 rfl (lv_at hl 3 rfl) ?_
    refine lv_iload hx hb dX0_multiply_71 (lv_at hl 6 rfl) ?_
    refine lv_iload hx hb dX0_multiply_73 (lv_at hl 8 rfl) ?_
    refine m_iadd (a := i) (b := j) hx hb dX0_multiply_75 ?_
    refine lv_lload hx hb dX0_multiply_76 (lv_at hl 0 rfl) ?_
    refine lv_ldc2 (v := lN 4294967295) hx hb hown (hts (.constantLong RX0 28 (lN 4294967295)) (by decide +kernel)) dX0_multiply_78 ?_
    refine m_mask hx hb dX0_multiply_81 ?_
    refine m_last (n := 32) (f := g) (b0 := b0) hx hb hK (hput_self _ (lt_of_at ht)) (by omega) (by decide) (hbt) hLc dX0_multiply_82 (fun locs hLc => ?_)
    rw [hput_put]
    refine lv_lload hx hb dX0_multiply_83 (lv_at hl 0 rfl) ?_
    refine lv_bipush (v := nI 32) hx hb dX0_multiply_85 (by decide) ?_
    refine m_lushr32 hx hb (by omega) dX0_multiply_87 ?_
    refine lv_lstore (lv' := [(6, .long (lN (((((f1 i) * (f2 j)) + (g (i + j))) + c1) / 4294967296))), (9, .long (lN ((((f1 i) * (f2 j)) + (g (i + j))) + c1))), (0, .ref a), (1, .ref b), (2, .ref t), (3, .int (nI (us f1 n1))), (4, .int (nI (us f2 n2))), (5, .int (nI i)), (8, .int (nI j))]) hx hb dX0_multiply_88 hl (by decide) rfl (fun ls hl => ?_)
    refine lv_iinc (v := nI (j + 1)) (lv' := [(8, .int (nI (j + 1))), (6, .long (lN (((((f1 i) * (f2 j)) + (g (i + j))) + c1) / 4294967296))), (9, .long (lN ((((f1 i) * (f2 j)) + (g (i + j))) + c1))), (0, .ref a), (1, .ref b), (2, .ref t), (3, .int (nI (us f1 n1))), (4, .int (nI (us f2 n2))), (5, .int (nI i))]) hx hb dX0_multiply_90 hl (k := 8) rfl (nI_add j 1) (by decide) rfl (fun ls hl => ?_)
    refine lv_goto (tgt := 41) hx hb dX0_multiply_93 (by decide) ?_
    exact ih (j + 1) _ _ (by omega) (lim_fup hg hxl) hQ (fun z h4 h5 => by rw [fup_n _ _ (by omega)]; exact h0 z h4 h5) (mul_step (bu := 0) (by omega) hv) _ _ hLc (lv_sub hl [3, 4, 5, 6, 7, 8, 1, 0] rfl)
set_option maxRecDepth 100000 in
set_option maxHeartbeats 4000000 in
theorem multiply_19 {p : Program} {l : Launch} {e : Env} {s : State} {m : MethodId} {args : Array Value} {below : List Frame} {meth : Method} {c : Code} {G : gG} {b0 : Nat} {H : Heap} {a b t n1 n2 : Nat} {f1 f2 f0 : Nat → Nat} (hF : FxM p s m args meth c G cX0_multiply 11 none RX0 wsX0_multiply) (ha : H[a]? = some (aJ G n1 f1)) (hb0 : H[b]? = some (aJ G n2 f2)) (ht : H[t]? = some (aJ G 32 f0)) (hn1 : n1 ≤ 16) (hn2 : n2 ≤ 16) (hf1 : lim f1 n1) (hf2 : lim f2 n2) (hat : a ≠ t) (hbn : b ≠ t) (hbt : b0 ≤ t) : ∀ (q : Nat) (i : Nat) (g : Nat → Nat), i + q = us f1 n1 → lim g 32 → (∀ z, i + us f2 n2 ≤ z → z < 32 → g z = 0) → vl g 32 = vl f1 i * vl f2 (us f2 n2) → ∀ (locs : List Loc) (ls : Array Slot), lcs b0 locs → lv_has ls 11 [(0, .ref a), (1, .ref b), (2, .ref t), (3, .int (nI (us f1 n1))), (4, .int (nI (us f2 n2))), (5, .int (nI i))] → W p l e ({ frames := 1, cells := 0, slots := 0, locals := 24 } : Room) s m args below meth c (hput H t (aJ G 32 g)) locs 0 0 (MQ below (QcV (fun H1 => ∃ g : Nat → Nat, lim g 32 ∧ vl g 32 = vl f1 n1 * vl f2 n2 ∧ H1 = hput H t (aJ G 32 g))) args s 0 0 (fre b0)) (F0 m 19 ls []) := by
  obtain ⟨hx, hb, hr, hml, hown, hts, hlocks, hK⟩ := id hF
  intro q
  induction q with
  | zero =>
    intro i g hi hg h0 hv locs ls hLc hl
    have hA := us_le f1 n1
    have hB := us_le f2 n2
    refine lv_iload hx hb dX0_multiply_19 (lv_at hl 5 rfl) ?_
    refine lv_iload_n hx hb dX0_multiply_21 rfl (lv_at hl 3 rfl) ?_
    refine lv_icmp_ge (tgt := 111) hx hb dX0_multiply_22 (by decide) (fun _ => ?_) (fun h => absurd (nI_le (by omega) (by omega)) h)
    exact m_vret hx hb hr hlocks hLc dX0_multiply_111 (⟨g, hg, by rw [hv, show i = us f1 n1 by omega, ← vl_us, ← vl_us], rfl⟩)
  | succ q ih =>
    intro i g hi hg h0 hv locs ls hLc hl
    have hA := us_le f1 n1
    have hB := us_le f2 n2
    refine lv_iload hx hb dX0_multiply_19 (lv_at hl 5 rfl) ?_
    refine lv_iload_n hx hb dX0_multiply_21 rfl (lv_at hl 3 rfl) ?_
    refine lv_icmp_ge (tgt := 111) hx hb dX0_multiply_22 (by decide) (fun h => absurd h (nI_ge (by omega) (by omega))) (fun _ => ?_)
    refine lv_iload hx hb dX0_multiply_25 (lv_at hl 5 rfl) ?_
    refine lv_iload hx hb dX0_multiply_27 (lv_at hl 4 rfl) ?_
    refine m_iadd (a := i) (b := us f2 n2) hx hb dX0_multiply_29 ?_
    refine lv_aload_n hx hb dX0_multiply_30 rfl (lv_at hl 2 rfl) ?_
    refine m_alenJ (n := 32) (f := g) hx hb hK (hput_self _ (lt_of_at ht)) dX0_multiply_31 ?_
    refine lv_icmp_ge (tgt := 111) hx hb dX0_multiply_32 (by decide) (fun h => absurd h (nI_ge (by omega) (by decide))) (fun _ => ?_)
    refine lv_lconst (v := lN 0) hx hb dX0_multiply_35 (by decide) ?_
    refine lv_lstore (lv' := [(6, .long (lN 0)), (0, .ref a), (1, .ref b), (2, .ref t), (3, .int (nI (us f1 n1))), (4, .int (nI (us f2 n2))), (5, .int (nI i))]) hx hb dX0_multiply_36 hl (by decide) rfl (fun ls hl => ?_)
    refine lv_iconst (v := nI 0) hx hb dX0_multiply_38 (by decide) ?_
    refine lv_istore (lv' := [(8, .int (nI 0)), (6, .long (lN 0)), (0, .ref a), (1, .ref b), (2, .ref t), (3, .int (nI (us f1 n1))), (4, .int (nI (us f2 n2))), (5, .int (nI i))]) hx hb dX0_multiply_39 hl (by decide) rfl (fun ls hl => ?_)
    refine multiply_41 (l := l) (e := e) (below := below) hF ha hb0 ht hn1 hn2 hf1 hf2 hat hbn hbt (by omega) ?_ (us f2 n2) 0 0 g (by omega) hg (by decide) h0 (by rw [hv]; simp [vl]) _ _ hLc (lv_sub hl [2, 3, 4, 5, 6, 7, 1, 0] rfl)
    intro c1 g hg hc h0 hv locs ls hLc hl
    refine lv_aload_n hx hb dX0_multiply_96 rfl (lv_at hl 2 rfl) ?_
    refine lv_iload hx hb dX0_multiply_97 (lv_at hl 5 rfl) ?_
    refine lv_iload hx hb dX0_multiply_99 (lv_at hl 4 rfl) ?_
    refine m_iadd (a := i) (b := us f2 n2) hx hb dX0_multiply_101 ?_
    refine lv_lload hx hb dX0_multiply_102 (lv_at hl 6 rfl) ?_
    refine m_last (n := 32) (f := g) (b0 := b0) hx hb hK (hput_self _ (lt_of_at ht)) (by omega) (by decide) (hbt) hLc dX0_multiply_104 (fun locs hLc => ?_)
    rw [hput_put]
    refine lv_iinc (v := nI (i + 1)) (lv' := [(5, .int (nI (i + 1))), (0, .ref a), (1, .ref b), (2, .ref t), (3, .int (nI (us f1 n1))), (4, .int (nI (us f2 n2))), (6, .long (lN c1))]) hx hb dX0_multiply_105 hl (k := 5) rfl (nI_add i 1) (by decide) rfl (fun ls hl => ?_)
    refine lv_goto (tgt := 19) hx hb dX0_multiply_108 (by decide) ?_
    exact ih (i + 1) _ (by omega) (lim_fup hg hc) (fun z h4 h5 => by rw [fup_n _ _ (by omega)]; exact h0 z (by omega) h5) (mul_row (by omega) (h0 _ (Nat.le_refl _) (by omega)) hv) _ _ hLc (lv_sub hl [1, 2, 3, 4, 5, 0] rfl)
set_option maxRecDepth 100000 in
set_option maxHeartbeats 4000000 in
theorem c_X0_multiply (l : Launch) (G : gG) (b0 : Nat) (H : Heap) {a b t n1 n2 : Nat} {f1 f2 f0 : Nat → Nat} (ha : H[a]? = some (aJ G n1 f1)) (hb0 : H[b]? = some (aJ G n2 f2)) (ht : H[t]? = some (aJ G 32 f0)) (hn1 : n1 ≤ 16) (hn2 : n2 ≤ 16) (hf1 : lim f1 n1) (hf2 : lim f2 n2) (hat : a ≠ t) (hbn : b ≠ t) (hbt : b0 ≤ t) : Met l yX0_multiply wsX0_multiply ({ frames := 1, cells := 0, slots := 0, locals := 24 } : Room) (PcH G H [.ref a, .ref b, .ref t]) (QcV (fun H1 => ∃ g : Nat → Nat, lim g 32 ∧ vl g 32 = vl f1 n1 * vl f2 n2 ∧ H1 = hput H t (aJ G 32 g))) 0 0 (fre b0) := by
  refine m_enter (cc := cX0_multiply) (maxL := 11) (ret := none) (own := RX0) (by decide) rfl rfl (Nat.le_of_ble_eq_true rfl) ?_
  intro p e s m below meth c ls hF hnm hH hl
  have hl : lv_has ls 11 [(0, .ref a), (1, .ref b), (2, .ref t)] := hl
  have hLc : lcs b0 [] := lcs_nil b0
  obtain ⟨hx, hb, hr, hml, hown, hts, hlocks, hK⟩ := id hF
  refine lv_aload_n hx hb dX0_multiply_0 rfl (lv_at hl 2 rfl) ?_
  refine lv_lconst (v := lN 0) hx hb dX0_multiply_1 (by decide) ?_
  refine mc_v0 (va_runS (As := [.ref t, .long (lN 0)]) (rest := []) ⟨hx, hb, hml, hown, hts⟩ (c_J7_fill_d0a16 l G b0 H ht (by decide) hbt) (va_cwS 2 hts gX0_multiply_J7_fill_d0a16 rfl rfl rfl (by decide +kernel) ⟨Nat.le_of_ble_eq_true rfl, Nat.le_of_ble_eq_true rfl⟩) (mp_S hK) rfl rfl hl.1 rfl (lv_room (Nat.le_of_ble_eq_true rfl)) dX0_multiply_2 ⟨Nat.le_of_ble_eq_true rfl, Nat.le_of_ble_eq_true rfl⟩) hLc (fun H1 locs hP hLc => ?_)
  subst hP
  refine lv_aload_n hx hb dX0_multiply_5 rfl (lv_at hl 0 rfl) ?_
  refine mc_i0 (va_runS (As := [.ref a]) (rest := []) ⟨hx, hb, hml, hown, hts⟩ (c_X0_used l G b0 (hput H t (aJ G 32 (fun _ => 0))) ((hput_ne _ hat).trans ha) (by omega) hf1) (va_cwS 1 hts gX0_multiply_X0_used rfl rfl rfl (by decide +kernel) ⟨Nat.le_of_ble_eq_true rfl, Nat.le_of_ble_eq_true rfl⟩) (mp_S hK) rfl rfl hl.1 rfl (lv_room (Nat.le_of_ble_eq_true rfl)) dX0_multiply_6 ⟨Nat.le_of_ble_eq_true rfl, Nat.le_of_ble_eq_true rfl⟩) hLc (fun r H1 locs hP hLc => ?_)
  obtain ⟨rfl, rfl⟩ := hP
  refine lv_istore_n (lv' := [(3, .int (nI (us f1 n1))), (0, .ref a), (1, .ref b), (2, .ref t)]) hx hb dX0_multiply_9 rfl hl (by decide) rfl (fun ls hl => ?_)
  refine lv_aload_n hx hb dX0_multiply_10 rfl (lv_at hl 2 rfl) ?_
  refine mc_i0 (va_runS (As := [.ref b]) (rest := []) ⟨hx, hb, hml, hown, hts⟩ (c_X0_used l G b0 (hput H t (aJ G 32 (fun _ => 0))) ((hput_ne _ hbn).trans hb0) (by omega) hf2) (va_cwS 1 hts gX0_multiply_X0_used rfl rfl rfl (by decide +kernel) ⟨Nat.le_of_ble_eq_true rfl, Nat.le_of_ble_eq_true rfl⟩) (mp_S hK) rfl rfl hl.1 rfl (lv_room (Nat.le_of_ble_eq_true rfl)) dX0_multiply_11 ⟨Nat.le_of_ble_eq_true rfl, Nat.le_of_ble_eq_true rfl⟩) hLc (fun r H1 locs hP hLc => ?_)
  obtain ⟨rfl, rfl⟩ := hP
  refine lv_istore (lv' := [(4, .int (nI (us f2 n2))), (3, .int (nI (us f1 n1))), (0, .ref a), (1, .ref b), (2, .ref t)]) hx hb dX0_multiply_14 hl (by decide) rfl (fun ls hl => ?_)
  refine lv_iconst (v := nI 0) hx hb dX0_multiply_16 (by decide) ?_
  refine lv_istore (lv' := [(5, .int (nI 0)), (4, .int (nI (us f2 n2))), (3, .int (nI (us f1 n1))), (0, .ref a), (1, .ref b), (2, .ref t)]) hx hb dX0_multiply_17 hl (by decide) rfl (fun ls hl => ?_)
  exact multiply_19 hF ha hb0 ht hn1 hn2 hf1 hf2 hat hbn hbt (us f1 n1) 0 _ (by omega) (fun j _ => (by decide : 0 < 4294967296)) (fun z _ _ => rfl) (by rw [vl_zero_iff.mpr (fun j _ => rfl)]; simp [vl]) _ _ hLc (lv_sub hl [3, 4, 5, 2, 1, 0] rfl)

set_option maxRecDepth 100000 in
set_option maxHeartbeats 4000000 in
theorem c_X0_bitLength (l : Launch) (G : gG) (b0 : Nat) (H : Heap) {a n : Nat} {f : Nat → Nat} (ha : H[a]? = some (aJ G n f)) (hn : n < 2 ^ 20) (hf : lim f n) : Met l yX0_bitLength wsX0_bitLength ({ frames := 2, cells := 0, slots := 0, locals := 43 } : Room) (PcH G H [.ref a]) (QcI (fun r H1 => (∃ b, r = nI b ∧ b ≤ 32 * n ∧ isBL b (vl f n)) ∧ H = H1)) 0 0 (fre b0) := by
  refine m_enter (cc := cX0_bitLength) (maxL := 2) (ret := (some .int)) (own := RX0) (by decide) rfl rfl (Nat.le_of_ble_eq_true rfl) ?_
  intro p e s m below meth c ls hF hnm hH hl
  have hl : lv_has ls 2 [(0, .ref a)] := hl
  have hLc : lcs b0 [] := lcs_nil b0
  obtain ⟨hx, hb, hr, hml, hown, hts, hlocks, hK⟩ := id hF
  have hu := us_le f n
  refine lv_aload_n hx hb dX0_bitLength_0 rfl (lv_at hl 0 rfl) ?_
  refine mc_i0 (va_runS (As := [.ref a]) (rest := []) ⟨hx, hb, hml, hown, hts⟩ (c_X0_used l G b0 H ha (by omega) hf) (va_cwS 1 hts gX0_bitLength_X0_used rfl rfl rfl (by decide +kernel) ⟨Nat.le_of_ble_eq_true rfl, Nat.le_of_ble_eq_true rfl⟩) (mp_S hK) rfl rfl hl.1 rfl (lv_room (Nat.le_of_ble_eq_true rfl)) dX0_bitLength_1 ⟨Nat.le_of_ble_eq_true rfl, Nat.le_of_ble_eq_true rfl⟩) hLc (fun r H1 locs hP hLc => ?_)
  obtain ⟨rfl, rfl⟩ := hP
  refine lv_istore_n (lv' := [(1, .int (nI (us f n))), (0, .ref a)]) hx hb dX0_bitLength_4 rfl hl (by decide) rfl (fun ls hl => ?_)
  refine lv_iload_n hx hb dX0_bitLength_5 rfl (lv_at hl 0 rfl) ?_
  refine m_if_ne (tgt := 13) hx hb (by omega) dX0_bitLength_6 (by decide) (fun c6 => ?_) (fun c6 => ?_)
  · skip
    have htp := us_top f n c6
    have hlm := hf (us f n - 1) (by omega)
    refine lv_iload_n hx hb dX0_bitLength_13 rfl (lv_at hl 0 rfl) ?_
    refine lv_bipush (v := nI 32) hx hb dX0_bitLength_14 (by decide) ?_
    refine m_imul (a := us f n) (b := 32) hx hb dX0_bitLength_16 ?_
    refine lv_aload_n hx hb dX0_bitLength_17 rfl (lv_at hl 1 rfl) ?_
    refine lv_iload_n hx hb dX0_bitLength_18 rfl (lv_at hl 0 rfl) ?_
    refine lv_iconst (v := nI 1) hx hb dX0_bitLength_19 (by decide) ?_
    refine m_isub (a := us f n) (b := 1) hx hb (by omega) dX0_bitLength_20 ?_
    refine m_lald (n := n) (f := f) hx hb hK (ha) (by omega) (by omega) dX0_bitLength_21 ?_
    refine mc_i0 (va_runS (As := [.long (lN (f ((us f n) - 1)))]) (rest := [.int (nI ((us f n) * 32))]) ⟨hx, hb, hml, hown, hts⟩ (c_J13_numberOfLeadingZeros_95d88 l G b0 H (show 0 < f (us f n - 1) by omega) hlm) (va_cwS 1 hts gX0_bitLength_J13_numberOfLeadingZeros_95d88 rfl rfl rfl (by decide +kernel) ⟨Nat.le_of_ble_eq_true rfl, Nat.le_of_ble_eq_true rfl⟩) (mp_S hK) rfl rfl hl.1 rfl (lv_room (Nat.le_of_ble_eq_true rfl)) dX0_bitLength_22 ⟨Nat.le_of_ble_eq_true rfl, Nat.le_of_ble_eq_true rfl⟩) hLc (fun r H1 locs hP hLc => ?_)
    obtain ⟨⟨k, rfl, hk, hk1, hk2⟩, rfl⟩ := hP
    refine lv_bipush (v := nI 32) hx hb dX0_bitLength_25 (by decide) ?_
    refine m_isub (a := 32 + (31 - k)) (b := 32) hx hb (by omega) dX0_bitLength_27 ?_
    refine m_isub (a := (us f n) * 32) (b := (32 + (31 - k)) - 32) hx hb (by omega) dX0_bitLength_28 ?_
    exact m_iret hx hb hr hlocks hLc dX0_bitLength_29 (⟨⟨(us f n - 1) * 32 + k + 1, congrArg nI (by omega), by omega, bl_top hf c6 hk hk1 hk2⟩, rfl⟩)
  · skip
    refine lv_iconst (v := nI 0) hx hb dX0_bitLength_9 (by decide) ?_
    refine lv_goto (tgt := 29) hx hb dX0_bitLength_10 (by decide) ?_
    exact m_iret hx hb hr hlocks hLc dX0_bitLength_29 (⟨⟨0, rfl, by omega, by rw [(us_0 f n).mp c6]; exact ⟨by decide, Or.inl rfl⟩⟩, rfl⟩)

set_option maxRecDepth 100000 in
set_option maxHeartbeats 4000000 in
theorem lowZeros_2 {p : Program} {l : Launch} {e : Env} {s : State} {m : MethodId} {args : Array Value} {below : List Frame} {meth : Method} {c : Code} {G : gG} {b0 : Nat} {H : Heap} {a n : Nat} {f : Nat → Nat} (hF : FxM p s m args meth c G cX0_lowZeros 2 (some .int) RX0 wsX0_lowZeros) (ha : H[a]? = some (aJ G n f)) (hn : n < 2 ^ 20) (hf : lim f n) : ∀ (q : Nat) (i : Nat), i + q = n → (∀ j, j < i → f j = 0) → ∀ (locs : List Loc) (ls : Array Slot), lcs b0 locs → lv_has ls 2 [(0, .ref a), (1, .int (nI i))] → W p l e ({ frames := 2, cells := 0, slots := 0, locals := 43 } : Room) s m args below meth c H locs 0 0 (MQ below (QcI (fun r H1 => (∃ t, r = nI t ∧ t ≤ 32 * n ∧ ((vl f n = 0 ∧ t = n * 32) ∨ isTZ t (vl f n))) ∧ H = H1)) args s 0 0 (fre b0)) (F0 m 2 ls []) := by
  obtain ⟨hx, hb, hr, hml, hown, hts, hlocks, hK⟩ := id hF
  intro q
  induction q with
  | zero =>
    intro i hi h0 locs ls hLc hl
    refine lv_iload_n hx hb dX0_lowZeros_2 rfl (lv_at hl 1 rfl) ?_
    refine lv_aload_n hx hb dX0_lowZeros_3 rfl (lv_at hl 0 rfl) ?_
    refine m_alenJ (n := n) (f := f) hx hb hK (ha) dX0_lowZeros_4 ?_
    refine lv_icmp_ge (tgt := 34) hx hb dX0_lowZeros_5 (by decide) (fun _ => ?_) (fun h => absurd (nI_le (by omega) (by omega)) h)
    refine lv_aload_n hx hb dX0_lowZeros_34 rfl (lv_at hl 0 rfl) ?_
    refine m_alenJ (n := n) (f := f) hx hb hK (ha) dX0_lowZeros_35 ?_
    refine lv_bipush (v := nI 32) hx hb dX0_lowZeros_36 (by decide) ?_
    refine m_imul (a := n) (b := 32) hx hb dX0_lowZeros_38 ?_
    exact m_iret hx hb hr hlocks hLc dX0_lowZeros_39 (⟨⟨n * 32, rfl, by omega, Or.inl ⟨vl_zero_iff.mpr (fun j hj => h0 j (by omega)), rfl⟩⟩, rfl⟩)
  | succ q ih =>
    intro i hi h0 locs ls hLc hl
    have hin : i < n := by omega
    have hfi := hf i hin
    refine lv_iload_n hx hb dX0_lowZeros_2 rfl (lv_at hl 1 rfl) ?_
    refine lv_aload_n hx hb dX0_lowZeros_3 rfl (lv_at hl 0 rfl) ?_
    refine m_alenJ (n := n) (f := f) hx hb hK (ha) dX0_lowZeros_4 ?_
    refine lv_icmp_ge (tgt := 34) hx hb dX0_lowZeros_5 (by decide) (fun h => absurd h (nI_ge (by omega) (by omega))) (fun _ => ?_)
    refine lv_aload_n hx hb dX0_lowZeros_8 rfl (lv_at hl 0 rfl) ?_
    refine lv_iload_n hx hb dX0_lowZeros_9 rfl (lv_at hl 1 rfl) ?_
    refine m_lald (n := n) (f := f) hx hb hK (ha) (by omega) (by omega) dX0_lowZeros_10 ?_
    refine lv_lconst (v := lN 0) hx hb dX0_lowZeros_11 (by decide) ?_
    refine m_lc_eq (tgt := 28) hx hb (by omega) (by omega) dX0_lowZeros_12 dX0_lowZeros_13 (by decide) (fun c12 => ?_) (fun c12 => ?_)
    · skip
      have h1 : ∀ j, j < i + 1 → f j = 0 := fun j hj => if h : j = i then (by rw [h]; exact c12) else h0 j (by omega)
      refine lv_iinc (v := nI (i + 1)) (lv' := [(1, .int (nI (i + 1))), (0, .ref a)]) hx hb dX0_lowZeros_28 hl (k := 1) rfl (nI_add i 1) (by decide) rfl (fun ls hl => ?_)
      refine lv_goto (tgt := 2) hx hb dX0_lowZeros_31 (by decide) ?_
      exact ih (i + 1) (by omega) h1 _ _ hLc (lv_sub hl [1, 0] rfl)
    · skip
      obtain ⟨t, ht⟩ := tz_ex (show 0 < f i by omega)
      have htl := tz_lt (k := 32) ht hfi
      refine lv_iload_n hx hb dX0_lowZeros_16 rfl (lv_at hl 1 rfl) ?_
      refine lv_bipush (v := nI 32) hx hb dX0_lowZeros_17 (by decide) ?_
      refine m_imul (a := i) (b := 32) hx hb dX0_lowZeros_19 ?_
      refine lv_aload_n hx hb dX0_lowZeros_20 rfl (lv_at hl 0 rfl) ?_
      refine lv_iload_n hx hb dX0_lowZeros_21 rfl (lv_at hl 1 rfl) ?_
      refine m_lald (n := n) (f := f) hx hb hK (ha) (by omega) (by omega) dX0_lowZeros_22 ?_
      refine mc_i0 (va_runS (As := [.long (lN (f i))]) (rest := [.int (nI (i * 32))]) ⟨hx, hb, hml, hown, hts⟩ (c_J13_numberOfTrailingZeros_95d88 l G b0 H (show 0 < f i by omega) hfi ht) (va_cwS 1 hts gX0_lowZeros_J13_numberOfTrailingZeros_95d88 rfl rfl rfl (by decide +kernel) ⟨Nat.le_of_ble_eq_true rfl, Nat.le_of_ble_eq_true rfl⟩) (mp_S hK) rfl rfl hl.1 rfl (lv_room (Nat.le_of_ble_eq_true rfl)) dX0_lowZeros_23 ⟨Nat.le_of_ble_eq_true rfl, Nat.le_of_ble_eq_true rfl⟩) hLc (fun r H1 locs hP hLc => ?_)
      obtain ⟨rfl, rfl⟩ := hP
      refine m_iadd (a := i * 32) (b := t) hx hb dX0_lowZeros_26 ?_
      exact m_iret hx hb hr hlocks hLc dX0_lowZeros_27 (⟨⟨i * 32 + t, rfl, by omega, Or.inr (tz_vl hin h0 hfi ht)⟩, rfl⟩)
set_option maxRecDepth 100000 in
set_option maxHeartbeats 4000000 in
theorem c_X0_lowZeros (l : Launch) (G : gG) (b0 : Nat) (H : Heap) {a n : Nat} {f : Nat → Nat} (ha : H[a]? = some (aJ G n f)) (hn : n < 2 ^ 20) (hf : lim f n) : Met l yX0_lowZeros wsX0_lowZeros ({ frames := 2, cells := 0, slots := 0, locals := 43 } : Room) (PcH G H [.ref a]) (QcI (fun r H1 => (∃ t, r = nI t ∧ t ≤ 32 * n ∧ ((vl f n = 0 ∧ t = n * 32) ∨ isTZ t (vl f n))) ∧ H = H1)) 0 0 (fre b0) := by
  refine m_enter (cc := cX0_lowZeros) (maxL := 2) (ret := (some .int)) (own := RX0) (by decide) rfl rfl (Nat.le_of_ble_eq_true rfl) ?_
  intro p e s m below meth c ls hF hnm hH hl
  have hl : lv_has ls 2 [(0, .ref a)] := hl
  have hLc : lcs b0 [] := lcs_nil b0
  obtain ⟨hx, hb, hr, hml, hown, hts, hlocks, hK⟩ := id hF
  refine lv_iconst (v := nI 0) hx hb dX0_lowZeros_0 (by decide) ?_
  refine lv_istore_n (lv' := [(1, .int (nI 0)), (0, .ref a)]) hx hb dX0_lowZeros_1 rfl hl (by decide) rfl (fun ls hl => ?_)
  exact lowZeros_2 hF ha hn hf n 0 (by omega) (fun j hj => absurd hj (by omega)) _ _ hLc (lv_sub hl [1, 0] rfl)
