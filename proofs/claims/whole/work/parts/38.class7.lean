set_option maxRecDepth 100000 in
set_option maxHeartbeats 4000000 in
theorem groupLength_5 {p : Program} {l : Launch} {e : Env} {s : State} {m : MethodId} {args : Array Value} {below : List Frame} {meth : Method} {c : Code} {G : gG} {b0 : Nat} {H : Heap} {b : Nat} (hF : FxM p s m args meth c G cX1_groupLength 4 (some .int) RX1 wsX1_groupLength) (hb2 : 2 ≤ b) (hb36 : b ≤ 36) : ∀ (q : Nat) (n : Nat), n + q = 32 → 1 ≤ n → b ^ n ≤ 2147483648 → ∀ (locs : List Loc) (ls : Array Slot), lcs b0 locs → lv_has ls 4 [(0, .int (nI b)), (1, .int (nI n)), (2, .long (lN (b ^ n)))] → W p l e ({ frames := 0, cells := 0, slots := 0, locals := 0 } : Room) s m args below meth c H locs 0 0 (MQ below (QcI (fun r H1 => (∃ n, r = nI n ∧ 1 ≤ n ∧ n ≤ 32 ∧ b ^ n ≤ 2147483648) ∧ H = H1)) args s 0 0 (fre b0)) (F0 m 5 ls []) := by
  obtain ⟨hx, hb, hr, hml, hown, hts, hlocks, hK⟩ := id hF
  intro q
  induction q with
  | zero =>
    intro n hn hn1 hp locs ls hLc hl
    refine lv_iload_n hx hb dX1_groupLength_5 rfl (lv_at hl 1 rfl) ?_
    refine lv_bipush (v := nI 32) hx hb dX1_groupLength_6 (by decide) ?_
    refine lv_icmp_ge (tgt := 33) hx hb dX1_groupLength_8 (by decide) (fun _ => ?_) (fun h => absurd (nI_le (by omega) (by omega)) h)
    refine lv_iload_n hx hb dX1_groupLength_33 rfl (lv_at hl 1 rfl) ?_
    exact m_iret hx hb hr hlocks hLc dX1_groupLength_34 (⟨⟨n, rfl, hn1, by omega, hp⟩, rfl⟩)
  | succ q ih =>
    intro n hn hn1 hp locs ls hLc hl
    have hpb : b ^ n * b ≤ 2147483648 * 36 := Nat.mul_le_mul hp hb36
    refine lv_iload_n hx hb dX1_groupLength_5 rfl (lv_at hl 1 rfl) ?_
    refine lv_bipush (v := nI 32) hx hb dX1_groupLength_6 (by decide) ?_
    refine lv_icmp_ge (tgt := 33) hx hb dX1_groupLength_8 (by decide) (fun h => absurd h (nI_ge (by omega) (by omega))) (fun _ => ?_)
    refine lv_lload_n hx hb dX1_groupLength_11 rfl (lv_at hl 2 rfl) ?_
    refine lv_iload_n hx hb dX1_groupLength_12 rfl (lv_at hl 0 rfl) ?_
    refine m_i2l hx hb (by omega) dX1_groupLength_13 ?_
    refine m_lmul hx hb dX1_groupLength_14 ?_
    refine lv_ldc2 (v := lN 2147483648) hx hb hown (hts (.constantLong RX1 69 (lN 2147483648)) (by decide +kernel)) dX1_groupLength_15 ?_
    refine m_lc_gt (tgt := 33) hx hb (by omega) (by decide) dX1_groupLength_18 dX1_groupLength_19 (by decide) (fun c18 => ?_) (fun c18 => ?_)
    · skip
      refine lv_iload_n hx hb dX1_groupLength_33 rfl (lv_at hl 1 rfl) ?_
      exact m_iret hx hb hr hlocks hLc dX1_groupLength_34 (⟨⟨n, rfl, hn1, by omega, hp⟩, rfl⟩)
    · skip
      refine lv_lload_n hx hb dX1_groupLength_22 rfl (lv_at hl 2 rfl) ?_
      refine lv_iload_n hx hb dX1_groupLength_23 rfl (lv_at hl 0 rfl) ?_
      refine m_i2l hx hb (by omega) dX1_groupLength_24 ?_
      refine m_lmul hx hb dX1_groupLength_25 ?_
      rw [pow_s]
      refine lv_lstore_n (lv' := [(2, .long (lN (b ^ (n + 1)))), (0, .int (nI b)), (1, .int (nI n))]) hx hb dX1_groupLength_26 rfl hl (by decide) rfl (fun ls hl => ?_)
      refine lv_iinc (v := nI (n + 1)) (lv' := [(1, .int (nI (n + 1))), (2, .long (lN (b ^ (n + 1)))), (0, .int (nI b))]) hx hb dX1_groupLength_27 hl (k := 2) rfl (nI_add n 1) (by decide) rfl (fun ls hl => ?_)
      refine lv_goto (tgt := 5) hx hb dX1_groupLength_30 (by decide) ?_
      exact ih (n + 1) (by omega) (by omega) (by rw [← pow_s]; exact c18) _ _ hLc (lv_sub hl [2, 0, 1] rfl)
set_option maxRecDepth 100000 in
set_option maxHeartbeats 4000000 in
theorem c_X1_groupLength (l : Launch) (G : gG) (b0 : Nat) (H : Heap) {b : Nat} (hb2 : 2 ≤ b) (hb36 : b ≤ 36) : Met l yX1_groupLength wsX1_groupLength ({ frames := 0, cells := 0, slots := 0, locals := 0 } : Room) (PcH G H [.int (nI b)]) (QcI (fun r H1 => (∃ n, r = nI n ∧ 1 ≤ n ∧ n ≤ 32 ∧ b ^ n ≤ 2147483648) ∧ H = H1)) 0 0 (fre b0) := by
  refine m_enter (cc := cX1_groupLength) (maxL := 4) (ret := (some .int)) (own := RX1) (by decide) rfl rfl (Nat.le_of_ble_eq_true rfl) ?_
  intro p e s m below meth c ls hF hnm hH hl
  have hl : lv_has ls 4 [(0, .int (nI b))] := hl
  have hLc : lcs b0 [] := lcs_nil b0
  obtain ⟨hx, hb, hr, hml, hown, hts, hlocks, hK⟩ := id hF
  refine lv_iconst (v := nI 1) hx hb dX1_groupLength_0 (by decide) ?_
  refine lv_istore_n (lv' := [(1, .int (nI 1)), (0, .int (nI b))]) hx hb dX1_groupLength_1 rfl hl (by decide) rfl (fun ls hl => ?_)
  refine lv_iload_n hx hb dX1_groupLength_2 rfl (lv_at hl 1 rfl) ?_
  refine m_i2l hx hb (by omega) dX1_groupLength_3 ?_
  refine lv_lstore_n (lv' := [(2, .long (lN b)), (1, .int (nI 1)), (0, .int (nI b))]) hx hb dX1_groupLength_4 rfl hl (by decide) rfl (fun ls hl => ?_)
  have hl : lv_has ls 4 [(2, .long (lN (b ^ 1))), (1, .int (nI 1)), (0, .int (nI b))] := by rw [Nat.pow_one]; exact hl
  exact groupLength_5 hF hb2 hb36 31 1 (by omega) (by omega) (by rw [Nat.pow_one]; omega) _ _ hLc (lv_sub hl [2, 1, 0] rfl)

set_option maxRecDepth 100000 in
set_option maxHeartbeats 4000000 in
theorem powerOf_5 {p : Program} {l : Launch} {e : Env} {s : State} {m : MethodId} {args : Array Value} {below : List Frame} {meth : Method} {c : Code} {G : gG} {b0 : Nat} {H : Heap} {b n : Nat} (hF : FxM p s m args meth c G cX1_powerOf 5 (some .long) RX1 wsX1_powerOf) (hb36 : b ≤ 36) (hn : n ≤ 32) : ∀ (q : Nat) (i : Nat), i + q = n → ∀ (locs : List Loc) (ls : Array Slot), lcs b0 locs → lv_has ls 5 [(0, .int (nI b)), (1, .int (nI n)), (2, .long (lN (b ^ i))), (4, .int (nI i))] → W p l e ({ frames := 0, cells := 0, slots := 0, locals := 0 } : Room) s m args below meth c H locs 0 0 (MQ below (QcL (fun r H1 => r = lN (b ^ n) ∧ H = H1)) args s 0 0 (fre b0)) (F0 m 5 ls []) := by
  obtain ⟨hx, hb, hr, hml, hown, hts, hlocks, hK⟩ := id hF
  intro q
  induction q with
  | zero =>
    intro i hi locs ls hLc hl
    refine lv_iload hx hb dX1_powerOf_5 (lv_at hl 3 rfl) ?_
    refine lv_iload_n hx hb dX1_powerOf_7 rfl (lv_at hl 1 rfl) ?_
    refine lv_icmp_ge (tgt := 22) hx hb dX1_powerOf_8 (by decide) (fun _ => ?_) (fun h => absurd (nI_le (by omega) (by omega)) h)
    refine lv_lload_n hx hb dX1_powerOf_22 rfl (lv_at hl 2 rfl) ?_
    exact m_lret hx hb hr hlocks hLc dX1_powerOf_23 (⟨by rw [show i = n by omega], rfl⟩)
  | succ q ih =>
    intro i hi locs ls hLc hl
    refine lv_iload hx hb dX1_powerOf_5 (lv_at hl 3 rfl) ?_
    refine lv_iload_n hx hb dX1_powerOf_7 rfl (lv_at hl 1 rfl) ?_
    refine lv_icmp_ge (tgt := 22) hx hb dX1_powerOf_8 (by decide) (fun h => absurd h (nI_ge (by omega) (by omega))) (fun _ => ?_)
    refine lv_lload_n hx hb dX1_powerOf_11 rfl (lv_at hl 2 rfl) ?_
    refine lv_iload_n hx hb dX1_powerOf_12 rfl (lv_at hl 0 rfl) ?_
    refine m_i2l hx hb (by omega) dX1_powerOf_13 ?_
    refine m_lmul hx hb dX1_powerOf_14 ?_
    rw [pow_s]
    refine lv_lstore_n (lv' := [(2, .long (lN (b ^ (i + 1)))), (0, .int (nI b)), (1, .int (nI n)), (4, .int (nI i))]) hx hb dX1_powerOf_15 rfl hl (by decide) rfl (fun ls hl => ?_)
    refine lv_iinc (v := nI (i + 1)) (lv' := [(4, .int (nI (i + 1))), (2, .long (lN (b ^ (i + 1)))), (0, .int (nI b)), (1, .int (nI n))]) hx hb dX1_powerOf_16 hl (k := 3) rfl (nI_add i 1) (by decide) rfl (fun ls hl => ?_)
    refine lv_goto (tgt := 5) hx hb dX1_powerOf_19 (by decide) ?_
    exact ih (i + 1) (by omega) _ _ hLc (lv_sub hl [2, 3, 1, 0] rfl)
set_option maxRecDepth 100000 in
set_option maxHeartbeats 4000000 in
theorem c_X1_powerOf (l : Launch) (G : gG) (b0 : Nat) (H : Heap) {b n : Nat} (hb36 : b ≤ 36) (hn : n ≤ 32) : Met l yX1_powerOf wsX1_powerOf ({ frames := 0, cells := 0, slots := 0, locals := 0 } : Room) (PcH G H [.int (nI b), .int (nI n)]) (QcL (fun r H1 => r = lN (b ^ n) ∧ H = H1)) 0 0 (fre b0) := by
  refine m_enter (cc := cX1_powerOf) (maxL := 5) (ret := (some .long)) (own := RX1) (by decide) rfl rfl (Nat.le_of_ble_eq_true rfl) ?_
  intro p e s m below meth c ls hF hnm hH hl
  have hl : lv_has ls 5 [(0, .int (nI b)), (1, .int (nI n))] := hl
  have hLc : lcs b0 [] := lcs_nil b0
  obtain ⟨hx, hb, hr, hml, hown, hts, hlocks, hK⟩ := id hF
  refine lv_lconst (v := lN 1) hx hb dX1_powerOf_0 (by decide) ?_
  refine lv_lstore_n (lv' := [(2, .long (lN 1)), (0, .int (nI b)), (1, .int (nI n))]) hx hb dX1_powerOf_1 rfl hl (by decide) rfl (fun ls hl => ?_)
  refine lv_iconst (v := nI 0) hx hb dX1_powerOf_2 (by decide) ?_
  refine lv_istore (lv' := [(4, .int (nI 0)), (2, .long (lN 1)), (0, .int (nI b)), (1, .int (nI n))]) hx hb dX1_powerOf_3 hl (by decide) rfl (fun ls hl => ?_)
  have hl : lv_has ls 5 [(4, .int (nI 0)), (2, .long (lN (b ^ 0))), (0, .int (nI b)), (1, .int (nI n))] := by rw [Nat.pow_zero]; exact hl
  exact powerOf_5 hF hb36 hn n 0 (by omega) _ _ hLc (lv_sub hl [2, 3, 1, 0] rfl)

set_option maxRecDepth 100000 in
set_option maxHeartbeats 4000000 in
theorem c_X1_put (l : Launch) (G : gG) (b0 : Nat) (H : Heap) {o : Nat} {ad : Nat → Nat} {sz : Nat → Nat → Nat} {bl : Nat → Nat} {dv : Nat → Nat} {dc : Nat} {wr : Nat → Nat} {wf : Nat} {f1 : Nat → Nat} {f2 : Nat → Nat} {fw : Nat → Nat} (hS : SX G b0 o ad H sz bl dv dc wr wf f1 f2 fw H) {cc : Nat} (hw0 : 0 < wf) (hw1 : wf ≤ 513) (hc0 : cc < 128) : Met l yX1_put wsX1_put ({ frames := 0, cells := 0, slots := 0, locals := 0 } : Room) (PcH G H [.ref o, .int (nI cc)]) (QcV (fun H1 => SX G b0 o ad H sz bl dv dc (fup wr (wf - 1) cc) (wf - 1) f1 f2 fw H1)) 0 0 (fre b0) := by
  refine m_enter (cc := cX1_put) (maxL := 2) (ret := none) (own := RX1) (by decide) rfl rfl (Nat.le_of_ble_eq_true rfl) ?_
  intro p e s m below meth c ls hF hnm hH hl
  have hl : lv_has ls 2 [(0, .ref o), (1, .int (nI cc))] := hl
  have hLc : lcs b0 [] := lcs_nil b0
  obtain ⟨hx, hb, hr, hml, hown, hts, hlocks, hK⟩ := id hF
  refine lv_aload_n hx hb dX1_put_0 rfl (lv_at hl 0 rfl) ?_
  refine va_get (D := G.1) (ci := 0) (v := .int (nI wf)) (C := RX1) (T := TX1) (N := 9) hx hb hts hwsX1_put hown hK hS.w.ob 0 rfl rfl 5 (by decide) (hts (.fieldLink RX1 29 "ExactNumbers" "writtenFrom" "I") (by decide +kernel)) (fun _ h9 => h9) rfl dX1_put_1 ?_
  refine lv_if_le (tgt := 28) hx hb dX1_put_4 (by decide) (fun h => absurd h (by rw [← nI_0]; exact nI_ge hw0 (by omega))) (fun _ => ?_)
  refine lv_aload_n hx hb dX1_put_7 rfl (lv_at hl 0 rfl) ?_
  refine lv_dup hx hb dX1_put_8 rfl ?_
  refine va_get (D := G.1) (ci := 0) (v := .int (nI wf)) (C := RX1) (T := TX1) (N := 9) hx hb hts hwsX1_put hown hK hS.w.ob 0 rfl rfl 5 (by decide) (hts (.fieldLink RX1 29 "ExactNumbers" "writtenFrom" "I") (by decide +kernel)) (fun _ h9 => h9) rfl dX1_put_9 ?_
  refine lv_iconst (v := nI 1) hx hb dX1_put_12 (by decide) ?_
  refine m_isub (a := wf) (b := 1) hx hb (by omega) dX1_put_13 ?_
  refine m_put (C := RX1) (T := TX1) (N := 9) (ci := 0) (ty := .int) (b0 := b0) hx hb hts hwsX1_put tyX1 tyX1_ok nmX1 hown hK hS.w.ob rfl 5 (by decide) (hts (.fieldLink RX1 29 "ExactNumbers" "writtenFrom" "I") (by decide +kernel)) rfl (by decide +kernel) (rfl) (rfl) (Nat.le_of_ble_eq_true rfl) hS.w.bo hLc dX1_put_14 (fun Hc2 locs hO hsz hq hLc => ?_)
  have hS := hS.f_wf hO hsz hq
  clear hO hsz hq
  obtain ⟨Hc, rfl⟩ : ∃ Hz, Hz = Hc2 := ⟨_, rfl⟩
  refine lv_aload_n hx hb dX1_put_17 rfl (lv_at hl 0 rfl) ?_
  refine va_get (D := G.1) (ci := 0) (v := .ref (ad 3)) (C := RX1) (T := TX1) (N := 9) hx hb hts hwsX1_put hown hK hS.w.ob 0 rfl rfl 4 (by decide) (hts (.fieldLink RX1 26 "ExactNumbers" "written" "[B") (by decide +kernel)) (fun _ h9 => h9) rfl dX1_put_18 ?_
  refine lv_aload_n hx hb dX1_put_21 rfl (lv_at hl 0 rfl) ?_
  refine va_get (D := G.1) (ci := 0) (v := .int (nI (wf - 1))) (C := RX1) (T := TX1) (N := 9) hx hb hts hwsX1_put hown hK hS.w.ob 0 rfl rfl 5 (by decide) (hts (.fieldLink RX1 29 "ExactNumbers" "writtenFrom" "I") (by decide +kernel)) (fun _ h9 => h9) rfl dX1_put_22 ?_
  refine lv_iload_n hx hb dX1_put_25 rfl (lv_at hl 1 rfl) ?_
  refine m_i2b hx hb (hc0) dX1_put_26 ?_
  refine m_bast (n := 513) (f := wr) (b0 := b0) hx hb hK (hS.w.get 3 (by decide)) (by omega) (by decide) (hc0) (hS.w.b 3 (by decide)) hLc dX1_put_27 (fun locs hLc => ?_)
  have hS := hS.p_wr (fup wr (wf - 1) cc)
  generalize hput Hc (ad 3) (aB G 513 (fup wr (wf - 1) cc)) = Hc at hS ⊢
  exact m_vret hx hb hr hlocks hLc dX1_put_28 (hS)

set_option maxRecDepth 100000 in
set_option maxHeartbeats 4000000 in
theorem putGroup_6 {p : Program} {l : Launch} {e : Env} {s : State} {m : MethodId} {args : Array Value} {below : List Frame} {meth : Method} {c : Code} {G : gG} {b0 : Nat} {H : Heap} {o : Nat} {ad : Nat → Nat} {sz : Nat → Nat → Nat} {bl : Nat → Nat} {dv : Nat → Nat} {dc : Nat} {wr : Nat → Nat} {wf : Nat} {f1 : Nat → Nat} {f2 : Nat → Nat} {fw : Nat → Nat} {g b lst mx : Nat} (hF : FxM p s m args meth c G cX1_putGroup 9 none RX1 wsX1_putGroup) (hb2 : 2 ≤ b) (hb36 : b ≤ 36) (hg : g < 9223372036854775808) (hgm : g < b ^ mx) (hlm : lst ≤ mx) (hmw : mx ≤ wf) (hm32 : mx ≤ 32) (hw1 : wf ≤ 513) : ∀ (q : Nat) (i : Nat) (w2 : Nat → Nat) (Hc : Heap), i + q = mx → (i ≤ lst ∨ b ^ (i - 1) ≤ g) → (∀ j, wf ≤ j → w2 j = wr j) → (∀ z, z < i → w2 (wf - 1 - z) = chd (g / b ^ z % b)) → SX G b0 o ad H sz bl dv dc w2 (wf - i) f1 f2 fw Hc → ∀ (locs : List Loc) (ls : Array Slot), lcs b0 locs → lv_has ls 9 [(0, .ref o), (1, .long (lN g)), (3, .int (nI b)), (4, .int (nI lst)), (5, .long (lN (g / b ^ i))), (7, .int (nI i))] → W p l e ({ frames := 1, cells := 0, slots := 0, locals := 21 } : Room) s m args below meth c Hc locs 0 0 (MQ below (QcV (fun H1 => ∃ (n : Nat) (wr2 : Nat → Nat), lst ≤ n ∧ n ≤ mx ∧ g < b ^ n ∧ (n = lst ∨ b ^ (n - 1) ≤ g) ∧ (∀ j, wf ≤ j → wr2 j = wr j) ∧ (∀ i, i < n → wr2 (wf - 1 - i) = chd (g / b ^ i % b)) ∧ SX G b0 o ad H sz bl dv dc wr2 (wf - n) f1 f2 fw H1)) args s 0 0 (fre b0)) (F0 m 6 ls []) := by
  obtain ⟨hx, hb, hr, hml, hown, hts, hlocks, hK⟩ := id hF
  intro q
  induction q with
  | zero =>
    intro i w2 Hc hi hmin hk1 hk2 hS locs ls hLc hl
    have hgd : g / b ^ i ≤ g := Nat.div_le_self _ _
    have hdl := Nat.mod_lt (g / b ^ i) (show 0 < b by omega)
    have hz0 : g / b ^ i = 0 := Nat.div_eq_of_lt (by rw [show i = mx by omega]; exact hgm)
    refine lv_iload hx hb dX1_putGroup_6 (lv_at hl 5 rfl) ?_
    refine lv_bipush (v := nI 32) hx hb dX1_putGroup_8 (by decide) ?_
    refine m_icmp_ge (tgt := 75) hx hb (by omega) (by decide) dX1_putGroup_10 (by decide) (fun c10 => ?_) (fun c10 => ?_)
    · skip
      exact m_vret hx hb hr hlocks hLc dX1_putGroup_75 (⟨i, w2, by omega, by omega, by rw [show i = mx by omega]; exact hgm, by omega, hk1, hk2, hS⟩)
    · skip
      refine lv_lload hx hb dX1_putGroup_13 (lv_at hl 4 rfl) ?_
      refine lv_lconst (v := lN 0) hx hb dX1_putGroup_15 (by decide) ?_
      refine m_lc_gt (tgt := 27) hx hb (by omega) (by omega) dX1_putGroup_16 dX1_putGroup_17 (by decide) (fun h => absurd h (by omega)) (fun _ => ?_)
      refine lv_iload hx hb dX1_putGroup_20 (lv_at hl 5 rfl) ?_
      refine lv_iload hx hb dX1_putGroup_22 (lv_at hl 3 rfl) ?_
      refine m_icmp_ge (tgt := 75) hx hb (by omega) (by omega) dX1_putGroup_24 (by decide) (fun _ => ?_) (fun h => absurd h (by omega))
      exact m_vret hx hb hr hlocks hLc dX1_putGroup_75 (⟨i, w2, by omega, by omega, by rw [show i = mx by omega]; exact hgm, by omega, hk1, hk2, hS⟩)
  | succ q ih =>
    intro i w2 Hc hi hmin hk1 hk2 hS locs ls hLc hl
    have hgd : g / b ^ i ≤ g := Nat.div_le_self _ _
    have hdl := Nat.mod_lt (g / b ^ i) (show 0 < b by omega)
    refine lv_iload hx hb dX1_putGroup_6 (lv_at hl 5 rfl) ?_
    refine lv_bipush (v := nI 32) hx hb dX1_putGroup_8 (by decide) ?_
    refine m_icmp_ge (tgt := 75) hx hb (by omega) (by omega) dX1_putGroup_10 (by decide) (fun h => absurd h (by omega)) (fun _ => ?_)
    refine lv_lload hx hb dX1_putGroup_13 (lv_at hl 4 rfl) ?_
    refine lv_lconst (v := lN 0) hx hb dX1_putGroup_15 (by decide) ?_
    refine m_lc_gt (tgt := 27) hx hb (by omega) (by decide) dX1_putGroup_16 dX1_putGroup_17 (by decide) (fun c16 => ?_) (fun c16 => ?_)
    · skip
      refine lv_lload hx hb dX1_putGroup_27 (lv_at hl 4 rfl) ?_
      refine lv_iload_n hx hb dX1_putGroup_29 rfl (lv_at hl 2 rfl) ?_
      refine m_i2l hx hb (by omega) dX1_putGroup_30 ?_
      refine m_lrem hx hb (by omega) (by omega) (by omega) dX1_putGroup_31 ?_
      refine m_l2i hx hb dX1_putGroup_32 ?_
      refine lv_istore (lv' := [(8, .int (nI ((g / b ^ i) % b))), (0, .ref o), (1, .long (lN g)), (3, .int (nI b)), (4, .int (nI lst)), (5, .long (lN (g / b ^ i))), (7, .int (nI i))]) hx hb dX1_putGroup_33 hl (by decide) rfl (fun ls hl => ?_)
      refine lv_aload_n hx hb dX1_putGroup_35 rfl (lv_at hl 1 rfl) ?_
      refine lv_iload hx hb dX1_putGroup_36 (lv_at hl 0 rfl) ?_
      refine lv_bipush (v := nI 10) hx hb dX1_putGroup_38 (by decide) ?_
      refine m_icmp_ge (tgt := 51) hx hb (by omega) (by decide) dX1_putGroup_40 (by decide) (fun c40 => ?_) (fun c40 => ?_)
      · skip
        refine lv_bipush (v := nI 97) hx hb dX1_putGroup_51 (by decide) ?_
        refine lv_iload hx hb dX1_putGroup_53 (lv_at hl 0 rfl) ?_
        refine m_iadd (a := 97) (b := (g / b ^ i) % b) hx hb dX1_putGroup_55 ?_
        refine lv_bipush (v := nI 10) hx hb dX1_putGroup_56 (by decide) ?_
        refine m_isub (a := 97 + ((g / b ^ i) % b)) (b := 10) hx hb (by omega) dX1_putGroup_58 ?_
        refine mc_v0 (va_runV (As := [.int (nI ((97 + ((g / b ^ i) % b)) - 10))]) (rest := []) ⟨hx, hb, hml, hown, hts⟩ (c_X1_put l G b0 Hc hS.rf (by omega) (by omega) (by omega)) (cwV 1 hts gX1_putGroup_X1_put rfl rfl rfl (by decide +kernel) ⟨Nat.le_of_ble_eq_true rfl, Nat.le_of_ble_eq_true rfl⟩) (mp_V hK hS.w.ob rfl) rfl rfl hl.1 rfl (lv_room (Nat.le_of_ble_eq_true rfl)) dX1_putGroup_59 ⟨Nat.le_of_ble_eq_true rfl, Nat.le_of_ble_eq_true rfl⟩) hLc (fun H1 locs hP hLc => ?_)
        have hP : SX G b0 o ad Hc sz bl dv dc (fup w2 (wf - (i + 1)) (chd (g / b ^ i % b))) (wf - (i + 1)) f1 f2 fw H1 := by rw [show wf - (i + 1) = wf - i - 1 by omega, show chd (g / b ^ i % b) = (97 + ((g / b ^ i) % b)) - 10 from by unfold chd; split <;> omega]; exact hP
        have hS : SX G b0 o ad H sz bl dv dc (fup w2 (wf - (i + 1)) (chd (g / b ^ i % b))) (wf - (i + 1)) f1 f2 fw H1 := WO.trans hS hP
        generalize H1 = Hc at hS ⊢
        refine lv_lload hx hb dX1_putGroup_62 (lv_at hl 5 rfl) ?_
        refine lv_iload_n hx hb dX1_putGroup_64 rfl (lv_at hl 3 rfl) ?_
        refine m_i2l hx hb (by omega) dX1_putGroup_65 ?_
        refine m_ldiv hx hb (by omega) (by omega) (by omega) dX1_putGroup_66 ?_
        rw [div_s]
        refine lv_lstore (lv' := [(5, .long (lN (g / b ^ (i + 1)))), (8, .int (nI ((g / b ^ i) % b))), (0, .ref o), (1, .long (lN g)), (3, .int (nI b)), (4, .int (nI lst)), (7, .int (nI i))]) hx hb dX1_putGroup_67 hl (by decide) rfl (fun ls hl => ?_)
        refine lv_iinc (v := nI (i + 1)) (lv' := [(7, .int (nI (i + 1))), (5, .long (lN (g / b ^ (i + 1)))), (8, .int (nI ((g / b ^ i) % b))), (0, .ref o), (1, .long (lN g)), (3, .int (nI b)), (4, .int (nI lst))]) hx hb dX1_putGroup_69 hl (k := 6) rfl (nI_add i 1) (by decide) rfl (fun ls hl => ?_)
        refine lv_goto (tgt := 6) hx hb dX1_putGroup_72 (by decide) ?_
        exact ih (i + 1) _ _ (by omega) (Or.inr (by rw [Nat.add_sub_cancel]; exact (Nat.div_pos_iff.mp c16).2)) (fun j hj => by rw [fup_n _ _ (by omega)]; exact hk1 j hj) (fun z hz => if e : z = i then (by rw [e, show wf - 1 - i = wf - (i + 1) by omega, fup_s]) else (by rw [fup_n _ _ (by omega)]; exact hk2 z (by omega))) hS _ _ hLc (lv_sub hl [3, 4, 5, 6, 1, 0] rfl)
      · skip
        refine lv_bipush (v := nI 48) hx hb dX1_putGroup_43 (by decide) ?_
        refine lv_iload hx hb dX1_putGroup_45 (lv_at hl 0 rfl) ?_
        refine m_iadd (a := 48) (b := (g / b ^ i) % b) hx hb dX1_putGroup_47 ?_
        refine lv_goto (tgt := 59) hx hb dX1_putGroup_48 (by decide) ?_
        refine mc_v0 (va_runV (As := [.int (nI (48 + ((g / b ^ i) % b)))]) (rest := []) ⟨hx, hb, hml, hown, hts⟩ (c_X1_put l G b0 Hc hS.rf (by omega) (by omega) (by omega)) (cwV 1 hts gX1_putGroup_X1_put rfl rfl rfl (by decide +kernel) ⟨Nat.le_of_ble_eq_true rfl, Nat.le_of_ble_eq_true rfl⟩) (mp_V hK hS.w.ob rfl) rfl rfl hl.1 rfl (lv_room (Nat.le_of_ble_eq_true rfl)) dX1_putGroup_59 ⟨Nat.le_of_ble_eq_true rfl, Nat.le_of_ble_eq_true rfl⟩) hLc (fun H1 locs hP hLc => ?_)
        have hP : SX G b0 o ad Hc sz bl dv dc (fup w2 (wf - (i + 1)) (chd (g / b ^ i % b))) (wf - (i + 1)) f1 f2 fw H1 := by rw [show wf - (i + 1) = wf - i - 1 by omega, show chd (g / b ^ i % b) = 48 + ((g / b ^ i) % b) from by unfold chd; split <;> omega]; exact hP
        have hS : SX G b0 o ad H sz bl dv dc (fup w2 (wf - (i + 1)) (chd (g / b ^ i % b))) (wf - (i + 1)) f1 f2 fw H1 := WO.trans hS hP
        generalize H1 = Hc at hS ⊢
        refine lv_lload hx hb dX1_putGroup_62 (lv_at hl 5 rfl) ?_
        refine lv_iload_n hx hb dX1_putGroup_64 rfl (lv_at hl 3 rfl) ?_
        refine m_i2l hx hb (by omega) dX1_putGroup_65 ?_
        refine m_ldiv hx hb (by omega) (by omega) (by omega) dX1_putGroup_66 ?_
        rw [div_s]
        refine lv_lstore (lv' := [(5, .long (lN (g / b ^ (i + 1)))), (8, .int (nI ((g / b ^ i) % b))), (0, .ref o), (1, .long (lN g)), (3, .int (nI b)), (4, .int (nI lst)), (7, .int (nI i))]) hx hb dX1_putGroup_67 hl (by decide) rfl (fun ls hl => ?_)
        refine lv_iinc (v := nI (i + 1)) (lv' := [(7, .int (nI (i + 1))), (5, .long (lN (g / b ^ (i + 1)))), (8, .int (nI ((g / b ^ i) % b))), (0, .ref o), (1, .long (lN g)), (3, .int (nI b)), (4, .int (nI lst))]) hx hb dX1_putGroup_69 hl (k := 6) rfl (nI_add i 1) (by decide) rfl (fun ls hl => ?_)
        refine lv_goto (tgt := 6) hx hb dX1_putGroup_72 (by decide) ?_
        exact ih (i + 1) _ _ (by omega) (Or.inr (by rw [Nat.add_sub_cancel]; exact (Nat.div_pos_iff.mp c16).2)) (fun j hj => by rw [fup_n _ _ (by omega)]; exact hk1 j hj) (fun z hz => if e : z = i then (by rw [e, show wf - 1 - i = wf - (i + 1) by omega, fup_s]) else (by rw [fup_n _ _ (by omega)]; exact hk2 z (by omega))) hS _ _ hLc (lv_sub hl [3, 4, 5, 6, 1, 0] rfl)
    · skip
      refine lv_iload hx hb dX1_putGroup_20 (lv_at hl 5 rfl) ?_
      refine lv_iload hx hb dX1_putGroup_22 (lv_at hl 3 rfl) ?_
      refine m_icmp_ge (tgt := 75) hx hb (by omega) (by omega) dX1_putGroup_24 (by decide) (fun c24 => ?_) (fun c24 => ?_)
      · skip
        exact m_vret hx hb hr hlocks hLc dX1_putGroup_75 (⟨i, w2, by omega, by omega, Nat.lt_of_not_le (fun h => absurd (Nat.div_pos h (Nat.pow_pos (by omega))) (by omega)), by omega, hk1, hk2, hS⟩)
      · skip
        refine lv_lload hx hb dX1_putGroup_27 (lv_at hl 4 rfl) ?_
        refine lv_iload_n hx hb dX1_putGroup_29 rfl (lv_at hl 2 rfl) ?_
        refine m_i2l hx hb (by omega) dX1_putGroup_30 ?_
        refine m_lrem hx hb (by omega) (by omega) (by omega) dX1_putGroup_31 ?_
        refine m_l2i hx hb dX1_putGroup_32 ?_
        refine lv_istore (lv' := [(8, .int (nI ((g / b ^ i) % b))), (0, .ref o), (1, .long (lN g)), (3, .int (nI b)), (4, .int (nI lst)), (5, .long (lN (g / b ^ i))), (7, .int (nI i))]) hx hb dX1_putGroup_33 hl (by decide) rfl (fun ls hl => ?_)
        refine lv_aload_n hx hb dX1_putGroup_35 rfl (lv_at hl 1 rfl) ?_
        refine lv_iload hx hb dX1_putGroup_36 (lv_at hl 0 rfl) ?_
        refine lv_bipush (v := nI 10) hx hb dX1_putGroup_38 (by decide) ?_
        refine m_icmp_ge (tgt := 51) hx hb (by omega) (by decide) dX1_putGroup_40 (by decide) (fun c40 => ?_) (fun c40 => ?_)
        · skip
          refine lv_bipush (v := nI 97) hx hb dX1_putGroup_51 (by decide) ?_
          refine lv_iload hx hb dX1_putGroup_53 (lv_at hl 0 rfl) ?_
          refine m_iadd (a := 97) (b := (g / b ^ i) % b) hx hb dX1_putGroup_55 ?_
          refine lv_bipush (v := nI 10) hx hb dX1_putGroup_56 (by decide) ?_
          refine m_isub (a := 97 + ((g / b ^ i) % b)) (b := 10) hx hb (by omega) dX1_putGroup_58 ?_
          refine mc_v0 (va_runV (As := [.int (nI ((97 + ((g / b ^ i) % b)) - 10))]) (rest := []) ⟨hx, hb, hml, hown, hts⟩ (c_X1_put l G b0 Hc hS.rf (by omega) (by omega) (by omega)) (cwV 1 hts gX1_putGroup_X1_put rfl rfl rfl (by decide +kernel) ⟨Nat.le_of_ble_eq_true rfl, Nat.le_of_ble_eq_true rfl⟩) (mp_V hK hS.w.ob rfl) rfl rfl hl.1 rfl (lv_room (Nat.le_of_ble_eq_true rfl)) dX1_putGroup_59 ⟨Nat.le_of_ble_eq_true rfl, Nat.le_of_ble_eq_true rfl⟩) hLc (fun H1 locs hP hLc => ?_)
          have hP : SX G b0 o ad Hc sz bl dv dc (fup w2 (wf - (i + 1)) (chd (g / b ^ i % b))) (wf - (i + 1)) f1 f2 fw H1 := by rw [show wf - (i + 1) = wf - i - 1 by omega, show chd (g / b ^ i % b) = (97 + ((g / b ^ i) % b)) - 10 from by unfold chd; split <;> omega]; exact hP
          have hS : SX G b0 o ad H sz bl dv dc (fup w2 (wf - (i + 1)) (chd (g / b ^ i % b))) (wf - (i + 1)) f1 f2 fw H1 := WO.trans hS hP
          generalize H1 = Hc at hS ⊢
          refine lv_lload hx hb dX1_putGroup_62 (lv_at hl 5 rfl) ?_
          refine lv_iload_n hx hb dX1_putGroup_64 rfl (lv_at hl 3 rfl) ?_
          refine m_i2l hx hb (by omega) dX1_putGroup_65 ?_
          refine m_ldiv hx hb (by omega) (by omega) (by omega) dX1_putGroup_66 ?_
          rw [div_s]
          refine lv_lstore (lv' := [(5, .long (lN (g / b ^ (i + 1)))), (8, .int (nI ((g / b ^ i) % b))), (0, .ref o), (1, .long (lN g)), (3, .int (nI b)), (4, .int (nI lst)), (7, .int (nI i))]) hx hb dX1_putGroup_67 hl (by decide) rfl (fun ls hl => ?_)
          refine lv_iinc (v := nI (i + 1)) (lv' := [(7, .int (nI (i + 1))), (5, .long (lN (g / b ^ (i + 1)))), (8, .int (nI ((g / b ^ i) % b))), (0, .ref o), (1, .long (lN g)), (3, .int (nI b)), (4, .int (nI lst))]) hx hb dX1_putGroup_69 hl (k := 6) rfl (nI_add i 1) (by decide) rfl (fun ls hl => ?_)
          refine lv_goto (tgt := 6) hx hb dX1_putGroup_72 (by decide) ?_
          exact ih (i + 1) _ _ (by omega) (Or.inl (by omega)) (fun j hj => by rw [fup_n _ _ (by omega)]; exact hk1 j hj) (fun z hz => if e : z = i then (by rw [e, show wf - 1 - i = wf - (i + 1) by omega, fup_s]) else (by rw [fup_n _ _ (by omega)]; exact hk2 z (by omega))) hS _ _ hLc (lv_sub hl [3, 4, 5, 6, 1, 0] rfl)
        · skip
          refine lv_bipush (v := nI 48) hx hb dX1_putGroup_43 (by decide) ?_
          refine lv_iload hx hb dX1_putGroup_45 (lv_at hl 0 rfl) ?_
          refine m_iadd (a := 48) (b := (g / b ^ i) % b) hx hb dX1_putGroup_47 ?_
          refine lv_goto (tgt := 59) hx hb dX1_putGroup_48 (by decide) ?_
          refine mc_v0 (va_runV (As := [.int (nI (48 + ((g / b ^ i) % b)))]) (rest := []) ⟨hx, hb, hml, hown, hts⟩ (c_X1_put l G b0 Hc hS.rf (by omega) (by omega) (by omega)) (cwV 1 hts gX1_putGroup_X1_put rfl rfl rfl (by decide +kernel) ⟨Nat.le_of_ble_eq_true rfl, Nat.le_of_ble_eq_true rfl⟩) (mp_V hK hS.w.ob rfl) rfl rfl hl.1 rfl (lv_room (Nat.le_of_ble_eq_true rfl)) dX1_putGroup_59 ⟨Nat.le_of_ble_eq_true rfl, Nat.le_of_ble_eq_true rfl⟩) hLc (fun H1 locs hP hLc => ?_)
          have hP : SX G b0 o ad Hc sz bl dv dc (fup w2 (wf - (i + 1)) (chd (g / b ^ i % b))) (wf - (i + 1)) f1 f2 fw H1 := by rw [show wf - (i + 1) = wf - i - 1 by omega, show chd (g / b ^ i % b) = 48 + ((g / b ^ i) % b) from by unfold chd; split <;> omega]; exact hP
          have hS : SX G b0 o ad H sz bl dv dc (fup w2 (wf - (i + 1)) (chd (g / b ^ i % b))) (wf - (i + 1)) f1 f2 fw H1 := WO.trans hS hP
          generalize H1 = Hc at hS ⊢
          refine lv_lload hx hb dX1_putGroup_62 (lv_at hl 5 rfl) ?_
          refine lv_iload_n hx hb dX1_putGroup_64 rfl (lv_at hl 3 rfl) ?_
          refine m_i2l hx hb (by omega) dX1_putGroup_65 ?_
          refine m_ldiv hx hb (by omega) (by omega) (by omega) dX1_putGroup_66 ?_
          rw [div_s]
          refine lv_lstore (lv' := [(5, .long (lN (g / b ^ (i + 1)))), (8, .int (nI ((g / b ^ i) % b))), (0, .ref o), (1, .long (lN g)), (3, .int (nI b)), (4, .int (nI lst)), (7, .int (nI i))]) hx hb dX1_putGroup_67 hl (by decide) rfl (fun ls hl => ?_)
          refine lv_iinc (v := nI (i + 1)) (lv' := [(7, .int (nI (i + 1))), (5, .long (lN (g / b ^ (i + 1)))), (8, .int (nI ((g / b ^ i) % b))), (0, .ref o), (1, .long (lN g)), (3, .int (nI b)), (4, .int (nI lst))]) hx hb dX1_putGroup_69 hl (k := 6) rfl (nI_add i 1) (by decide) rfl (fun ls hl => ?_)
          refine lv_goto (tgt := 6) hx hb dX1_putGroup_72 (by decide) ?_
          exact ih (i + 1) _ _ (by omega) (Or.inl (by omega)) (fun j hj => by rw [fup_n _ _ (by omega)]; exact hk1 j hj) (fun z hz => if e : z = i then (by rw [e, show wf - 1 - i = wf - (i + 1) by omega, fup_s]) else (by rw [fup_n _ _ (by omega)]; exact hk2 z (by omega))) hS _ _ hLc (lv_sub hl [3, 4, 5, 6, 1, 0] rfl)
set_option maxRecDepth 100000 in
set_option maxHeartbeats 4000000 in
theorem c_X1_putGroup (l : Launch) (G : gG) (b0 : Nat) (H : Heap) {o : Nat} {ad : Nat → Nat} {sz : Nat → Nat → Nat} {bl : Nat → Nat} {dv : Nat → Nat} {dc : Nat} {wr : Nat → Nat} {wf : Nat} {f1 : Nat → Nat} {f2 : Nat → Nat} {fw : Nat → Nat} (hS : SX G b0 o ad H sz bl dv dc wr wf f1 f2 fw H) {g b lst mx : Nat} (hb2 : 2 ≤ b) (hb36 : b ≤ 36) (hg : g < 9223372036854775808) (hgm : g < b ^ mx) (hlm : lst ≤ mx) (hmw : mx ≤ wf) (hm32 : mx ≤ 32) (hw1 : wf ≤ 513) : Met l yX1_putGroup wsX1_putGroup ({ frames := 1, cells := 0, slots := 0, locals := 21 } : Room) (PcH G H [.ref o, .long (lN g), .int (nI b), .int (nI lst)]) (QcV (fun H1 => ∃ (n : Nat) (wr2 : Nat → Nat), lst ≤ n ∧ n ≤ mx ∧ g < b ^ n ∧ (n = lst ∨ b ^ (n - 1) ≤ g) ∧ (∀ j, wf ≤ j → wr2 j = wr j) ∧ (∀ i, i < n → wr2 (wf - 1 - i) = chd (g / b ^ i % b)) ∧ SX G b0 o ad H sz bl dv dc wr2 (wf - n) f1 f2 fw H1)) 0 0 (fre b0) := by
  refine m_enter (cc := cX1_putGroup) (maxL := 9) (ret := none) (own := RX1) (by decide) rfl rfl (Nat.le_of_ble_eq_true rfl) ?_
  intro p e s m below meth c ls hF hnm hH hl
  have hl : lv_has ls 9 [(0, .ref o), (1, .long (lN g)), (3, .int (nI b)), (4, .int (nI lst))] := hl
  have hLc : lcs b0 [] := lcs_nil b0
  obtain ⟨hx, hb, hr, hml, hown, hts, hlocks, hK⟩ := id hF
  refine lv_lload_n hx hb dX1_putGroup_0 rfl (lv_at hl 1 rfl) ?_
  refine lv_lstore (lv' := [(5, .long (lN g)), (0, .ref o), (1, .long (lN g)), (3, .int (nI b)), (4, .int (nI lst))]) hx hb dX1_putGroup_1 hl (by decide) rfl (fun ls hl => ?_)
  refine lv_iconst (v := nI 0) hx hb dX1_putGroup_3 (by decide) ?_
  refine lv_istore (lv' := [(7, .int (nI 0)), (5, .long (lN g)), (0, .ref o), (1, .long (lN g)), (3, .int (nI b)), (4, .int (nI lst))]) hx hb dX1_putGroup_4 hl (by decide) rfl (fun ls hl => ?_)
  have hl : lv_has ls 9 [(7, .int (nI 0)), (5, .long (lN (g / b ^ 0))), (0, .ref o), (1, .long (lN g)), (3, .int (nI b)), (4, .int (nI lst))] := by rw [Nat.pow_zero, Nat.div_one]; exact hl
  exact putGroup_6 hF hb2 hb36 hg hgm hlm hmw hm32 hw1 mx 0 wr _ (by omega) (Or.inl (by omega)) (fun j _ => rfl) (fun z hz => absurd hz (by omega)) hS _ _ hLc (lv_sub hl [2, 3, 4, 5, 1, 0] rfl)

set_option maxRecDepth 100000 in
set_option maxHeartbeats 4000000 in
theorem c_X1_byteOf (l : Launch) (G : gG) (b0 : Nat) (H : Heap) {o : Nat} {ad : Nat → Nat} {sz : Nat → Nat → Nat} {bl : Nat → Nat} {dv : Nat → Nat} {dc : Nat} {wr : Nat → Nat} {wf : Nat} {f1 : Nat → Nat} {f2 : Nat → Nat} {fw : Nat → Nat} (hS : SX G b0 o ad H sz bl dv dc wr wf f1 f2 fw H) (hw1 : wf ≤ 513) (x : Int32) : Met l yX1_byteOf wsX1_byteOf ({ frames := 0, cells := 0, slots := 0, locals := 0 } : Room) (PcH G H [.ref o, .int x]) (QcI (fun r H1 => ((∃ j, j < 513 - wf ∧ x = nI j ∧ r = nI (wr (wf + j))) ∨ ((∀ j, j < 513 - wf → x ≠ nI j) ∧ r = -1)) ∧ H = H1)) 0 0 (fre b0) := by
  refine m_enter (cc := cX1_byteOf) (maxL := 2) (ret := (some .int)) (own := RX1) (by decide) rfl rfl (Nat.le_of_ble_eq_true rfl) ?_
  intro p e s m below meth c ls hF hnm hH hl
  have hl : lv_has ls 2 [(0, .ref o), (1, .int x)] := hl
  have hLc : lcs b0 [] := lcs_nil b0
  obtain ⟨hx, hb, hr, hml, hown, hts, hlocks, hK⟩ := id hF
  refine lv_iload_n hx hb dX1_byteOf_0 rfl (lv_at hl 1 rfl) ?_
  refine lv_if_lt (tgt := 32) hx hb dX1_byteOf_1 (by decide) (fun c1 => ?_) (fun c1 => ?_)
  · skip
    have hn : ∀ j, j < 513 - wf → x ≠ nI j := fun j hj e => nI_pos (by omega) (e ▸ c1)
    refine lv_iconst (v := -1) hx hb dX1_byteOf_32 (by decide) ?_
    exact m_iret hx hb hr hlocks hLc dX1_byteOf_33 (⟨Or.inr ⟨hn, rfl⟩, rfl⟩)
  · skip
    obtain ⟨j, hj31, rfl⟩ := nI_of c1
    refine lv_iload_n hx hb dX1_byteOf_4 rfl (lv_at hl 1 rfl) ?_
    refine lv_aload_n hx hb dX1_byteOf_5 rfl (lv_at hl 0 rfl) ?_
    refine va_get (D := G.1) (ci := 0) (v := .ref (ad 3)) (C := RX1) (T := TX1) (N := 9) hx hb hts hwsX1_byteOf hown hK hS.w.ob 0 rfl rfl 4 (by decide) (hts (.fieldLink RX1 26 "ExactNumbers" "written" "[B") (by decide +kernel)) (fun _ h9 => h9) rfl dX1_byteOf_6 ?_
    refine m_alenB (n := 513) (f := wr) hx hb hK (hS.w.get 3 (by decide)) dX1_byteOf_9 ?_
    refine lv_aload_n hx hb dX1_byteOf_10 rfl (lv_at hl 0 rfl) ?_
    refine va_get (D := G.1) (ci := 0) (v := .int (nI wf)) (C := RX1) (T := TX1) (N := 9) hx hb hts hwsX1_byteOf hown hK hS.w.ob 0 rfl rfl 5 (by decide) (hts (.fieldLink RX1 29 "ExactNumbers" "writtenFrom" "I") (by decide +kernel)) (fun _ h9 => h9) rfl dX1_byteOf_11 ?_
    refine m_isub (a := 513) (b := wf) hx hb (by omega) dX1_byteOf_14 ?_
    refine m_icmp_ge (tgt := 32) hx hb (by omega) (by omega) dX1_byteOf_15 (by decide) (fun c15 => ?_) (fun c15 => ?_)
    · skip
      have hn : ∀ j2, j2 < 513 - wf → nI j ≠ nI j2 := fun j2 hj2 e => by have := (nI_eq hj31 (by omega)).mp e; omega
      refine lv_iconst (v := -1) hx hb dX1_byteOf_32 (by decide) ?_
      exact m_iret hx hb hr hlocks hLc dX1_byteOf_33 (⟨Or.inr ⟨hn, rfl⟩, rfl⟩)
    · skip
      refine lv_aload_n hx hb dX1_byteOf_18 rfl (lv_at hl 0 rfl) ?_
      refine va_get (D := G.1) (ci := 0) (v := .ref (ad 3)) (C := RX1) (T := TX1) (N := 9) hx hb hts hwsX1_byteOf hown hK hS.w.ob 0 rfl rfl 4 (by decide) (hts (.fieldLink RX1 26 "ExactNumbers" "written" "[B") (by decide +kernel)) (fun _ h9 => h9) rfl dX1_byteOf_19 ?_
      refine lv_aload_n hx hb dX1_byteOf_22 rfl (lv_at hl 0 rfl) ?_
      refine va_get (D := G.1) (ci := 0) (v := .int (nI wf)) (C := RX1) (T := TX1) (N := 9) hx hb hts hwsX1_byteOf hown hK hS.w.ob 0 rfl rfl 5 (by decide) (hts (.fieldLink RX1 29 "ExactNumbers" "writtenFrom" "I") (by decide +kernel)) (fun _ h9 => h9) rfl dX1_byteOf_23 ?_
      refine lv_iload_n hx hb dX1_byteOf_26 rfl (lv_at hl 1 rfl) ?_
      refine m_iadd (a := wf) (b := j) hx hb dX1_byteOf_27 ?_
      refine m_bald (n := 513) (f := wr) hx hb hK (hS.w.get 3 (by decide)) (by omega) (by decide) dX1_byteOf_28 ?_
      refine lv_goto (tgt := 33) hx hb dX1_byteOf_29 (by decide) ?_
      exact m_iret hx hb hr hlocks hLc dX1_byteOf_33 (⟨Or.inl ⟨j, c15, rfl, rfl⟩, rfl⟩)
