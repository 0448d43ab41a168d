set_option maxRecDepth 100000 in
set_option maxHeartbeats 4000000 in
theorem c_X1_isSlot (l : Launch) (G : gG) (b0 : Nat) (H : Heap)  (x : Int32) : Met l yX1_isSlot wsX1_isSlot ({ frames := 0, cells := 0, slots := 0, locals := 0 } : Room) (PcH G H [.int x]) (QcI (fun r H1 => rng 0 63 x r ∧ H = H1)) 0 0 (fre b0) := by
  refine m_enter (cc := cX1_isSlot) (maxL := 1) (ret := (some .boolean)) (own := RX1) (by decide) rfl rfl (Nat.le_of_ble_eq_true rfl) ?_
  intro p e s m below meth c ls hF hnm hH hl
  have hl : lv_has ls 1 [(0, .int x)] := hl
  have hLc : lcs b0 [] := lcs_nil b0
  obtain ⟨hx, hb, hr, hml, hown, hts, hlocks, hK⟩ := id hF
  by_cases hz : x < 0
  · skip
    refine lv_iload_n hx hb dX1_isSlot_0 rfl (lv_at hl 0 rfl) ?_
    refine lv_if_lt (tgt := 14) hx hb dX1_isSlot_1 (by decide) (fun _ => ?_) (fun h => absurd (hz) h)
    refine lv_iconst (v := nI 0) hx hb dX1_isSlot_14 (by decide) ?_
    exact m_zret hx hb hr hlocks hLc (by decide) dX1_isSlot_15 (⟨rng_neg hz, rfl⟩)
  · obtain ⟨i, hi, rfl⟩ := nI_of hz
    refine lv_iload_n hx hb dX1_isSlot_0 rfl (lv_at hl 0 rfl) ?_
    refine lv_if_lt (tgt := 14) hx hb dX1_isSlot_1 (by decide) (fun h => absurd h (hz)) (fun _ => ?_)
    refine lv_iload_n hx hb dX1_isSlot_4 rfl (lv_at hl 0 rfl) ?_
    refine lv_bipush (v := nI 64) hx hb dX1_isSlot_5 (by decide) ?_
    refine m_icmp_ge (tgt := 14) hx hb (by omega) (by omega) dX1_isSlot_7 (by decide) (fun c7 => ?_) (fun c7 => ?_)
    · skip
      refine lv_iconst (v := nI 0) hx hb dX1_isSlot_14 (by decide) ?_
      exact m_zret hx hb hr hlocks hLc (by decide) dX1_isSlot_15 (⟨rng_out hi (by omega), rfl⟩)
    · skip
      refine lv_iconst (v := nI 1) hx hb dX1_isSlot_10 (by decide) ?_
      refine lv_goto (tgt := 15) hx hb dX1_isSlot_11 (by decide) ?_
      exact m_zret hx hb hr hlocks hLc (by decide) dX1_isSlot_15 (⟨rng_in (by omega) (by omega), rfl⟩)

set_option maxRecDepth 100000 in
set_option maxHeartbeats 4000000 in
theorem c_X1_isBase (l : Launch) (G : gG) (b0 : Nat) (H : Heap)  (x : Int32) : Met l yX1_isBase wsX1_isBase ({ frames := 0, cells := 0, slots := 0, locals := 0 } : Room) (PcH G H [.int x]) (QcI (fun r H1 => rng 2 36 x r ∧ H = H1)) 0 0 (fre b0) := by
  refine m_enter (cc := cX1_isBase) (maxL := 1) (ret := (some .boolean)) (own := RX1) (by decide) rfl rfl (Nat.le_of_ble_eq_true rfl) ?_
  intro p e s m below meth c ls hF hnm hH hl
  have hl : lv_has ls 1 [(0, .int x)] := hl
  have hLc : lcs b0 [] := lcs_nil b0
  obtain ⟨hx, hb, hr, hml, hown, hts, hlocks, hK⟩ := id hF
  by_cases hz : x < 0
  · skip
    refine lv_iload_n hx hb dX1_isBase_0 rfl (lv_at hl 0 rfl) ?_
    refine lv_iconst (v := nI 2) hx hb dX1_isBase_1 (by decide) ?_
    refine lv_icmp_lt (tgt := 15) hx hb dX1_isBase_2 (by decide) (fun _ => ?_) (fun h => absurd (neg_lt hz 2 (by decide)) h)
    refine lv_iconst (v := nI 0) hx hb dX1_isBase_15 (by decide) ?_
    exact m_zret hx hb hr hlocks hLc (by decide) dX1_isBase_16 (⟨rng_neg hz, rfl⟩)
  · obtain ⟨i, hi, rfl⟩ := nI_of hz
    refine lv_iload_n hx hb dX1_isBase_0 rfl (lv_at hl 0 rfl) ?_
    refine lv_iconst (v := nI 2) hx hb dX1_isBase_1 (by decide) ?_
    refine m_icmp_lt (tgt := 15) hx hb (by omega) (by omega) dX1_isBase_2 (by decide) (fun c2 => ?_) (fun c2 => ?_)
    · skip
      refine lv_iconst (v := nI 0) hx hb dX1_isBase_15 (by decide) ?_
      exact m_zret hx hb hr hlocks hLc (by decide) dX1_isBase_16 (⟨rng_out hi (by omega), rfl⟩)
    · skip
      refine lv_iload_n hx hb dX1_isBase_5 rfl (lv_at hl 0 rfl) ?_
      refine lv_bipush (v := nI 36) hx hb dX1_isBase_6 (by decide) ?_
      refine m_icmp_gt (tgt := 15) hx hb (by omega) (by omega) dX1_isBase_8 (by decide) (fun c8 => ?_) (fun c8 => ?_)
      · skip
        refine lv_iconst (v := nI 0) hx hb dX1_isBase_15 (by decide) ?_
        exact m_zret hx hb hr hlocks hLc (by decide) dX1_isBase_16 (⟨rng_out hi (by omega), rfl⟩)
      · skip
        refine lv_iconst (v := nI 1) hx hb dX1_isBase_11 (by decide) ?_
        refine lv_goto (tgt := 16) hx hb dX1_isBase_12 (by decide) ?_
        exact m_zret hx hb hr hlocks hLc (by decide) dX1_isBase_16 (⟨rng_in (by omega) (by omega), rfl⟩)

set_option maxRecDepth 100000 in
set_option maxHeartbeats 4000000 in
theorem c_X1_isWordLength (l : Launch) (G : gG) (b0 : Nat) (H : Heap)  (x : Int32) : Met l yX1_isWordLength wsX1_isWordLength ({ frames := 0, cells := 0, slots := 0, locals := 0 } : Room) (PcH G H [.int x]) (QcI (fun r H1 => rng 1 64 x r ∧ H = H1)) 0 0 (fre b0) := by
  refine m_enter (cc := cX1_isWordLength) (maxL := 1) (ret := (some .boolean)) (own := RX1) (by decide) rfl rfl (Nat.le_of_ble_eq_true rfl) ?_
  intro p e s m below meth c ls hF hnm hH hl
  have hl : lv_has ls 1 [(0, .int x)] := hl
  have hLc : lcs b0 [] := lcs_nil b0
  obtain ⟨hx, hb, hr, hml, hown, hts, hlocks, hK⟩ := id hF
  by_cases hz : x < 0
  · skip
    refine lv_iload_n hx hb dX1_isWordLength_0 rfl (lv_at hl 0 rfl) ?_
    refine lv_iconst (v := nI 1) hx hb dX1_isWordLength_1 (by decide) ?_
    refine lv_icmp_lt (tgt := 15) hx hb dX1_isWordLength_2 (by decide) (fun _ => ?_) (fun h => absurd (neg_lt hz 1 (by decide)) h)
    refine lv_iconst (v := nI 0) hx hb dX1_isWordLength_15 (by decide) ?_
    exact m_zret hx hb hr hlocks hLc (by decide) dX1_isWordLength_16 (⟨rng_neg hz, rfl⟩)
  · obtain ⟨i, hi, rfl⟩ := nI_of hz
    refine lv_iload_n hx hb dX1_isWordLength_0 rfl (lv_at hl 0 rfl) ?_
    refine lv_iconst (v := nI 1) hx hb dX1_isWordLength_1 (by decide) ?_
    refine m_icmp_lt (tgt := 15) hx hb (by omega) (by omega) dX1_isWordLength_2 (by decide) (fun c2 => ?_) (fun c2 => ?_)
    · skip
      refine lv_iconst (v := nI 0) hx hb dX1_isWordLength_15 (by decide) ?_
      exact m_zret hx hb hr hlocks hLc (by decide) dX1_isWordLength_16 (⟨rng_out hi (by omega), rfl⟩)
    · skip
      refine lv_iload_n hx hb dX1_isWordLength_5 rfl (lv_at hl 0 rfl) ?_
      refine lv_bipush (v := nI 64) hx hb dX1_isWordLength_6 (by decide) ?_
      refine m_icmp_gt (tgt := 15) hx hb (by omega) (by omega) dX1_isWordLength_8 (by decide) (fun c8 => ?_) (fun c8 => ?_)
      · skip
        refine lv_iconst (v := nI 0) hx hb dX1_isWordLength_15 (by decide) ?_
        exact m_zret hx hb hr hlocks hLc (by decide) dX1_isWordLength_16 (⟨rng_out hi (by omega), rfl⟩)
      · skip
        refine lv_iconst (v := nI 1) hx hb dX1_isWordLength_11 (by decide) ?_
        refine lv_goto (tgt := 16) hx hb dX1_isWordLength_12 (by decide) ?_
        exact m_zret hx hb hr hlocks hLc (by decide) dX1_isWordLength_16 (⟨rng_in (by omega) (by omega), rfl⟩)

set_option maxRecDepth 100000 in
set_option maxHeartbeats 4000000 in
theorem c_X1_store (l : Launch) (G : gG) (b0 : Nat) (H : Heap) {o : Nat} {ad : Nat → Nat} {sz : Nat → Nat → Nat} {bl : Nat → Nat} {dv : Nat → Nat} {dc : Nat} {wr : Nat → Nat} {wf : Nat} {f1 : Nat → Nat} {f2 : Nat → Nat} {fw : Nat → Nat} (hS : SX G b0 o ad H sz bl dv dc wr wf f1 f2 fw H) (hI : IV sz bl) (k : Nat) (hk : k < 64) {a n b : Nat} {f : Nat → Nat} (ha : H[a]? = some (aJ G n f)) (hn : 16 ≤ n) (hn2 : n ≤ 32) (hf : lim f n) (hb1 : b ≤ 1) : Met l yX1_store wsX1_store ({ frames := 1, cells := 0, slots := 0, locals := 40 } : Room) (PcH G H [.ref o, .int (nI k), .ref a, .int (nI b)]) (QcI (fun r H1 => KX G b0 o ad H (valX sz bl) dv dc wr wf k (sg b (vl f n)) r H1)) 0 0 (fre b0) := by
  refine m_enter (cc := cX1_store) (maxL := 5) (ret := (some .int)) (own := RX1) (by decide) rfl rfl (Nat.le_of_ble_eq_true rfl) ?_
  intro p e s m below meth c ls hF hnm hH hl
  have hl : lv_has ls 5 [(0, .ref o), (1, .int (nI k)), (2, .ref a), (3, .int (nI b))] := hl
  have hLc : lcs b0 [] := lcs_nil b0
  obtain ⟨hx, hb, hr, hml, hown, hts, hlocks, hK⟩ := id hF
  have hul := us_le f n
  refine lv_aload_n hx hb dX1_store_0 rfl (lv_at hl 2 rfl) ?_
  refine mc_i0 (va_runS (As := [.ref a]) (rest := []) ⟨hx, hb, hml, hown, hts⟩ (c_X0_used l G b0 H ha (by omega) hf) (va_cwS 1 hts gX1_store_X0_used rfl rfl rfl (by decide +kernel) ⟨Nat.le_of_ble_eq_true rfl, Nat.le_of_ble_eq_true rfl⟩) (mp_S hK) rfl rfl hl.1 rfl (lv_room (Nat.le_of_ble_eq_true rfl)) dX1_store_1 ⟨Nat.le_of_ble_eq_true rfl, Nat.le_of_ble_eq_true rfl⟩) hLc (fun r H1 locs hP hLc => ?_)
  obtain ⟨rfl, rfl⟩ := hP
  refine lv_istore (lv' := [(4, .int (nI (us f n))), (0, .ref o), (1, .int (nI k)), (2, .ref a), (3, .int (nI b))]) hx hb dX1_store_4 hl (by decide) rfl (fun ls hl => ?_)
  refine lv_iload hx hb dX1_store_6 (lv_at hl 0 rfl) ?_
  refine lv_bipush (v := nI 16) hx hb dX1_store_8 (by decide) ?_
  refine m_icmp_le (tgt := 15) hx hb (by omega) (by omega) dX1_store_10 (by decide) (fun c10 => ?_) (fun c10 => ?_)
  · skip
    refine lv_aload_n hx hb dX1_store_15 rfl (lv_at hl 3 rfl) ?_
    refine lv_iconst (v := nI 0) hx hb dX1_store_16 (by decide) ?_
    refine lv_aload_n hx hb dX1_store_17 rfl (lv_at hl 1 rfl) ?_
    refine va_get (D := G.1) (ci := 0) (v := .ref (ad 0)) (C := RX1) (T := TX1) (N := 9) hx hb hts hwsX1_store hown hK hS.w.ob 0 rfl rfl 0 (by decide) (hts (.fieldLink RX1 11 "ExactNumbers" "sizes" "[[J") (by decide +kernel)) (fun _ h9 => h9) rfl dX1_store_18 ?_
    refine lv_iload_n hx hb dX1_store_21 rfl (lv_at hl 2 rfl) ?_
    refine m_aald (n := 64) (f := (fun i => ad (i + 7))) hx hb hK (hS.w.get 0 (by decide)) (by omega) (by decide) dX1_store_22 ?_
    refine lv_iconst (v := nI 0) hx hb dX1_store_23 (by decide) ?_
    refine lv_bipush (v := nI 16) hx hb dX1_store_24 (by decide) ?_
    refine m_copyJ (n := 16) (b0 := b0) hx hb (hml.trans hl.1.symm) hown (hts (.methodLink RX1 146 arraycopyName) (by decide +kernel)) (hts (.native arraycopyName) (by decide +kernel)) (hts (.static arraycopyName) (by decide +kernel)) (hts (.initialized "java/lang/System") (by decide +kernel)) hK ha (hS.w.get (k + 7) (by omega)) hn (Nat.le_refl 16) (by decide) (hS.w.b (k + 7) (by omega)) hLc (Nat.le_of_ble_eq_true rfl) (Nat.le_of_ble_eq_true rfl) dX1_store_26 (fun locs hLc => ?_)
    have hS := hS.p_sz (hk) (fun j => if j < 16 then f j else sz k j)
    generalize hput H (ad (k + 7)) (aJ G 16 (fun j => if j < 16 then f j else sz k j)) = Hc at hS ⊢
    refine lv_aload_n hx hb dX1_store_29 rfl (lv_at hl 1 rfl) ?_
    refine va_get (D := G.1) (ci := 0) (v := .ref (ad 1)) (C := RX1) (T := TX1) (N := 9) hx hb hts hwsX1_store hown hK hS.w.ob 0 rfl rfl 1 (by decide) (hts (.fieldLink RX1 14 "ExactNumbers" "below" "[Z") (by decide +kernel)) (fun _ h9 => h9) rfl dX1_store_30 ?_
    refine lv_iload_n hx hb dX1_store_33 rfl (lv_at hl 2 rfl) ?_
    refine lv_iload_n hx hb dX1_store_34 rfl (lv_at hl 4 rfl) ?_
    refine m_if_eq (tgt := 47) hx hb (by omega) dX1_store_35 (by decide) (fun c35 => ?_) (fun c35 => ?_)
    · skip
      refine lv_iconst (v := nI 0) hx hb dX1_store_47 (by decide) ?_
      refine m_zast (n := 64) (f := bl) (b0 := b0) hx hb hK (hS.w.get 1 (by decide)) (hk) (by decide) (by decide) (hS.w.b 1 (by decide)) hLc dX1_store_48 (fun locs hLc => ?_)
      have hS := hS.p_bl (fup bl k 0)
      generalize hput Hc (ad 1) (aZ G 64 (fup bl k 0)) = Hc at hS ⊢
      refine lv_iconst (v := nI 0) hx hb dX1_store_49 (by decide) ?_
      exact m_iret hx hb hr hlocks hLc dX1_store_50 (Or.inl ⟨by rw [sg_abs, ← B16]; exact (us_le_iff hf 16).mp c10, rfl, _, _, _, _, _, hS, kept_X hI hk hn hf c10 hb1 (fun j hj => if_pos hj) (Or.inr ⟨by omega, rfl⟩)⟩)
    · skip
      refine lv_iload hx hb dX1_store_38 (lv_at hl 0 rfl) ?_
      refine lv_if_le (tgt := 47) hx hb dX1_store_40 (by decide) (fun c40 => ?_) (fun c40 => ?_)
      · skip
        have c40 : us f n = 0 := if0 (by omega) c40
        refine lv_iconst (v := nI 0) hx hb dX1_store_47 (by decide) ?_
        refine m_zast (n := 64) (f := bl) (b0 := b0) hx hb hK (hS.w.get 1 (by decide)) (hk) (by decide) (by decide) (hS.w.b 1 (by decide)) hLc dX1_store_48 (fun locs hLc => ?_)
        have hS := hS.p_bl (fup bl k 0)
        generalize hput Hc (ad 1) (aZ G 64 (fup bl k 0)) = Hc at hS ⊢
        refine lv_iconst (v := nI 0) hx hb dX1_store_49 (by decide) ?_
        exact m_iret hx hb hr hlocks hLc dX1_store_50 (Or.inl ⟨by rw [sg_abs, ← B16]; exact (us_le_iff hf 16).mp c10, rfl, _, _, _, _, _, hS, kept_X hI hk hn hf c10 hb1 (fun j hj => if_pos hj) (Or.inr ⟨by omega, rfl⟩)⟩)
      · skip
        have c40 : us f n ≠ 0 := ifn0 c40
        refine lv_iconst (v := nI 1) hx hb dX1_store_43 (by decide) ?_
        refine lv_goto (tgt := 48) hx hb dX1_store_44 (by decide) ?_
        refine m_zast (n := 64) (f := bl) (b0 := b0) hx hb hK (hS.w.get 1 (by decide)) (hk) (by decide) (by decide) (hS.w.b 1 (by decide)) hLc dX1_store_48 (fun locs hLc => ?_)
        have hS := hS.p_bl (fup bl k 1)
        generalize hput Hc (ad 1) (aZ G 64 (fup bl k 1)) = Hc at hS ⊢
        refine lv_iconst (v := nI 0) hx hb dX1_store_49 (by decide) ?_
        exact m_iret hx hb hr hlocks hLc dX1_store_50 (Or.inl ⟨by rw [sg_abs, ← B16]; exact (us_le_iff hf 16).mp c10, rfl, _, _, _, _, _, hS, kept_X hI hk hn hf c10 hb1 (fun j hj => if_pos hj) (Or.inl ⟨by omega, c40, rfl⟩)⟩)
  · skip
    refine lv_iconst (v := nI 1) hx hb dX1_store_13 (by decide) ?_
    exact m_iret hx hb hr hlocks hLc dX1_store_14 (Or.inr ⟨by rw [sg_abs, ← B16]; exact Nat.not_lt.mp (fun z => Nat.not_le.mpr c10 ((us_le_iff hf 16).mpr z)), rfl, hS.r hI⟩)
