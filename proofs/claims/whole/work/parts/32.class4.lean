set_option maxRecDepth 100000 in
set_option maxHeartbeats 4000000 in
theorem c_X1_joined (l : Launch) (G : gG) (b0 : Nat) (H : Heap) {op a b : Nat} (hop : op = 5 ∨ op = 6 ∨ op = 7 ∨ op = 8) (ha : a < 4294967296) (hb2 : b < 4294967296) : Met l yX1_joined wsX1_joined ({ frames := 0, cells := 0, slots := 0, locals := 0 } : Room) (PcH G H [.int (nI op), .long (lN a), .long (lN b)]) (QcL (fun r H1 => r = lN (bop op a b) ∧ H = H1)) 0 0 (fre b0) := by
  refine m_enter (cc := cX1_joined) (maxL := 5) (ret := (some .long)) (own := RX1) (by decide) rfl rfl (Nat.le_of_ble_eq_true rfl) ?_
  intro p e s m below meth c ls hF hnm hH hl
  have hl : lv_has ls 5 [(0, .int (nI op)), (1, .long (lN a)), (3, .long (lN b))] := hl
  have hLc : lcs b0 [] := lcs_nil b0
  obtain ⟨hx, hb, hr, hml, hown, hts, hlocks, hK⟩ := id hF
  rcases hop with rfl | rfl | rfl | rfl
  · skip
    refine lv_iload_n hx hb dX1_joined_0 rfl (lv_at hl 0 rfl) ?_
    refine lv_tableIn (tgt := 28) (off := 27) hx hb dX1_joined_1 (by decide) (by decide) (by decide) (by decide) ?_
    refine lv_lload_n hx hb dX1_joined_28 rfl (lv_at hl 1 rfl) ?_
    refine lv_lload_n hx hb dX1_joined_29 rfl (lv_at hl 2 rfl) ?_
    refine m_land hx hb (by omega) (by omega) dX1_joined_30 ?_
    exact m_lret hx hb hr hlocks hLc dX1_joined_31 (⟨rfl, rfl⟩)
  · skip
    refine lv_iload_n hx hb dX1_joined_0 rfl (lv_at hl 0 rfl) ?_
    refine lv_tableIn (tgt := 32) (off := 31) hx hb dX1_joined_1 (by decide) (by decide) (by decide) (by decide) ?_
    refine lv_lload_n hx hb dX1_joined_32 rfl (lv_at hl 1 rfl) ?_
    refine lv_lload_n hx hb dX1_joined_33 rfl (lv_at hl 2 rfl) ?_
    refine m_lor hx hb (by omega) (by omega) dX1_joined_34 ?_
    exact m_lret hx hb hr hlocks hLc dX1_joined_35 (⟨rfl, rfl⟩)
  · skip
    refine lv_iload_n hx hb dX1_joined_0 rfl (lv_at hl 0 rfl) ?_
    refine lv_tableIn (tgt := 36) (off := 35) hx hb dX1_joined_1 (by decide) (by decide) (by decide) (by decide) ?_
    refine lv_lload_n hx hb dX1_joined_36 rfl (lv_at hl 1 rfl) ?_
    refine lv_lload_n hx hb dX1_joined_37 rfl (lv_at hl 2 rfl) ?_
    refine m_lxor hx hb (by omega) (by omega) dX1_joined_38 ?_
    exact m_lret hx hb hr hlocks hLc dX1_joined_39 (⟨rfl, rfl⟩)
  · skip
    refine lv_iload_n hx hb dX1_joined_0 rfl (lv_at hl 0 rfl) ?_
    refine lv_tableOut (tgt := 40) hx hb dX1_joined_1 (by decide) (by decide) ?_
    refine lv_lload_n hx hb dX1_joined_40 rfl (lv_at hl 1 rfl) ?_
    refine lv_lload_n hx hb dX1_joined_41 rfl (lv_at hl 2 rfl) ?_
    refine lv_ldc2 (v := -1) hx hb hown (hts (.constantLong RX1 173 (-1)) (by decide +kernel)) dX1_joined_42 ?_
    refine lv_lxor hx hb dX1_joined_45 ?_
    refine lv_land hx hb dX1_joined_46 ?_
    rw [andn_lN (by omega) (by omega)]
    exact m_lret hx hb hr hlocks hLc dX1_joined_47 (⟨rfl, rfl⟩)

set_option maxRecDepth 100000 in
set_option maxHeartbeats 4000000 in
theorem c_X1_signedCopy4 (l : Launch) (G : gG) (b0 : Nat) (H : Heap) {o : Nat} {ad : Nat → Nat} {sz : Nat → Nat → Nat} {bl : Nat → Nat} {dv : Nat → Nat} {dc : Nat} {wr : Nat → Nat} {wf : Nat} {f1 : Nat → Nat} {f2 : Nat → Nat} {fw : Nat → Nat} (hS : SX G b0 o ad H sz bl dv dc wr wf f1 f2 fw H) (hI : IV sz bl) {x : Nat} (hx0 : x < 64) : Met l yX1_signedCopy wsX1_signedCopy ({ frames := 2, cells := 0, slots := 0, locals := 43 } : Room) (PcH G H [.ref o, .int (nI x), .ref (ad 4)]) (QcV (fun H1 => ∃ g : Nat → Nat, lim g 17 ∧ vl g 17 = tcN 544 (valX sz bl x) ∧ SX G b0 o ad H sz bl dv dc wr wf g f2 fw H1)) 0 0 (fre b0) := by
  refine m_enter (cc := cX1_signedCopy) (maxL := 3) (ret := none) (own := RX1) (by decide) rfl rfl (Nat.le_of_ble_eq_true rfl) ?_
  intro p e s m below meth c ls hF hnm hH hl
  have hl : lv_has ls 3 [(0, .ref o), (1, .int (nI x)), (2, .ref (ad 4))] := hl
  have hLc : lcs b0 [] := lcs_nil b0
  obtain ⟨hx, hb, hr, hml, hown, hts, hlocks, hK⟩ := id hF
  have hbx := (hI x (by omega)).2.1
  refine lv_aload_n hx hb dX1_signedCopy_0 rfl (lv_at hl 0 rfl) ?_
  refine va_get (D := G.1) (ci := 0) (v := .ref (ad 0)) (C := RX1) (T := TX1) (N := 9) hx hb hts hwsX1_signedCopy hown hK hS.w.ob 0 rfl rfl 0 (by decide) (hts (.fieldLink RX1 11 "ExactNumbers" "sizes" "[[J") (by decide +kernel)) (fun _ h9 => h9) rfl dX1_signedCopy_1 ?_
  refine lv_iload_n hx hb dX1_signedCopy_4 rfl (lv_at hl 1 rfl) ?_
  refine m_aald (n := 64) (f := (fun i => ad (i + 7))) hx hb hK (hS.w.get 0 (by decide)) (by omega) (by decide) dX1_signedCopy_5 ?_
  refine lv_aload_n hx hb dX1_signedCopy_6 rfl (lv_at hl 2 rfl) ?_
  refine mc_v0 (va_runS (As := [.ref (ad (x + 7)), .ref (ad 4)]) (rest := []) ⟨hx, hb, hml, hown, hts⟩ (c_X0_copy l G b0 H (hS.w.get (x + 7) (by omega)) (hS.w.get 4 (by decide)) (by decide) (by decide) (hS.w.ne (by omega) (by decide) (by omega)) (hS.w.b 4 (by decide))) (va_cwS 2 hts gX1_signedCopy_X0_copy rfl rfl rfl (by decide +kernel) ⟨Nat.le_of_ble_eq_true rfl, Nat.le_of_ble_eq_true rfl⟩) (mp_S hK) rfl rfl hl.1 rfl (lv_room (Nat.le_of_ble_eq_true rfl)) dX1_signedCopy_7 ⟨Nat.le_of_ble_eq_true rfl, Nat.le_of_ble_eq_true rfl⟩) hLc (fun H1 locs hP hLc => ?_)
  obtain ⟨g2, hg2, rfl⟩ := hP
  have hl2 : lim g2 17 := fun j hj => by rw [hg2 j hj]; exact lat_lim (hI x (by omega)).1 j
  have hv2 : vl g2 17 = vl (sz x) 16 := by rw [vl_congr hg2, l16_17]
  have hS := hS.p_f1 g2
  generalize hput H (ad 4) (aJ G 17 g2) = Hc at hS ⊢
  refine lv_aload_n hx hb dX1_signedCopy_10 rfl (lv_at hl 0 rfl) ?_
  refine va_get (D := G.1) (ci := 0) (v := .ref (ad 1)) (C := RX1) (T := TX1) (N := 9) hx hb hts hwsX1_signedCopy hown hK hS.w.ob 0 rfl rfl 1 (by decide) (hts (.fieldLink RX1 14 "ExactNumbers" "below" "[Z") (by decide +kernel)) (fun _ h9 => h9) rfl dX1_signedCopy_11 ?_
  refine lv_iload_n hx hb dX1_signedCopy_14 rfl (lv_at hl 1 rfl) ?_
  refine m_zald (n := 64) (f := bl) hx hb hK (hS.w.get 1 (by decide)) (by omega) (by decide) dX1_signedCopy_15 ?_
  refine m_if_eq (tgt := 23) hx hb (by omega) dX1_signedCopy_16 (by decide) (fun c16 => ?_) (fun c16 => ?_)
  · skip
    exact m_vret hx hb hr hlocks hLc dX1_signedCopy_23 (⟨g2, hl2, by unfold valX; rw [tc_544 hbx (hI.lt hx0), if_neg (by omega), hv2], hS⟩)
  · skip
    refine lv_aload_n hx hb dX1_signedCopy_19 rfl (lv_at hl 2 rfl) ?_
    refine mc_v0 (va_runS (As := [.ref (ad 4)]) (rest := []) ⟨hx, hb, hml, hown, hts⟩ (c_X0_negate l G b0 Hc (hS.w.get 4 (by decide)) (by decide) hl2 (hS.w.b 4 (by decide))) (va_cwS 1 hts gX1_signedCopy_X0_negate rfl rfl rfl (by decide +kernel) ⟨Nat.le_of_ble_eq_true rfl, Nat.le_of_ble_eq_true rfl⟩) (mp_S hK) rfl rfl hl.1 rfl (lv_room (Nat.le_of_ble_eq_true rfl)) dX1_signedCopy_20 ⟨Nat.le_of_ble_eq_true rfl, Nat.le_of_ble_eq_true rfl⟩) hLc (fun H1 locs hP hLc => ?_)
    obtain ⟨g3, hl3, hv3, rfl⟩ := hP
    have hS := hS.p_f1 g3
    generalize hput Hc (ad 4) (aJ G 17 g3) = Hc at hS ⊢
    exact m_vret hx hb hr hlocks hLc dX1_signedCopy_23 (⟨g3, hl3, by unfold valX; rw [tc_544 hbx (hI.lt hx0), if_pos (by omega), hv3, hv2, B17], hS⟩)

set_option maxRecDepth 100000 in
set_option maxHeartbeats 4000000 in
theorem c_X1_signedCopy5 (l : Launch) (G : gG) (b0 : Nat) (H : Heap) {o : Nat} {ad : Nat → Nat} {sz : Nat → Nat → Nat} {bl : Nat → Nat} {dv : Nat → Nat} {dc : Nat} {wr : Nat → Nat} {wf : Nat} {f1 : Nat → Nat} {f2 : Nat → Nat} {fw : Nat → Nat} (hS : SX G b0 o ad H sz bl dv dc wr wf f1 f2 fw H) (hI : IV sz bl) {x : Nat} (hx0 : x < 64) : Met l yX1_signedCopy wsX1_signedCopy ({ frames := 2, cells := 0, slots := 0, locals := 43 } : Room) (PcH G H [.ref o, .int (nI x), .ref (ad 5)]) (QcV (fun H1 => ∃ g : Nat → Nat, lim g 17 ∧ vl g 17 = tcN 544 (valX sz bl x) ∧ SX G b0 o ad H sz bl dv dc wr wf f1 g fw H1)) 0 0 (fre b0) := by
  refine m_enter (cc := cX1_signedCopy) (maxL := 3) (ret := none) (own := RX1) (by decide) rfl rfl (Nat.le_of_ble_eq_true rfl) ?_
  intro p e s m below meth c ls hF hnm hH hl
  have hl : lv_has ls 3 [(0, .ref o), (1, .int (nI x)), (2, .ref (ad 5))] := hl
  have hLc : lcs b0 [] := lcs_nil b0
  obtain ⟨hx, hb, hr, hml, hown, hts, hlocks, hK⟩ := id hF
  have hbx := (hI x (by omega)).2.1
  refine lv_aload_n hx hb dX1_signedCopy_0 rfl (lv_at hl 0 rfl) ?_
  refine va_get (D := G.1) (ci := 0) (v := .ref (ad 0)) (C := RX1) (T := TX1) (N := 9) hx hb hts hwsX1_signedCopy hown hK hS.w.ob 0 rfl rfl 0 (by decide) (hts (.fieldLink RX1 11 "ExactNumbers" "sizes" "[[J") (by decide +kernel)) (fun _ h9 => h9) rfl dX1_signedCopy_1 ?_
  refine lv_iload_n hx hb dX1_signedCopy_4 rfl (lv_at hl 1 rfl) ?_
  refine m_aald (n := 64) (f := (fun i => ad (i + 7))) hx hb hK (hS.w.get 0 (by decide)) (by omega) (by decide) dX1_signedCopy_5 ?_
  refine lv_aload_n hx hb dX1_signedCopy_6 rfl (lv_at hl 2 rfl) ?_
  refine mc_v0 (va_runS (As := [.ref (ad (x + 7)), .ref (ad 5)]) (rest := []) ⟨hx, hb, hml, hown, hts⟩ (c_X0_copy l G b0 H (hS.w.get (x + 7) (by omega)) (hS.w.get 5 (by decide)) (by decide) (by decide) (hS.w.ne (by omega) (by decide) (by omega)) (hS.w.b 5 (by decide))) (va_cwS 2 hts gX1_signedCopy_X0_copy rfl rfl rfl (by decide +kernel) ⟨Nat.le_of_ble_eq_true rfl, Nat.le_of_ble_eq_true rfl⟩) (mp_S hK) rfl rfl hl.1 rfl (lv_room (Nat.le_of_ble_eq_true rfl)) dX1_signedCopy_7 ⟨Nat.le_of_ble_eq_true rfl, Nat.le_of_ble_eq_true rfl⟩) hLc (fun H1 locs hP hLc => ?_)
  obtain ⟨g2, hg2, rfl⟩ := hP
  have hl2 : lim g2 17 := fun j hj => by rw [hg2 j hj]; exact lat_lim (hI x (by omega)).1 j
  have hv2 : vl g2 17 = vl (sz x) 16 := by rw [vl_congr hg2, l16_17]
  have hS := hS.p_f2 g2
  generalize hput H (ad 5) (aJ G 17 g2) = Hc at hS ⊢
  refine lv_aload_n hx hb dX1_signedCopy_10 rfl (lv_at hl 0 rfl) ?_
  refine va_get (D := G.1) (ci := 0) (v := .ref (ad 1)) (C := RX1) (T := TX1) (N := 9) hx hb hts hwsX1_signedCopy hown hK hS.w.ob 0 rfl rfl 1 (by decide) (hts (.fieldLink RX1 14 "ExactNumbers" "below" "[Z") (by decide +kernel)) (fun _ h9 => h9) rfl dX1_signedCopy_11 ?_
  refine lv_iload_n hx hb dX1_signedCopy_14 rfl (lv_at hl 1 rfl) ?_
  refine m_zald (n := 64) (f := bl) hx hb hK (hS.w.get 1 (by decide)) (by omega) (by decide) dX1_signedCopy_15 ?_
  refine m_if_eq (tgt := 23) hx hb (by omega) dX1_signedCopy_16 (by decide) (fun c16 => ?_) (fun c16 => ?_)
  · skip
    exact m_vret hx hb hr hlocks hLc dX1_signedCopy_23 (⟨g2, hl2, by unfold valX; rw [tc_544 hbx (hI.lt hx0), if_neg (by omega), hv2], hS⟩)
  · skip
    refine lv_aload_n hx hb dX1_signedCopy_19 rfl (lv_at hl 2 rfl) ?_
    refine mc_v0 (va_runS (As := [.ref (ad 5)]) (rest := []) ⟨hx, hb, hml, hown, hts⟩ (c_X0_negate l G b0 Hc (hS.w.get 5 (by decide)) (by decide) hl2 (hS.w.b 5 (by decide))) (va_cwS 1 hts gX1_signedCopy_X0_negate rfl rfl rfl (by decide +kernel) ⟨Nat.le_of_ble_eq_true rfl, Nat.le_of_ble_eq_true rfl⟩) (mp_S hK) rfl rfl hl.1 rfl (lv_room (Nat.le_of_ble_eq_true rfl)) dX1_signedCopy_20 ⟨Nat.le_of_ble_eq_true rfl, Nat.le_of_ble_eq_true rfl⟩) hLc (fun H1 locs hP hLc => ?_)
    obtain ⟨g3, hl3, hv3, rfl⟩ := hP
    have hS := hS.p_f2 g3
    generalize hput Hc (ad 5) (aJ G 17 g3) = Hc at hS ⊢
    exact m_vret hx hb hr hlocks hLc dX1_signedCopy_23 (⟨g3, hl3, by unfold valX; rw [tc_544 hbx (hI.lt hx0), if_pos (by omega), hv3, hv2, B17], hS⟩)

set_option maxRecDepth 100000 in
set_option maxHeartbeats 4000000 in
theorem bitByBit_22 {p : Program} {l : Launch} {e : Env} {s : State} {m : MethodId} {args : Array Value} {below : List Frame} {meth : Method} {c : Code} {G : gG} {b0 : Nat} {H : Heap} {o : Nat} {ad : Nat → Nat} {sz : Nat → Nat → Nat} {bl : Nat → Nat} {dv : Nat → Nat} {dc : Nat} {wr : Nat → Nat} {wf : Nat} {f1 : Nat → Nat} {f2 : Nat → Nat} {fw : Nat → Nat} {op k x y : Nat} (hF : FxM p s m args meth c G cX1_bitByBit 6 (some .int) RX1 wsX1_bitByBit) (hI : IV sz bl) (hop : op = 5 ∨ op = 6 ∨ op = 7 ∨ op = 8) (hk : k < 64) (hx0 : x < 64) (hy0 : y < 64) {q1 q2 : Nat → Nat} (hq1 : lim q1 17) (hv1 : vl q1 17 = tcN 544 (valX sz bl x)) (hq2 : lim q2 17) (hv2 : vl q2 17 = tcN 544 (valX sz bl y)) : ∀ (q : Nat) (i : Nat) (g : Nat → Nat) (Hc : Heap), i + q = 17 → (∀ j, j < i → g j = bop op (q1 j) (q2 j)) → (∀ j, i ≤ j → j < 17 → g j = q1 j) → SX G b0 o ad H sz bl dv dc wr wf g q2 fw Hc → ∀ (locs : List Loc) (ls : Array Slot), lcs b0 locs → lv_has ls 6 [(0, .ref o), (1, .int (nI op)), (2, .int (nI k)), (3, .int (nI x)), (4, .int (nI y)), (5, .int (nI i))] → W p l e ({ frames := 3, cells := 0, slots := 0, locals := 65 } : Room) s m args below meth c Hc locs 0 0 (MQ below (QcI (fun r H1 => KX G b0 o ad H (valX sz bl) dv dc wr wf k (btI 544 op (valX sz bl x) (valX sz bl y)) r H1)) args s 0 0 (fre b0)) (F0 m 22 ls []) := by
  obtain ⟨hx, hb, hr, hml, hown, hts, hlocks, hK⟩ := id hF
  intro q
  induction q with
  | zero =>
    intro i g Hc hi hg hs hS locs ls hLc hl
    have hgg : ∀ j, j < 17 → g j = bop op (q1 j) (q2 j) := fun j hj => hg j (by omega)
    have hgl := bop_lim hq1 hq2 hgg
    have hgv : vl g 17 = bop op (tcN 544 (valX sz bl x)) (tcN 544 (valX sz bl y)) := by rw [bop_vl hq1 hq2 hgg, hv1, hv2]
    have ht1 := top_limb hq1 (hI x hx0).2.1 (hI.lt hx0) (hI x hx0).2.2 hv1
    have ht2 := top_limb hq2 (hI y hy0).2.1 (hI.lt hy0) (hI y hy0).2.2 hv2
    have htop := bop_top (op := op) _ _ ht1 ht2
    rw [← hgg 16 (by decide)] at htop
    have hg16 := hgl 16 (by decide)
    refine lv_iload hx hb dX1_bitByBit_22 (lv_at hl 5 rfl) ?_
    refine lv_aload_n hx hb dX1_bitByBit_24 rfl (lv_at hl 0 rfl) ?_
    refine va_get (D := G.1) (ci := 0) (v := .ref (ad 4)) (C := RX1) (T := TX1) (N := 9) hx hb hts hwsX1_bitByBit hown hK hS.w.ob 0 rfl rfl 6 (by decide) (hts (.fieldLink RX1 32 "ExactNumbers" "first" "[J") (by decide +kernel)) (fun _ h9 => h9) rfl dX1_bitByBit_25 ?_
    refine m_alenJ (n := 17) (f := g) hx hb hK (hS.w.get 4 (by decide)) dX1_bitByBit_28 ?_
    refine lv_icmp_ge (tgt := 63) hx hb dX1_bitByBit_29 (by decide) (fun _ => ?_) (fun h => absurd (nI_le (by omega) (by omega)) h)
    refine lv_aload_n hx hb dX1_bitByBit_63 rfl (lv_at hl 0 rfl) ?_
    refine va_get (D := G.1) (ci := 0) (v := .ref (ad 4)) (C := RX1) (T := TX1) (N := 9) hx hb hts hwsX1_bitByBit hown hK hS.w.ob 0 rfl rfl 6 (by decide) (hts (.fieldLink RX1 32 "ExactNumbers" "first" "[J") (by decide +kernel)) (fun _ h9 => h9) rfl dX1_bitByBit_64 ?_
    refine lv_bipush (v := nI 16) hx hb dX1_bitByBit_67 (by decide) ?_
    refine m_lald (n := 17) (f := g) hx hb hK (hS.w.get 4 (by decide)) (by omega) (by decide) dX1_bitByBit_69 ?_
    refine lv_lconst (v := lN 0) hx hb dX1_bitByBit_70 (by decide) ?_
    refine m_lc_eq (tgt := 79) hx hb (by omega) (by decide) dX1_bitByBit_71 dX1_bitByBit_72 (by decide) (fun c71 => ?_) (fun c71 => ?_)
    · skip
      refine lv_iconst (v := nI 0) hx hb dX1_bitByBit_79 (by decide) ?_
      refine lv_istore (lv' := [(5, .int (nI 0)), (0, .ref o), (1, .int (nI op)), (2, .int (nI k)), (3, .int (nI x)), (4, .int (nI y))]) hx hb dX1_bitByBit_80 hl (by decide) rfl (fun ls hl => ?_)
      refine lv_iload hx hb dX1_bitByBit_82 (lv_at hl 0 rfl) ?_
      refine m_if_eq (tgt := 94) hx hb (by decide) dX1_bitByBit_84 (by decide) (fun _ => ?_) (fun h => absurd h (by decide))
      refine lv_aload_n hx hb dX1_bitByBit_94 rfl (lv_at hl 1 rfl) ?_
      refine lv_iload_n hx hb dX1_bitByBit_95 rfl (lv_at hl 3 rfl) ?_
      refine lv_aload_n hx hb dX1_bitByBit_96 rfl (lv_at hl 1 rfl) ?_
      refine va_get (D := G.1) (ci := 0) (v := .ref (ad 4)) (C := RX1) (T := TX1) (N := 9) hx hb hts hwsX1_bitByBit hown hK hS.w.ob 0 rfl rfl 6 (by decide) (hts (.fieldLink RX1 32 "ExactNumbers" "first" "[J") (by decide +kernel)) (fun _ h9 => h9) rfl dX1_bitByBit_97 ?_
      refine lv_iload hx hb dX1_bitByBit_100 (lv_at hl 0 rfl) ?_
      refine mc_i0 (va_runV (As := [.int (nI k), .ref (ad 4), .int (nI 0)]) (rest := []) ⟨hx, hb, hml, hown, hts⟩ (c_X1_store l G b0 Hc hS.rf hI k hk (hS.w.get 4 (by decide)) (by decide) (by decide) hgl (by decide)) (cwV 3 hts gX1_bitByBit_X1_store rfl rfl rfl (by decide +kernel) ⟨Nat.le_of_ble_eq_true rfl, Nat.le_of_ble_eq_true rfl⟩) (mp_V hK hS.w.ob rfl) rfl rfl hl.1 rfl (lv_room (Nat.le_of_ble_eq_true rfl)) dX1_bitByBit_102 ⟨Nat.le_of_ble_eq_true rfl, Nat.le_of_ble_eq_true rfl⟩) hLc (fun r H1 locs hP hLc => ?_)
      exact m_iret hx hb hr hlocks hLc dX1_bitByBit_105 ((KX.trans hS hP).val (bt_pos hgl (by omega) hgv) (fun _ _ => rfl))
    · skip
      refine lv_iconst (v := nI 1) hx hb dX1_bitByBit_75 (by decide) ?_
      refine lv_goto (tgt := 80) hx hb dX1_bitByBit_76 (by decide) ?_
      refine lv_istore (lv' := [(5, .int (nI 1)), (0, .ref o), (1, .int (nI op)), (2, .int (nI k)), (3, .int (nI x)), (4, .int (nI y))]) hx hb dX1_bitByBit_80 hl (by decide) rfl (fun ls hl => ?_)
      refine lv_iload hx hb dX1_bitByBit_82 (lv_at hl 0 rfl) ?_
      refine m_if_eq (tgt := 94) hx hb (by decide) dX1_bitByBit_84 (by decide) (fun h => absurd h (by decide)) (fun _ => ?_)
      refine lv_aload_n hx hb dX1_bitByBit_87 rfl (lv_at hl 1 rfl) ?_
      refine va_get (D := G.1) (ci := 0) (v := .ref (ad 4)) (C := RX1) (T := TX1) (N := 9) hx hb hts hwsX1_bitByBit hown hK hS.w.ob 0 rfl rfl 6 (by decide) (hts (.fieldLink RX1 32 "ExactNumbers" "first" "[J") (by decide +kernel)) (fun _ h9 => h9) rfl dX1_bitByBit_88 ?_
      refine mc_v0 (va_runS (As := [.ref (ad 4)]) (rest := []) ⟨hx, hb, hml, hown, hts⟩ (c_X0_negate l G b0 Hc (hS.w.get 4 (by decide)) (by decide) hgl (hS.w.b 4 (by decide))) (va_cwS 1 hts gX1_bitByBit_X0_negate rfl rfl rfl (by decide +kernel) ⟨Nat.le_of_ble_eq_true rfl, Nat.le_of_ble_eq_true rfl⟩) (mp_S hK) rfl rfl hl.1 rfl (lv_room (Nat.le_of_ble_eq_true rfl)) dX1_bitByBit_91 ⟨Nat.le_of_ble_eq_true rfl, Nat.le_of_ble_eq_true rfl⟩) hLc (fun H1 locs hP hLc => ?_)
      obtain ⟨g3, hl3, hv3, rfl⟩ := hP
      have hS := hS.p_f1 g3
      generalize hput Hc (ad 4) (aJ G 17 g3) = Hc at hS ⊢
      refine lv_aload_n hx hb dX1_bitByBit_94 rfl (lv_at hl 1 rfl) ?_
      refine lv_iload_n hx hb dX1_bitByBit_95 rfl (lv_at hl 3 rfl) ?_
      refine lv_aload_n hx hb dX1_bitByBit_96 rfl (lv_at hl 1 rfl) ?_
      refine va_get (D := G.1) (ci := 0) (v := .ref (ad 4)) (C := RX1) (T := TX1) (N := 9) hx hb hts hwsX1_bitByBit hown hK hS.w.ob 0 rfl rfl 6 (by decide) (hts (.fieldLink RX1 32 "ExactNumbers" "first" "[J") (by decide +kernel)) (fun _ h9 => h9) rfl dX1_bitByBit_97 ?_
      refine lv_iload hx hb dX1_bitByBit_100 (lv_at hl 0 rfl) ?_
      refine mc_i0 (va_runV (As := [.int (nI k), .ref (ad 4), .int (nI 1)]) (rest := []) ⟨hx, hb, hml, hown, hts⟩ (c_X1_store l G b0 Hc hS.rf hI k hk (hS.w.get 4 (by decide)) (by decide) (by decide) hl3 (by decide)) (cwV 3 hts gX1_bitByBit_X1_store rfl rfl rfl (by decide +kernel) ⟨Nat.le_of_ble_eq_true rfl, Nat.le_of_ble_eq_true rfl⟩) (mp_V hK hS.w.ob rfl) rfl rfl hl.1 rfl (lv_room (Nat.le_of_ble_eq_true rfl)) dX1_bitByBit_102 ⟨Nat.le_of_ble_eq_true rfl, Nat.le_of_ble_eq_true rfl⟩) hLc (fun r H1 locs hP hLc => ?_)
      exact m_iret hx hb hr hlocks hLc dX1_bitByBit_105 ((KX.trans hS hP).val (bt_neg hgl (by omega) hgv hv3) (fun _ _ => rfl))
  | succ q ih =>
    intro i g Hc hi hg hs hS locs ls hLc hl
    have hgi : g i = q1 i := hs i (Nat.le_refl i) (by omega)
    refine lv_iload hx hb dX1_bitByBit_22 (lv_at hl 5 rfl) ?_
    refine lv_aload_n hx hb dX1_bitByBit_24 rfl (lv_at hl 0 rfl) ?_
    refine va_get (D := G.1) (ci := 0) (v := .ref (ad 4)) (C := RX1) (T := TX1) (N := 9) hx hb hts hwsX1_bitByBit hown hK hS.w.ob 0 rfl rfl 6 (by decide) (hts (.fieldLink RX1 32 "ExactNumbers" "first" "[J") (by decide +kernel)) (fun _ h9 => h9) rfl dX1_bitByBit_25 ?_
    refine m_alenJ (n := 17) (f := g) hx hb hK (hS.w.get 4 (by decide)) dX1_bitByBit_28 ?_
    refine lv_icmp_ge (tgt := 63) hx hb dX1_bitByBit_29 (by decide) (fun h => absurd h (nI_ge (by omega) (by omega))) (fun _ => ?_)
    refine lv_aload_n hx hb dX1_bitByBit_32 rfl (lv_at hl 0 rfl) ?_
    refine va_get (D := G.1) (ci := 0) (v := .ref (ad 4)) (C := RX1) (T := TX1) (N := 9) hx hb hts hwsX1_bitByBit hown hK hS.w.ob 0 rfl rfl 6 (by decide) (hts (.fieldLink RX1 32 "ExactNumbers" "first" "[J") (by decide +kernel)) (fun _ h9 => h9) rfl dX1_bitByBit_33 ?_
    refine lv_iload hx hb dX1_bitByBit_36 (lv_at hl 5 rfl) ?_
    refine lv_iload_n hx hb dX1_bitByBit_38 rfl (lv_at hl 1 rfl) ?_
    refine lv_aload_n hx hb dX1_bitByBit_39 rfl (lv_at hl 0 rfl) ?_
    refine va_get (D := G.1) (ci := 0) (v := .ref (ad 4)) (C := RX1) (T := TX1) (N := 9) hx hb hts hwsX1_bitByBit hown hK hS.w.ob 0 rfl rfl 6 (by decide) (hts (.fieldLink RX1 32 "ExactNumbers" "first" "[J") (by decide +kernel)) (fun _ h9 => h9) rfl dX1_bitByBit_40 ?_
    refine lv_iload hx hb dX1_bitByBit_43 (lv_at hl 5 rfl) ?_
    refine m_lald (n := 17) (f := g) hx hb hK (hS.w.get 4 (by decide)) (by omega) (by decide) dX1_bitByBit_45 ?_
    refine lv_aload_n hx hb dX1_bitByBit_46 rfl (lv_at hl 0 rfl) ?_
    refine va_get (D := G.1) (ci := 0) (v := .ref (ad 5)) (C := RX1) (T := TX1) (N := 9) hx hb hts hwsX1_bitByBit hown hK hS.w.ob 0 rfl rfl 7 (by decide) (hts (.fieldLink RX1 36 "ExactNumbers" "second" "[J") (by decide +kernel)) (fun _ h9 => h9) rfl dX1_bitByBit_47 ?_
    refine lv_iload hx hb dX1_bitByBit_50 (lv_at hl 5 rfl) ?_
    refine m_lald (n := 17) (f := q2) hx hb hK (hS.w.get 5 (by decide)) (by omega) (by decide) dX1_bitByBit_52 ?_
    refine mc_l0 (va_runS (As := [.int (nI op), .long (lN (g i)), .long (lN (q2 i))]) (rest := [.int (nI i), .ref (ad 4)]) ⟨hx, hb, hml, hown, hts⟩ (c_X1_joined l G b0 Hc hop (show g i < 4294967296 by rw [hgi]; exact hq1 i (by omega)) (hq2 i (by omega))) (va_cwS 3 hts gX1_bitByBit_X1_joined rfl rfl rfl (by decide +kernel) ⟨Nat.le_of_ble_eq_true rfl, Nat.le_of_ble_eq_true rfl⟩) (mp_S hK) rfl rfl hl.1 rfl (lv_room (Nat.le_of_ble_eq_true rfl)) dX1_bitByBit_53 ⟨Nat.le_of_ble_eq_true rfl, Nat.le_of_ble_eq_true rfl⟩) hLc (fun r H1 locs hP hLc => ?_)
    obtain ⟨rfl, rfl⟩ := hP
    refine m_last (n := 17) (f := g) (b0 := b0) hx hb hK (hS.w.get 4 (by decide)) (by omega) (by decide) (hS.w.b 4 (by decide)) hLc dX1_bitByBit_56 (fun locs hLc => ?_)
    have hS := hS.p_f1 (fup g i (bop op (g i) (q2 i)))
    generalize hput Hc (ad 4) (aJ G 17 (fup g i (bop op (g i) (q2 i)))) = Hc at hS ⊢
    refine lv_iinc (v := nI (i + 1)) (lv' := [(5, .int (nI (i + 1))), (0, .ref o), (1, .int (nI op)), (2, .int (nI k)), (3, .int (nI x)), (4, .int (nI y))]) hx hb dX1_bitByBit_57 hl (k := 5) rfl (nI_add i 1) (by decide) rfl (fun ls hl => ?_)
    refine lv_goto (tgt := 22) hx hb dX1_bitByBit_60 (by decide) ?_
    exact ih (i + 1) _ _ (by omega) (fup_eq hg (by rw [hgi])) (fun j h1 h2 => by rw [fup_n _ _ (by omega)]; exact hs j (by omega) h2) hS _ _ hLc (lv_sub hl [1, 2, 3, 4, 5, 0] rfl)
set_option maxRecDepth 100000 in
set_option maxHeartbeats 4000000 in
theorem c_X1_bitByBit (l : Launch) (G : gG) (b0 : Nat) (H : Heap) {o : Nat} {ad : Nat → Nat} {sz : Nat → Nat → Nat} {bl : Nat → Nat} {dv : Nat → Nat} {dc : Nat} {wr : Nat → Nat} {wf : Nat} {f1 : Nat → Nat} {f2 : Nat → Nat} {fw : Nat → Nat} (hS : SX G b0 o ad H sz bl dv dc wr wf f1 f2 fw H) (hI : IV sz bl) {op k x y : Nat} (hop : op = 5 ∨ op = 6 ∨ op = 7 ∨ op = 8) (hk : k < 64) (hx0 : x < 64) (hy0 : y < 64) : Met l yX1_bitByBit wsX1_bitByBit ({ frames := 3, cells := 0, slots := 0, locals := 65 } : Room) (PcH G H [.ref o, .int (nI op), .int (nI k), .int (nI x), .int (nI y)]) (QcI (fun r H1 => KX G b0 o ad H (valX sz bl) dv dc wr wf k (btI 544 op (valX sz bl x) (valX sz bl y)) r H1)) 0 0 (fre b0) := by
  refine m_enter (cc := cX1_bitByBit) (maxL := 6) (ret := (some .int)) (own := RX1) (by decide) rfl rfl (Nat.le_of_ble_eq_true rfl) ?_
  intro p e s m below meth c ls hF hnm hH hl
  have hl : lv_has ls 6 [(0, .ref o), (1, .int (nI op)), (2, .int (nI k)), (3, .int (nI x)), (4, .int (nI y))] := hl
  have hLc : lcs b0 [] := lcs_nil b0
  obtain ⟨hx, hb, hr, hml, hown, hts, hlocks, hK⟩ := id hF
  refine lv_aload_n hx hb dX1_bitByBit_0 rfl (lv_at hl 0 rfl) ?_
  refine lv_iload_n hx hb dX1_bitByBit_1 rfl (lv_at hl 3 rfl) ?_
  refine lv_aload_n hx hb dX1_bitByBit_2 rfl (lv_at hl 0 rfl) ?_
  refine va_get (D := G.1) (ci := 0) (v := .ref (ad 4)) (C := RX1) (T := TX1) (N := 9) hx hb hts hwsX1_bitByBit hown hK hS.w.ob 0 rfl rfl 6 (by decide) (hts (.fieldLink RX1 32 "ExactNumbers" "first" "[J") (by decide +kernel)) (fun _ h9 => h9) rfl dX1_bitByBit_3 ?_
  refine mc_v0 (va_runV (As := [.int (nI x), .ref (ad 4)]) (rest := []) ⟨hx, hb, hml, hown, hts⟩ (c_X1_signedCopy4 l G b0 H hS.rf hI hx0) (cwV 2 hts gX1_bitByBit_X1_signedCopy rfl rfl rfl (by decide +kernel) ⟨Nat.le_of_ble_eq_true rfl, Nat.le_of_ble_eq_true rfl⟩) (mp_V hK hS.w.ob rfl) rfl rfl hl.1 rfl (lv_room (Nat.le_of_ble_eq_true rfl)) dX1_bitByBit_6 ⟨Nat.le_of_ble_eq_true rfl, Nat.le_of_ble_eq_true rfl⟩) hLc (fun H1 locs hP hLc => ?_)
  obtain ⟨q1, hq1, hv1, hS2⟩ := hP
  have hS : SX G b0 o ad H sz bl dv dc wr wf q1 f2 fw H1 := WO.trans hS hS2
  generalize H1 = Hc at hS ⊢
  refine lv_aload_n hx hb dX1_bitByBit_9 rfl (lv_at hl 0 rfl) ?_
  refine lv_iload hx hb dX1_bitByBit_10 (lv_at hl 4 rfl) ?_
  refine lv_aload_n hx hb dX1_bitByBit_12 rfl (lv_at hl 0 rfl) ?_
  refine va_get (D := G.1) (ci := 0) (v := .ref (ad 5)) (C := RX1) (T := TX1) (N := 9) hx hb hts hwsX1_bitByBit hown hK hS.w.ob 0 rfl rfl 7 (by decide) (hts (.fieldLink RX1 36 "ExactNumbers" "second" "[J") (by decide +kernel)) (fun _ h9 => h9) rfl dX1_bitByBit_13 ?_
  refine mc_v0 (va_runV (As := [.int (nI y), .ref (ad 5)]) (rest := []) ⟨hx, hb, hml, hown, hts⟩ (c_X1_signedCopy5 l G b0 Hc hS.rf hI hy0) (cwV 2 hts gX1_bitByBit_X1_signedCopy rfl rfl rfl (by decide +kernel) ⟨Nat.le_of_ble_eq_true rfl, Nat.le_of_ble_eq_true rfl⟩) (mp_V hK hS.w.ob rfl) rfl rfl hl.1 rfl (lv_room (Nat.le_of_ble_eq_true rfl)) dX1_bitByBit_16 ⟨Nat.le_of_ble_eq_true rfl, Nat.le_of_ble_eq_true rfl⟩) hLc (fun H1 locs hP hLc => ?_)
  obtain ⟨q2, hq2, hv2, hS2⟩ := hP
  have hS : SX G b0 o ad H sz bl dv dc wr wf q1 q2 fw H1 := WO.trans hS hS2
  generalize H1 = Hc at hS ⊢
  refine lv_iconst (v := nI 0) hx hb dX1_bitByBit_19 (by decide) ?_
  refine lv_istore (lv' := [(5, .int (nI 0)), (0, .ref o), (1, .int (nI op)), (2, .int (nI k)), (3, .int (nI x)), (4, .int (nI y))]) hx hb dX1_bitByBit_20 hl (by decide) rfl (fun ls hl => ?_)
  exact bitByBit_22 (f1 := f1) (f2 := f2) hF hI hop hk hx0 hy0 hq1 hv1 hq2 hv2 17 0 q1 _ (by omega) (fun j hj => absurd hj (by omega)) (fun j _ _ => rfl) hS _ _ hLc (lv_sub hl [1, 2, 3, 4, 5, 0] rfl)
