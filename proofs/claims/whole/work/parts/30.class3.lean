set_option maxRecDepth 100000 in
set_option maxHeartbeats 4000000 in
theorem c_X1_shift (l : Launch) (G : gG) (b0 : Nat) (H : Heap) {o : Nat} {ad : Nat → Nat} {sz : Nat → Nat → Nat} {bl : Nat → Nat} {dv : Nat → Nat} {dc : Nat} {wr : Nat → Nat} {wf : Nat} {f1 : Nat → Nat} {f2 : Nat → Nat} {fw : Nat → Nat} (hS : SX G b0 o ad H sz bl dv dc wr wf f1 f2 fw H) (hI : IV sz bl) (x y z : Int32) {g : Nat} (hg1 : g ≤ 1) : Met l yX1_shift wsX1_shift ({ frames := 3, cells := 0, slots := 0, locals := 64 } : Room) (PcH G H [.ref o, .int x, .int y, .int z, .int (nI g)]) (QcI (fun r H1 => (∃ k i n, k ≤ 63 ∧ i ≤ 63 ∧ n ≤ 1000 ∧ x = nI k ∧ y = nI i ∧ z = nI n ∧ KX G b0 o ad H (valX sz bl) dv dc wr wf k (if g = 1 then valX sz bl i * ((2 ^ n : Nat) : Int) else valX sz bl i / ((2 ^ n : Nat) : Int)) r H1) ∨ ((noslot x ∨ noslot y ∨ (∀ n, n ≤ 1000 → z ≠ nI n)) ∧ r = nI 3 ∧ RX G b0 o ad H (valX sz bl) dv dc wr wf H1))) 0 0 (fre b0) := by
  refine m_enter (cc := cX1_shift) (maxL := 7) (ret := (some .int)) (own := RX1) (by decide) rfl rfl (Nat.le_of_ble_eq_true rfl) ?_
  intro p e s m below meth c ls hF hnm hH hl
  have hl : lv_has ls 7 [(0, .ref o), (1, .int x), (2, .int y), (3, .int z), (4, .int (nI g))] := hl
  have hLc : lcs b0 [] := lcs_nil b0
  obtain ⟨hx, hb, hr, hml, hown, hts, hlocks, hK⟩ := id hF
  refine lv_iload_n hx hb dX1_shift_0 rfl (lv_at hl 1 rfl) ?_
  refine mc_i0 (va_runS (As := [.int x]) (rest := []) ⟨hx, hb, hml, hown, hts⟩ (c_X1_isSlot l G b0 H (x)) (va_cwS 1 hts gX1_shift_X1_isSlot rfl rfl rfl (by decide +kernel) ⟨Nat.le_of_ble_eq_true rfl, Nat.le_of_ble_eq_true rfl⟩) (mp_S hK) rfl rfl hl.1 rfl (lv_room (Nat.le_of_ble_eq_true rfl)) dX1_shift_1 ⟨Nat.le_of_ble_eq_true rfl, Nat.le_of_ble_eq_true rfl⟩) hLc (fun r H1 locs hP hLc => ?_)
  obtain ⟨hP, rfl⟩ := hP
  rcases hP with ⟨k, _h0, hk, rfl, rfl⟩ | ⟨hno, rfl⟩
  · skip
    refine m_if_eq (tgt := 25) hx hb (by decide) dX1_shift_4 (by decide) (fun h => absurd h (by decide)) (fun _ => ?_)
    refine lv_iload_n hx hb dX1_shift_7 rfl (lv_at hl 2 rfl) ?_
    refine mc_i0 (va_runS (As := [.int y]) (rest := []) ⟨hx, hb, hml, hown, hts⟩ (c_X1_isSlot l G b0 H (y)) (va_cwS 1 hts gX1_shift_X1_isSlot rfl rfl rfl (by decide +kernel) ⟨Nat.le_of_ble_eq_true rfl, Nat.le_of_ble_eq_true rfl⟩) (mp_S hK) rfl rfl hl.1 rfl (lv_room (Nat.le_of_ble_eq_true rfl)) dX1_shift_8 ⟨Nat.le_of_ble_eq_true rfl, Nat.le_of_ble_eq_true rfl⟩) hLc (fun r H1 locs hP hLc => ?_)
    obtain ⟨hP, rfl⟩ := hP
    rcases hP with ⟨i, _h0, hi, rfl, rfl⟩ | ⟨hno, rfl⟩
    · skip
      refine m_if_eq (tgt := 25) hx hb (by decide) dX1_shift_11 (by decide) (fun h => absurd h (by decide)) (fun _ => ?_)
      refine lv_iload_n hx hb dX1_shift_14 rfl (lv_at hl 3 rfl) ?_
      refine lv_if_lt (tgt := 25) hx hb dX1_shift_15 (by decide) (fun c15 => ?_) (fun c15 => ?_)
      · skip
        have hnz : ∀ n, n ≤ 1000 → z ≠ nI n := fun n hn e => nI_pos (by omega) (e ▸ c15)
        refine lv_iconst (v := nI 3) hx hb dX1_shift_25 (by decide) ?_
        exact m_iret hx hb hr hlocks hLc dX1_shift_26 (Or.inr ⟨by first | exact Or.inl hno | exact Or.inr (Or.inl hno) | exact Or.inr (Or.inr hnz), rfl, hS.r hI⟩)
      · skip
        obtain ⟨n, hn31, rfl⟩ := nI_of c15
        refine lv_iload_n hx hb dX1_shift_18 rfl (lv_at hl 3 rfl) ?_
        refine lv_sipush (v := nI 1000) hx hb dX1_shift_19 (by decide) ?_
        refine m_icmp_le (tgt := 27) hx hb (by omega) (by omega) dX1_shift_22 (by decide) (fun c22 => ?_) (fun c22 => ?_)
        · skip
          refine lv_aload_n hx hb dX1_shift_27 rfl (lv_at hl 0 rfl) ?_
          refine va_get (D := G.1) (ci := 0) (v := .ref (ad 0)) (C := RX1) (T := TX1) (N := 9) hx hb hts hwsX1_shift hown hK hS.w.ob 0 rfl rfl 0 (by decide) (hts (.fieldLink RX1 11 "ExactNumbers" "sizes" "[[J") (by decide +kernel)) (fun _ h9 => h9) rfl dX1_shift_28 ?_
          refine lv_iload_n hx hb dX1_shift_31 rfl (lv_at hl 2 rfl) ?_
          refine m_aald (n := 64) (f := (fun i => ad (i + 7))) hx hb hK (hS.w.get 0 (by decide)) (by omega) (by decide) dX1_shift_32 ?_
          refine lv_astore (lv' := [(5, .ref (ad (i + 7))), (0, .ref o), (1, .int (nI k)), (2, .int (nI i)), (3, .int (nI n)), (4, .int (nI g))]) hx hb dX1_shift_33 hl (by decide) rfl (fun ls hl => ?_)
          refine lv_iload hx hb dX1_shift_35 (lv_at hl 5 rfl) ?_
          refine m_if_eq (tgt := 77) hx hb (by omega) dX1_shift_37 (by decide) (fun c37 => ?_) (fun c37 => ?_)
          · skip
            refine lv_aload hx hb dX1_shift_77 (lv_at hl 0 rfl) ?_
            refine lv_iload_n hx hb dX1_shift_79 rfl (lv_at hl 4 rfl) ?_
            refine lv_aload_n hx hb dX1_shift_80 rfl (lv_at hl 1 rfl) ?_
            refine va_get (D := G.1) (ci := 0) (v := .ref (ad 4)) (C := RX1) (T := TX1) (N := 9) hx hb hts hwsX1_shift hown hK hS.w.ob 0 rfl rfl 6 (by decide) (hts (.fieldLink RX1 32 "ExactNumbers" "first" "[J") (by decide +kernel)) (fun _ h9 => h9) rfl dX1_shift_81 ?_
            refine mc_v0 (va_runS (As := [.ref (ad (i + 7)), .int (nI n), .ref (ad 4)]) (rest := []) ⟨hx, hb, hml, hown, hts⟩ (c_X0_moveDown l G b0 H (hS.w.get (i + 7) (by omega)) (hS.w.get 4 (by decide)) (by decide) (by decide) (by omega) (hI i (by omega)).1 (hS.w.ne (by omega) (by decide) (by omega)) (hS.w.b 4 (by decide))) (va_cwS 3 hts gX1_shift_X0_moveDown rfl rfl rfl (by decide +kernel) ⟨Nat.le_of_ble_eq_true rfl, Nat.le_of_ble_eq_true rfl⟩) (mp_S hK) rfl rfl hl.1 rfl (lv_room (Nat.le_of_ble_eq_true rfl)) dX1_shift_84 ⟨Nat.le_of_ble_eq_true rfl, Nat.le_of_ble_eq_true rfl⟩) hLc (fun H1 locs hP hLc => ?_)
            obtain ⟨g2, hg2, rfl⟩ := hP
            have hl2 := lim_digits hg2
            have hv2 := dn_v (hI i (by omega)).1 hg2
            have hS := hS.p_f1 g2
            generalize hput H (ad 4) (aJ G 17 g2) = Hc at hS ⊢
            refine lv_aload_n hx hb dX1_shift_87 rfl (lv_at hl 1 rfl) ?_
            refine va_get (D := G.1) (ci := 0) (v := .ref (ad 1)) (C := RX1) (T := TX1) (N := 9) hx hb hts hwsX1_shift hown hK hS.w.ob 0 rfl rfl 1 (by decide) (hts (.fieldLink RX1 14 "ExactNumbers" "below" "[Z") (by decide +kernel)) (fun _ h9 => h9) rfl dX1_shift_88 ?_
            refine lv_iload_n hx hb dX1_shift_91 rfl (lv_at hl 3 rfl) ?_
            refine m_zald (n := 64) (f := bl) hx hb hK (hS.w.get 1 (by decide)) (by omega) (by decide) dX1_shift_92 ?_
            refine m_if_eq (tgt := 112) hx hb (by have := (hI i (by omega)).2.1; omega) dX1_shift_93 (by decide) (fun c93 => ?_) (fun c93 => ?_)
            · skip
              refine lv_aload_n hx hb dX1_shift_112 rfl (lv_at hl 1 rfl) ?_
              refine lv_iload_n hx hb dX1_shift_113 rfl (lv_at hl 2 rfl) ?_
              refine lv_aload_n hx hb dX1_shift_114 rfl (lv_at hl 1 rfl) ?_
              refine va_get (D := G.1) (ci := 0) (v := .ref (ad 4)) (C := RX1) (T := TX1) (N := 9) hx hb hts hwsX1_shift hown hK hS.w.ob 0 rfl rfl 6 (by decide) (hts (.fieldLink RX1 32 "ExactNumbers" "first" "[J") (by decide +kernel)) (fun _ h9 => h9) rfl dX1_shift_115 ?_
              refine lv_aload_n hx hb dX1_shift_118 rfl (lv_at hl 1 rfl) ?_
              refine va_get (D := G.1) (ci := 0) (v := .ref (ad 1)) (C := RX1) (T := TX1) (N := 9) hx hb hts hwsX1_shift hown hK hS.w.ob 0 rfl rfl 1 (by decide) (hts (.fieldLink RX1 14 "ExactNumbers" "below" "[Z") (by decide +kernel)) (fun _ h9 => h9) rfl dX1_shift_119 ?_
              refine lv_iload_n hx hb dX1_shift_122 rfl (lv_at hl 3 rfl) ?_
              refine m_zald (n := 64) (f := bl) hx hb hK (hS.w.get 1 (by decide)) (by omega) (by decide) dX1_shift_123 ?_
              refine mc_i0 (va_runV (As := [.int (nI k), .ref (ad 4), .int (nI (bl i))]) (rest := []) ⟨hx, hb, hml, hown, hts⟩ (c_X1_store l G b0 Hc hS.rf hI k (by omega) (hS.w.get 4 (by decide)) (by decide) (by decide) hl2 (hI i (by omega)).2.1) (cwV 3 hts gX1_shift_X1_store rfl rfl rfl (by decide +kernel) ⟨Nat.le_of_ble_eq_true rfl, Nat.le_of_ble_eq_true rfl⟩) (mp_V hK hS.w.ob rfl) rfl rfl hl.1 rfl (lv_room (Nat.le_of_ble_eq_true rfl)) dX1_shift_124 ⟨Nat.le_of_ble_eq_true rfl, Nat.le_of_ble_eq_true rfl⟩) hLc (fun r H1 locs hP hLc => ?_)
              exact m_iret hx hb hr hlocks hLc dX1_shift_127 (Or.inl ⟨k, i, n, by omega, by omega, by omega, rfl, rfl, rfl, (KX.trans hS hP).val (by rw [if_neg (by omega), hv2]; unfold valX; rw [c93]; exact shr_0 _ _) (fun _ _ => rfl)⟩)
            · skip
              refine lv_aload hx hb dX1_shift_96 (lv_at hl 0 rfl) ?_
              refine mc_i0 (va_runS (As := [.ref (ad (i + 7))]) (rest := []) ⟨hx, hb, hml, hown, hts⟩ (c_X0_lowZeros l G b0 Hc (hS.w.get (i + 7) (by omega)) (by decide) (hI i (by omega)).1) (va_cwS 1 hts gX1_shift_X0_lowZeros rfl rfl rfl (by decide +kernel) ⟨Nat.le_of_ble_eq_true rfl, Nat.le_of_ble_eq_true rfl⟩) (mp_S hK) rfl rfl hl.1 rfl (lv_room (Nat.le_of_ble_eq_true rfl)) dX1_shift_98 ⟨Nat.le_of_ble_eq_true rfl, Nat.le_of_ble_eq_true rfl⟩) hLc (fun r H1 locs hP hLc => ?_)
              obtain ⟨⟨t, rfl, ht3, htz⟩, rfl⟩ := hP
              have hb1 : bl i = 1 := by have := (hI i (by omega)).2.1; omega
              have htz : isTZ t (vl (sz i) 16) := htz.resolve_left (fun e => (hI i (by omega)).2.2 hb1 e.1)
              refine lv_iload_n hx hb dX1_shift_101 rfl (lv_at hl 4 rfl) ?_
              refine m_icmp_ge (tgt := 112) hx hb (by omega) (by omega) dX1_shift_102 (by decide) (fun c102 => ?_) (fun c102 => ?_)
              · skip
                refine lv_aload_n hx hb dX1_shift_112 rfl (lv_at hl 1 rfl) ?_
                refine lv_iload_n hx hb dX1_shift_113 rfl (lv_at hl 2 rfl) ?_
                refine lv_aload_n hx hb dX1_shift_114 rfl (lv_at hl 1 rfl) ?_
                refine va_get (D := G.1) (ci := 0) (v := .ref (ad 4)) (C := RX1) (T := TX1) (N := 9) hx hb hts hwsX1_shift hown hK hS.w.ob 0 rfl rfl 6 (by decide) (hts (.fieldLink RX1 32 "ExactNumbers" "first" "[J") (by decide +kernel)) (fun _ h9 => h9) rfl dX1_shift_115 ?_
                refine lv_aload_n hx hb dX1_shift_118 rfl (lv_at hl 1 rfl) ?_
                refine va_get (D := G.1) (ci := 0) (v := .ref (ad 1)) (C := RX1) (T := TX1) (N := 9) hx hb hts hwsX1_shift hown hK hS.w.ob 0 rfl rfl 1 (by decide) (hts (.fieldLink RX1 14 "ExactNumbers" "below" "[Z") (by decide +kernel)) (fun _ h9 => h9) rfl dX1_shift_119 ?_
                refine lv_iload_n hx hb dX1_shift_122 rfl (lv_at hl 3 rfl) ?_
                refine m_zald (n := 64) (f := bl) hx hb hK (hS.w.get 1 (by decide)) (by omega) (by decide) dX1_shift_123 ?_
                refine mc_i0 (va_runV (As := [.int (nI k), .ref (ad 4), .int (nI (bl i))]) (rest := []) ⟨hx, hb, hml, hown, hts⟩ (c_X1_store l G b0 Hc hS.rf hI k (by omega) (hS.w.get 4 (by decide)) (by decide) (by decide) hl2 (hI i (by omega)).2.1) (cwV 3 hts gX1_shift_X1_store rfl rfl rfl (by decide +kernel) ⟨Nat.le_of_ble_eq_true rfl, Nat.le_of_ble_eq_true rfl⟩) (mp_V hK hS.w.ob rfl) rfl rfl hl.1 rfl (lv_room (Nat.le_of_ble_eq_true rfl)) dX1_shift_124 ⟨Nat.le_of_ble_eq_true rfl, Nat.le_of_ble_eq_true rfl⟩) hLc (fun r H1 locs hP hLc => ?_)
                exact m_iret hx hb hr hlocks hLc dX1_shift_127 (Or.inl ⟨k, i, n, by omega, by omega, by omega, rfl, rfl, rfl, (KX.trans hS hP).val (by rw [if_neg (by omega), hv2]; unfold valX; rw [hb1]; exact shr_1 (Nat.pow_pos (by decide)) ((tz_dvd htz n).mp (by omega))) (fun _ _ => rfl)⟩)
              · skip
                refine lv_aload_n hx hb dX1_shift_105 rfl (lv_at hl 1 rfl) ?_
                refine va_get (D := G.1) (ci := 0) (v := .ref (ad 4)) (C := RX1) (T := TX1) (N := 9) hx hb hts hwsX1_shift hown hK hS.w.ob 0 rfl rfl 6 (by decide) (hts (.fieldLink RX1 32 "ExactNumbers" "first" "[J") (by decide +kernel)) (fun _ h9 => h9) rfl dX1_shift_106 ?_
                refine mc_v0 (va_runS (As := [.ref (ad 4)]) (rest := []) ⟨hx, hb, hml, hown, hts⟩ (c_X0_increase l G b0 Hc (hS.w.get 4 (by decide)) (by decide) hl2 (hS.w.b 4 (by decide))) (va_cwS 1 hts gX1_shift_X0_increase rfl rfl rfl (by decide +kernel) ⟨Nat.le_of_ble_eq_true rfl, Nat.le_of_ble_eq_true rfl⟩) (mp_S hK) rfl rfl hl.1 rfl (lv_room (Nat.le_of_ble_eq_true rfl)) dX1_shift_109 ⟨Nat.le_of_ble_eq_true rfl, Nat.le_of_ble_eq_true rfl⟩) hLc (fun H1 locs hP hLc => ?_)
                obtain ⟨g3, hl3, hv3, rfl⟩ := hP
                have hv3 : vl g3 17 = vl (sz i) 16 / 2 ^ n + 1 := by rw [hv3, hv2]; exact inc17 (Nat.lt_of_le_of_lt (Nat.div_le_self _ _) (vl_lt (hI i (by omega)).1))
                have hS := hS.p_f1 g3
                generalize hput Hc (ad 4) (aJ G 17 g3) = Hc at hS ⊢
                refine lv_aload_n hx hb dX1_shift_112 rfl (lv_at hl 1 rfl) ?_
                refine lv_iload_n hx hb dX1_shift_113 rfl (lv_at hl 2 rfl) ?_
                refine lv_aload_n hx hb dX1_shift_114 rfl (lv_at hl 1 rfl) ?_
                refine va_get (D := G.1) (ci := 0) (v := .ref (ad 4)) (C := RX1) (T := TX1) (N := 9) hx hb hts hwsX1_shift hown hK hS.w.ob 0 rfl rfl 6 (by decide) (hts (.fieldLink RX1 32 "ExactNumbers" "first" "[J") (by decide +kernel)) (fun _ h9 => h9) rfl dX1_shift_115 ?_
                refine lv_aload_n hx hb dX1_shift_118 rfl (lv_at hl 1 rfl) ?_
                refine va_get (D := G.1) (ci := 0) (v := .ref (ad 1)) (C := RX1) (T := TX1) (N := 9) hx hb hts hwsX1_shift hown hK hS.w.ob 0 rfl rfl 1 (by decide) (hts (.fieldLink RX1 14 "ExactNumbers" "below" "[Z") (by decide +kernel)) (fun _ h9 => h9) rfl dX1_shift_119 ?_
                refine lv_iload_n hx hb dX1_shift_122 rfl (lv_at hl 3 rfl) ?_
                refine m_zald (n := 64) (f := bl) hx hb hK (hS.w.get 1 (by decide)) (by omega) (by decide) dX1_shift_123 ?_
                refine mc_i0 (va_runV (As := [.int (nI k), .ref (ad 4), .int (nI (bl i))]) (rest := []) ⟨hx, hb, hml, hown, hts⟩ (c_X1_store l G b0 Hc hS.rf hI k (by omega) (hS.w.get 4 (by decide)) (by decide) (by decide) hl3 (hI i (by omega)).2.1) (cwV 3 hts gX1_shift_X1_store rfl rfl rfl (by decide +kernel) ⟨Nat.le_of_ble_eq_true rfl, Nat.le_of_ble_eq_true rfl⟩) (mp_V hK hS.w.ob rfl) rfl rfl hl.1 rfl (lv_room (Nat.le_of_ble_eq_true rfl)) dX1_shift_124 ⟨Nat.le_of_ble_eq_true rfl, Nat.le_of_ble_eq_true rfl⟩) hLc (fun r H1 locs hP hLc => ?_)
                exact m_iret hx hb hr hlocks hLc dX1_shift_127 (Or.inl ⟨k, i, n, by omega, by omega, by omega, rfl, rfl, rfl, (KX.trans hS hP).val (by rw [if_neg (by omega), hv3]; unfold valX; rw [hb1]; exact shr_2 (Nat.pow_pos (by decide)) (fun e => Nat.not_le.mpr c102 ((tz_dvd htz n).mpr e))) (fun _ _ => rfl)⟩)
          · skip
            refine lv_aload hx hb dX1_shift_40 (lv_at hl 0 rfl) ?_
            refine mc_i0 (va_runS (As := [.ref (ad (i + 7))]) (rest := []) ⟨hx, hb, hml, hown, hts⟩ (c_X0_bitLength l G b0 H (hS.w.get (i + 7) (by omega)) (by decide) (hI i (by omega)).1) (va_cwS 1 hts gX1_shift_X0_bitLength rfl rfl rfl (by decide +kernel) ⟨Nat.le_of_ble_eq_true rfl, Nat.le_of_ble_eq_true rfl⟩) (mp_S hK) rfl rfl hl.1 rfl (lv_room (Nat.le_of_ble_eq_true rfl)) dX1_shift_42 ⟨Nat.le_of_ble_eq_true rfl, Nat.le_of_ble_eq_true rfl⟩) hLc (fun r H1 locs hP hLc => ?_)
            obtain ⟨⟨b, rfl, hb3, hbl⟩, rfl⟩ := hP
            refine lv_istore (lv' := [(6, .int (nI b)), (5, .ref (ad (i + 7))), (0, .ref o), (1, .int (nI k)), (2, .int (nI i)), (3, .int (nI n)), (4, .int (nI g))]) hx hb dX1_shift_45 hl (by decide) rfl (fun ls hl => ?_)
            refine lv_iload hx hb dX1_shift_47 (lv_at hl 0 rfl) ?_
            refine lv_if_le (tgt := 64) hx hb dX1_shift_49 (by decide) (fun c49 => ?_) (fun c49 => ?_)
            · skip
              have c49 : b = 0 := if0 (by omega) c49
              refine lv_aload hx hb dX1_shift_64 (lv_at hl 1 rfl) ?_
              refine lv_iload_n hx hb dX1_shift_66 rfl (lv_at hl 5 rfl) ?_
              refine lv_aload_n hx hb dX1_shift_67 rfl (lv_at hl 2 rfl) ?_
              refine va_get (D := G.1) (ci := 0) (v := .ref (ad 4)) (C := RX1) (T := TX1) (N := 9) hx hb hts hwsX1_shift hown hK hS.w.ob 0 rfl rfl 6 (by decide) (hts (.fieldLink RX1 32 "ExactNumbers" "first" "[J") (by decide +kernel)) (fun _ h9 => h9) rfl dX1_shift_68 ?_
              refine mc_v0 (va_runS (As := [.ref (ad (i + 7)), .int (nI n), .ref (ad 4)]) (rest := []) ⟨hx, hb, hml, hown, hts⟩ (c_X0_moveUp l G b0 H (hS.w.get (i + 7) (by omega)) (hS.w.get 4 (by decide)) (by decide) (by decide) (by omega) (hI i (by omega)).1 (hS.w.ne (by omega) (by decide) (by omega)) (hS.w.b 4 (by decide))) (va_cwS 3 hts gX1_shift_X0_moveUp rfl rfl rfl (by decide +kernel) ⟨Nat.le_of_ble_eq_true rfl, Nat.le_of_ble_eq_true rfl⟩) (mp_S hK) rfl rfl hl.1 rfl (lv_room (Nat.le_of_ble_eq_true rfl)) dX1_shift_71 ⟨Nat.le_of_ble_eq_true rfl, Nat.le_of_ble_eq_true rfl⟩) hLc (fun H1 locs hP hLc => ?_)
              obtain ⟨g2, hg2, rfl⟩ := hP
              have hl2 := lim_digits hg2
              have hv2 := up_v hg2 (bl_small hbl (by omega))
              have hS := hS.p_f1 g2
              generalize hput H (ad 4) (aJ G 17 g2) = Hc at hS ⊢
              refine lv_goto (tgt := 112) hx hb dX1_shift_74 (by decide) ?_
              refine lv_aload_n hx hb dX1_shift_112 rfl (lv_at hl 2 rfl) ?_
              refine lv_iload_n hx hb dX1_shift_113 rfl (lv_at hl 3 rfl) ?_
              refine lv_aload_n hx hb dX1_shift_114 rfl (lv_at hl 2 rfl) ?_
              refine va_get (D := G.1) (ci := 0) (v := .ref (ad 4)) (C := RX1) (T := TX1) (N := 9) hx hb hts hwsX1_shift hown hK hS.w.ob 0 rfl rfl 6 (by decide) (hts (.fieldLink RX1 32 "ExactNumbers" "first" "[J") (by decide +kernel)) (fun _ h9 => h9) rfl dX1_shift_115 ?_
              refine lv_aload_n hx hb dX1_shift_118 rfl (lv_at hl 2 rfl) ?_
              refine va_get (D := G.1) (ci := 0) (v := .ref (ad 1)) (C := RX1) (T := TX1) (N := 9) hx hb hts hwsX1_shift hown hK hS.w.ob 0 rfl rfl 1 (by decide) (hts (.fieldLink RX1 14 "ExactNumbers" "below" "[Z") (by decide +kernel)) (fun _ h9 => h9) rfl dX1_shift_119 ?_
              refine lv_iload_n hx hb dX1_shift_122 rfl (lv_at hl 4 rfl) ?_
              refine m_zald (n := 64) (f := bl) hx hb hK (hS.w.get 1 (by decide)) (by omega) (by decide) dX1_shift_123 ?_
              refine mc_i0 (va_runV (As := [.int (nI k), .ref (ad 4), .int (nI (bl i))]) (rest := []) ⟨hx, hb, hml, hown, hts⟩ (c_X1_store l G b0 Hc hS.rf hI k (by omega) (hS.w.get 4 (by decide)) (by decide) (by decide) hl2 (hI i (by omega)).2.1) (cwV 3 hts gX1_shift_X1_store rfl rfl rfl (by decide +kernel) ⟨Nat.le_of_ble_eq_true rfl, Nat.le_of_ble_eq_true rfl⟩) (mp_V hK hS.w.ob rfl) rfl rfl hl.1 rfl (lv_room (Nat.le_of_ble_eq_true rfl)) dX1_shift_124 ⟨Nat.le_of_ble_eq_true rfl, Nat.le_of_ble_eq_true rfl⟩) hLc (fun r H1 locs hP hLc => ?_)
              exact m_iret hx hb hr hlocks hLc dX1_shift_127 (Or.inl ⟨k, i, n, by omega, by omega, by omega, rfl, rfl, rfl, (KX.trans hS hP).val (by rw [if_pos (by omega), hv2, sg_mul]; rfl) (fun _ _ => rfl)⟩)
            · skip
              have c49 : b ≠ 0 := ifn0 c49
              refine lv_iload hx hb dX1_shift_52 (lv_at hl 0 rfl) ?_
              refine lv_iload_n hx hb dX1_shift_54 rfl (lv_at hl 5 rfl) ?_
              refine m_iadd (a := b) (b := n) hx hb dX1_shift_55 ?_
              refine lv_sipush (v := nI 512) hx hb dX1_shift_56 (by decide) ?_
              refine m_icmp_le (tgt := 64) hx hb (by omega) (by omega) dX1_shift_59 (by decide) (fun c59 => ?_) (fun c59 => ?_)
              · skip
                refine lv_aload hx hb dX1_shift_64 (lv_at hl 1 rfl) ?_
                refine lv_iload_n hx hb dX1_shift_66 rfl (lv_at hl 5 rfl) ?_
                refine lv_aload_n hx hb dX1_shift_67 rfl (lv_at hl 2 rfl) ?_
                refine va_get (D := G.1) (ci := 0) (v := .ref (ad 4)) (C := RX1) (T := TX1) (N := 9) hx hb hts hwsX1_shift hown hK hS.w.ob 0 rfl rfl 6 (by decide) (hts (.fieldLink RX1 32 "ExactNumbers" "first" "[J") (by decide +kernel)) (fun _ h9 => h9) rfl dX1_shift_68 ?_
                refine mc_v0 (va_runS (As := [.ref (ad (i + 7)), .int (nI n), .ref (ad 4)]) (rest := []) ⟨hx, hb, hml, hown, hts⟩ (c_X0_moveUp l G b0 H (hS.w.get (i + 7) (by omega)) (hS.w.get 4 (by decide)) (by decide) (by decide) (by omega) (hI i (by omega)).1 (hS.w.ne (by omega) (by decide) (by omega)) (hS.w.b 4 (by decide))) (va_cwS 3 hts gX1_shift_X0_moveUp rfl rfl rfl (by decide +kernel) ⟨Nat.le_of_ble_eq_true rfl, Nat.le_of_ble_eq_true rfl⟩) (mp_S hK) rfl rfl hl.1 rfl (lv_room (Nat.le_of_ble_eq_true rfl)) dX1_shift_71 ⟨Nat.le_of_ble_eq_true rfl, Nat.le_of_ble_eq_true rfl⟩) hLc (fun H1 locs hP hLc => ?_)
                obtain ⟨g2, hg2, rfl⟩ := hP
                have hl2 := lim_digits hg2
                have hv2 := up_v hg2 (bl_small hbl (by omega))
                have hS := hS.p_f1 g2
                generalize hput H (ad 4) (aJ G 17 g2) = Hc at hS ⊢
                refine lv_goto (tgt := 112) hx hb dX1_shift_74 (by decide) ?_
                refine lv_aload_n hx hb dX1_shift_112 rfl (lv_at hl 2 rfl) ?_
                refine lv_iload_n hx hb dX1_shift_113 rfl (lv_at hl 3 rfl) ?_
                refine lv_aload_n hx hb dX1_shift_114 rfl (lv_at hl 2 rfl) ?_
                refine va_get (D := G.1) (ci := 0) (v := .ref (ad 4)) (C := RX1) (T := TX1) (N := 9) hx hb hts hwsX1_shift hown hK hS.w.ob 0 rfl rfl 6 (by decide) (hts (.fieldLink RX1 32 "ExactNumbers" "first" "[J") (by decide +kernel)) (fun _ h9 => h9) rfl dX1_shift_115 ?_
                refine lv_aload_n hx hb dX1_shift_118 rfl (lv_at hl 2 rfl) ?_
                refine va_get (D := G.1) (ci := 0) (v := .ref (ad 1)) (C := RX1) (T := TX1) (N := 9) hx hb hts hwsX1_shift hown hK hS.w.ob 0 rfl rfl 1 (by decide) (hts (.fieldLink RX1 14 "ExactNumbers" "below" "[Z") (by decide +kernel)) (fun _ h9 => h9) rfl dX1_shift_119 ?_
                refine lv_iload_n hx hb dX1_shift_122 rfl (lv_at hl 4 rfl) ?_
                refine m_zald (n := 64) (f := bl) hx hb hK (hS.w.get 1 (by decide)) (by omega) (by decide) dX1_shift_123 ?_
                refine mc_i0 (va_runV (As := [.int (nI k), .ref (ad 4), .int (nI (bl i))]) (rest := []) ⟨hx, hb, hml, hown, hts⟩ (c_X1_store l G b0 Hc hS.rf hI k (by omega) (hS.w.get 4 (by decide)) (by decide) (by decide) hl2 (hI i (by omega)).2.1) (cwV 3 hts gX1_shift_X1_store rfl rfl rfl (by decide +kernel) ⟨Nat.le_of_ble_eq_true rfl, Nat.le_of_ble_eq_true rfl⟩) (mp_V hK hS.w.ob rfl) rfl rfl hl.1 rfl (lv_room (Nat.le_of_ble_eq_true rfl)) dX1_shift_124 ⟨Nat.le_of_ble_eq_true rfl, Nat.le_of_ble_eq_true rfl⟩) hLc (fun r H1 locs hP hLc => ?_)
                exact m_iret hx hb hr hlocks hLc dX1_shift_127 (Or.inl ⟨k, i, n, by omega, by omega, by omega, rfl, rfl, rfl, (KX.trans hS hP).val (by rw [if_pos (by omega), hv2, sg_mul]; rfl) (fun _ _ => rfl)⟩)
              · skip
                refine lv_iconst (v := nI 1) hx hb dX1_shift_62 (by decide) ?_
                exact m_iret hx hb hr hlocks hLc dX1_shift_63 (Or.inl ⟨k, i, n, by omega, by omega, by omega, rfl, rfl, rfl, Or.inr ⟨by rw [if_pos (by omega)]; unfold valX; rw [← sg_mul, sg_abs]; exact bl_great hbl c49 (by omega), rfl, hS.r hI⟩⟩)
        · skip
          have hnz : ∀ n2, n2 ≤ 1000 → nI n ≠ nI n2 := fun n2 hn e => by have := (nI_eq hn31 (by omega)).mp e; omega
          refine lv_iconst (v := nI 3) hx hb dX1_shift_25 (by decide) ?_
          exact m_iret hx hb hr hlocks hLc dX1_shift_26 (Or.inr ⟨by first | exact Or.inl hno | exact Or.inr (Or.inl hno) | exact Or.inr (Or.inr hnz), rfl, hS.r hI⟩)
    · skip
      refine m_if_eq (tgt := 25) hx hb (by decide) dX1_shift_11 (by decide) (fun _ => ?_) (fun h => absurd h (by decide))
      refine lv_iconst (v := nI 3) hx hb dX1_shift_25 (by decide) ?_
      exact m_iret hx hb hr hlocks hLc dX1_shift_26 (Or.inr ⟨by first | exact Or.inl hno | exact Or.inr (Or.inl hno) | exact Or.inr (Or.inr hnz), rfl, hS.r hI⟩)
  · skip
    refine m_if_eq (tgt := 25) hx hb (by decide) dX1_shift_4 (by decide) (fun _ => ?_) (fun h => absurd h (by decide))
    refine lv_iconst (v := nI 3) hx hb dX1_shift_25 (by decide) ?_
    exact m_iret hx hb hr hlocks hLc dX1_shift_26 (Or.inr ⟨by first | exact Or.inl hno | exact Or.inr (Or.inl hno) | exact Or.inr (Or.inr hnz), rfl, hS.r hI⟩)

set_option maxRecDepth 100000 in
set_option maxHeartbeats 4000000 in
theorem c_X1_fits (l : Launch) (G : gG) (b0 : Nat) (H : Heap) {o : Nat} {ad : Nat → Nat} {sz : Nat → Nat → Nat} {bl : Nat → Nat} {dv : Nat → Nat} {dc : Nat} {wr : Nat → Nat} {wf : Nat} {f1 : Nat → Nat} {f2 : Nat → Nat} {fw : Nat → Nat} (hS : SX G b0 o ad H sz bl dv dc wr wf f1 f2 fw H) (hI : IV sz bl) (x y : Int32) {g : Nat} (hg1 : g ≤ 1) : Met l yX1_fits wsX1_fits ({ frames := 3, cells := 0, slots := 0, locals := 64 } : Room) (PcH G H [.ref o, .int x, .int y, .int (nI g)]) (QcI (fun r H1 => ((∃ i w, i ≤ 63 ∧ 1 ≤ w ∧ w ≤ 64 ∧ x = nI i ∧ y = nI w ∧ ((r = nI 1 ∧ fitsI (valX sz bl i) w g) ∨ (r = nI 0 ∧ ¬ fitsI (valX sz bl i) w g))) ∨ ((noslot x ∨ (∀ w, 1 ≤ w → w ≤ 64 → w < 2 ^ 31 → y ≠ nI w)) ∧ r = nI 0)) ∧ H = H1)) 0 0 (fre b0) := by
  refine m_enter (cc := cX1_fits) (maxL := 6) (ret := (some .boolean)) (own := RX1) (by decide) rfl rfl (Nat.le_of_ble_eq_true rfl) ?_
  intro p e s m below meth c ls hF hnm hH hl
  have hl : lv_has ls 6 [(0, .ref o), (1, .int x), (2, .int y), (3, .int (nI g))] := hl
  have hLc : lcs b0 [] := lcs_nil b0
  obtain ⟨hx, hb, hr, hml, hown, hts, hlocks, hK⟩ := id hF
  refine lv_iload_n hx hb dX1_fits_0 rfl (lv_at hl 1 rfl) ?_
  refine mc_i0 (va_runS (As := [.int x]) (rest := []) ⟨hx, hb, hml, hown, hts⟩ (c_X1_isSlot l G b0 H (x)) (va_cwS 1 hts gX1_fits_X1_isSlot rfl rfl rfl (by decide +kernel) ⟨Nat.le_of_ble_eq_true rfl, Nat.le_of_ble_eq_true rfl⟩) (mp_S hK) rfl rfl hl.1 rfl (lv_room (Nat.le_of_ble_eq_true rfl)) dX1_fits_1 ⟨Nat.le_of_ble_eq_true rfl, Nat.le_of_ble_eq_true rfl⟩) hLc (fun r H1 locs hP hLc => ?_)
  obtain ⟨hP, rfl⟩ := hP
  rcases hP with ⟨i, _h0, hi, rfl, rfl⟩ | ⟨hno, rfl⟩
  · skip
    refine m_if_eq (tgt := 14) hx hb (by decide) dX1_fits_4 (by decide) (fun h => absurd h (by decide)) (fun _ => ?_)
    refine lv_iload_n hx hb dX1_fits_7 rfl (lv_at hl 2 rfl) ?_
    refine mc_i0 (va_runS (As := [.int y]) (rest := []) ⟨hx, hb, hml, hown, hts⟩ (c_X1_isWordLength l G b0 H (y)) (va_cwS 1 hts gX1_fits_X1_isWordLength rfl rfl rfl (by decide +kernel) ⟨Nat.le_of_ble_eq_true rfl, Nat.le_of_ble_eq_true rfl⟩) (mp_S hK) rfl rfl hl.1 rfl (lv_room (Nat.le_of_ble_eq_true rfl)) dX1_fits_8 ⟨Nat.le_of_ble_eq_true rfl, Nat.le_of_ble_eq_true rfl⟩) hLc (fun r H1 locs hP hLc => ?_)
    obtain ⟨hP, rfl⟩ := hP
    rcases hP with ⟨w, hw1, hw2, rfl, rfl⟩ | ⟨hno, rfl⟩
    · skip
      refine m_if_ne (tgt := 16) hx hb (by decide) dX1_fits_11 (by decide) (fun _ => ?_) (fun h => absurd h (by decide))
      refine lv_aload_n hx hb dX1_fits_16 rfl (lv_at hl 0 rfl) ?_
      refine va_get (D := G.1) (ci := 0) (v := .ref (ad 0)) (C := RX1) (T := TX1) (N := 9) hx hb hts hwsX1_fits hown hK hS.w.ob 0 rfl rfl 0 (by decide) (hts (.fieldLink RX1 11 "ExactNumbers" "sizes" "[[J") (by decide +kernel)) (fun _ h9 => h9) rfl dX1_fits_17 ?_
      refine lv_iload_n hx hb dX1_fits_20 rfl (lv_at hl 1 rfl) ?_
      refine m_aald (n := 64) (f := (fun i => ad (i + 7))) hx hb hK (hS.w.get 0 (by decide)) (by omega) (by decide) dX1_fits_21 ?_
      have hb1 := (hI i (by omega)).2.1
      have hnz := (hI i (by omega)).2.2
      refine mc_i0 (va_runS (As := [.ref (ad (i + 7))]) (rest := []) ⟨hx, hb, hml, hown, hts⟩ (c_X0_bitLength l G b0 H (hS.w.get (i + 7) (by omega)) (by decide) (hI i (by omega)).1) (va_cwS 1 hts gX1_fits_X0_bitLength rfl rfl rfl (by decide +kernel) ⟨Nat.le_of_ble_eq_true rfl, Nat.le_of_ble_eq_true rfl⟩) (mp_S hK) rfl rfl hl.1 rfl (lv_room (Nat.le_of_ble_eq_true rfl)) dX1_fits_22 ⟨Nat.le_of_ble_eq_true rfl, Nat.le_of_ble_eq_true rfl⟩) hLc (fun r H1 locs hP hLc => ?_)
      obtain ⟨⟨b, rfl, hb3, hbl⟩, rfl⟩ := hP
      refine lv_istore (lv' := [(4, .int (nI b)), (0, .ref o), (1, .int (nI i)), (2, .int (nI w)), (3, .int (nI g))]) hx hb dX1_fits_25 hl (by decide) rfl (fun ls hl => ?_)
      refine lv_iload_n hx hb dX1_fits_27 rfl (lv_at hl 4 rfl) ?_
      refine m_if_ne (tgt := 52) hx hb (by omega) dX1_fits_28 (by decide) (fun c28 => ?_) (fun c28 => ?_)
      · skip
        refine lv_aload_n hx hb dX1_fits_52 rfl (lv_at hl 1 rfl) ?_
        refine va_get (D := G.1) (ci := 0) (v := .ref (ad 1)) (C := RX1) (T := TX1) (N := 9) hx hb hts hwsX1_fits hown hK hS.w.ob 0 rfl rfl 1 (by decide) (hts (.fieldLink RX1 14 "ExactNumbers" "below" "[Z") (by decide +kernel)) (fun _ h9 => h9) rfl dX1_fits_53 ?_
        refine lv_iload_n hx hb dX1_fits_56 rfl (lv_at hl 2 rfl) ?_
        refine m_zald (n := 64) (f := bl) hx hb hK (hS.w.get 1 (by decide)) (by omega) (by decide) dX1_fits_57 ?_
        refine m_if_eq (tgt := 86) hx hb (by omega) dX1_fits_58 (by decide) (fun c58 => ?_) (fun c58 => ?_)
        · skip
          refine lv_iconst (v := nI 0) hx hb dX1_fits_86 (by decide) ?_
          refine lv_istore (lv' := [(5, .int (nI 0)), (4, .int (nI b)), (0, .ref o), (1, .int (nI i)), (2, .int (nI w)), (3, .int (nI g))]) hx hb dX1_fits_87 hl (by decide) rfl (fun ls hl => ?_)
          refine lv_iload hx hb dX1_fits_89 (lv_at hl 1 rfl) ?_
          refine lv_iload_n hx hb dX1_fits_91 rfl (lv_at hl 4 rfl) ?_
          refine m_icmp_lt (tgt := 100) hx hb (by omega) (by omega) dX1_fits_92 (by decide) (fun c92 => ?_) (fun c92 => ?_)
          · skip
            refine lv_iconst (v := nI 1) hx hb dX1_fits_100 (by decide) ?_
            refine lv_goto (tgt := 105) hx hb dX1_fits_101 (by decide) ?_
            exact m_zret hx hb hr hlocks hLc (by decide) dX1_fits_105 (⟨Or.inl ⟨i, w, hi, hw1, hw2, rfl, rfl, Or.inl ⟨rfl, fit_s1 (by omega) (by omega) hw1 (Or.inl ((bl_le hbl (w - 1)).mp (by omega)))⟩⟩, rfl⟩)
          · skip
            refine lv_iload hx hb dX1_fits_95 (lv_at hl 0 rfl) ?_
            refine m_if_eq (tgt := 104) hx hb (by decide) dX1_fits_97 (by decide) (fun _ => ?_) (fun h => absurd h (by decide))
            refine lv_iconst (v := nI 0) hx hb dX1_fits_104 (by decide) ?_
            exact m_zret hx hb hr hlocks hLc (by decide) dX1_fits_105 (⟨Or.inl ⟨i, w, hi, hw1, hw2, rfl, rfl, Or.inr ⟨rfl, fit_s0 (by omega) (by omega) hw1 (fun e => Nat.not_le.mpr (show w - 1 < b by omega) ((bl_le hbl (w - 1)).mpr e)) (Or.inl c58)⟩⟩, rfl⟩)
        · skip
          refine lv_iload hx hb dX1_fits_61 (lv_at hl 0 rfl) ?_
          refine lv_iload_n hx hb dX1_fits_63 rfl (lv_at hl 3 rfl) ?_
          refine m_icmp_ne (tgt := 86) hx hb (by omega) (by omega) dX1_fits_64 (by decide) (fun c64 => ?_) (fun c64 => ?_)
          · skip
            refine lv_iconst (v := nI 0) hx hb dX1_fits_86 (by decide) ?_
            refine lv_istore (lv' := [(5, .int (nI 0)), (4, .int (nI b)), (0, .ref o), (1, .int (nI i)), (2, .int (nI w)), (3, .int (nI g))]) hx hb dX1_fits_87 hl (by decide) rfl (fun ls hl => ?_)
            refine lv_iload hx hb dX1_fits_89 (lv_at hl 1 rfl) ?_
            refine lv_iload_n hx hb dX1_fits_91 rfl (lv_at hl 4 rfl) ?_
            refine m_icmp_lt (tgt := 100) hx hb (by omega) (by omega) dX1_fits_92 (by decide) (fun c92 => ?_) (fun c92 => ?_)
            · skip
              refine lv_iconst (v := nI 1) hx hb dX1_fits_100 (by decide) ?_
              refine lv_goto (tgt := 105) hx hb dX1_fits_101 (by decide) ?_
              exact m_zret hx hb hr hlocks hLc (by decide) dX1_fits_105 (⟨Or.inl ⟨i, w, hi, hw1, hw2, rfl, rfl, Or.inl ⟨rfl, fit_s1 (by omega) (by omega) hw1 (Or.inl ((bl_le hbl (w - 1)).mp (by omega)))⟩⟩, rfl⟩)
            · skip
              refine lv_iload hx hb dX1_fits_95 (lv_at hl 0 rfl) ?_
              refine m_if_eq (tgt := 104) hx hb (by decide) dX1_fits_97 (by decide) (fun _ => ?_) (fun h => absurd h (by decide))
              refine lv_iconst (v := nI 0) hx hb dX1_fits_104 (by decide) ?_
              exact m_zret hx hb hr hlocks hLc (by decide) dX1_fits_105 (⟨Or.inl ⟨i, w, hi, hw1, hw2, rfl, rfl, Or.inr ⟨rfl, fit_s0 (by omega) (by omega) hw1 (fun e => Nat.not_le.mpr (show w - 1 < b by omega) ((bl_le hbl (w - 1)).mpr e)) (Or.inr (fun e => c64 (bl_uq hbl ((least_eq hw1).mp e).1)))⟩⟩, rfl⟩)
          · skip
            refine lv_aload_n hx hb dX1_fits_67 rfl (lv_at hl 1 rfl) ?_
            refine va_get (D := G.1) (ci := 0) (v := .ref (ad 0)) (C := RX1) (T := TX1) (N := 9) hx hb hts hwsX1_fits hown hK hS.w.ob 0 rfl rfl 0 (by decide) (hts (.fieldLink RX1 11 "ExactNumbers" "sizes" "[[J") (by decide +kernel)) (fun _ h9 => h9) rfl dX1_fits_68 ?_
            refine lv_iload_n hx hb dX1_fits_71 rfl (lv_at hl 2 rfl) ?_
            refine m_aald (n := 64) (f := (fun i => ad (i + 7))) hx hb hK (hS.w.get 0 (by decide)) (by omega) (by decide) dX1_fits_72 ?_
            refine mc_i0 (va_runS (As := [.ref (ad (i + 7))]) (rest := []) ⟨hx, hb, hml, hown, hts⟩ (c_X0_lowZeros l G b0 H (hS.w.get (i + 7) (by omega)) (by decide) (hI i (by omega)).1) (va_cwS 1 hts gX1_fits_X0_lowZeros rfl rfl rfl (by decide +kernel) ⟨Nat.le_of_ble_eq_true rfl, Nat.le_of_ble_eq_true rfl⟩) (mp_S hK) rfl rfl hl.1 rfl (lv_room (Nat.le_of_ble_eq_true rfl)) dX1_fits_73 ⟨Nat.le_of_ble_eq_true rfl, Nat.le_of_ble_eq_true rfl⟩) hLc (fun r H1 locs hP hLc => ?_)
            obtain ⟨⟨t, rfl, ht3, htz⟩, rfl⟩ := hP
            have hb1 : bl i = 1 := by omega
            have htz : isTZ t (vl (sz i) 16) := htz.resolve_left (fun e => (hI i (by omega)).2.2 hb1 e.1)
            refine lv_iload_n hx hb dX1_fits_76 rfl (lv_at hl 3 rfl) ?_
            refine lv_iconst (v := nI 1) hx hb dX1_fits_77 (by decide) ?_
            refine m_isub (a := w) (b := 1) hx hb (by omega) dX1_fits_78 ?_
            refine m_icmp_ne (tgt := 86) hx hb (by omega) (by omega) dX1_fits_79 (by decide) (fun c79 => ?_) (fun c79 => ?_)
            · skip
              refine lv_iconst (v := nI 0) hx hb dX1_fits_86 (by decide) ?_
              refine lv_istore (lv' := [(5, .int (nI 0)), (4, .int (nI b)), (0, .ref o), (1, .int (nI i)), (2, .int (nI w)), (3, .int (nI g))]) hx hb dX1_fits_87 hl (by decide) rfl (fun ls hl => ?_)
              refine lv_iload hx hb dX1_fits_89 (lv_at hl 1 rfl) ?_
              refine lv_iload_n hx hb dX1_fits_91 rfl (lv_at hl 4 rfl) ?_
              refine m_icmp_lt (tgt := 100) hx hb (by omega) (by omega) dX1_fits_92 (by decide) (fun c92 => ?_) (fun c92 => ?_)
              · skip
                refine lv_iconst (v := nI 1) hx hb dX1_fits_100 (by decide) ?_
                refine lv_goto (tgt := 105) hx hb dX1_fits_101 (by decide) ?_
                exact m_zret hx hb hr hlocks hLc (by decide) dX1_fits_105 (⟨Or.inl ⟨i, w, hi, hw1, hw2, rfl, rfl, Or.inl ⟨rfl, fit_s1 (by omega) (by omega) hw1 (Or.inl ((bl_le hbl (w - 1)).mp (by omega)))⟩⟩, rfl⟩)
              · skip
                refine lv_iload hx hb dX1_fits_95 (lv_at hl 0 rfl) ?_
                refine m_if_eq (tgt := 104) hx hb (by decide) dX1_fits_97 (by decide) (fun _ => ?_) (fun h => absurd h (by decide))
                refine lv_iconst (v := nI 0) hx hb dX1_fits_104 (by decide) ?_
                exact m_zret hx hb hr hlocks hLc (by decide) dX1_fits_105 (⟨Or.inl ⟨i, w, hi, hw1, hw2, rfl, rfl, Or.inr ⟨rfl, fit_s0 (by omega) (by omega) hw1 (fun e => Nat.not_le.mpr (show w - 1 < b by omega) ((bl_le hbl (w - 1)).mpr e)) (Or.inr (fun e => c79 (tz_uq htz ((least_eq hw1).mp e).2)))⟩⟩, rfl⟩)
            · skip
              refine lv_iconst (v := nI 1) hx hb dX1_fits_82 (by decide) ?_
              refine lv_goto (tgt := 87) hx hb dX1_fits_83 (by decide) ?_
              refine lv_istore (lv' := [(5, .int (nI 1)), (4, .int (nI b)), (0, .ref o), (1, .int (nI i)), (2, .int (nI w)), (3, .int (nI g))]) hx hb dX1_fits_87 hl (by decide) rfl (fun ls hl => ?_)
              refine lv_iload hx hb dX1_fits_89 (lv_at hl 1 rfl) ?_
              refine lv_iload_n hx hb dX1_fits_91 rfl (lv_at hl 4 rfl) ?_
              refine m_icmp_lt (tgt := 100) hx hb (by omega) (by omega) dX1_fits_92 (by decide) (fun c92 => ?_) (fun c92 => ?_)
              · skip
                refine lv_iconst (v := nI 1) hx hb dX1_fits_100 (by decide) ?_
                refine lv_goto (tgt := 105) hx hb dX1_fits_101 (by decide) ?_
                exact m_zret hx hb hr hlocks hLc (by decide) dX1_fits_105 (⟨Or.inl ⟨i, w, hi, hw1, hw2, rfl, rfl, Or.inl ⟨rfl, fit_s1 (by omega) (by omega) hw1 (Or.inl ((bl_le hbl (w - 1)).mp (by omega)))⟩⟩, rfl⟩)
              · skip
                refine lv_iload hx hb dX1_fits_95 (lv_at hl 0 rfl) ?_
                refine m_if_eq (tgt := 104) hx hb (by decide) dX1_fits_97 (by decide) (fun h => absurd h (by decide)) (fun _ => ?_)
                refine lv_iconst (v := nI 1) hx hb dX1_fits_100 (by decide) ?_
                refine lv_goto (tgt := 105) hx hb dX1_fits_101 (by decide) ?_
                exact m_zret hx hb hr hlocks hLc (by decide) dX1_fits_105 (⟨Or.inl ⟨i, w, hi, hw1, hw2, rfl, rfl, Or.inl ⟨rfl, fit_s1 (by omega) (by omega) hw1 (Or.inr ⟨by omega, (least_eq hw1).mpr ⟨c64 ▸ hbl, c79 ▸ htz⟩⟩)⟩⟩, rfl⟩)
      · skip
        refine lv_aload_n hx hb dX1_fits_31 rfl (lv_at hl 1 rfl) ?_
        refine va_get (D := G.1) (ci := 0) (v := .ref (ad 1)) (C := RX1) (T := TX1) (N := 9) hx hb hts hwsX1_fits hown hK hS.w.ob 0 rfl rfl 1 (by decide) (hts (.fieldLink RX1 14 "ExactNumbers" "below" "[Z") (by decide +kernel)) (fun _ h9 => h9) rfl dX1_fits_32 ?_
        refine lv_iload_n hx hb dX1_fits_35 rfl (lv_at hl 2 rfl) ?_
        refine m_zald (n := 64) (f := bl) hx hb hK (hS.w.get 1 (by decide)) (by omega) (by decide) dX1_fits_36 ?_
        refine m_if_ne (tgt := 50) hx hb (by omega) dX1_fits_37 (by decide) (fun c37 => ?_) (fun c37 => ?_)
        · skip
          refine lv_iconst (v := nI 0) hx hb dX1_fits_50 (by decide) ?_
          exact m_zret hx hb hr hlocks hLc (by decide) dX1_fits_51 (⟨Or.inl ⟨i, w, hi, hw1, hw2, rfl, rfl, Or.inr ⟨rfl, fit_u0 (by omega) (by omega) hnz (Or.inl c37)⟩⟩, rfl⟩)
        · skip
          refine lv_iload hx hb dX1_fits_40 (lv_at hl 0 rfl) ?_
          refine lv_iload_n hx hb dX1_fits_42 rfl (lv_at hl 3 rfl) ?_
          refine m_icmp_gt (tgt := 50) hx hb (by omega) (by omega) dX1_fits_43 (by decide) (fun c43 => ?_) (fun c43 => ?_)
          · skip
            refine lv_iconst (v := nI 0) hx hb dX1_fits_50 (by decide) ?_
            exact m_zret hx hb hr hlocks hLc (by decide) dX1_fits_51 (⟨Or.inl ⟨i, w, hi, hw1, hw2, rfl, rfl, Or.inr ⟨rfl, fit_u0 (by omega) hb1 hnz (Or.inr (fun e => Nat.not_le.mpr c43 ((bl_le hbl w).mpr e)))⟩⟩, rfl⟩)
          · skip
            refine lv_iconst (v := nI 1) hx hb dX1_fits_46 (by decide) ?_
            refine lv_goto (tgt := 51) hx hb dX1_fits_47 (by decide) ?_
            exact m_zret hx hb hr hlocks hLc (by decide) dX1_fits_51 (⟨Or.inl ⟨i, w, hi, hw1, hw2, rfl, rfl, Or.inl ⟨rfl, fit_u1 (by omega) c37 ((bl_le hbl w).mp c43)⟩⟩, rfl⟩)
    · skip
      refine m_if_ne (tgt := 16) hx hb (by decide) dX1_fits_11 (by decide) (fun h => absurd h (by decide)) (fun _ => ?_)
      refine lv_iconst (v := nI 0) hx hb dX1_fits_14 (by decide) ?_
      exact m_zret hx hb hr hlocks hLc (by decide) dX1_fits_15 (⟨Or.inr ⟨by first | exact Or.inl hno | exact Or.inr hno, rfl⟩, rfl⟩)
  · skip
    refine m_if_eq (tgt := 14) hx hb (by decide) dX1_fits_4 (by decide) (fun _ => ?_) (fun h => absurd h (by decide))
    refine lv_iconst (v := nI 0) hx hb dX1_fits_14 (by decide) ?_
    exact m_zret hx hb hr hlocks hLc (by decide) dX1_fits_15 (⟨Or.inr ⟨by first | exact Or.inl hno | exact Or.inr hno, rfl⟩, rfl⟩)

set_option maxRecDepth 100000 in
set_option maxHeartbeats 4000000 in
theorem c_X1_cut (l : Launch) (G : gG) (b0 : Nat) (H : Heap) {o : Nat} {ad : Nat → Nat} {sz : Nat → Nat → Nat} {bl : Nat → Nat} {dv : Nat → Nat} {dc : Nat} {wr : Nat → Nat} {wf : Nat} {f1 : Nat → Nat} {f2 : Nat → Nat} {fw : Nat → Nat} (hS : SX G b0 o ad H sz bl dv dc wr wf f1 f2 fw H) (hI : IV sz bl) (x y : Int32) {g : Nat} (hg1 : g ≤ 1) : Met l yX1_cut wsX1_cut ({ frames := 1, cells := 0, slots := 0, locals := 20 } : Room) (PcH G H [.ref o, .int x, .int y, .int (nI g)]) (QcL (fun r H1 => ((∃ i w, i ≤ 63 ∧ 1 ≤ w ∧ w ≤ 64 ∧ x = nI i ∧ y = nI w ∧ r = lN (cutN (tcN 64 (valX sz bl i)) w g)) ∨ ((noslot x ∨ (∀ w, 1 ≤ w → w ≤ 64 → w < 2 ^ 31 → y ≠ nI w)) ∧ r = lN 0)) ∧ H = H1)) 0 0 (fre b0) := by
  refine m_enter (cc := cX1_cut) (maxL := 7) (ret := (some .long)) (own := RX1) (by decide) rfl rfl (Nat.le_of_ble_eq_true rfl) ?_
  intro p e s m below meth c ls hF hnm hH hl
  have hl : lv_has ls 7 [(0, .ref o), (1, .int x), (2, .int y), (3, .int (nI g))] := hl
  have hLc : lcs b0 [] := lcs_nil b0
  obtain ⟨hx, hb, hr, hml, hown, hts, hlocks, hK⟩ := id hF
  refine lv_iload_n hx hb dX1_cut_0 rfl (lv_at hl 1 rfl) ?_
  refine mc_i0 (va_runS (As := [.int x]) (rest := []) ⟨hx, hb, hml, hown, hts⟩ (c_X1_isSlot l G b0 H (x)) (va_cwS 1 hts gX1_cut_X1_isSlot rfl rfl rfl (by decide +kernel) ⟨Nat.le_of_ble_eq_true rfl, Nat.le_of_ble_eq_true rfl⟩) (mp_S hK) rfl rfl hl.1 rfl (lv_room (Nat.le_of_ble_eq_true rfl)) dX1_cut_1 ⟨Nat.le_of_ble_eq_true rfl, Nat.le_of_ble_eq_true rfl⟩) hLc (fun r H1 locs hP hLc => ?_)
  obtain ⟨hP, rfl⟩ := hP
  rcases hP with ⟨i, _h0, hi, rfl, rfl⟩ | ⟨hno, rfl⟩
  · skip
    refine m_if_eq (tgt := 14) hx hb (by decide) dX1_cut_4 (by decide) (fun h => absurd h (by decide)) (fun _ => ?_)
    refine lv_iload_n hx hb dX1_cut_7 rfl (lv_at hl 2 rfl) ?_
    refine mc_i0 (va_runS (As := [.int y]) (rest := []) ⟨hx, hb, hml, hown, hts⟩ (c_X1_isWordLength l G b0 H (y)) (va_cwS 1 hts gX1_cut_X1_isWordLength rfl rfl rfl (by decide +kernel) ⟨Nat.le_of_ble_eq_true rfl, Nat.le_of_ble_eq_true rfl⟩) (mp_S hK) rfl rfl hl.1 rfl (lv_room (Nat.le_of_ble_eq_true rfl)) dX1_cut_8 ⟨Nat.le_of_ble_eq_true rfl, Nat.le_of_ble_eq_true rfl⟩) hLc (fun r H1 locs hP hLc => ?_)
    obtain ⟨hP, rfl⟩ := hP
    rcases hP with ⟨w, hw1, hw2, rfl, rfl⟩ | ⟨hno, rfl⟩
    · skip
      refine m_if_ne (tgt := 16) hx hb (by decide) dX1_cut_11 (by decide) (fun _ => ?_) (fun h => absurd h (by decide))
      refine lv_aload_n hx hb dX1_cut_16 rfl (lv_at hl 0 rfl) ?_
      refine va_get (D := G.1) (ci := 0) (v := .ref (ad 0)) (C := RX1) (T := TX1) (N := 9) hx hb hts hwsX1_cut hown hK hS.w.ob 0 rfl rfl 0 (by decide) (hts (.fieldLink RX1 11 "ExactNumbers" "sizes" "[[J") (by decide +kernel)) (fun _ h9 => h9) rfl dX1_cut_17 ?_
      have hbb := (hI i (by omega)).2.1
      have hs0 := (hI i (by omega)).1 0 (by decide)
      have hs1 := (hI i (by omega)).1 1 (by decide)
      have hlow := low2 (hI i (by omega)).1
      refine lv_iload_n hx hb dX1_cut_20 rfl (lv_at hl 1 rfl) ?_
      refine m_aald (n := 64) (f := (fun i => ad (i + 7))) hx hb hK (hS.w.get 0 (by decide)) (by omega) (by decide) dX1_cut_21 ?_
      refine lv_iconst (v := nI 0) hx hb dX1_cut_22 (by decide) ?_
      refine m_lald (n := 16) (f := sz i) hx hb hK (hS.w.get (i + 7) (by omega)) (by omega) (by decide) dX1_cut_23 ?_
      refine lv_aload_n hx hb dX1_cut_24 rfl (lv_at hl 0 rfl) ?_
      refine va_get (D := G.1) (ci := 0) (v := .ref (ad 0)) (C := RX1) (T := TX1) (N := 9) hx hb hts hwsX1_cut hown hK hS.w.ob 0 rfl rfl 0 (by decide) (hts (.fieldLink RX1 11 "ExactNumbers" "sizes" "[[J") (by decide +kernel)) (fun _ h9 => h9) rfl dX1_cut_25 ?_
      refine lv_iload_n hx hb dX1_cut_28 rfl (lv_at hl 1 rfl) ?_
      refine m_aald (n := 64) (f := (fun i => ad (i + 7))) hx hb hK (hS.w.get 0 (by decide)) (by omega) (by decide) dX1_cut_29 ?_
      refine lv_iconst (v := nI 1) hx hb dX1_cut_30 (by decide) ?_
      refine m_lald (n := 16) (f := sz i) hx hb hK (hS.w.get (i + 7) (by omega)) (by omega) (by decide) dX1_cut_31 ?_
      refine lv_bipush (v := nI 32) hx hb dX1_cut_32 (by decide) ?_
      refine m_lshl32 hx hb dX1_cut_34 ?_
      refine m_lor hx hb (by omega) (by omega) dX1_cut_35 ?_
      rw [or_sum2 hs0, hlow]
      refine lv_lstore (lv' := [(4, .long (lN (vl (sz i) 16 % 18446744073709551616))), (0, .ref o), (1, .int (nI i)), (2, .int (nI w)), (3, .int (nI g))]) hx hb dX1_cut_36 hl (by decide) rfl (fun ls hl => ?_)
      refine lv_aload_n hx hb dX1_cut_38 rfl (lv_at hl 1 rfl) ?_
      refine va_get (D := G.1) (ci := 0) (v := .ref (ad 1)) (C := RX1) (T := TX1) (N := 9) hx hb hts hwsX1_cut hown hK hS.w.ob 0 rfl rfl 1 (by decide) (hts (.fieldLink RX1 14 "ExactNumbers" "below" "[Z") (by decide +kernel)) (fun _ h9 => h9) rfl dX1_cut_39 ?_
      refine lv_iload_n hx hb dX1_cut_42 rfl (lv_at hl 2 rfl) ?_
      refine m_zald (n := 64) (f := bl) hx hb hK (hS.w.get 1 (by decide)) (by omega) (by decide) dX1_cut_43 ?_
      refine m_if_eq (tgt := 52) hx hb (by omega) dX1_cut_44 (by decide) (fun c44 => ?_) (fun c44 => ?_)
      · skip
        refine lv_bipush (v := nI 64) hx hb dX1_cut_52 (by decide) ?_
        refine lv_iload_n hx hb dX1_cut_54 rfl (lv_at hl 3 rfl) ?_
        refine m_isub (a := 64) (b := w) hx hb (by omega) dX1_cut_55 ?_
        refine lv_istore (lv' := [(6, .int (nI (64 - w))), (4, .long (lN (vl (sz i) 16 % 18446744073709551616))), (0, .ref o), (1, .int (nI i)), (2, .int (nI w)), (3, .int (nI g))]) hx hb dX1_cut_56 hl (by decide) rfl (fun ls hl => ?_)
        refine lv_iload_n hx hb dX1_cut_58 rfl (lv_at hl 5 rfl) ?_
        refine m_if_eq (tgt := 73) hx hb (by omega) dX1_cut_59 (by decide) (fun c59 => ?_) (fun c59 => ?_)
        · skip
          have hge : g = 0 := c59
          refine lv_lload hx hb dX1_cut_73 (lv_at hl 1 rfl) ?_
          refine lv_iload hx hb dX1_cut_75 (lv_at hl 0 rfl) ?_
          refine m_lshl hx hb (by omega) dX1_cut_77 ?_
          rw [wb_mod ((vl (sz i) 16 % 18446744073709551616) * 2 ^ (64 - w))]
          refine lv_iload hx hb dX1_cut_78 (lv_at hl 0 rfl) ?_
          refine m_lushr hx hb (Nat.mod_lt _ (by decide)) (by omega) dX1_cut_80 ?_
          exact m_lret hx hb hr hlocks hLc dX1_cut_81 (⟨Or.inl ⟨i, w, hi, hw1, hw2, rfl, rfl, by rw [hge]; exact congrArg lN ((cut_u (t := vl (sz i) 16 % 18446744073709551616) (show 64 - w + w = 64 by omega)).trans (cutN_congr _ (by unfold valX; rw [c44, tc_0])))⟩, rfl⟩)
        · skip
          have hge : g = 1 := by omega
          refine lv_lload hx hb dX1_cut_62 (lv_at hl 1 rfl) ?_
          refine lv_iload hx hb dX1_cut_64 (lv_at hl 0 rfl) ?_
          refine m_lshl hx hb (by omega) dX1_cut_66 ?_
          rw [wb_mod ((vl (sz i) 16 % 18446744073709551616) * 2 ^ (64 - w))]
          refine lv_iload hx hb dX1_cut_67 (lv_at hl 0 rfl) ?_
          refine lv_lshr hx hb dX1_cut_69 (lshr_N (Nat.mod_lt _ (by decide)) (by omega)) ?_
          refine lv_goto (tgt := 81) hx hb dX1_cut_70 (by decide) ?_
          exact m_lret hx hb hr hlocks hLc dX1_cut_81 (⟨Or.inl ⟨i, w, hi, hw1, hw2, rfl, rfl, by rw [hge]; exact congrArg lN ((cut_s (t := vl (sz i) 16 % 18446744073709551616) (show 64 - w + w = 64 by omega) hw1).trans (cutN_congr _ (by unfold valX; rw [c44, tc_0])))⟩, rfl⟩)
      · skip
        have hb1 : bl i = 1 := by omega
        refine lv_lload hx hb dX1_cut_47 (lv_at hl 0 rfl) ?_
        refine lv_lneg hx hb dX1_cut_49 ?_
        rw [neg_lN (by omega)]
        refine lv_lstore (lv' := [(4, .long (lN (18446744073709551616 - vl (sz i) 16 % 18446744073709551616))), (0, .ref o), (1, .int (nI i)), (2, .int (nI w)), (3, .int (nI g))]) hx hb dX1_cut_50 hl (by decide) rfl (fun ls hl => ?_)
        refine lv_bipush (v := nI 64) hx hb dX1_cut_52 (by decide) ?_
        refine lv_iload_n hx hb dX1_cut_54 rfl (lv_at hl 3 rfl) ?_
        refine m_isub (a := 64) (b := w) hx hb (by omega) dX1_cut_55 ?_
        refine lv_istore (lv' := [(6, .int (nI (64 - w))), (4, .long (lN (18446744073709551616 - vl (sz i) 16 % 18446744073709551616))), (0, .ref o), (1, .int (nI i)), (2, .int (nI w)), (3, .int (nI g))]) hx hb dX1_cut_56 hl (by decide) rfl (fun ls hl => ?_)
        refine lv_iload_n hx hb dX1_cut_58 rfl (lv_at hl 5 rfl) ?_
        refine m_if_eq (tgt := 73) hx hb (by omega) dX1_cut_59 (by decide) (fun c59 => ?_) (fun c59 => ?_)
        · skip
          have hge : g = 0 := c59
          refine lv_lload hx hb dX1_cut_73 (lv_at hl 1 rfl) ?_
          refine lv_iload hx hb dX1_cut_75 (lv_at hl 0 rfl) ?_
          refine m_lshl hx hb (by omega) dX1_cut_77 ?_
          rw [wb_mod ((18446744073709551616 - vl (sz i) 16 % 18446744073709551616) * 2 ^ (64 - w))]
          refine lv_iload hx hb dX1_cut_78 (lv_at hl 0 rfl) ?_
          refine m_lushr hx hb (Nat.mod_lt _ (by decide)) (by omega) dX1_cut_80 ?_
          exact m_lret hx hb hr hlocks hLc dX1_cut_81 (⟨Or.inl ⟨i, w, hi, hw1, hw2, rfl, rfl, by rw [hge]; exact congrArg lN ((cut_u (t := 18446744073709551616 - vl (sz i) 16 % 18446744073709551616) (show 64 - w + w = 64 by omega)).trans (by unfold valX; rw [hb1]; exact cutN_neg hw2))⟩, rfl⟩)
        · skip
          have hge : g = 1 := by omega
          refine lv_lload hx hb dX1_cut_62 (lv_at hl 1 rfl) ?_
          refine lv_iload hx hb dX1_cut_64 (lv_at hl 0 rfl) ?_
          refine m_lshl hx hb (by omega) dX1_cut_66 ?_
          rw [wb_mod ((18446744073709551616 - vl (sz i) 16 % 18446744073709551616) * 2 ^ (64 - w))]
          refine lv_iload hx hb dX1_cut_67 (lv_at hl 0 rfl) ?_
          refine lv_lshr hx hb dX1_cut_69 (lshr_N (Nat.mod_lt _ (by decide)) (by omega)) ?_
          refine lv_goto (tgt := 81) hx hb dX1_cut_70 (by decide) ?_
          exact m_lret hx hb hr hlocks hLc dX1_cut_81 (⟨Or.inl ⟨i, w, hi, hw1, hw2, rfl, rfl, by rw [hge]; exact congrArg lN ((cut_s (t := 18446744073709551616 - vl (sz i) 16 % 18446744073709551616) (show 64 - w + w = 64 by omega) hw1).trans (by unfold valX; rw [hb1]; exact cutN_neg hw2))⟩, rfl⟩)
    · skip
      refine m_if_ne (tgt := 16) hx hb (by decide) dX1_cut_11 (by decide) (fun h => absurd h (by decide)) (fun _ => ?_)
      refine lv_lconst (v := lN 0) hx hb dX1_cut_14 (by decide) ?_
      exact m_lret hx hb hr hlocks hLc dX1_cut_15 (⟨Or.inr ⟨by first | exact Or.inl hno | exact Or.inr hno, rfl⟩, rfl⟩)
  · skip
    refine m_if_eq (tgt := 14) hx hb (by decide) dX1_cut_4 (by decide) (fun _ => ?_) (fun h => absurd h (by decide))
    refine lv_lconst (v := lN 0) hx hb dX1_cut_14 (by decide) ?_
    exact m_lret hx hb hr hlocks hLc dX1_cut_15 (⟨Or.inr ⟨by first | exact Or.inl hno | exact Or.inr hno, rfl⟩, rfl⟩)
