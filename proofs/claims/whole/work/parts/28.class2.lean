set_option maxRecDepth 100000 in
set_option maxHeartbeats 4000000 in
theorem c_X1_sum (l : Launch) (G : gG) (b0 : Nat) (H : Heap) {o : Nat} {ad : Nat → Nat} {sz : Nat → Nat → Nat} {bl : Nat → Nat} {dv : Nat → Nat} {dc : Nat} {wr : Nat → Nat} {wf : Nat} {f1 : Nat → Nat} {f2 : Nat → Nat} {fw : Nat → Nat} (hS : SX G b0 o ad H sz bl dv dc wr wf f1 f2 fw H) (hI : IV sz bl) {k x y c0 : Nat} (hk : k < 64) (hx0 : x < 64) (hy0 : y < 64) (hc0 : c0 ≤ 1) : Met l yX1_sum wsX1_sum ({ frames := 2, cells := 0, slots := 0, locals := 64 } : Room) (PcH G H [.ref o, .int (nI k), .int (nI x), .int (nI y), .int (nI c0)]) (QcI (fun r H1 => KX G b0 o ad H (valX sz bl) dv dc wr wf k (valX sz bl x + sg c0 (vl (sz y) 16)) r H1)) 0 0 (fre b0) := by
  refine m_enter (cc := cX1_sum) (maxL := 5) (ret := (some .int)) (own := RX1) (by decide) rfl rfl (Nat.le_of_ble_eq_true rfl) ?_
  intro p e s m below meth c ls hF hnm hH hl
  have hl : lv_has ls 5 [(0, .ref o), (1, .int (nI k)), (2, .int (nI x)), (3, .int (nI y)), (4, .int (nI c0))] := hl
  have hLc : lcs b0 [] := lcs_nil b0
  obtain ⟨hx, hb, hr, hml, hown, hts, hlocks, hK⟩ := id hF
  have hbx := (hI x (by omega)).2.1
  refine lv_aload_n hx hb dX1_sum_0 rfl (lv_at hl 0 rfl) ?_
  refine va_get (D := G.1) (ci := 0) (v := .ref (ad 1)) (C := RX1) (T := TX1) (N := 9) hx hb hts hwsX1_sum hown hK hS.w.ob 0 rfl rfl 1 (by decide) (hts (.fieldLink RX1 14 "ExactNumbers" "below" "[Z") (by decide +kernel)) (fun _ h9 => h9) rfl dX1_sum_1 ?_
  refine lv_iload_n hx hb dX1_sum_4 rfl (lv_at hl 2 rfl) ?_
  refine m_zald (n := 64) (f := bl) hx hb hK (hS.w.get 1 (by decide)) (by omega) (by decide) dX1_sum_5 ?_
  refine lv_iload hx hb dX1_sum_6 (lv_at hl 4 rfl) ?_
  refine m_icmp_ne (tgt := 42) hx hb (by omega) (by omega) dX1_sum_8 (by decide) (fun c8 => ?_) (fun c8 => ?_)
  · skip
    refine lv_aload_n hx hb dX1_sum_42 rfl (lv_at hl 0 rfl) ?_
    refine va_get (D := G.1) (ci := 0) (v := .ref (ad 0)) (C := RX1) (T := TX1) (N := 9) hx hb hts hwsX1_sum hown hK hS.w.ob 0 rfl rfl 0 (by decide) (hts (.fieldLink RX1 11 "ExactNumbers" "sizes" "[[J") (by decide +kernel)) (fun _ h9 => h9) rfl dX1_sum_43 ?_
    refine lv_iload_n hx hb dX1_sum_46 rfl (lv_at hl 2 rfl) ?_
    refine m_aald (n := 64) (f := (fun i => ad (i + 7))) hx hb hK (hS.w.get 0 (by decide)) (by omega) (by decide) dX1_sum_47 ?_
    refine lv_aload_n hx hb dX1_sum_48 rfl (lv_at hl 0 rfl) ?_
    refine va_get (D := G.1) (ci := 0) (v := .ref (ad 0)) (C := RX1) (T := TX1) (N := 9) hx hb hts hwsX1_sum hown hK hS.w.ob 0 rfl rfl 0 (by decide) (hts (.fieldLink RX1 11 "ExactNumbers" "sizes" "[[J") (by decide +kernel)) (fun _ h9 => h9) rfl dX1_sum_49 ?_
    refine lv_iload_n hx hb dX1_sum_52 rfl (lv_at hl 3 rfl) ?_
    refine m_aald (n := 64) (f := (fun i => ad (i + 7))) hx hb hK (hS.w.get 0 (by decide)) (by omega) (by decide) dX1_sum_53 ?_
    refine mc_i0 (va_runS (As := [.ref (ad (x + 7)), .ref (ad (y + 7))]) (rest := []) ⟨hx, hb, hml, hown, hts⟩ (c_X0_order l G b0 H (hS.w.get (x + 7) (by omega)) (hS.w.get (y + 7) (by omega)) (by decide) (by decide) (hI x (by omega)).1 (hI y (by omega)).1) (va_cwS 2 hts gX1_sum_X0_order rfl rfl rfl (by decide +kernel) ⟨Nat.le_of_ble_eq_true rfl, Nat.le_of_ble_eq_true rfl⟩) (mp_S hK) rfl rfl hl.1 rfl (lv_room (Nat.le_of_ble_eq_true rfl)) dX1_sum_54 ⟨Nat.le_of_ble_eq_true rfl, Nat.le_of_ble_eq_true rfl⟩) hLc (fun r H1 locs hP hLc => ?_)
    obtain ⟨hP, rfl⟩ := hP
    rw [l16_16, l16_16] at hP
    rcases hP with ⟨hlt, rfl⟩ | ⟨hlt, rfl⟩ | ⟨hlt, rfl⟩
    · skip
      refine lv_if_lt (tgt := 95) hx hb dX1_sum_57 (by decide) (fun _ => ?_) (fun h => absurd (by decide) h)
      refine lv_aload_n hx hb dX1_sum_95 rfl (lv_at hl 0 rfl) ?_
      refine va_get (D := G.1) (ci := 0) (v := .ref (ad 0)) (C := RX1) (T := TX1) (N := 9) hx hb hts hwsX1_sum hown hK hS.w.ob 0 rfl rfl 0 (by decide) (hts (.fieldLink RX1 11 "ExactNumbers" "sizes" "[[J") (by decide +kernel)) (fun _ h9 => h9) rfl dX1_sum_96 ?_
      refine lv_iload_n hx hb dX1_sum_99 rfl (lv_at hl 3 rfl) ?_
      refine m_aald (n := 64) (f := (fun i => ad (i + 7))) hx hb hK (hS.w.get 0 (by decide)) (by omega) (by decide) dX1_sum_100 ?_
      refine lv_aload_n hx hb dX1_sum_101 rfl (lv_at hl 0 rfl) ?_
      refine va_get (D := G.1) (ci := 0) (v := .ref (ad 0)) (C := RX1) (T := TX1) (N := 9) hx hb hts hwsX1_sum hown hK hS.w.ob 0 rfl rfl 0 (by decide) (hts (.fieldLink RX1 11 "ExactNumbers" "sizes" "[[J") (by decide +kernel)) (fun _ h9 => h9) rfl dX1_sum_102 ?_
      refine lv_iload_n hx hb dX1_sum_105 rfl (lv_at hl 2 rfl) ?_
      refine m_aald (n := 64) (f := (fun i => ad (i + 7))) hx hb hK (hS.w.get 0 (by decide)) (by omega) (by decide) dX1_sum_106 ?_
      refine lv_aload_n hx hb dX1_sum_107 rfl (lv_at hl 0 rfl) ?_
      refine va_get (D := G.1) (ci := 0) (v := .ref (ad 4)) (C := RX1) (T := TX1) (N := 9) hx hb hts hwsX1_sum hown hK hS.w.ob 0 rfl rfl 6 (by decide) (hts (.fieldLink RX1 32 "ExactNumbers" "first" "[J") (by decide +kernel)) (fun _ h9 => h9) rfl dX1_sum_108 ?_
      refine mc_v0 (va_runS (As := [.ref (ad (y + 7)), .ref (ad (x + 7)), .ref (ad 4)]) (rest := []) ⟨hx, hb, hml, hown, hts⟩ (c_X0_subtract l G b0 H (hS.w.get (y + 7) (by omega)) (hS.w.get (x + 7) (by omega)) (hS.w.get 4 (by decide)) (by decide) (by decide) (by decide) (hI y (by omega)).1 (hI x (by omega)).1 (hS.w.ne (by omega) (by decide) (by omega)) (hS.w.ne (by omega) (by decide) (by omega)) (hS.w.b 4 (by decide))) (va_cwS 3 hts gX1_sum_X0_subtract rfl rfl rfl (by decide +kernel) ⟨Nat.le_of_ble_eq_true rfl, Nat.le_of_ble_eq_true rfl⟩) (mp_S hK) rfl rfl hl.1 rfl (lv_room (Nat.le_of_ble_eq_true rfl)) dX1_sum_111 ⟨Nat.le_of_ble_eq_true rfl, Nat.le_of_ble_eq_true rfl⟩) hLc (fun H1 locs hP hLc => ?_)
      obtain ⟨g, c1, hg, hv, rfl⟩ := hP
      have hv := sub_v hg hv (by omega)
      have hS := hS.p_f1 g
      generalize hput H (ad 4) (aJ G 17 g) = Hc at hS ⊢
      refine lv_aload_n hx hb dX1_sum_114 rfl (lv_at hl 0 rfl) ?_
      refine lv_iload_n hx hb dX1_sum_115 rfl (lv_at hl 1 rfl) ?_
      refine lv_aload_n hx hb dX1_sum_116 rfl (lv_at hl 0 rfl) ?_
      refine va_get (D := G.1) (ci := 0) (v := .ref (ad 4)) (C := RX1) (T := TX1) (N := 9) hx hb hts hwsX1_sum hown hK hS.w.ob 0 rfl rfl 6 (by decide) (hts (.fieldLink RX1 32 "ExactNumbers" "first" "[J") (by decide +kernel)) (fun _ h9 => h9) rfl dX1_sum_117 ?_
      refine lv_iload hx hb dX1_sum_120 (lv_at hl 4 rfl) ?_
      refine mc_i0 (va_runV (As := [.int (nI k), .ref (ad 4), .int (nI c0)]) (rest := []) ⟨hx, hb, hml, hown, hts⟩ (c_X1_store l G b0 Hc hS.rf hI k hk (hS.w.get 4 (by decide)) (by decide) (by decide) hg (hc0)) (cwV 3 hts gX1_sum_X1_store rfl rfl rfl (by decide +kernel) ⟨Nat.le_of_ble_eq_true rfl, Nat.le_of_ble_eq_true rfl⟩) (mp_V hK hS.w.ob rfl) rfl rfl hl.1 rfl (lv_room (Nat.le_of_ble_eq_true rfl)) dX1_sum_122 ⟨Nat.le_of_ble_eq_true rfl, Nat.le_of_ble_eq_true rfl⟩) hLc (fun r H1 locs hP hLc => ?_)
      exact m_iret hx hb hr hlocks hLc dX1_sum_125 ((KX.trans hS hP).val (sum_diff2 hbx hc0 c8 hv) (fun _ _ => rfl))
    · skip
      refine lv_if_lt (tgt := 95) hx hb dX1_sum_57 (by decide) (fun h => absurd h (by decide)) (fun _ => ?_)
      refine lv_aload_n hx hb dX1_sum_60 rfl (lv_at hl 0 rfl) ?_
      refine va_get (D := G.1) (ci := 0) (v := .ref (ad 0)) (C := RX1) (T := TX1) (N := 9) hx hb hts hwsX1_sum hown hK hS.w.ob 0 rfl rfl 0 (by decide) (hts (.fieldLink RX1 11 "ExactNumbers" "sizes" "[[J") (by decide +kernel)) (fun _ h9 => h9) rfl dX1_sum_61 ?_
      refine lv_iload_n hx hb dX1_sum_64 rfl (lv_at hl 2 rfl) ?_
      refine m_aald (n := 64) (f := (fun i => ad (i + 7))) hx hb hK (hS.w.get 0 (by decide)) (by omega) (by decide) dX1_sum_65 ?_
      refine lv_aload_n hx hb dX1_sum_66 rfl (lv_at hl 0 rfl) ?_
      refine va_get (D := G.1) (ci := 0) (v := .ref (ad 0)) (C := RX1) (T := TX1) (N := 9) hx hb hts hwsX1_sum hown hK hS.w.ob 0 rfl rfl 0 (by decide) (hts (.fieldLink RX1 11 "ExactNumbers" "sizes" "[[J") (by decide +kernel)) (fun _ h9 => h9) rfl dX1_sum_67 ?_
      refine lv_iload_n hx hb dX1_sum_70 rfl (lv_at hl 3 rfl) ?_
      refine m_aald (n := 64) (f := (fun i => ad (i + 7))) hx hb hK (hS.w.get 0 (by decide)) (by omega) (by decide) dX1_sum_71 ?_
      refine lv_aload_n hx hb dX1_sum_72 rfl (lv_at hl 0 rfl) ?_
      refine va_get (D := G.1) (ci := 0) (v := .ref (ad 4)) (C := RX1) (T := TX1) (N := 9) hx hb hts hwsX1_sum hown hK hS.w.ob 0 rfl rfl 6 (by decide) (hts (.fieldLink RX1 32 "ExactNumbers" "first" "[J") (by decide +kernel)) (fun _ h9 => h9) rfl dX1_sum_73 ?_
      refine mc_v0 (va_runS (As := [.ref (ad (x + 7)), .ref (ad (y + 7)), .ref (ad 4)]) (rest := []) ⟨hx, hb, hml, hown, hts⟩ (c_X0_subtract l G b0 H (hS.w.get (x + 7) (by omega)) (hS.w.get (y + 7) (by omega)) (hS.w.get 4 (by decide)) (by decide) (by decide) (by decide) (hI x (by omega)).1 (hI y (by omega)).1 (hS.w.ne (by omega) (by decide) (by omega)) (hS.w.ne (by omega) (by decide) (by omega)) (hS.w.b 4 (by decide))) (va_cwS 3 hts gX1_sum_X0_subtract rfl rfl rfl (by decide +kernel) ⟨Nat.le_of_ble_eq_true rfl, Nat.le_of_ble_eq_true rfl⟩) (mp_S hK) rfl rfl hl.1 rfl (lv_room (Nat.le_of_ble_eq_true rfl)) dX1_sum_76 ⟨Nat.le_of_ble_eq_true rfl, Nat.le_of_ble_eq_true rfl⟩) hLc (fun H1 locs hP hLc => ?_)
      obtain ⟨g, c1, hg, hv, rfl⟩ := hP
      have hv := sub_v hg hv (by omega)
      have hS := hS.p_f1 g
      generalize hput H (ad 4) (aJ G 17 g) = Hc at hS ⊢
      refine lv_aload_n hx hb dX1_sum_79 rfl (lv_at hl 0 rfl) ?_
      refine lv_iload_n hx hb dX1_sum_80 rfl (lv_at hl 1 rfl) ?_
      refine lv_aload_n hx hb dX1_sum_81 rfl (lv_at hl 0 rfl) ?_
      refine va_get (D := G.1) (ci := 0) (v := .ref (ad 4)) (C := RX1) (T := TX1) (N := 9) hx hb hts hwsX1_sum hown hK hS.w.ob 0 rfl rfl 6 (by decide) (hts (.fieldLink RX1 32 "ExactNumbers" "first" "[J") (by decide +kernel)) (fun _ h9 => h9) rfl dX1_sum_82 ?_
      refine lv_aload_n hx hb dX1_sum_85 rfl (lv_at hl 0 rfl) ?_
      refine va_get (D := G.1) (ci := 0) (v := .ref (ad 1)) (C := RX1) (T := TX1) (N := 9) hx hb hts hwsX1_sum hown hK hS.w.ob 0 rfl rfl 1 (by decide) (hts (.fieldLink RX1 14 "ExactNumbers" "below" "[Z") (by decide +kernel)) (fun _ h9 => h9) rfl dX1_sum_86 ?_
      refine lv_iload_n hx hb dX1_sum_89 rfl (lv_at hl 2 rfl) ?_
      refine m_zald (n := 64) (f := bl) hx hb hK (hS.w.get 1 (by decide)) (by omega) (by decide) dX1_sum_90 ?_
      refine mc_i0 (va_runV (As := [.int (nI k), .ref (ad 4), .int (nI (bl x))]) (rest := []) ⟨hx, hb, hml, hown, hts⟩ (c_X1_store l G b0 Hc hS.rf hI k hk (hS.w.get 4 (by decide)) (by decide) (by decide) hg (hbx)) (cwV 3 hts gX1_sum_X1_store rfl rfl rfl (by decide +kernel) ⟨Nat.le_of_ble_eq_true rfl, Nat.le_of_ble_eq_true rfl⟩) (mp_V hK hS.w.ob rfl) rfl rfl hl.1 rfl (lv_room (Nat.le_of_ble_eq_true rfl)) dX1_sum_91 ⟨Nat.le_of_ble_eq_true rfl, Nat.le_of_ble_eq_true rfl⟩) hLc (fun r H1 locs hP hLc => ?_)
      exact m_iret hx hb hr hlocks hLc dX1_sum_94 ((KX.trans hS hP).val (sum_diff1 hbx hc0 c8 hv) (fun _ _ => rfl))
    · skip
      refine lv_if_lt (tgt := 95) hx hb dX1_sum_57 (by decide) (fun h => absurd h (by decide)) (fun _ => ?_)
      refine lv_aload_n hx hb dX1_sum_60 rfl (lv_at hl 0 rfl) ?_
      refine va_get (D := G.1) (ci := 0) (v := .ref (ad 0)) (C := RX1) (T := TX1) (N := 9) hx hb hts hwsX1_sum hown hK hS.w.ob 0 rfl rfl 0 (by decide) (hts (.fieldLink RX1 11 "ExactNumbers" "sizes" "[[J") (by decide +kernel)) (fun _ h9 => h9) rfl dX1_sum_61 ?_
      refine lv_iload_n hx hb dX1_sum_64 rfl (lv_at hl 2 rfl) ?_
      refine m_aald (n := 64) (f := (fun i => ad (i + 7))) hx hb hK (hS.w.get 0 (by decide)) (by omega) (by decide) dX1_sum_65 ?_
      refine lv_aload_n hx hb dX1_sum_66 rfl (lv_at hl 0 rfl) ?_
      refine va_get (D := G.1) (ci := 0) (v := .ref (ad 0)) (C := RX1) (T := TX1) (N := 9) hx hb hts hwsX1_sum hown hK hS.w.ob 0 rfl rfl 0 (by decide) (hts (.fieldLink RX1 11 "ExactNumbers" "sizes" "[[J") (by decide +kernel)) (fun _ h9 => h9) rfl dX1_sum_67 ?_
      refine lv_iload_n hx hb dX1_sum_70 rfl (lv_at hl 3 rfl) ?_
      refine m_aald (n := 64) (f := (fun i => ad (i + 7))) hx hb hK (hS.w.get 0 (by decide)) (by omega) (by decide) dX1_sum_71 ?_
      refine lv_aload_n hx hb dX1_sum_72 rfl (lv_at hl 0 rfl) ?_
      refine va_get (D := G.1) (ci := 0) (v := .ref (ad 4)) (C := RX1) (T := TX1) (N := 9) hx hb hts hwsX1_sum hown hK hS.w.ob 0 rfl rfl 6 (by decide) (hts (.fieldLink RX1 32 "ExactNumbers" "first" "[J") (by decide +kernel)) (fun _ h9 => h9) rfl dX1_sum_73 ?_
      refine mc_v0 (va_runS (As := [.ref (ad (x + 7)), .ref (ad (y + 7)), .ref (ad 4)]) (rest := []) ⟨hx, hb, hml, hown, hts⟩ (c_X0_subtract l G b0 H (hS.w.get (x + 7) (by omega)) (hS.w.get (y + 7) (by omega)) (hS.w.get 4 (by decide)) (by decide) (by decide) (by decide) (hI x (by omega)).1 (hI y (by omega)).1 (hS.w.ne (by omega) (by decide) (by omega)) (hS.w.ne (by omega) (by decide) (by omega)) (hS.w.b 4 (by decide))) (va_cwS 3 hts gX1_sum_X0_subtract rfl rfl rfl (by decide +kernel) ⟨Nat.le_of_ble_eq_true rfl, Nat.le_of_ble_eq_true rfl⟩) (mp_S hK) rfl rfl hl.1 rfl (lv_room (Nat.le_of_ble_eq_true rfl)) dX1_sum_76 ⟨Nat.le_of_ble_eq_true rfl, Nat.le_of_ble_eq_true rfl⟩) hLc (fun H1 locs hP hLc => ?_)
      obtain ⟨g, c1, hg, hv, rfl⟩ := hP
      have hv := sub_v hg hv (by omega)
      have hS := hS.p_f1 g
      generalize hput H (ad 4) (aJ G 17 g) = Hc at hS ⊢
      refine lv_aload_n hx hb dX1_sum_79 rfl (lv_at hl 0 rfl) ?_
      refine lv_iload_n hx hb dX1_sum_80 rfl (lv_at hl 1 rfl) ?_
      refine lv_aload_n hx hb dX1_sum_81 rfl (lv_at hl 0 rfl) ?_
      refine va_get (D := G.1) (ci := 0) (v := .ref (ad 4)) (C := RX1) (T := TX1) (N := 9) hx hb hts hwsX1_sum hown hK hS.w.ob 0 rfl rfl 6 (by decide) (hts (.fieldLink RX1 32 "ExactNumbers" "first" "[J") (by decide +kernel)) (fun _ h9 => h9) rfl dX1_sum_82 ?_
      refine lv_aload_n hx hb dX1_sum_85 rfl (lv_at hl 0 rfl) ?_
      refine va_get (D := G.1) (ci := 0) (v := .ref (ad 1)) (C := RX1) (T := TX1) (N := 9) hx hb hts hwsX1_sum hown hK hS.w.ob 0 rfl rfl 1 (by decide) (hts (.fieldLink RX1 14 "ExactNumbers" "below" "[Z") (by decide +kernel)) (fun _ h9 => h9) rfl dX1_sum_86 ?_
      refine lv_iload_n hx hb dX1_sum_89 rfl (lv_at hl 2 rfl) ?_
      refine m_zald (n := 64) (f := bl) hx hb hK (hS.w.get 1 (by decide)) (by omega) (by decide) dX1_sum_90 ?_
      refine mc_i0 (va_runV (As := [.int (nI k), .ref (ad 4), .int (nI (bl x))]) (rest := []) ⟨hx, hb, hml, hown, hts⟩ (c_X1_store l G b0 Hc hS.rf hI k hk (hS.w.get 4 (by decide)) (by decide) (by decide) hg (hbx)) (cwV 3 hts gX1_sum_X1_store rfl rfl rfl (by decide +kernel) ⟨Nat.le_of_ble_eq_true rfl, Nat.le_of_ble_eq_true rfl⟩) (mp_V hK hS.w.ob rfl) rfl rfl hl.1 rfl (lv_room (Nat.le_of_ble_eq_true rfl)) dX1_sum_91 ⟨Nat.le_of_ble_eq_true rfl, Nat.le_of_ble_eq_true rfl⟩) hLc (fun r H1 locs hP hLc => ?_)
      exact m_iret hx hb hr hlocks hLc dX1_sum_94 ((KX.trans hS hP).val (sum_diff1 hbx hc0 c8 hv) (fun _ _ => rfl))
  · skip
    refine lv_aload_n hx hb dX1_sum_11 rfl (lv_at hl 0 rfl) ?_
    refine va_get (D := G.1) (ci := 0) (v := .ref (ad 0)) (C := RX1) (T := TX1) (N := 9) hx hb hts hwsX1_sum hown hK hS.w.ob 0 rfl rfl 0 (by decide) (hts (.fieldLink RX1 11 "ExactNumbers" "sizes" "[[J") (by decide +kernel)) (fun _ h9 => h9) rfl dX1_sum_12 ?_
    refine lv_iload_n hx hb dX1_sum_15 rfl (lv_at hl 2 rfl) ?_
    refine m_aald (n := 64) (f := (fun i => ad (i + 7))) hx hb hK (hS.w.get 0 (by decide)) (by omega) (by decide) dX1_sum_16 ?_
    refine lv_aload_n hx hb dX1_sum_17 rfl (lv_at hl 0 rfl) ?_
    refine va_get (D := G.1) (ci := 0) (v := .ref (ad 0)) (C := RX1) (T := TX1) (N := 9) hx hb hts hwsX1_sum hown hK hS.w.ob 0 rfl rfl 0 (by decide) (hts (.fieldLink RX1 11 "ExactNumbers" "sizes" "[[J") (by decide +kernel)) (fun _ h9 => h9) rfl dX1_sum_18 ?_
    refine lv_iload_n hx hb dX1_sum_21 rfl (lv_at hl 3 rfl) ?_
    refine m_aald (n := 64) (f := (fun i => ad (i + 7))) hx hb hK (hS.w.get 0 (by decide)) (by omega) (by decide) dX1_sum_22 ?_
    refine lv_aload_n hx hb dX1_sum_23 rfl (lv_at hl 0 rfl) ?_
    refine va_get (D := G.1) (ci := 0) (v := .ref (ad 4)) (C := RX1) (T := TX1) (N := 9) hx hb hts hwsX1_sum hown hK hS.w.ob 0 rfl rfl 6 (by decide) (hts (.fieldLink RX1 32 "ExactNumbers" "first" "[J") (by decide +kernel)) (fun _ h9 => h9) rfl dX1_sum_24 ?_
    refine mc_v0 (va_runS (As := [.ref (ad (x + 7)), .ref (ad (y + 7)), .ref (ad 4)]) (rest := []) ⟨hx, hb, hml, hown, hts⟩ (c_X0_add l G b0 H (hS.w.get (x + 7) (by omega)) (hS.w.get (y + 7) (by omega)) (hS.w.get 4 (by decide)) (by decide) (by decide) (by decide) (hI x (by omega)).1 (hI y (by omega)).1 (hS.w.ne (by omega) (by decide) (by omega)) (hS.w.ne (by omega) (by decide) (by omega)) (hS.w.b 4 (by decide))) (va_cwS 3 hts gX1_sum_X0_add rfl rfl rfl (by decide +kernel) ⟨Nat.le_of_ble_eq_true rfl, Nat.le_of_ble_eq_true rfl⟩) (mp_S hK) rfl rfl hl.1 rfl (lv_room (Nat.le_of_ble_eq_true rfl)) dX1_sum_27 ⟨Nat.le_of_ble_eq_true rfl, Nat.le_of_ble_eq_true rfl⟩) hLc (fun H1 locs hP hLc => ?_)
    obtain ⟨g, c1, hg, hv, rfl⟩ := hP
    have hv := add_v (hI x (by omega)).1 (hI y (by omega)).1 hv
    have hS := hS.p_f1 g
    generalize hput H (ad 4) (aJ G 17 g) = Hc at hS ⊢
    refine lv_aload_n hx hb dX1_sum_30 rfl (lv_at hl 0 rfl) ?_
    refine lv_iload_n hx hb dX1_sum_31 rfl (lv_at hl 1 rfl) ?_
    refine lv_aload_n hx hb dX1_sum_32 rfl (lv_at hl 0 rfl) ?_
    refine va_get (D := G.1) (ci := 0) (v := .ref (ad 4)) (C := RX1) (T := TX1) (N := 9) hx hb hts hwsX1_sum hown hK hS.w.ob 0 rfl rfl 6 (by decide) (hts (.fieldLink RX1 32 "ExactNumbers" "first" "[J") (by decide +kernel)) (fun _ h9 => h9) rfl dX1_sum_33 ?_
    refine lv_iload hx hb dX1_sum_36 (lv_at hl 4 rfl) ?_
    refine mc_i0 (va_runV (As := [.int (nI k), .ref (ad 4), .int (nI c0)]) (rest := []) ⟨hx, hb, hml, hown, hts⟩ (c_X1_store l G b0 Hc hS.rf hI k hk (hS.w.get 4 (by decide)) (by decide) (by decide) hg (hc0)) (cwV 3 hts gX1_sum_X1_store rfl rfl rfl (by decide +kernel) ⟨Nat.le_of_ble_eq_true rfl, Nat.le_of_ble_eq_true rfl⟩) (mp_V hK hS.w.ob rfl) rfl rfl hl.1 rfl (lv_room (Nat.le_of_ble_eq_true rfl)) dX1_sum_38 ⟨Nat.le_of_ble_eq_true rfl, Nat.le_of_ble_eq_true rfl⟩) hLc (fun r H1 locs hP hLc => ?_)
    exact m_iret hx hb hr hlocks hLc dX1_sum_41 ((KX.trans hS hP).val (by rw [hv, sum_same rfl]; unfold valX; rw [c8]) (fun _ _ => rfl))

set_option maxRecDepth 100000 in
set_option maxHeartbeats 4000000 in
theorem c_X1_set (l : Launch) (G : gG) (b0 : Nat) (H : Heap) {o : Nat} {ad : Nat → Nat} {sz : Nat → Nat → Nat} {bl : Nat → Nat} {dv : Nat → Nat} {dc : Nat} {wr : Nat → Nat} {wf : Nat} {f1 : Nat → Nat} {f2 : Nat → Nat} {fw : Nat → Nat} (hS : SX G b0 o ad H sz bl dv dc wr wf f1 f2 fw H) (hI : IV sz bl) (x : Int32) {u g : Nat} (hu : u < 18446744073709551616) (hg1 : g ≤ 1) : Met l yX1_set wsX1_set ({ frames := 2, cells := 0, slots := 0, locals := 64 } : Room) (PcH G H [.ref o, .int x, .long (lN u), .int (nI g)]) (QcI (fun r H1 => (∃ k, k ≤ 63 ∧ x = nI k ∧ KX G b0 o ad H (valX sz bl) dv dc wr wf k (setv u g) r H1) ∨ (noslot x ∧ r = nI 3 ∧ RX G b0 o ad H (valX sz bl) dv dc wr wf H1))) 0 0 (fre b0) := by
  refine m_enter (cc := cX1_set) (maxL := 8) (ret := (some .int)) (own := RX1) (by decide) rfl rfl (Nat.le_of_ble_eq_true rfl) ?_
  intro p e s m below meth c ls hF hnm hH hl
  have hl : lv_has ls 8 [(0, .ref o), (1, .int x), (2, .long (lN u)), (4, .int (nI g))] := hl
  have hLc : lcs b0 [] := lcs_nil b0
  obtain ⟨hx, hb, hr, hml, hown, hts, hlocks, hK⟩ := id hF
  refine lv_iload_n hx hb dX1_set_0 rfl (lv_at hl 1 rfl) ?_
  refine mc_i0 (va_runS (As := [.int x]) (rest := []) ⟨hx, hb, hml, hown, hts⟩ (c_X1_isSlot l G b0 H (x)) (va_cwS 1 hts gX1_set_X1_isSlot rfl rfl rfl (by decide +kernel) ⟨Nat.le_of_ble_eq_true rfl, Nat.le_of_ble_eq_true rfl⟩) (mp_S hK) rfl rfl hl.1 rfl (lv_room (Nat.le_of_ble_eq_true rfl)) dX1_set_1 ⟨Nat.le_of_ble_eq_true rfl, Nat.le_of_ble_eq_true rfl⟩) hLc (fun r H1 locs hP hLc => ?_)
  obtain ⟨hP, rfl⟩ := hP
  rcases hP with ⟨k, _h0, hk, rfl, rfl⟩ | ⟨hno, rfl⟩
  · skip
    refine m_if_ne (tgt := 9) hx hb (by decide) dX1_set_4 (by decide) (fun _ => ?_) (fun h => absurd h (by decide))
    refine lv_iload hx hb dX1_set_9 (lv_at hl 3 rfl) ?_
    refine m_if_eq (tgt := 24) hx hb (by omega) dX1_set_11 (by decide) (fun c11 => ?_) (fun c11 => ?_)
    · skip
      refine lv_iconst (v := nI 0) hx hb dX1_set_24 (by decide) ?_
      refine lv_istore (lv' := [(5, .int (nI 0)), (0, .ref o), (1, .int (nI k)), (2, .long (lN u)), (4, .int (nI g))]) hx hb dX1_set_25 hl (by decide) rfl (fun ls hl => ?_)
      refine lv_iload hx hb dX1_set_27 (lv_at hl 0 rfl) ?_
      refine m_if_eq (tgt := 37) hx hb (by decide) dX1_set_29 (by decide) (fun _ => ?_) (fun h => absurd h (by decide))
      refine lv_lload_n hx hb dX1_set_37 rfl (lv_at hl 3 rfl) ?_
      refine lv_lstore (lv' := [(6, .long (lN u)), (5, .int (nI 0)), (0, .ref o), (1, .int (nI k)), (2, .long (lN u)), (4, .int (nI g))]) hx hb dX1_set_38 hl (by decide) rfl (fun ls hl => ?_)
      refine lv_aload_n hx hb dX1_set_40 rfl (lv_at hl 2 rfl) ?_
      refine va_get (D := G.1) (ci := 0) (v := .ref (ad 4)) (C := RX1) (T := TX1) (N := 9) hx hb hts hwsX1_set hown hK hS.w.ob 0 rfl rfl 6 (by decide) (hts (.fieldLink RX1 32 "ExactNumbers" "first" "[J") (by decide +kernel)) (fun _ h9 => h9) rfl dX1_set_41 ?_
      refine lv_lconst (v := lN 0) hx hb dX1_set_44 (by decide) ?_
      refine mc_v0 (va_runS (As := [.ref (ad 4), .long (lN 0)]) (rest := []) ⟨hx, hb, hml, hown, hts⟩ (c_J7_fill_d0a16 l G b0 H (hS.w.get 4 (by decide)) (by decide) (hS.w.b 4 (by decide))) (va_cwS 2 hts gX1_set_J7_fill_d0a16 rfl rfl rfl (by decide +kernel) ⟨Nat.le_of_ble_eq_true rfl, Nat.le_of_ble_eq_true rfl⟩) (mp_S hK) rfl rfl hl.1 rfl (lv_room (Nat.le_of_ble_eq_true rfl)) dX1_set_45 ⟨Nat.le_of_ble_eq_true rfl, Nat.le_of_ble_eq_true rfl⟩) hLc (fun H1 locs hP hLc => ?_)
      subst hP
      have hS := hS.p_f1 (fun _ => 0)
      generalize hput H (ad 4) (aJ G 17 (fun _ => 0)) = Hc at hS ⊢
      refine lv_aload_n hx hb dX1_set_48 rfl (lv_at hl 2 rfl) ?_
      refine va_get (D := G.1) (ci := 0) (v := .ref (ad 4)) (C := RX1) (T := TX1) (N := 9) hx hb hts hwsX1_set hown hK hS.w.ob 0 rfl rfl 6 (by decide) (hts (.fieldLink RX1 32 "ExactNumbers" "first" "[J") (by decide +kernel)) (fun _ h9 => h9) rfl dX1_set_49 ?_
      refine lv_iconst (v := nI 0) hx hb dX1_set_52 (by decide) ?_
      refine lv_lload hx hb dX1_set_53 (lv_at hl 0 rfl) ?_
      refine lv_ldc2 (v := lN 4294967295) hx hb hown (hts (.constantLong RX1 52 (lN 4294967295)) (by decide +kernel)) dX1_set_55 ?_
      refine m_mask hx hb dX1_set_58 ?_
      refine m_last (n := 17) (f := fun _ => 0) (b0 := b0) hx hb hK (hS.w.get 4 (by decide)) (by decide) (by decide) (hS.w.b 4 (by decide)) hLc dX1_set_59 (fun locs hLc => ?_)
      have hS := hS.p_f1 (fup (fun _ => 0) 0 (u % 4294967296))
      generalize hput Hc (ad 4) (aJ G 17 (fup (fun _ => 0) 0 (u % 4294967296))) = Hc at hS ⊢
      refine lv_aload_n hx hb dX1_set_60 rfl (lv_at hl 2 rfl) ?_
      refine va_get (D := G.1) (ci := 0) (v := .ref (ad 4)) (C := RX1) (T := TX1) (N := 9) hx hb hts hwsX1_set hown hK hS.w.ob 0 rfl rfl 6 (by decide) (hts (.fieldLink RX1 32 "ExactNumbers" "first" "[J") (by decide +kernel)) (fun _ h9 => h9) rfl dX1_set_61 ?_
      refine lv_iconst (v := nI 1) hx hb dX1_set_64 (by decide) ?_
      refine lv_lload hx hb dX1_set_65 (lv_at hl 0 rfl) ?_
      refine lv_bipush (v := nI 32) hx hb dX1_set_67 (by decide) ?_
      refine m_lushr32 hx hb (by omega) dX1_set_69 ?_
      refine m_last (n := 17) (f := fup (fun _ => 0) 0 (u % 4294967296)) (b0 := b0) hx hb hK (hS.w.get 4 (by decide)) (by decide) (by decide) (hS.w.b 4 (by decide)) hLc dX1_set_70 (fun locs hLc => ?_)
      have hS := hS.p_f1 (fup (fup (fun _ => 0) 0 (u % 4294967296)) 1 (u / 4294967296))
      generalize hput Hc (ad 4) (aJ G 17 (fup (fup (fun _ => 0) 0 (u % 4294967296)) 1 (u / 4294967296))) = Hc at hS ⊢
      refine lv_aload_n hx hb dX1_set_71 rfl (lv_at hl 2 rfl) ?_
      refine lv_iload_n hx hb dX1_set_72 rfl (lv_at hl 3 rfl) ?_
      refine lv_aload_n hx hb dX1_set_73 rfl (lv_at hl 2 rfl) ?_
      refine va_get (D := G.1) (ci := 0) (v := .ref (ad 4)) (C := RX1) (T := TX1) (N := 9) hx hb hts hwsX1_set hown hK hS.w.ob 0 rfl rfl 6 (by decide) (hts (.fieldLink RX1 32 "ExactNumbers" "first" "[J") (by decide +kernel)) (fun _ h9 => h9) rfl dX1_set_74 ?_
      refine lv_iload hx hb dX1_set_77 (lv_at hl 1 rfl) ?_
      refine mc_i0 (va_runV (As := [.int (nI k), .ref (ad 4), .int (nI 0)]) (rest := []) ⟨hx, hb, hml, hown, hts⟩ (c_X1_store l G b0 Hc hS.rf hI k (by omega) (hS.w.get 4 (by decide)) (by decide) (by decide) (two_lim u 17 (by omega)) (by decide)) (cwV 3 hts gX1_set_X1_store rfl rfl rfl (by decide +kernel) ⟨Nat.le_of_ble_eq_true rfl, Nat.le_of_ble_eq_true rfl⟩) (mp_V hK hS.w.ob rfl) rfl rfl hl.1 rfl (lv_room (Nat.le_of_ble_eq_true rfl)) dX1_set_79 ⟨Nat.le_of_ble_eq_true rfl, Nat.le_of_ble_eq_true rfl⟩) hLc (fun r H1 locs hP hLc => ?_)
      exact m_iret hx hb hr hlocks hLc dX1_set_82 (Or.inl ⟨k, hk, rfl, (KX.trans hS hP).val (by rw [two_limbs u (by omega) 15]; exact setv_pos (by omega)) (fun _ _ => rfl)⟩)
    · skip
      have hge : g = 1 := by omega
      refine lv_lload_n hx hb dX1_set_14 rfl (lv_at hl 2 rfl) ?_
      refine lv_lconst (v := lN 0) hx hb dX1_set_15 (by decide) ?_
      refine m_lr_ge (tgt := 24) hx hb dX1_set_16 dX1_set_17 (by decide) (fun c16 => ?_) (fun c16 => ?_)
      · skip
        have c16 := (ge0_lN hu).mp c16
        refine lv_iconst (v := nI 0) hx hb dX1_set_24 (by decide) ?_
        refine lv_istore (lv' := [(5, .int (nI 0)), (0, .ref o), (1, .int (nI k)), (2, .long (lN u)), (4, .int (nI g))]) hx hb dX1_set_25 hl (by decide) rfl (fun ls hl => ?_)
        refine lv_iload hx hb dX1_set_27 (lv_at hl 0 rfl) ?_
        refine m_if_eq (tgt := 37) hx hb (by decide) dX1_set_29 (by decide) (fun _ => ?_) (fun h => absurd h (by decide))
        refine lv_lload_n hx hb dX1_set_37 rfl (lv_at hl 3 rfl) ?_
        refine lv_lstore (lv' := [(6, .long (lN u)), (5, .int (nI 0)), (0, .ref o), (1, .int (nI k)), (2, .long (lN u)), (4, .int (nI g))]) hx hb dX1_set_38 hl (by decide) rfl (fun ls hl => ?_)
        refine lv_aload_n hx hb dX1_set_40 rfl (lv_at hl 2 rfl) ?_
        refine va_get (D := G.1) (ci := 0) (v := .ref (ad 4)) (C := RX1) (T := TX1) (N := 9) hx hb hts hwsX1_set hown hK hS.w.ob 0 rfl rfl 6 (by decide) (hts (.fieldLink RX1 32 "ExactNumbers" "first" "[J") (by decide +kernel)) (fun _ h9 => h9) rfl dX1_set_41 ?_
        refine lv_lconst (v := lN 0) hx hb dX1_set_44 (by decide) ?_
        refine mc_v0 (va_runS (As := [.ref (ad 4), .long (lN 0)]) (rest := []) ⟨hx, hb, hml, hown, hts⟩ (c_J7_fill_d0a16 l G b0 H (hS.w.get 4 (by decide)) (by decide) (hS.w.b 4 (by decide))) (va_cwS 2 hts gX1_set_J7_fill_d0a16 rfl rfl rfl (by decide +kernel) ⟨Nat.le_of_ble_eq_true rfl, Nat.le_of_ble_eq_true rfl⟩) (mp_S hK) rfl rfl hl.1 rfl (lv_room (Nat.le_of_ble_eq_true rfl)) dX1_set_45 ⟨Nat.le_of_ble_eq_true rfl, Nat.le_of_ble_eq_true rfl⟩) hLc (fun H1 locs hP hLc => ?_)
        subst hP
        have hS := hS.p_f1 (fun _ => 0)
        generalize hput H (ad 4) (aJ G 17 (fun _ => 0)) = Hc at hS ⊢
        refine lv_aload_n hx hb dX1_set_48 rfl (lv_at hl 2 rfl) ?_
        refine va_get (D := G.1) (ci := 0) (v := .ref (ad 4)) (C := RX1) (T := TX1) (N := 9) hx hb hts hwsX1_set hown hK hS.w.ob 0 rfl rfl 6 (by decide) (hts (.fieldLink RX1 32 "ExactNumbers" "first" "[J") (by decide +kernel)) (fun _ h9 => h9) rfl dX1_set_49 ?_
        refine lv_iconst (v := nI 0) hx hb dX1_set_52 (by decide) ?_
        refine lv_lload hx hb dX1_set_53 (lv_at hl 0 rfl) ?_
        refine lv_ldc2 (v := lN 4294967295) hx hb hown (hts (.constantLong RX1 52 (lN 4294967295)) (by decide +kernel)) dX1_set_55 ?_
        refine m_mask hx hb dX1_set_58 ?_
        refine m_last (n := 17) (f := fun _ => 0) (b0 := b0) hx hb hK (hS.w.get 4 (by decide)) (by decide) (by decide) (hS.w.b 4 (by decide)) hLc dX1_set_59 (fun locs hLc => ?_)
        have hS := hS.p_f1 (fup (fun _ => 0) 0 (u % 4294967296))
        generalize hput Hc (ad 4) (aJ G 17 (fup (fun _ => 0) 0 (u % 4294967296))) = Hc at hS ⊢
        refine lv_aload_n hx hb dX1_set_60 rfl (lv_at hl 2 rfl) ?_
        refine va_get (D := G.1) (ci := 0) (v := .ref (ad 4)) (C := RX1) (T := TX1) (N := 9) hx hb hts hwsX1_set hown hK hS.w.ob 0 rfl rfl 6 (by decide) (hts (.fieldLink RX1 32 "ExactNumbers" "first" "[J") (by decide +kernel)) (fun _ h9 => h9) rfl dX1_set_61 ?_
        refine lv_iconst (v := nI 1) hx hb dX1_set_64 (by decide) ?_
        refine lv_lload hx hb dX1_set_65 (lv_at hl 0 rfl) ?_
        refine lv_bipush (v := nI 32) hx hb dX1_set_67 (by decide) ?_
        refine m_lushr32 hx hb (by omega) dX1_set_69 ?_
        refine m_last (n := 17) (f := fup (fun _ => 0) 0 (u % 4294967296)) (b0 := b0) hx hb hK (hS.w.get 4 (by decide)) (by decide) (by decide) (hS.w.b 4 (by decide)) hLc dX1_set_70 (fun locs hLc => ?_)
        have hS := hS.p_f1 (fup (fup (fun _ => 0) 0 (u % 4294967296)) 1 (u / 4294967296))
        generalize hput Hc (ad 4) (aJ G 17 (fup (fup (fun _ => 0) 0 (u % 4294967296)) 1 (u / 4294967296))) = Hc at hS ⊢
        refine lv_aload_n hx hb dX1_set_71 rfl (lv_at hl 2 rfl) ?_
        refine lv_iload_n hx hb dX1_set_72 rfl (lv_at hl 3 rfl) ?_
        refine lv_aload_n hx hb dX1_set_73 rfl (lv_at hl 2 rfl) ?_
        refine va_get (D := G.1) (ci := 0) (v := .ref (ad 4)) (C := RX1) (T := TX1) (N := 9) hx hb hts hwsX1_set hown hK hS.w.ob 0 rfl rfl 6 (by decide) (hts (.fieldLink RX1 32 "ExactNumbers" "first" "[J") (by decide +kernel)) (fun _ h9 => h9) rfl dX1_set_74 ?_
        refine lv_iload hx hb dX1_set_77 (lv_at hl 1 rfl) ?_
        refine mc_i0 (va_runV (As := [.int (nI k), .ref (ad 4), .int (nI 0)]) (rest := []) ⟨hx, hb, hml, hown, hts⟩ (c_X1_store l G b0 Hc hS.rf hI k (by omega) (hS.w.get 4 (by decide)) (by decide) (by decide) (two_lim u 17 (by omega)) (by decide)) (cwV 3 hts gX1_set_X1_store rfl rfl rfl (by decide +kernel) ⟨Nat.le_of_ble_eq_true rfl, Nat.le_of_ble_eq_true rfl⟩) (mp_V hK hS.w.ob rfl) rfl rfl hl.1 rfl (lv_room (Nat.le_of_ble_eq_true rfl)) dX1_set_79 ⟨Nat.le_of_ble_eq_true rfl, Nat.le_of_ble_eq_true rfl⟩) hLc (fun r H1 locs hP hLc => ?_)
        exact m_iret hx hb hr hlocks hLc dX1_set_82 (Or.inl ⟨k, hk, rfl, (KX.trans hS hP).val (by rw [two_limbs u (by omega) 15]; exact setv_pos (by omega)) (fun _ _ => rfl)⟩)
      · skip
        have c16 : ¬ (u < 9223372036854775808) := fun z => c16 ((ge0_lN hu).mpr z)
        refine lv_iconst (v := nI 1) hx hb dX1_set_20 (by decide) ?_
        refine lv_goto (tgt := 25) hx hb dX1_set_21 (by decide) ?_
        refine lv_istore (lv' := [(5, .int (nI 1)), (0, .ref o), (1, .int (nI k)), (2, .long (lN u)), (4, .int (nI g))]) hx hb dX1_set_25 hl (by decide) rfl (fun ls hl => ?_)
        refine lv_iload hx hb dX1_set_27 (lv_at hl 0 rfl) ?_
        refine m_if_eq (tgt := 37) hx hb (by decide) dX1_set_29 (by decide) (fun h => absurd h (by decide)) (fun _ => ?_)
        refine lv_lload_n hx hb dX1_set_32 rfl (lv_at hl 3 rfl) ?_
        refine lv_lneg hx hb dX1_set_33 ?_
        rw [neg_lN (by omega)]
        refine lv_goto (tgt := 38) hx hb dX1_set_34 (by decide) ?_
        refine lv_lstore (lv' := [(6, .long (lN (18446744073709551616 - u))), (5, .int (nI 1)), (0, .ref o), (1, .int (nI k)), (2, .long (lN u)), (4, .int (nI g))]) hx hb dX1_set_38 hl (by decide) rfl (fun ls hl => ?_)
        refine lv_aload_n hx hb dX1_set_40 rfl (lv_at hl 2 rfl) ?_
        refine va_get (D := G.1) (ci := 0) (v := .ref (ad 4)) (C := RX1) (T := TX1) (N := 9) hx hb hts hwsX1_set hown hK hS.w.ob 0 rfl rfl 6 (by decide) (hts (.fieldLink RX1 32 "ExactNumbers" "first" "[J") (by decide +kernel)) (fun _ h9 => h9) rfl dX1_set_41 ?_
        refine lv_lconst (v := lN 0) hx hb dX1_set_44 (by decide) ?_
        refine mc_v0 (va_runS (As := [.ref (ad 4), .long (lN 0)]) (rest := []) ⟨hx, hb, hml, hown, hts⟩ (c_J7_fill_d0a16 l G b0 H (hS.w.get 4 (by decide)) (by decide) (hS.w.b 4 (by decide))) (va_cwS 2 hts gX1_set_J7_fill_d0a16 rfl rfl rfl (by decide +kernel) ⟨Nat.le_of_ble_eq_true rfl, Nat.le_of_ble_eq_true rfl⟩) (mp_S hK) rfl rfl hl.1 rfl (lv_room (Nat.le_of_ble_eq_true rfl)) dX1_set_45 ⟨Nat.le_of_ble_eq_true rfl, Nat.le_of_ble_eq_true rfl⟩) hLc (fun H1 locs hP hLc => ?_)
        subst hP
        have hS := hS.p_f1 (fun _ => 0)
        generalize hput H (ad 4) (aJ G 17 (fun _ => 0)) = Hc at hS ⊢
        refine lv_aload_n hx hb dX1_set_48 rfl (lv_at hl 2 rfl) ?_
        refine va_get (D := G.1) (ci := 0) (v := .ref (ad 4)) (C := RX1) (T := TX1) (N := 9) hx hb hts hwsX1_set hown hK hS.w.ob 0 rfl rfl 6 (by decide) (hts (.fieldLink RX1 32 "ExactNumbers" "first" "[J") (by decide +kernel)) (fun _ h9 => h9) rfl dX1_set_49 ?_
        refine lv_iconst (v := nI 0) hx hb dX1_set_52 (by decide) ?_
        refine lv_lload hx hb dX1_set_53 (lv_at hl 0 rfl) ?_
        refine lv_ldc2 (v := lN 4294967295) hx hb hown (hts (.constantLong RX1 52 (lN 4294967295)) (by decide +kernel)) dX1_set_55 ?_
        refine m_mask hx hb dX1_set_58 ?_
        refine m_last (n := 17) (f := fun _ => 0) (b0 := b0) hx hb hK (hS.w.get 4 (by decide)) (by decide) (by decide) (hS.w.b 4 (by decide)) hLc dX1_set_59 (fun locs hLc => ?_)
        have hS := hS.p_f1 (fup (fun _ => 0) 0 ((18446744073709551616 - u) % 4294967296))
        generalize hput Hc (ad 4) (aJ G 17 (fup (fun _ => 0) 0 ((18446744073709551616 - u) % 4294967296))) = Hc at hS ⊢
        refine lv_aload_n hx hb dX1_set_60 rfl (lv_at hl 2 rfl) ?_
        refine va_get (D := G.1) (ci := 0) (v := .ref (ad 4)) (C := RX1) (T := TX1) (N := 9) hx hb hts hwsX1_set hown hK hS.w.ob 0 rfl rfl 6 (by decide) (hts (.fieldLink RX1 32 "ExactNumbers" "first" "[J") (by decide +kernel)) (fun _ h9 => h9) rfl dX1_set_61 ?_
        refine lv_iconst (v := nI 1) hx hb dX1_set_64 (by decide) ?_
        refine lv_lload hx hb dX1_set_65 (lv_at hl 0 rfl) ?_
        refine lv_bipush (v := nI 32) hx hb dX1_set_67 (by decide) ?_
        refine m_lushr32 hx hb (by omega) dX1_set_69 ?_
        refine m_last (n := 17) (f := fup (fun _ => 0) 0 ((18446744073709551616 - u) % 4294967296)) (b0 := b0) hx hb hK (hS.w.get 4 (by decide)) (by decide) (by decide) (hS.w.b 4 (by decide)) hLc dX1_set_70 (fun locs hLc => ?_)
        have hS := hS.p_f1 (fup (fup (fun _ => 0) 0 ((18446744073709551616 - u) % 4294967296)) 1 ((18446744073709551616 - u) / 4294967296))
        generalize hput Hc (ad 4) (aJ G 17 (fup (fup (fun _ => 0) 0 ((18446744073709551616 - u) % 4294967296)) 1 ((18446744073709551616 - u) / 4294967296))) = Hc at hS ⊢
        refine lv_aload_n hx hb dX1_set_71 rfl (lv_at hl 2 rfl) ?_
        refine lv_iload_n hx hb dX1_set_72 rfl (lv_at hl 3 rfl) ?_
        refine lv_aload_n hx hb dX1_set_73 rfl (lv_at hl 2 rfl) ?_
        refine va_get (D := G.1) (ci := 0) (v := .ref (ad 4)) (C := RX1) (T := TX1) (N := 9) hx hb hts hwsX1_set hown hK hS.w.ob 0 rfl rfl 6 (by decide) (hts (.fieldLink RX1 32 "ExactNumbers" "first" "[J") (by decide +kernel)) (fun _ h9 => h9) rfl dX1_set_74 ?_
        refine lv_iload hx hb dX1_set_77 (lv_at hl 1 rfl) ?_
        refine mc_i0 (va_runV (As := [.int (nI k), .ref (ad 4), .int (nI 1)]) (rest := []) ⟨hx, hb, hml, hown, hts⟩ (c_X1_store l G b0 Hc hS.rf hI k (by omega) (hS.w.get 4 (by decide)) (by decide) (by decide) (two_lim (18446744073709551616 - u) 17 (by omega)) (by decide)) (cwV 3 hts gX1_set_X1_store rfl rfl rfl (by decide +kernel) ⟨Nat.le_of_ble_eq_true rfl, Nat.le_of_ble_eq_true rfl⟩) (mp_V hK hS.w.ob rfl) rfl rfl hl.1 rfl (lv_room (Nat.le_of_ble_eq_true rfl)) dX1_set_79 ⟨Nat.le_of_ble_eq_true rfl, Nat.le_of_ble_eq_true rfl⟩) hLc (fun r H1 locs hP hLc => ?_)
        exact m_iret hx hb hr hlocks hLc dX1_set_82 (Or.inl ⟨k, hk, rfl, (KX.trans hS hP).val (by rw [two_limbs (18446744073709551616 - u) (by omega) 15]; exact (by rw [hge]; exact setv_neg (by omega) hu)) (fun _ _ => rfl)⟩)
  · skip
    refine m_if_ne (tgt := 9) hx hb (by decide) dX1_set_4 (by decide) (fun h => absurd h (by decide)) (fun _ => ?_)
    refine lv_iconst (v := nI 3) hx hb dX1_set_7 (by decide) ?_
    exact m_iret hx hb hr hlocks hLc dX1_set_8 (Or.inr ⟨hno, rfl, hS.r hI⟩)

set_option maxRecDepth 100000 in
set_option maxHeartbeats 4000000 in
theorem c_X1_compare (l : Launch) (G : gG) (b0 : Nat) (H : Heap) {o : Nat} {ad : Nat → Nat} {sz : Nat → Nat → Nat} {bl : Nat → Nat} {dv : Nat → Nat} {dc : Nat} {wr : Nat → Nat} {wf : Nat} {f1 : Nat → Nat} {f2 : Nat → Nat} {fw : Nat → Nat} (hS : SX G b0 o ad H sz bl dv dc wr wf f1 f2 fw H) (hI : IV sz bl) (x y : Int32) : Met l yX1_compare wsX1_compare ({ frames := 2, cells := 0, slots := 0, locals := 43 } : Room) (PcH G H [.ref o, .int x, .int y]) (QcI (fun r H1 => ((∃ i j, i ≤ 63 ∧ j ≤ 63 ∧ x = nI i ∧ y = nI j ∧ cmpP r (valX sz bl i) (valX sz bl j)) ∨ ((noslot x ∨ noslot y) ∧ r = -2)) ∧ H = H1)) 0 0 (fre b0) := by
  refine m_enter (cc := cX1_compare) (maxL := 4) (ret := (some .int)) (own := RX1) (by decide) rfl rfl (Nat.le_of_ble_eq_true rfl) ?_
  intro p e s m below meth c ls hF hnm hH hl
  have hl : lv_has ls 4 [(0, .ref o), (1, .int x), (2, .int y)] := hl
  have hLc : lcs b0 [] := lcs_nil b0
  obtain ⟨hx, hb, hr, hml, hown, hts, hlocks, hK⟩ := id hF
  refine lv_iload_n hx hb dX1_compare_0 rfl (lv_at hl 1 rfl) ?_
  refine mc_i0 (va_runS (As := [.int x]) (rest := []) ⟨hx, hb, hml, hown, hts⟩ (c_X1_isSlot l G b0 H (x)) (va_cwS 1 hts gX1_compare_X1_isSlot rfl rfl rfl (by decide +kernel) ⟨Nat.le_of_ble_eq_true rfl, Nat.le_of_ble_eq_true rfl⟩) (mp_S hK) rfl rfl hl.1 rfl (lv_room (Nat.le_of_ble_eq_true rfl)) dX1_compare_1 ⟨Nat.le_of_ble_eq_true rfl, Nat.le_of_ble_eq_true rfl⟩) hLc (fun r H1 locs hP hLc => ?_)
  obtain ⟨hP, rfl⟩ := hP
  rcases hP with ⟨i, _h0, hi, rfl, rfl⟩ | ⟨hno, rfl⟩
  · skip
    refine m_if_eq (tgt := 14) hx hb (by decide) dX1_compare_4 (by decide) (fun h => absurd h (by decide)) (fun _ => ?_)
    refine lv_iload_n hx hb dX1_compare_7 rfl (lv_at hl 2 rfl) ?_
    refine mc_i0 (va_runS (As := [.int y]) (rest := []) ⟨hx, hb, hml, hown, hts⟩ (c_X1_isSlot l G b0 H (y)) (va_cwS 1 hts gX1_compare_X1_isSlot rfl rfl rfl (by decide +kernel) ⟨Nat.le_of_ble_eq_true rfl, Nat.le_of_ble_eq_true rfl⟩) (mp_S hK) rfl rfl hl.1 rfl (lv_room (Nat.le_of_ble_eq_true rfl)) dX1_compare_8 ⟨Nat.le_of_ble_eq_true rfl, Nat.le_of_ble_eq_true rfl⟩) hLc (fun r H1 locs hP hLc => ?_)
    obtain ⟨hP, rfl⟩ := hP
    rcases hP with ⟨j, _h0, hj, rfl, rfl⟩ | ⟨hno, rfl⟩
    · skip
      refine m_if_ne (tgt := 17) hx hb (by decide) dX1_compare_11 (by decide) (fun _ => ?_) (fun h => absurd h (by decide))
      refine lv_aload_n hx hb dX1_compare_17 rfl (lv_at hl 0 rfl) ?_
      refine va_get (D := G.1) (ci := 0) (v := .ref (ad 1)) (C := RX1) (T := TX1) (N := 9) hx hb hts hwsX1_compare hown hK hS.w.ob 0 rfl rfl 1 (by decide) (hts (.fieldLink RX1 14 "ExactNumbers" "below" "[Z") (by decide +kernel)) (fun _ h9 => h9) rfl dX1_compare_18 ?_
      refine lv_iload_n hx hb dX1_compare_21 rfl (lv_at hl 1 rfl) ?_
      refine m_zald (n := 64) (f := bl) hx hb hK (hS.w.get 1 (by decide)) (by omega) (by decide) dX1_compare_22 ?_
      refine lv_aload_n hx hb dX1_compare_23 rfl (lv_at hl 0 rfl) ?_
      refine va_get (D := G.1) (ci := 0) (v := .ref (ad 1)) (C := RX1) (T := TX1) (N := 9) hx hb hts hwsX1_compare hown hK hS.w.ob 0 rfl rfl 1 (by decide) (hts (.fieldLink RX1 14 "ExactNumbers" "below" "[Z") (by decide +kernel)) (fun _ h9 => h9) rfl dX1_compare_24 ?_
      refine lv_iload_n hx hb dX1_compare_27 rfl (lv_at hl 2 rfl) ?_
      refine m_zald (n := 64) (f := bl) hx hb hK (hS.w.get 1 (by decide)) (by omega) (by decide) dX1_compare_28 ?_
      have hbi := (hI i (by omega)).2.1
      have hbj := (hI j (by omega)).2.1
      refine m_icmp_eq (tgt := 47) hx hb (by omega) (by omega) dX1_compare_29 (by decide) (fun c29 => ?_) (fun c29 => ?_)
      · skip
        refine lv_aload_n hx hb dX1_compare_47 rfl (lv_at hl 0 rfl) ?_
        refine va_get (D := G.1) (ci := 0) (v := .ref (ad 0)) (C := RX1) (T := TX1) (N := 9) hx hb hts hwsX1_compare hown hK hS.w.ob 0 rfl rfl 0 (by decide) (hts (.fieldLink RX1 11 "ExactNumbers" "sizes" "[[J") (by decide +kernel)) (fun _ h9 => h9) rfl dX1_compare_48 ?_
        refine lv_iload_n hx hb dX1_compare_51 rfl (lv_at hl 1 rfl) ?_
        refine m_aald (n := 64) (f := (fun i => ad (i + 7))) hx hb hK (hS.w.get 0 (by decide)) (by omega) (by decide) dX1_compare_52 ?_
        refine lv_aload_n hx hb dX1_compare_53 rfl (lv_at hl 0 rfl) ?_
        refine va_get (D := G.1) (ci := 0) (v := .ref (ad 0)) (C := RX1) (T := TX1) (N := 9) hx hb hts hwsX1_compare hown hK hS.w.ob 0 rfl rfl 0 (by decide) (hts (.fieldLink RX1 11 "ExactNumbers" "sizes" "[[J") (by decide +kernel)) (fun _ h9 => h9) rfl dX1_compare_54 ?_
        refine lv_iload_n hx hb dX1_compare_57 rfl (lv_at hl 2 rfl) ?_
        refine m_aald (n := 64) (f := (fun i => ad (i + 7))) hx hb hK (hS.w.get 0 (by decide)) (by omega) (by decide) dX1_compare_58 ?_
        refine mc_i0 (va_runS (As := [.ref (ad (i + 7)), .ref (ad (j + 7))]) (rest := []) ⟨hx, hb, hml, hown, hts⟩ (c_X0_order l G b0 H (hS.w.get (i + 7) (by omega)) (hS.w.get (j + 7) (by omega)) (by decide) (by decide) (hI i (by omega)).1 (hI j (by omega)).1) (va_cwS 2 hts gX1_compare_X0_order rfl rfl rfl (by decide +kernel) ⟨Nat.le_of_ble_eq_true rfl, Nat.le_of_ble_eq_true rfl⟩) (mp_S hK) rfl rfl hl.1 rfl (lv_room (Nat.le_of_ble_eq_true rfl)) dX1_compare_59 ⟨Nat.le_of_ble_eq_true rfl, Nat.le_of_ble_eq_true rfl⟩) hLc (fun r H1 locs hP hLc => ?_)
        obtain ⟨hor, rfl⟩ := hP
        rw [l16_16, l16_16] at hor
        refine lv_istore_n (lv' := [(3, .int r), (0, .ref o), (1, .int (nI i)), (2, .int (nI j))]) hx hb dX1_compare_62 rfl hl (by decide) rfl (fun ls hl => ?_)
        refine lv_aload_n hx hb dX1_compare_63 rfl (lv_at hl 1 rfl) ?_
        refine va_get (D := G.1) (ci := 0) (v := .ref (ad 1)) (C := RX1) (T := TX1) (N := 9) hx hb hts hwsX1_compare hown hK hS.w.ob 0 rfl rfl 1 (by decide) (hts (.fieldLink RX1 14 "ExactNumbers" "below" "[Z") (by decide +kernel)) (fun _ h9 => h9) rfl dX1_compare_64 ?_
        refine lv_iload_n hx hb dX1_compare_67 rfl (lv_at hl 2 rfl) ?_
        refine m_zald (n := 64) (f := bl) hx hb hK (hS.w.get 1 (by decide)) (by omega) (by decide) dX1_compare_68 ?_
        refine m_if_eq (tgt := 77) hx hb (by omega) dX1_compare_69 (by decide) (fun c69 => ?_) (fun c69 => ?_)
        · skip
          refine lv_iload_n hx hb dX1_compare_77 rfl (lv_at hl 0 rfl) ?_
          exact m_iret hx hb hr hlocks hLc dX1_compare_78 (⟨Or.inl ⟨i, j, hi, hj, rfl, rfl, cmp_p c29 c69 hor⟩, rfl⟩)
        · skip
          refine lv_iload_n hx hb dX1_compare_72 rfl (lv_at hl 0 rfl) ?_
          refine lv_ineg hx hb dX1_compare_73 ?_
          refine lv_goto (tgt := 78) hx hb dX1_compare_74 (by decide) ?_
          exact m_iret hx hb hr hlocks hLc dX1_compare_78 (⟨Or.inl ⟨i, j, hi, hj, rfl, rfl, cmp_m hbi c29 c69 hor⟩, rfl⟩)
      · skip
        refine lv_aload_n hx hb dX1_compare_32 rfl (lv_at hl 0 rfl) ?_
        refine va_get (D := G.1) (ci := 0) (v := .ref (ad 1)) (C := RX1) (T := TX1) (N := 9) hx hb hts hwsX1_compare hown hK hS.w.ob 0 rfl rfl 1 (by decide) (hts (.fieldLink RX1 14 "ExactNumbers" "below" "[Z") (by decide +kernel)) (fun _ h9 => h9) rfl dX1_compare_33 ?_
        refine lv_iload_n hx hb dX1_compare_36 rfl (lv_at hl 1 rfl) ?_
        refine m_zald (n := 64) (f := bl) hx hb hK (hS.w.get 1 (by decide)) (by omega) (by decide) dX1_compare_37 ?_
        refine m_if_eq (tgt := 45) hx hb (by omega) dX1_compare_38 (by decide) (fun c38 => ?_) (fun c38 => ?_)
        · skip
          refine lv_iconst (v := 1) hx hb dX1_compare_45 (by decide) ?_
          exact m_iret hx hb hr hlocks hLc dX1_compare_46 (⟨Or.inl ⟨i, j, hi, hj, rfl, rfl, cmp_n0 hI (by omega) (by omega) c29 c38⟩, rfl⟩)
        · skip
          refine lv_iconst (v := -1) hx hb dX1_compare_41 (by decide) ?_
          refine lv_goto (tgt := 46) hx hb dX1_compare_42 (by decide) ?_
          exact m_iret hx hb hr hlocks hLc dX1_compare_46 (⟨Or.inl ⟨i, j, hi, hj, rfl, rfl, cmp_n1 hI (by omega) (by omega) c29 c38⟩, rfl⟩)
    · skip
      refine m_if_ne (tgt := 17) hx hb (by decide) dX1_compare_11 (by decide) (fun h => absurd h (by decide)) (fun _ => ?_)
      refine lv_bipush (v := -2) hx hb dX1_compare_14 (by decide) ?_
      exact m_iret hx hb hr hlocks hLc dX1_compare_16 (⟨Or.inr ⟨by first | exact Or.inl hno | exact Or.inr hno, rfl⟩, rfl⟩)
  · skip
    refine m_if_eq (tgt := 14) hx hb (by decide) dX1_compare_4 (by decide) (fun _ => ?_) (fun h => absurd h (by decide))
    refine lv_bipush (v := -2) hx hb dX1_compare_14 (by decide) ?_
    exact m_iret hx hb hr hlocks hLc dX1_compare_16 (⟨Or.inr ⟨by first | exact Or.inl hno | exact Or.inr hno, rfl⟩, rfl⟩)

set_option maxRecDepth 100000 in
set_option maxHeartbeats 4000000 in
theorem c_X1_bits (l : Launch) (G : gG) (b0 : Nat) (H : Heap) {o : Nat} {ad : Nat → Nat} {sz : Nat → Nat → Nat} {bl : Nat → Nat} {dv : Nat → Nat} {dc : Nat} {wr : Nat → Nat} {wf : Nat} {f1 : Nat → Nat} {f2 : Nat → Nat} {fw : Nat → Nat} (hS : SX G b0 o ad H sz bl dv dc wr wf f1 f2 fw H) (hI : IV sz bl) (x : Int32) : Met l yX1_bits wsX1_bits ({ frames := 3, cells := 0, slots := 0, locals := 64 } : Room) (PcH G H [.ref o, .int x]) (QcI (fun r H1 => ((∃ i b, i ≤ 63 ∧ x = nI i ∧ r = nI b ∧ isBL b (valX sz bl i).natAbs) ∨ (noslot x ∧ r = -1)) ∧ H = H1)) 0 0 (fre b0) := by
  refine m_enter (cc := cX1_bits) (maxL := 2) (ret := (some .int)) (own := RX1) (by decide) rfl rfl (Nat.le_of_ble_eq_true rfl) ?_
  intro p e s m below meth c ls hF hnm hH hl
  have hl : lv_has ls 2 [(0, .ref o), (1, .int x)] := hl
  have hLc : lcs b0 [] := lcs_nil b0
  obtain ⟨hx, hb, hr, hml, hown, hts, hlocks, hK⟩ := id hF
  refine lv_iload_n hx hb dX1_bits_0 rfl (lv_at hl 1 rfl) ?_
  refine mc_i0 (va_runS (As := [.int x]) (rest := []) ⟨hx, hb, hml, hown, hts⟩ (c_X1_isSlot l G b0 H (x)) (va_cwS 1 hts gX1_bits_X1_isSlot rfl rfl rfl (by decide +kernel) ⟨Nat.le_of_ble_eq_true rfl, Nat.le_of_ble_eq_true rfl⟩) (mp_S hK) rfl rfl hl.1 rfl (lv_room (Nat.le_of_ble_eq_true rfl)) dX1_bits_1 ⟨Nat.le_of_ble_eq_true rfl, Nat.le_of_ble_eq_true rfl⟩) hLc (fun r H1 locs hP hLc => ?_)
  obtain ⟨hP, rfl⟩ := hP
  rcases hP with ⟨i, _h0, hi, rfl, rfl⟩ | ⟨hno, rfl⟩
  · skip
    refine m_if_eq (tgt := 19) hx hb (by decide) dX1_bits_4 (by decide) (fun h => absurd h (by decide)) (fun _ => ?_)
    refine lv_aload_n hx hb dX1_bits_7 rfl (lv_at hl 0 rfl) ?_
    refine va_get (D := G.1) (ci := 0) (v := .ref (ad 0)) (C := RX1) (T := TX1) (N := 9) hx hb hts hwsX1_bits hown hK hS.w.ob 0 rfl rfl 0 (by decide) (hts (.fieldLink RX1 11 "ExactNumbers" "sizes" "[[J") (by decide +kernel)) (fun _ h9 => h9) rfl dX1_bits_8 ?_
    refine lv_iload_n hx hb dX1_bits_11 rfl (lv_at hl 1 rfl) ?_
    refine m_aald (n := 64) (f := (fun i => ad (i + 7))) hx hb hK (hS.w.get 0 (by decide)) (by omega) (by decide) dX1_bits_12 ?_
    refine mc_i0 (va_runS (As := [.ref (ad (i + 7))]) (rest := []) ⟨hx, hb, hml, hown, hts⟩ (c_X0_bitLength l G b0 H (hS.w.get (i + 7) (by omega)) (by decide) (hI i (by omega)).1) (va_cwS 1 hts gX1_bits_X0_bitLength rfl rfl rfl (by decide +kernel) ⟨Nat.le_of_ble_eq_true rfl, Nat.le_of_ble_eq_true rfl⟩) (mp_S hK) rfl rfl hl.1 rfl (lv_room (Nat.le_of_ble_eq_true rfl)) dX1_bits_13 ⟨Nat.le_of_ble_eq_true rfl, Nat.le_of_ble_eq_true rfl⟩) hLc (fun r H1 locs hP hLc => ?_)
    obtain ⟨⟨b, rfl, hb3, hbl⟩, rfl⟩ := hP
    refine lv_goto (tgt := 20) hx hb dX1_bits_16 (by decide) ?_
    exact m_iret hx hb hr hlocks hLc dX1_bits_20 (⟨Or.inl ⟨i, b, hi, rfl, rfl, by unfold valX; rw [sg_abs]; exact hbl⟩, rfl⟩)
  · skip
    refine m_if_eq (tgt := 19) hx hb (by decide) dX1_bits_4 (by decide) (fun _ => ?_) (fun h => absurd h (by decide))
    refine lv_iconst (v := -1) hx hb dX1_bits_19 (by decide) ?_
    exact m_iret hx hb hr hlocks hLc dX1_bits_20 (⟨Or.inr ⟨hno, rfl⟩, rfl⟩)

set_option maxRecDepth 100000 in
set_option maxHeartbeats 4000000 in
theorem c_X1_turn (l : Launch) (G : gG) (b0 : Nat) (H : Heap) {o : Nat} {ad : Nat → Nat} {sz : Nat → Nat → Nat} {bl : Nat → Nat} {dv : Nat → Nat} {dc : Nat} {wr : Nat → Nat} {wf : Nat} {f1 : Nat → Nat} {f2 : Nat → Nat} {fw : Nat → Nat} (hS : SX G b0 o ad H sz bl dv dc wr wf f1 f2 fw H) (hI : IV sz bl) (x y : Int32) {g : Nat} (hg1 : g ≤ 1) : Met l yX1_turn wsX1_turn ({ frames := 2, cells := 0, slots := 0, locals := 64 } : Room) (PcH G H [.ref o, .int x, .int y, .int (nI g)]) (QcI (fun r H1 => (∃ k i, k ≤ 63 ∧ i ≤ 63 ∧ x = nI k ∧ y = nI i ∧ KX G b0 o ad H (valX sz bl) dv dc wr wf k (if g = 1 then -1 - valX sz bl i else -valX sz bl i) r H1) ∨ ((noslot x ∨ noslot y) ∧ r = nI 3 ∧ RX G b0 o ad H (valX sz bl) dv dc wr wf H1))) 0 0 (fre b0) := by
  refine m_enter (cc := cX1_turn) (maxL := 4) (ret := (some .int)) (own := RX1) (by decide) rfl rfl (Nat.le_of_ble_eq_true rfl) ?_
  intro p e s m below meth c ls hF hnm hH hl
  have hl : lv_has ls 4 [(0, .ref o), (1, .int x), (2, .int y), (3, .int (nI g))] := hl
  have hLc : lcs b0 [] := lcs_nil b0
  obtain ⟨hx, hb, hr, hml, hown, hts, hlocks, hK⟩ := id hF
  refine lv_iload_n hx hb dX1_turn_0 rfl (lv_at hl 1 rfl) ?_
  refine mc_i0 (va_runS (As := [.int x]) (rest := []) ⟨hx, hb, hml, hown, hts⟩ (c_X1_isSlot l G b0 H (x)) (va_cwS 1 hts gX1_turn_X1_isSlot rfl rfl rfl (by decide +kernel) ⟨Nat.le_of_ble_eq_true rfl, Nat.le_of_ble_eq_true rfl⟩) (mp_S hK) rfl rfl hl.1 rfl (lv_room (Nat.le_of_ble_eq_true rfl)) dX1_turn_1 ⟨Nat.le_of_ble_eq_true rfl, Nat.le_of_ble_eq_true rfl⟩) hLc (fun r H1 locs hP hLc => ?_)
  obtain ⟨hP, rfl⟩ := hP
  rcases hP with ⟨k, _h0, hk, rfl, rfl⟩ | ⟨hno, rfl⟩
  · skip
    refine m_if_eq (tgt := 14) hx hb (by decide) dX1_turn_4 (by decide) (fun h => absurd h (by decide)) (fun _ => ?_)
    refine lv_iload_n hx hb dX1_turn_7 rfl (lv_at hl 2 rfl) ?_
    refine mc_i0 (va_runS (As := [.int y]) (rest := []) ⟨hx, hb, hml, hown, hts⟩ (c_X1_isSlot l G b0 H (y)) (va_cwS 1 hts gX1_turn_X1_isSlot rfl rfl rfl (by decide +kernel) ⟨Nat.le_of_ble_eq_true rfl, Nat.le_of_ble_eq_true rfl⟩) (mp_S hK) rfl rfl hl.1 rfl (lv_room (Nat.le_of_ble_eq_true rfl)) dX1_turn_8 ⟨Nat.le_of_ble_eq_true rfl, Nat.le_of_ble_eq_true rfl⟩) hLc (fun r H1 locs hP hLc => ?_)
    obtain ⟨hP, rfl⟩ := hP
    rcases hP with ⟨i, _h0, hi, rfl, rfl⟩ | ⟨hno, rfl⟩
    · skip
      refine m_if_ne (tgt := 16) hx hb (by decide) dX1_turn_11 (by decide) (fun _ => ?_) (fun h => absurd h (by decide))
      refine lv_aload_n hx hb dX1_turn_16 rfl (lv_at hl 0 rfl) ?_
      refine va_get (D := G.1) (ci := 0) (v := .ref (ad 0)) (C := RX1) (T := TX1) (N := 9) hx hb hts hwsX1_turn hown hK hS.w.ob 0 rfl rfl 0 (by decide) (hts (.fieldLink RX1 11 "ExactNumbers" "sizes" "[[J") (by decide +kernel)) (fun _ h9 => h9) rfl dX1_turn_17 ?_
      refine lv_iload_n hx hb dX1_turn_20 rfl (lv_at hl 2 rfl) ?_
      refine m_aald (n := 64) (f := (fun i => ad (i + 7))) hx hb hK (hS.w.get 0 (by decide)) (by omega) (by decide) dX1_turn_21 ?_
      refine lv_aload_n hx hb dX1_turn_22 rfl (lv_at hl 0 rfl) ?_
      refine va_get (D := G.1) (ci := 0) (v := .ref (ad 4)) (C := RX1) (T := TX1) (N := 9) hx hb hts hwsX1_turn hown hK hS.w.ob 0 rfl rfl 6 (by decide) (hts (.fieldLink RX1 32 "ExactNumbers" "first" "[J") (by decide +kernel)) (fun _ h9 => h9) rfl dX1_turn_23 ?_
      have hbi := (hI i (by omega)).2.1
      have hnz := (hI i (by omega)).2.2
      refine mc_v0 (va_runS (As := [.ref (ad (i + 7)), .ref (ad 4)]) (rest := []) ⟨hx, hb, hml, hown, hts⟩ (c_X0_copy l G b0 H (hS.w.get (i + 7) (by omega)) (hS.w.get 4 (by decide)) (by decide) (by decide) (hS.w.ne (by omega) (by decide) (by omega)) (hS.w.b 4 (by decide))) (va_cwS 2 hts gX1_turn_X0_copy rfl rfl rfl (by decide +kernel) ⟨Nat.le_of_ble_eq_true rfl, Nat.le_of_ble_eq_true rfl⟩) (mp_S hK) rfl rfl hl.1 rfl (lv_room (Nat.le_of_ble_eq_true rfl)) dX1_turn_26 ⟨Nat.le_of_ble_eq_true rfl, Nat.le_of_ble_eq_true rfl⟩) hLc (fun H1 locs hP hLc => ?_)
      obtain ⟨g2, hg2, rfl⟩ := hP
      have hl2 : lim g2 17 := fun j hj => by rw [hg2 j hj]; exact lat_lim (hI i (by omega)).1 j
      have hv2 : vl g2 17 = vl (sz i) 16 := by rw [vl_congr hg2, l16_17]
      have hS := hS.p_f1 g2
      generalize hput H (ad 4) (aJ G 17 g2) = Hc at hS ⊢
      refine lv_iload_n hx hb dX1_turn_29 rfl (lv_at hl 3 rfl) ?_
      refine m_if_eq (tgt := 59) hx hb (by omega) dX1_turn_30 (by decide) (fun c30 => ?_) (fun c30 => ?_)
      · skip
        refine lv_aload_n hx hb dX1_turn_59 rfl (lv_at hl 0 rfl) ?_
        refine lv_iload_n hx hb dX1_turn_60 rfl (lv_at hl 1 rfl) ?_
        refine lv_aload_n hx hb dX1_turn_61 rfl (lv_at hl 0 rfl) ?_
        refine va_get (D := G.1) (ci := 0) (v := .ref (ad 4)) (C := RX1) (T := TX1) (N := 9) hx hb hts hwsX1_turn hown hK hS.w.ob 0 rfl rfl 6 (by decide) (hts (.fieldLink RX1 32 "ExactNumbers" "first" "[J") (by decide +kernel)) (fun _ h9 => h9) rfl dX1_turn_62 ?_
        refine lv_aload_n hx hb dX1_turn_65 rfl (lv_at hl 0 rfl) ?_
        refine va_get (D := G.1) (ci := 0) (v := .ref (ad 1)) (C := RX1) (T := TX1) (N := 9) hx hb hts hwsX1_turn hown hK hS.w.ob 0 rfl rfl 1 (by decide) (hts (.fieldLink RX1 14 "ExactNumbers" "below" "[Z") (by decide +kernel)) (fun _ h9 => h9) rfl dX1_turn_66 ?_
        refine lv_iload_n hx hb dX1_turn_69 rfl (lv_at hl 2 rfl) ?_
        refine m_zald (n := 64) (f := bl) hx hb hK (hS.w.get 1 (by decide)) (by omega) (by decide) dX1_turn_70 ?_
        refine m_if_ne (tgt := 78) hx hb (by omega) dX1_turn_71 (by decide) (fun c71 => ?_) (fun c71 => ?_)
        · skip
          refine lv_iconst (v := nI 0) hx hb dX1_turn_78 (by decide) ?_
          refine mc_i0 (va_runV (As := [.int (nI k), .ref (ad 4), .int (nI 0)]) (rest := []) ⟨hx, hb, hml, hown, hts⟩ (c_X1_store l G b0 Hc hS.rf hI k (by omega) (hS.w.get 4 (by decide)) (by decide) (by decide) hl2 (by decide)) (cwV 3 hts gX1_turn_X1_store rfl rfl rfl (by decide +kernel) ⟨Nat.le_of_ble_eq_true rfl, Nat.le_of_ble_eq_true rfl⟩) (mp_V hK hS.w.ob rfl) rfl rfl hl.1 rfl (lv_room (Nat.le_of_ble_eq_true rfl)) dX1_turn_79 ⟨Nat.le_of_ble_eq_true rfl, Nat.le_of_ble_eq_true rfl⟩) hLc (fun r H1 locs hP hLc => ?_)
          exact m_iret hx hb hr hlocks hLc dX1_turn_82 (Or.inl ⟨k, i, hk, hi, rfl, rfl, (KX.trans hS hP).val (by unfold valX sg; (repeat' split) <;> omega) (fun _ _ => rfl)⟩)
        · skip
          refine lv_iconst (v := nI 1) hx hb dX1_turn_74 (by decide) ?_
          refine lv_goto (tgt := 79) hx hb dX1_turn_75 (by decide) ?_
          refine mc_i0 (va_runV (As := [.int (nI k), .ref (ad 4), .int (nI 1)]) (rest := []) ⟨hx, hb, hml, hown, hts⟩ (c_X1_store l G b0 Hc hS.rf hI k (by omega) (hS.w.get 4 (by decide)) (by decide) (by decide) hl2 (by decide)) (cwV 3 hts gX1_turn_X1_store rfl rfl rfl (by decide +kernel) ⟨Nat.le_of_ble_eq_true rfl, Nat.le_of_ble_eq_true rfl⟩) (mp_V hK hS.w.ob rfl) rfl rfl hl.1 rfl (lv_room (Nat.le_of_ble_eq_true rfl)) dX1_turn_79 ⟨Nat.le_of_ble_eq_true rfl, Nat.le_of_ble_eq_true rfl⟩) hLc (fun r H1 locs hP hLc => ?_)
          exact m_iret hx hb hr hlocks hLc dX1_turn_82 (Or.inl ⟨k, i, hk, hi, rfl, rfl, (KX.trans hS hP).val (by unfold valX sg; (repeat' split) <;> omega) (fun _ _ => rfl)⟩)
      · skip
        refine lv_aload_n hx hb dX1_turn_33 rfl (lv_at hl 0 rfl) ?_
        refine va_get (D := G.1) (ci := 0) (v := .ref (ad 1)) (C := RX1) (T := TX1) (N := 9) hx hb hts hwsX1_turn hown hK hS.w.ob 0 rfl rfl 1 (by decide) (hts (.fieldLink RX1 14 "ExactNumbers" "below" "[Z") (by decide +kernel)) (fun _ h9 => h9) rfl dX1_turn_34 ?_
        refine lv_iload_n hx hb dX1_turn_37 rfl (lv_at hl 2 rfl) ?_
        refine m_zald (n := 64) (f := bl) hx hb hK (hS.w.get 1 (by decide)) (by omega) (by decide) dX1_turn_38 ?_
        refine m_if_eq (tgt := 52) hx hb (by omega) dX1_turn_39 (by decide) (fun c39 => ?_) (fun c39 => ?_)
        · skip
          refine lv_aload_n hx hb dX1_turn_52 rfl (lv_at hl 0 rfl) ?_
          refine va_get (D := G.1) (ci := 0) (v := .ref (ad 4)) (C := RX1) (T := TX1) (N := 9) hx hb hts hwsX1_turn hown hK hS.w.ob 0 rfl rfl 6 (by decide) (hts (.fieldLink RX1 32 "ExactNumbers" "first" "[J") (by decide +kernel)) (fun _ h9 => h9) rfl dX1_turn_53 ?_
          refine mc_v0 (va_runS (As := [.ref (ad 4)]) (rest := []) ⟨hx, hb, hml, hown, hts⟩ (c_X0_increase l G b0 Hc (hS.w.get 4 (by decide)) (by decide) hl2 (hS.w.b 4 (by decide))) (va_cwS 1 hts gX1_turn_X0_increase rfl rfl rfl (by decide +kernel) ⟨Nat.le_of_ble_eq_true rfl, Nat.le_of_ble_eq_true rfl⟩) (mp_S hK) rfl rfl hl.1 rfl (lv_room (Nat.le_of_ble_eq_true rfl)) dX1_turn_56 ⟨Nat.le_of_ble_eq_true rfl, Nat.le_of_ble_eq_true rfl⟩) hLc (fun H1 locs hP hLc => ?_)
          obtain ⟨g3, hl3, hv3, rfl⟩ := hP
          have hv3 : vl g3 17 = vl (sz i) 16 + 1 := by rw [hv3, hv2]; exact inc17 (vl_lt (hI i (by omega)).1)
          have hS := hS.p_f1 g3
          generalize hput Hc (ad 4) (aJ G 17 g3) = Hc at hS ⊢
          refine lv_aload_n hx hb dX1_turn_59 rfl (lv_at hl 0 rfl) ?_
          refine lv_iload_n hx hb dX1_turn_60 rfl (lv_at hl 1 rfl) ?_
          refine lv_aload_n hx hb dX1_turn_61 rfl (lv_at hl 0 rfl) ?_
          refine va_get (D := G.1) (ci := 0) (v := .ref (ad 4)) (C := RX1) (T := TX1) (N := 9) hx hb hts hwsX1_turn hown hK hS.w.ob 0 rfl rfl 6 (by decide) (hts (.fieldLink RX1 32 "ExactNumbers" "first" "[J") (by decide +kernel)) (fun _ h9 => h9) rfl dX1_turn_62 ?_
          refine lv_aload_n hx hb dX1_turn_65 rfl (lv_at hl 0 rfl) ?_
          refine va_get (D := G.1) (ci := 0) (v := .ref (ad 1)) (C := RX1) (T := TX1) (N := 9) hx hb hts hwsX1_turn hown hK hS.w.ob 0 rfl rfl 1 (by decide) (hts (.fieldLink RX1 14 "ExactNumbers" "below" "[Z") (by decide +kernel)) (fun _ h9 => h9) rfl dX1_turn_66 ?_
          refine lv_iload_n hx hb dX1_turn_69 rfl (lv_at hl 2 rfl) ?_
          refine m_zald (n := 64) (f := bl) hx hb hK (hS.w.get 1 (by decide)) (by omega) (by decide) dX1_turn_70 ?_
          refine m_if_ne (tgt := 78) hx hb (by omega) dX1_turn_71 (by decide) (fun c71 => ?_) (fun c71 => ?_)
          · skip
            refine lv_iconst (v := nI 0) hx hb dX1_turn_78 (by decide) ?_
            refine mc_i0 (va_runV (As := [.int (nI k), .ref (ad 4), .int (nI 0)]) (rest := []) ⟨hx, hb, hml, hown, hts⟩ (c_X1_store l G b0 Hc hS.rf hI k (by omega) (hS.w.get 4 (by decide)) (by decide) (by decide) hl3 (by decide)) (cwV 3 hts gX1_turn_X1_store rfl rfl rfl (by decide +kernel) ⟨Nat.le_of_ble_eq_true rfl, Nat.le_of_ble_eq_true rfl⟩) (mp_V hK hS.w.ob rfl) rfl rfl hl.1 rfl (lv_room (Nat.le_of_ble_eq_true rfl)) dX1_turn_79 ⟨Nat.le_of_ble_eq_true rfl, Nat.le_of_ble_eq_true rfl⟩) hLc (fun r H1 locs hP hLc => ?_)
            exact m_iret hx hb hr hlocks hLc dX1_turn_82 (Or.inl ⟨k, i, hk, hi, rfl, rfl, (KX.trans hS hP).val (by unfold valX sg; (repeat' split) <;> omega) (fun _ _ => rfl)⟩)
          · skip
            refine lv_iconst (v := nI 1) hx hb dX1_turn_74 (by decide) ?_
            refine lv_goto (tgt := 79) hx hb dX1_turn_75 (by decide) ?_
            refine mc_i0 (va_runV (As := [.int (nI k), .ref (ad 4), .int (nI 1)]) (rest := []) ⟨hx, hb, hml, hown, hts⟩ (c_X1_store l G b0 Hc hS.rf hI k (by omega) (hS.w.get 4 (by decide)) (by decide) (by decide) hl3 (by decide)) (cwV 3 hts gX1_turn_X1_store rfl rfl rfl (by decide +kernel) ⟨Nat.le_of_ble_eq_true rfl, Nat.le_of_ble_eq_true rfl⟩) (mp_V hK hS.w.ob rfl) rfl rfl hl.1 rfl (lv_room (Nat.le_of_ble_eq_true rfl)) dX1_turn_79 ⟨Nat.le_of_ble_eq_true rfl, Nat.le_of_ble_eq_true rfl⟩) hLc (fun r H1 locs hP hLc => ?_)
            exact m_iret hx hb hr hlocks hLc dX1_turn_82 (Or.inl ⟨k, i, hk, hi, rfl, rfl, (KX.trans hS hP).val (by unfold valX sg; (repeat' split) <;> omega) (fun _ _ => rfl)⟩)
        · skip
          refine lv_aload_n hx hb dX1_turn_42 rfl (lv_at hl 0 rfl) ?_
          refine va_get (D := G.1) (ci := 0) (v := .ref (ad 4)) (C := RX1) (T := TX1) (N := 9) hx hb hts hwsX1_turn hown hK hS.w.ob 0 rfl rfl 6 (by decide) (hts (.fieldLink RX1 32 "ExactNumbers" "first" "[J") (by decide +kernel)) (fun _ h9 => h9) rfl dX1_turn_43 ?_
          refine mc_v0 (va_runS (As := [.ref (ad 4)]) (rest := []) ⟨hx, hb, hml, hown, hts⟩ (c_X0_decrease l G b0 Hc (hS.w.get 4 (by decide)) (by decide) hl2 (hS.w.b 4 (by decide)) (by have := hnz (by omega); omega)) (va_cwS 1 hts gX1_turn_X0_decrease rfl rfl rfl (by decide +kernel) ⟨Nat.le_of_ble_eq_true rfl, Nat.le_of_ble_eq_true rfl⟩) (mp_S hK) rfl rfl hl.1 rfl (lv_room (Nat.le_of_ble_eq_true rfl)) dX1_turn_46 ⟨Nat.le_of_ble_eq_true rfl, Nat.le_of_ble_eq_true rfl⟩) hLc (fun H1 locs hP hLc => ?_)
          obtain ⟨g3, hl3, hv3, rfl⟩ := hP
          rw [hv2] at hv3
          have hS := hS.p_f1 g3
          generalize hput Hc (ad 4) (aJ G 17 g3) = Hc at hS ⊢
          refine lv_goto (tgt := 59) hx hb dX1_turn_49 (by decide) ?_
          refine lv_aload_n hx hb dX1_turn_59 rfl (lv_at hl 0 rfl) ?_
          refine lv_iload_n hx hb dX1_turn_60 rfl (lv_at hl 1 rfl) ?_
          refine lv_aload_n hx hb dX1_turn_61 rfl (lv_at hl 0 rfl) ?_
          refine va_get (D := G.1) (ci := 0) (v := .ref (ad 4)) (C := RX1) (T := TX1) (N := 9) hx hb hts hwsX1_turn hown hK hS.w.ob 0 rfl rfl 6 (by decide) (hts (.fieldLink RX1 32 "ExactNumbers" "first" "[J") (by decide +kernel)) (fun _ h9 => h9) rfl dX1_turn_62 ?_
          refine lv_aload_n hx hb dX1_turn_65 rfl (lv_at hl 0 rfl) ?_
          refine va_get (D := G.1) (ci := 0) (v := .ref (ad 1)) (C := RX1) (T := TX1) (N := 9) hx hb hts hwsX1_turn hown hK hS.w.ob 0 rfl rfl 1 (by decide) (hts (.fieldLink RX1 14 "ExactNumbers" "below" "[Z") (by decide +kernel)) (fun _ h9 => h9) rfl dX1_turn_66 ?_
          refine lv_iload_n hx hb dX1_turn_69 rfl (lv_at hl 2 rfl) ?_
          refine m_zald (n := 64) (f := bl) hx hb hK (hS.w.get 1 (by decide)) (by omega) (by decide) dX1_turn_70 ?_
          refine m_if_ne (tgt := 78) hx hb (by omega) dX1_turn_71 (by decide) (fun c71 => ?_) (fun c71 => ?_)
          · skip
            refine lv_iconst (v := nI 0) hx hb dX1_turn_78 (by decide) ?_
            refine mc_i0 (va_runV (As := [.int (nI k), .ref (ad 4), .int (nI 0)]) (rest := []) ⟨hx, hb, hml, hown, hts⟩ (c_X1_store l G b0 Hc hS.rf hI k (by omega) (hS.w.get 4 (by decide)) (by decide) (by decide) hl3 (by decide)) (cwV 3 hts gX1_turn_X1_store rfl rfl rfl (by decide +kernel) ⟨Nat.le_of_ble_eq_true rfl, Nat.le_of_ble_eq_true rfl⟩) (mp_V hK hS.w.ob rfl) rfl rfl hl.1 rfl (lv_room (Nat.le_of_ble_eq_true rfl)) dX1_turn_79 ⟨Nat.le_of_ble_eq_true rfl, Nat.le_of_ble_eq_true rfl⟩) hLc (fun r H1 locs hP hLc => ?_)
            exact m_iret hx hb hr hlocks hLc dX1_turn_82 (Or.inl ⟨k, i, hk, hi, rfl, rfl, (KX.trans hS hP).val (by unfold valX sg; (repeat' split) <;> omega) (fun _ _ => rfl)⟩)
          · skip
            refine lv_iconst (v := nI 1) hx hb dX1_turn_74 (by decide) ?_
            refine lv_goto (tgt := 79) hx hb dX1_turn_75 (by decide) ?_
            refine mc_i0 (va_runV (As := [.int (nI k), .ref (ad 4), .int (nI 1)]) (rest := []) ⟨hx, hb, hml, hown, hts⟩ (c_X1_store l G b0 Hc hS.rf hI k (by omega) (hS.w.get 4 (by decide)) (by decide) (by decide) hl3 (by decide)) (cwV 3 hts gX1_turn_X1_store rfl rfl rfl (by decide +kernel) ⟨Nat.le_of_ble_eq_true rfl, Nat.le_of_ble_eq_true rfl⟩) (mp_V hK hS.w.ob rfl) rfl rfl hl.1 rfl (lv_room (Nat.le_of_ble_eq_true rfl)) dX1_turn_79 ⟨Nat.le_of_ble_eq_true rfl, Nat.le_of_ble_eq_true rfl⟩) hLc (fun r H1 locs hP hLc => ?_)
            exact m_iret hx hb hr hlocks hLc dX1_turn_82 (Or.inl ⟨k, i, hk, hi, rfl, rfl, (KX.trans hS hP).val (by unfold valX sg; (repeat' split) <;> omega) (fun _ _ => rfl)⟩)
    · skip
      refine m_if_ne (tgt := 16) hx hb (by decide) dX1_turn_11 (by decide) (fun h => absurd h (by decide)) (fun _ => ?_)
      refine lv_iconst (v := nI 3) hx hb dX1_turn_14 (by decide) ?_
      exact m_iret hx hb hr hlocks hLc dX1_turn_15 (Or.inr ⟨by first | exact Or.inl hno | exact Or.inr hno, rfl, hS.r hI⟩)
  · skip
    refine m_if_eq (tgt := 14) hx hb (by decide) dX1_turn_4 (by decide) (fun _ => ?_) (fun h => absurd h (by decide))
    refine lv_iconst (v := nI 3) hx hb dX1_turn_14 (by decide) ?_
    exact m_iret hx hb hr hlocks hLc dX1_turn_15 (Or.inr ⟨by first | exact Or.inl hno | exact Or.inr hno, rfl, hS.r hI⟩)
