set_option maxRecDepth 100000 in
set_option maxHeartbeats 4000000 in
theorem c_X1_work (l : Launch) (G : gG) (b0 : Nat) (H : Heap) {o : Nat} {ad : Nat → Nat} {sz : Nat → Nat → Nat} {bl : Nat → Nat} {dv : Nat → Nat} {dc : Nat} {wr : Nat → Nat} {wf : Nat} {f1 : Nat → Nat} {f2 : Nat → Nat} {fw : Nat → Nat} (hS : SX G b0 o ad H sz bl dv dc wr wf f1 f2 fw H) (hI : IV sz bl) (z s0 x y : Int32) : Met l yX1_work wsX1_work ({ frames := 4, cells := 0, slots := 0, locals := 91 } : Room) (PcH G H [.ref o, .int z, .int s0, .int x, .int y]) (QcI (fun r H1 => (∃ n k i j, n ≤ 8 ∧ k ≤ 63 ∧ i ≤ 63 ∧ j ≤ 63 ∧ z = nI n ∧ s0 = nI k ∧ x = nI i ∧ y = nI j ∧ ((((n = 3 ∨ n = 4) ∧ valX sz bl j = 0) ∧ r = nI 2 ∧ RX G b0 o ad H (valX sz bl) dv dc wr wf H1) ∨ (¬ ((n = 3 ∨ n = 4) ∧ valX sz bl j = 0) ∧ KX G b0 o ad H (valX sz bl) dv dc wr wf k (wv n (valX sz bl i) (valX sz bl j)) r H1))) ∨ ((noslot s0 ∨ noslot x ∨ noslot y ∨ noop z) ∧ r = nI 3 ∧ RX G b0 o ad H (valX sz bl) dv dc wr wf H1))) 0 0 (fre b0) := by
  refine m_enter (cc := cX1_work) (maxL := 5) (ret := (some .int)) (own := RX1) (by decide) rfl rfl (Nat.le_of_ble_eq_true rfl) ?_
  intro p e s m below meth c ls hF hnm hH hl
  have hl : lv_has ls 5 [(0, .ref o), (1, .int z), (2, .int s0), (3, .int x), (4, .int y)] := hl
  have hLc : lcs b0 [] := lcs_nil b0
  obtain ⟨hx, hb, hr, hml, hown, hts, hlocks, hK⟩ := id hF
  refine lv_iload_n hx hb dX1_work_0 rfl (lv_at hl 2 rfl) ?_
  refine mc_i0 (va_runS (As := [.int s0]) (rest := []) ⟨hx, hb, hml, hown, hts⟩ (c_X1_isSlot l G b0 H (s0)) (va_cwS 1 hts gX1_work_X1_isSlot rfl rfl rfl (by decide +kernel) ⟨Nat.le_of_ble_eq_true rfl, Nat.le_of_ble_eq_true rfl⟩) (mp_S hK) rfl rfl hl.1 rfl (lv_room (Nat.le_of_ble_eq_true rfl)) dX1_work_1 ⟨Nat.le_of_ble_eq_true rfl, Nat.le_of_ble_eq_true rfl⟩) hLc (fun r H1 locs hP hLc => ?_)
  obtain ⟨hP, rfl⟩ := hP
  rcases hP with ⟨k, _h0, hk, rfl, rfl⟩ | ⟨hno, rfl⟩
  · skip
    refine m_if_eq (tgt := 22) hx hb (by decide) dX1_work_4 (by decide) (fun h => absurd h (by decide)) (fun _ => ?_)
    refine lv_iload_n hx hb dX1_work_7 rfl (lv_at hl 3 rfl) ?_
    refine mc_i0 (va_runS (As := [.int x]) (rest := []) ⟨hx, hb, hml, hown, hts⟩ (c_X1_isSlot l G b0 H (x)) (va_cwS 1 hts gX1_work_X1_isSlot rfl rfl rfl (by decide +kernel) ⟨Nat.le_of_ble_eq_true rfl, Nat.le_of_ble_eq_true rfl⟩) (mp_S hK) rfl rfl hl.1 rfl (lv_room (Nat.le_of_ble_eq_true rfl)) dX1_work_8 ⟨Nat.le_of_ble_eq_true rfl, Nat.le_of_ble_eq_true rfl⟩) hLc (fun r H1 locs hP hLc => ?_)
    obtain ⟨hP, rfl⟩ := hP
    rcases hP with ⟨i, _h0, hi, rfl, rfl⟩ | ⟨hno, rfl⟩
    · skip
      refine m_if_eq (tgt := 22) hx hb (by decide) dX1_work_11 (by decide) (fun h => absurd h (by decide)) (fun _ => ?_)
      refine lv_iload hx hb dX1_work_14 (lv_at hl 4 rfl) ?_
      refine mc_i0 (va_runS (As := [.int y]) (rest := []) ⟨hx, hb, hml, hown, hts⟩ (c_X1_isSlot l G b0 H (y)) (va_cwS 1 hts gX1_work_X1_isSlot rfl rfl rfl (by decide +kernel) ⟨Nat.le_of_ble_eq_true rfl, Nat.le_of_ble_eq_true rfl⟩) (mp_S hK) rfl rfl hl.1 rfl (lv_room (Nat.le_of_ble_eq_true rfl)) dX1_work_16 ⟨Nat.le_of_ble_eq_true rfl, Nat.le_of_ble_eq_true rfl⟩) hLc (fun r H1 locs hP hLc => ?_)
      obtain ⟨hP, rfl⟩ := hP
      rcases hP with ⟨j, _h0, hj, rfl, rfl⟩ | ⟨hno, rfl⟩
      · skip
        refine m_if_ne (tgt := 24) hx hb (by decide) dX1_work_19 (by decide) (fun _ => ?_) (fun h => absurd h (by decide))
        refine lv_iload_n hx hb dX1_work_24 rfl (lv_at hl 1 rfl) ?_
        have hbi := (hI i (by omega)).2.1
        have hbj := (hI j (by omega)).2.1
        rcases op_cases z with rfl | rfl | rfl | rfl | rfl | rfl | rfl | rfl | rfl | ⟨hno, hzz⟩
        · skip
          refine lv_tableIn (tgt := 76) (off := 51) hx hb dX1_work_25 (by decide) (by decide) (by decide) (by decide) ?_
          refine lv_aload_n hx hb dX1_work_76 rfl (lv_at hl 0 rfl) ?_
          refine lv_iload_n hx hb dX1_work_77 rfl (lv_at hl 2 rfl) ?_
          refine lv_iload_n hx hb dX1_work_78 rfl (lv_at hl 3 rfl) ?_
          refine lv_iload hx hb dX1_work_79 (lv_at hl 4 rfl) ?_
          refine lv_aload_n hx hb dX1_work_81 rfl (lv_at hl 0 rfl) ?_
          refine va_get (D := G.1) (ci := 0) (v := .ref (ad 1)) (C := RX1) (T := TX1) (N := 9) hx hb hts hwsX1_work hown hK hS.w.ob 0 rfl rfl 1 (by decide) (hts (.fieldLink RX1 14 "ExactNumbers" "below" "[Z") (by decide +kernel)) (fun _ h9 => h9) rfl dX1_work_82 ?_
          refine lv_iload hx hb dX1_work_85 (lv_at hl 4 rfl) ?_
          refine m_zald (n := 64) (f := bl) hx hb hK (hS.w.get 1 (by decide)) (by omega) (by decide) dX1_work_87 ?_
          refine mc_i0 (va_runV (As := [.int (nI k), .int (nI i), .int (nI j), .int (nI (bl j))]) (rest := []) ⟨hx, hb, hml, hown, hts⟩ (c_X1_sum l G b0 H hS.rf hI (by omega) (by omega) (by omega) hbj) (cwV 4 hts gX1_work_X1_sum rfl rfl rfl (by decide +kernel) ⟨Nat.le_of_ble_eq_true rfl, Nat.le_of_ble_eq_true rfl⟩) (mp_V hK hS.w.ob rfl) rfl rfl hl.1 rfl (lv_room (Nat.le_of_ble_eq_true rfl)) dX1_work_88 ⟨Nat.le_of_ble_eq_true rfl, Nat.le_of_ble_eq_true rfl⟩) hLc (fun r H1 locs hP hLc => ?_)
          exact m_iret hx hb hr hlocks hLc dX1_work_91 (Or.inl ⟨0, k, i, j, by decide, hk, hi, hj, rfl, rfl, rfl, rfl, Or.inr ⟨by omega, (KX.trans hS hP).val (rfl) (fun _ _ => rfl)⟩⟩)
        · skip
          refine lv_tableIn (tgt := 92) (off := 67) hx hb dX1_work_25 (by decide) (by decide) (by decide) (by decide) ?_
          refine lv_aload_n hx hb dX1_work_92 rfl (lv_at hl 0 rfl) ?_
          refine lv_iload_n hx hb dX1_work_93 rfl (lv_at hl 2 rfl) ?_
          refine lv_iload_n hx hb dX1_work_94 rfl (lv_at hl 3 rfl) ?_
          refine lv_iload hx hb dX1_work_95 (lv_at hl 4 rfl) ?_
          refine lv_aload_n hx hb dX1_work_97 rfl (lv_at hl 0 rfl) ?_
          refine va_get (D := G.1) (ci := 0) (v := .ref (ad 1)) (C := RX1) (T := TX1) (N := 9) hx hb hts hwsX1_work hown hK hS.w.ob 0 rfl rfl 1 (by decide) (hts (.fieldLink RX1 14 "ExactNumbers" "below" "[Z") (by decide +kernel)) (fun _ h9 => h9) rfl dX1_work_98 ?_
          refine lv_iload hx hb dX1_work_101 (lv_at hl 4 rfl) ?_
          refine m_zald (n := 64) (f := bl) hx hb hK (hS.w.get 1 (by decide)) (by omega) (by decide) dX1_work_103 ?_
          refine m_if_ne (tgt := 111) hx hb (by omega) dX1_work_104 (by decide) (fun c104 => ?_) (fun c104 => ?_)
          · skip
            refine lv_iconst (v := nI 0) hx hb dX1_work_111 (by decide) ?_
            refine mc_i0 (va_runV (As := [.int (nI k), .int (nI i), .int (nI j), .int (nI 0)]) (rest := []) ⟨hx, hb, hml, hown, hts⟩ (c_X1_sum l G b0 H hS.rf hI (by omega) (by omega) (by omega) (by decide)) (cwV 4 hts gX1_work_X1_sum rfl rfl rfl (by decide +kernel) ⟨Nat.le_of_ble_eq_true rfl, Nat.le_of_ble_eq_true rfl⟩) (mp_V hK hS.w.ob rfl) rfl rfl hl.1 rfl (lv_room (Nat.le_of_ble_eq_true rfl)) dX1_work_112 ⟨Nat.le_of_ble_eq_true rfl, Nat.le_of_ble_eq_true rfl⟩) hLc (fun r H1 locs hP hLc => ?_)
            exact m_iret hx hb hr hlocks hLc dX1_work_115 (Or.inl ⟨1, k, i, j, by decide, hk, hi, hj, rfl, rfl, rfl, rfl, Or.inr ⟨by omega, (KX.trans hS hP).val (sub_sg0 c104 hbj) (fun _ _ => rfl)⟩⟩)
          · skip
            refine lv_iconst (v := nI 1) hx hb dX1_work_107 (by decide) ?_
            refine lv_goto (tgt := 112) hx hb dX1_work_108 (by decide) ?_
            refine mc_i0 (va_runV (As := [.int (nI k), .int (nI i), .int (nI j), .int (nI 1)]) (rest := []) ⟨hx, hb, hml, hown, hts⟩ (c_X1_sum l G b0 H hS.rf hI (by omega) (by omega) (by omega) (by decide)) (cwV 4 hts gX1_work_X1_sum rfl rfl rfl (by decide +kernel) ⟨Nat.le_of_ble_eq_true rfl, Nat.le_of_ble_eq_true rfl⟩) (mp_V hK hS.w.ob rfl) rfl rfl hl.1 rfl (lv_room (Nat.le_of_ble_eq_true rfl)) dX1_work_112 ⟨Nat.le_of_ble_eq_true rfl, Nat.le_of_ble_eq_true rfl⟩) hLc (fun r H1 locs hP hLc => ?_)
            exact m_iret hx hb hr hlocks hLc dX1_work_115 (Or.inl ⟨1, k, i, j, by decide, hk, hi, hj, rfl, rfl, rfl, rfl, Or.inr ⟨by omega, (KX.trans hS hP).val (sub_sg1 c104) (fun _ _ => rfl)⟩⟩)
        · skip
          refine lv_tableIn (tgt := 116) (off := 91) hx hb dX1_work_25 (by decide) (by decide) (by decide) (by decide) ?_
          refine lv_aload_n hx hb dX1_work_116 rfl (lv_at hl 0 rfl) ?_
          refine va_get (D := G.1) (ci := 0) (v := .ref (ad 0)) (C := RX1) (T := TX1) (N := 9) hx hb hts hwsX1_work hown hK hS.w.ob 0 rfl rfl 0 (by decide) (hts (.fieldLink RX1 11 "ExactNumbers" "sizes" "[[J") (by decide +kernel)) (fun _ h9 => h9) rfl dX1_work_117 ?_
          refine lv_iload_n hx hb dX1_work_120 rfl (lv_at hl 3 rfl) ?_
          refine m_aald (n := 64) (f := (fun i => ad (i + 7))) hx hb hK (hS.w.get 0 (by decide)) (by omega) (by decide) dX1_work_121 ?_
          refine lv_aload_n hx hb dX1_work_122 rfl (lv_at hl 0 rfl) ?_
          refine va_get (D := G.1) (ci := 0) (v := .ref (ad 0)) (C := RX1) (T := TX1) (N := 9) hx hb hts hwsX1_work hown hK hS.w.ob 0 rfl rfl 0 (by decide) (hts (.fieldLink RX1 11 "ExactNumbers" "sizes" "[[J") (by decide +kernel)) (fun _ h9 => h9) rfl dX1_work_123 ?_
          refine lv_iload hx hb dX1_work_126 (lv_at hl 4 rfl) ?_
          refine m_aald (n := 64) (f := (fun i => ad (i + 7))) hx hb hK (hS.w.get 0 (by decide)) (by omega) (by decide) dX1_work_128 ?_
          refine lv_aload_n hx hb dX1_work_129 rfl (lv_at hl 0 rfl) ?_
          refine va_get (D := G.1) (ci := 0) (v := .ref (ad 6)) (C := RX1) (T := TX1) (N := 9) hx hb hts hwsX1_work hown hK hS.w.ob 0 rfl rfl 8 (by decide) (hts (.fieldLink RX1 39 "ExactNumbers" "wide" "[J") (by decide +kernel)) (fun _ h9 => h9) rfl dX1_work_130 ?_
          refine mc_v0 (va_runS (As := [.ref (ad (i + 7)), .ref (ad (j + 7)), .ref (ad 6)]) (rest := []) ⟨hx, hb, hml, hown, hts⟩ (c_X0_multiply l G b0 H (hS.w.get (i + 7) (by omega)) (hS.w.get (j + 7) (by omega)) (hS.w.get 6 (by decide)) (by decide) (by decide) (hI i (by omega)).1 (hI j (by omega)).1 (hS.w.ne (by omega) (by decide) (by omega)) (hS.w.ne (by omega) (by decide) (by omega)) (hS.w.b 6 (by decide))) (va_cwS 3 hts gX1_work_X0_multiply rfl rfl rfl (by decide +kernel) ⟨Nat.le_of_ble_eq_true rfl, Nat.le_of_ble_eq_true rfl⟩) (mp_S hK) rfl rfl hl.1 rfl (lv_room (Nat.le_of_ble_eq_true rfl)) dX1_work_133 ⟨Nat.le_of_ble_eq_true rfl, Nat.le_of_ble_eq_true rfl⟩) hLc (fun H1 locs hP hLc => ?_)
          obtain ⟨g2, hl2, hv2, rfl⟩ := hP
          have hS := hS.p_fw g2
          generalize hput H (ad 6) (aJ G 32 g2) = Hc at hS ⊢
          refine lv_aload_n hx hb dX1_work_136 rfl (lv_at hl 0 rfl) ?_
          refine lv_iload_n hx hb dX1_work_137 rfl (lv_at hl 2 rfl) ?_
          refine lv_aload_n hx hb dX1_work_138 rfl (lv_at hl 0 rfl) ?_
          refine va_get (D := G.1) (ci := 0) (v := .ref (ad 6)) (C := RX1) (T := TX1) (N := 9) hx hb hts hwsX1_work hown hK hS.w.ob 0 rfl rfl 8 (by decide) (hts (.fieldLink RX1 39 "ExactNumbers" "wide" "[J") (by decide +kernel)) (fun _ h9 => h9) rfl dX1_work_139 ?_
          refine lv_aload_n hx hb dX1_work_142 rfl (lv_at hl 0 rfl) ?_
          refine va_get (D := G.1) (ci := 0) (v := .ref (ad 1)) (C := RX1) (T := TX1) (N := 9) hx hb hts hwsX1_work hown hK hS.w.ob 0 rfl rfl 1 (by decide) (hts (.fieldLink RX1 14 "ExactNumbers" "below" "[Z") (by decide +kernel)) (fun _ h9 => h9) rfl dX1_work_143 ?_
          refine lv_iload_n hx hb dX1_work_146 rfl (lv_at hl 3 rfl) ?_
          refine m_zald (n := 64) (f := bl) hx hb hK (hS.w.get 1 (by decide)) (by omega) (by decide) dX1_work_147 ?_
          refine lv_aload_n hx hb dX1_work_148 rfl (lv_at hl 0 rfl) ?_
          refine va_get (D := G.1) (ci := 0) (v := .ref (ad 1)) (C := RX1) (T := TX1) (N := 9) hx hb hts hwsX1_work hown hK hS.w.ob 0 rfl rfl 1 (by decide) (hts (.fieldLink RX1 14 "ExactNumbers" "below" "[Z") (by decide +kernel)) (fun _ h9 => h9) rfl dX1_work_149 ?_
          refine lv_iload hx hb dX1_work_152 (lv_at hl 4 rfl) ?_
          refine m_zald (n := 64) (f := bl) hx hb hK (hS.w.get 1 (by decide)) (by omega) (by decide) dX1_work_154 ?_
          refine m_icmp_eq (tgt := 162) hx hb (by omega) (by omega) dX1_work_155 (by decide) (fun c155 => ?_) (fun c155 => ?_)
          · skip
            refine lv_iconst (v := nI 0) hx hb dX1_work_162 (by decide) ?_
            refine mc_i0 (va_runV (As := [.int (nI k), .ref (ad 6), .int (nI 0)]) (rest := []) ⟨hx, hb, hml, hown, hts⟩ (c_X1_store l G b0 Hc hS.rf hI k (by omega) (hS.w.get 6 (by decide)) (by decide) (by decide) hl2 (by decide)) (cwV 3 hts gX1_work_X1_store rfl rfl rfl (by decide +kernel) ⟨Nat.le_of_ble_eq_true rfl, Nat.le_of_ble_eq_true rfl⟩) (mp_V hK hS.w.ob rfl) rfl rfl hl.1 rfl (lv_room (Nat.le_of_ble_eq_true rfl)) dX1_work_163 ⟨Nat.le_of_ble_eq_true rfl, Nat.le_of_ble_eq_true rfl⟩) hLc (fun r H1 locs hP hLc => ?_)
            exact m_iret hx hb hr hlocks hLc dX1_work_166 (Or.inl ⟨2, k, i, j, by decide, hk, hi, hj, rfl, rfl, rfl, rfl, Or.inr ⟨by omega, (KX.trans hS hP).val (by rw [hv2]; exact (congrArg (fun z => sg z _) ((if_pos c155).symm)).trans (mul_sg _ _ _ _ hbi hbj)) (fun _ _ => rfl)⟩⟩)
          · skip
            refine lv_iconst (v := nI 1) hx hb dX1_work_158 (by decide) ?_
            refine lv_goto (tgt := 163) hx hb dX1_work_159 (by decide) ?_
            refine mc_i0 (va_runV (As := [.int (nI k), .ref (ad 6), .int (nI 1)]) (rest := []) ⟨hx, hb, hml, hown, hts⟩ (c_X1_store l G b0 Hc hS.rf hI k (by omega) (hS.w.get 6 (by decide)) (by decide) (by decide) hl2 (by decide)) (cwV 3 hts gX1_work_X1_store rfl rfl rfl (by decide +kernel) ⟨Nat.le_of_ble_eq_true rfl, Nat.le_of_ble_eq_true rfl⟩) (mp_V hK hS.w.ob rfl) rfl rfl hl.1 rfl (lv_room (Nat.le_of_ble_eq_true rfl)) dX1_work_163 ⟨Nat.le_of_ble_eq_true rfl, Nat.le_of_ble_eq_true rfl⟩) hLc (fun r H1 locs hP hLc => ?_)
            exact m_iret hx hb hr hlocks hLc dX1_work_166 (Or.inl ⟨2, k, i, j, by decide, hk, hi, hj, rfl, rfl, rfl, rfl, Or.inr ⟨by omega, (KX.trans hS hP).val (by rw [hv2]; exact (congrArg (fun z => sg z _) ((if_neg c155).symm)).trans (mul_sg _ _ _ _ hbi hbj)) (fun _ _ => rfl)⟩⟩)
        · skip
          refine lv_tableIn (tgt := 167) (off := 142) hx hb dX1_work_25 (by decide) (by decide) (by decide) (by decide) ?_
          refine lv_aload_n hx hb dX1_work_167 rfl (lv_at hl 0 rfl) ?_
          refine lv_iload_n hx hb dX1_work_168 rfl (lv_at hl 2 rfl) ?_
          refine lv_iload_n hx hb dX1_work_169 rfl (lv_at hl 3 rfl) ?_
          refine lv_iload hx hb dX1_work_170 (lv_at hl 4 rfl) ?_
          refine lv_iconst (v := nI 0) hx hb dX1_work_172 (by decide) ?_
          refine mc_i0 (va_runV (As := [.int (nI k), .int (nI i), .int (nI j), .int (nI 0)]) (rest := []) ⟨hx, hb, hml, hown, hts⟩ (c_X1_quotientOrRest l G b0 H hS.rf hI (by omega) (by omega) (by omega) (by decide)) (cwV 4 hts gX1_work_X1_quotientOrRest rfl rfl rfl (by decide +kernel) ⟨Nat.le_of_ble_eq_true rfl, Nat.le_of_ble_eq_true rfl⟩) (mp_V hK hS.w.ob rfl) rfl rfl hl.1 rfl (lv_room (Nat.le_of_ble_eq_true rfl)) dX1_work_173 ⟨Nat.le_of_ble_eq_true rfl, Nat.le_of_ble_eq_true rfl⟩) hLc (fun r H1 locs hP hLc => ?_)
          rcases hP with ⟨hj0, rfl, hP⟩ | ⟨hj0, hP⟩
          · exact m_iret hx hb hr hlocks hLc dX1_work_176 (Or.inl ⟨3, k, i, j, by decide, hk, hi, hj, rfl, rfl, rfl, rfl, Or.inl ⟨⟨by omega, hj0⟩, rfl, RX.trans hS hP⟩⟩)
          · exact m_iret hx hb hr hlocks hLc dX1_work_176 (Or.inl ⟨3, k, i, j, by decide, hk, hi, hj, rfl, rfl, rfl, rfl, Or.inr ⟨fun e => hj0 e.2, (KX.trans hS hP).val rfl (fun _ _ => rfl)⟩⟩)
        · skip
          refine lv_tableIn (tgt := 177) (off := 152) hx hb dX1_work_25 (by decide) (by decide) (by decide) (by decide) ?_
          refine lv_aload_n hx hb dX1_work_177 rfl (lv_at hl 0 rfl) ?_
          refine lv_iload_n hx hb dX1_work_178 rfl (lv_at hl 2 rfl) ?_
          refine lv_iload_n hx hb dX1_work_179 rfl (lv_at hl 3 rfl) ?_
          refine lv_iload hx hb dX1_work_180 (lv_at hl 4 rfl) ?_
          refine lv_iconst (v := nI 1) hx hb dX1_work_182 (by decide) ?_
          refine mc_i0 (va_runV (As := [.int (nI k), .int (nI i), .int (nI j), .int (nI 1)]) (rest := []) ⟨hx, hb, hml, hown, hts⟩ (c_X1_quotientOrRest l G b0 H hS.rf hI (by omega) (by omega) (by omega) (by decide)) (cwV 4 hts gX1_work_X1_quotientOrRest rfl rfl rfl (by decide +kernel) ⟨Nat.le_of_ble_eq_true rfl, Nat.le_of_ble_eq_true rfl⟩) (mp_V hK hS.w.ob rfl) rfl rfl hl.1 rfl (lv_room (Nat.le_of_ble_eq_true rfl)) dX1_work_183 ⟨Nat.le_of_ble_eq_true rfl, Nat.le_of_ble_eq_true rfl⟩) hLc (fun r H1 locs hP hLc => ?_)
          rcases hP with ⟨hj0, rfl, hP⟩ | ⟨hj0, hP⟩
          · exact m_iret hx hb hr hlocks hLc dX1_work_186 (Or.inl ⟨4, k, i, j, by decide, hk, hi, hj, rfl, rfl, rfl, rfl, Or.inl ⟨⟨by omega, hj0⟩, rfl, RX.trans hS hP⟩⟩)
          · exact m_iret hx hb hr hlocks hLc dX1_work_186 (Or.inl ⟨4, k, i, j, by decide, hk, hi, hj, rfl, rfl, rfl, rfl, Or.inr ⟨fun e => hj0 e.2, (KX.trans hS hP).val rfl (fun _ _ => rfl)⟩⟩)
        · skip
          refine lv_tableIn (tgt := 187) (off := 162) hx hb dX1_work_25 (by decide) (by decide) (by decide) (by decide) ?_
          refine lv_aload_n hx hb dX1_work_187 rfl (lv_at hl 0 rfl) ?_
          refine lv_iload_n hx hb dX1_work_188 rfl (lv_at hl 1 rfl) ?_
          refine lv_iload_n hx hb dX1_work_189 rfl (lv_at hl 2 rfl) ?_
          refine lv_iload_n hx hb dX1_work_190 rfl (lv_at hl 3 rfl) ?_
          refine lv_iload hx hb dX1_work_191 (lv_at hl 4 rfl) ?_
          refine mc_i0 (va_runV (As := [.int (nI 5), .int (nI k), .int (nI i), .int (nI j)]) (rest := []) ⟨hx, hb, hml, hown, hts⟩ (c_X1_bitByBit l G b0 H hS.rf hI (by decide) (by omega) (by omega) (by omega)) (cwV 4 hts gX1_work_X1_bitByBit rfl rfl rfl (by decide +kernel) ⟨Nat.le_of_ble_eq_true rfl, Nat.le_of_ble_eq_true rfl⟩) (mp_V hK hS.w.ob rfl) rfl rfl hl.1 rfl (lv_room (Nat.le_of_ble_eq_true rfl)) dX1_work_193 ⟨Nat.le_of_ble_eq_true rfl, Nat.le_of_ble_eq_true rfl⟩) hLc (fun r H1 locs hP hLc => ?_)
          exact m_iret hx hb hr hlocks hLc dX1_work_196 (Or.inl ⟨5, k, i, j, by decide, hk, hi, hj, rfl, rfl, rfl, rfl, Or.inr ⟨by omega, (KX.trans hS hP).val (rfl) (fun _ _ => rfl)⟩⟩)
        · skip
          refine lv_tableIn (tgt := 187) (off := 162) hx hb dX1_work_25 (by decide) (by decide) (by decide) (by decide) ?_
          refine lv_aload_n hx hb dX1_work_187 rfl (lv_at hl 0 rfl) ?_
          refine lv_iload_n hx hb dX1_work_188 rfl (lv_at hl 1 rfl) ?_
          refine lv_iload_n hx hb dX1_work_189 rfl (lv_at hl 2 rfl) ?_
          refine lv_iload_n hx hb dX1_work_190 rfl (lv_at hl 3 rfl) ?_
          refine lv_iload hx hb dX1_work_191 (lv_at hl 4 rfl) ?_
          refine mc_i0 (va_runV (As := [.int (nI 6), .int (nI k), .int (nI i), .int (nI j)]) (rest := []) ⟨hx, hb, hml, hown, hts⟩ (c_X1_bitByBit l G b0 H hS.rf hI (by decide) (by omega) (by omega) (by omega)) (cwV 4 hts gX1_work_X1_bitByBit rfl rfl rfl (by decide +kernel) ⟨Nat.le_of_ble_eq_true rfl, Nat.le_of_ble_eq_true rfl⟩) (mp_V hK hS.w.ob rfl) rfl rfl hl.1 rfl (lv_room (Nat.le_of_ble_eq_true rfl)) dX1_work_193 ⟨Nat.le_of_ble_eq_true rfl, Nat.le_of_ble_eq_true rfl⟩) hLc (fun r H1 locs hP hLc => ?_)
          exact m_iret hx hb hr hlocks hLc dX1_work_196 (Or.inl ⟨6, k, i, j, by decide, hk, hi, hj, rfl, rfl, rfl, rfl, Or.inr ⟨by omega, (KX.trans hS hP).val (rfl) (fun _ _ => rfl)⟩⟩)
        · skip
          refine lv_tableIn (tgt := 187) (off := 162) hx hb dX1_work_25 (by decide) (by decide) (by decide) (by decide) ?_
          refine lv_aload_n hx hb dX1_work_187 rfl (lv_at hl 0 rfl) ?_
          refine lv_iload_n hx hb dX1_work_188 rfl (lv_at hl 1 rfl) ?_
          refine lv_iload_n hx hb dX1_work_189 rfl (lv_at hl 2 rfl) ?_
          refine lv_iload_n hx hb dX1_work_190 rfl (lv_at hl 3 rfl) ?_
          refine lv_iload hx hb dX1_work_191 (lv_at hl 4 rfl) ?_
          refine mc_i0 (va_runV (As := [.int (nI 7), .int (nI k), .int (nI i), .int (nI j)]) (rest := []) ⟨hx, hb, hml, hown, hts⟩ (c_X1_bitByBit l G b0 H hS.rf hI (by decide) (by omega) (by omega) (by omega)) (cwV 4 hts gX1_work_X1_bitByBit rfl rfl rfl (by decide +kernel) ⟨Nat.le_of_ble_eq_true rfl, Nat.le_of_ble_eq_true rfl⟩) (mp_V hK hS.w.ob rfl) rfl rfl hl.1 rfl (lv_room (Nat.le_of_ble_eq_true rfl)) dX1_work_193 ⟨Nat.le_of_ble_eq_true rfl, Nat.le_of_ble_eq_true rfl⟩) hLc (fun r H1 locs hP hLc => ?_)
          exact m_iret hx hb hr hlocks hLc dX1_work_196 (Or.inl ⟨7, k, i, j, by decide, hk, hi, hj, rfl, rfl, rfl, rfl, Or.inr ⟨by omega, (KX.trans hS hP).val (rfl) (fun _ _ => rfl)⟩⟩)
        · skip
          refine lv_tableIn (tgt := 187) (off := 162) hx hb dX1_work_25 (by decide) (by decide) (by decide) (by decide) ?_
          refine lv_aload_n hx hb dX1_work_187 rfl (lv_at hl 0 rfl) ?_
          refine lv_iload_n hx hb dX1_work_188 rfl (lv_at hl 1 rfl) ?_
          refine lv_iload_n hx hb dX1_work_189 rfl (lv_at hl 2 rfl) ?_
          refine lv_iload_n hx hb dX1_work_190 rfl (lv_at hl 3 rfl) ?_
          refine lv_iload hx hb dX1_work_191 (lv_at hl 4 rfl) ?_
          refine mc_i0 (va_runV (As := [.int (nI 8), .int (nI k), .int (nI i), .int (nI j)]) (rest := []) ⟨hx, hb, hml, hown, hts⟩ (c_X1_bitByBit l G b0 H hS.rf hI (by decide) (by omega) (by omega) (by omega)) (cwV 4 hts gX1_work_X1_bitByBit rfl rfl rfl (by decide +kernel) ⟨Nat.le_of_ble_eq_true rfl, Nat.le_of_ble_eq_true rfl⟩) (mp_V hK hS.w.ob rfl) rfl rfl hl.1 rfl (lv_room (Nat.le_of_ble_eq_true rfl)) dX1_work_193 ⟨Nat.le_of_ble_eq_true rfl, Nat.le_of_ble_eq_true rfl⟩) hLc (fun r H1 locs hP hLc => ?_)
          exact m_iret hx hb hr hlocks hLc dX1_work_196 (Or.inl ⟨8, k, i, j, by decide, hk, hi, hj, rfl, rfl, rfl, rfl, Or.inr ⟨by omega, (KX.trans hS hP).val (rfl) (fun _ _ => rfl)⟩⟩)
        · skip
          refine lv_tableOut (tgt := 197) hx hb dX1_work_25 hzz (by decide) ?_
          refine lv_iconst (v := nI 3) hx hb dX1_work_197 (by decide) ?_
          exact m_iret hx hb hr hlocks hLc dX1_work_198 (Or.inr ⟨Or.inr (Or.inr (Or.inr hno)), rfl, hS.r hI⟩)
      · skip
        refine m_if_ne (tgt := 24) hx hb (by decide) dX1_work_19 (by decide) (fun h => absurd h (by decide)) (fun _ => ?_)
        refine lv_iconst (v := nI 3) hx hb dX1_work_22 (by decide) ?_
        exact m_iret hx hb hr hlocks hLc dX1_work_23 (Or.inr ⟨by first | exact Or.inl hno | exact Or.inr (Or.inl hno) | exact Or.inr (Or.inr (Or.inl hno)), rfl, hS.r hI⟩)
    · skip
      refine m_if_eq (tgt := 22) hx hb (by decide) dX1_work_11 (by decide) (fun _ => ?_) (fun h => absurd h (by decide))
      refine lv_iconst (v := nI 3) hx hb dX1_work_22 (by decide) ?_
      exact m_iret hx hb hr hlocks hLc dX1_work_23 (Or.inr ⟨by first | exact Or.inl hno | exact Or.inr (Or.inl hno) | exact Or.inr (Or.inr (Or.inl hno)), rfl, hS.r hI⟩)
  · skip
    refine m_if_eq (tgt := 22) hx hb (by decide) dX1_work_4 (by decide) (fun _ => ?_) (fun h => absurd h (by decide))
    refine lv_iconst (v := nI 3) hx hb dX1_work_22 (by decide) ?_
    exact m_iret hx hb hr hlocks hLc dX1_work_23 (Or.inr ⟨by first | exact Or.inl hno | exact Or.inr (Or.inl hno) | exact Or.inr (Or.inr (Or.inl hno)), rfl, hS.r hI⟩)

set_option maxRecDepth 100000 in
set_option maxHeartbeats 4000000 in
theorem c_X1_digitValue (l : Launch) (G : gG) (b0 : Nat) (H : Heap) {x : Nat} (hx0 : x < 256) : Met l yX1_digitValue wsX1_digitValue ({ frames := 0, cells := 0, slots := 0, locals := 0 } : Room) (PcH G H [.int (nI x)]) (QcI (fun r H1 => ((worthN x = 99 ∧ r = -1) ∨ (worthN x ≤ 35 ∧ r = nI (worthN x))) ∧ H = H1)) 0 0 (fre b0) := by
  refine m_enter (cc := cX1_digitValue) (maxL := 1) (ret := (some .int)) (own := RX1) (by decide) rfl rfl (Nat.le_of_ble_eq_true rfl) ?_
  intro p e s m below meth c ls hF hnm hH hl
  have hl : lv_has ls 1 [(0, .int (nI x))] := hl
  have hLc : lcs b0 [] := lcs_nil b0
  obtain ⟨hx, hb, hr, hml, hown, hts, hlocks, hK⟩ := id hF
  refine lv_iload_n hx hb dX1_digitValue_0 rfl (lv_at hl 0 rfl) ?_
  refine lv_bipush (v := nI 48) hx hb dX1_digitValue_1 (by decide) ?_
  refine m_icmp_lt (tgt := 17) hx hb (by omega) (by omega) dX1_digitValue_3 (by decide) (fun c3 => ?_) (fun c3 => ?_)
  · skip
    refine lv_iload_n hx hb dX1_digitValue_17 rfl (lv_at hl 0 rfl) ?_
    refine lv_bipush (v := nI 97) hx hb dX1_digitValue_18 (by decide) ?_
    refine m_icmp_lt (tgt := 37) hx hb (by omega) (by omega) dX1_digitValue_20 (by decide) (fun c20 => ?_) (fun c20 => ?_)
    · skip
      refine lv_iload_n hx hb dX1_digitValue_37 rfl (lv_at hl 0 rfl) ?_
      refine lv_bipush (v := nI 65) hx hb dX1_digitValue_38 (by decide) ?_
      refine m_icmp_lt (tgt := 57) hx hb (by omega) (by omega) dX1_digitValue_40 (by decide) (fun c40 => ?_) (fun c40 => ?_)
      · skip
        refine lv_iconst (v := -1) hx hb dX1_digitValue_57 (by decide) ?_
        exact m_iret hx hb hr hlocks hLc dX1_digitValue_58 (⟨Or.inl ⟨by unfold worthN; (repeat' split) <;> omega, rfl⟩, rfl⟩)
      · skip
        refine lv_iload_n hx hb dX1_digitValue_43 rfl (lv_at hl 0 rfl) ?_
        refine lv_bipush (v := nI 90) hx hb dX1_digitValue_44 (by decide) ?_
        refine m_icmp_gt (tgt := 57) hx hb (by omega) (by omega) dX1_digitValue_46 (by decide) (fun c46 => ?_) (fun c46 => ?_)
        · skip
          refine lv_iconst (v := -1) hx hb dX1_digitValue_57 (by decide) ?_
          exact m_iret hx hb hr hlocks hLc dX1_digitValue_58 (⟨Or.inl ⟨by unfold worthN; (repeat' split) <;> omega, rfl⟩, rfl⟩)
        · skip
          refine lv_iload_n hx hb dX1_digitValue_49 rfl (lv_at hl 0 rfl) ?_
          refine lv_bipush (v := nI 65) hx hb dX1_digitValue_50 (by decide) ?_
          refine m_isub (a := x) (b := 65) hx hb (by omega) dX1_digitValue_52 ?_
          refine lv_bipush (v := nI 10) hx hb dX1_digitValue_53 (by decide) ?_
          refine m_iadd (a := x - 65) (b := 10) hx hb dX1_digitValue_55 ?_
          exact m_iret hx hb hr hlocks hLc dX1_digitValue_56 (⟨Or.inr ⟨by unfold worthN; (repeat' split) <;> omega, congrArg nI (by unfold worthN; (repeat' split) <;> omega)⟩, rfl⟩)
    · skip
      refine lv_iload_n hx hb dX1_digitValue_23 rfl (lv_at hl 0 rfl) ?_
      refine lv_bipush (v := nI 122) hx hb dX1_digitValue_24 (by decide) ?_
      refine m_icmp_gt (tgt := 37) hx hb (by omega) (by omega) dX1_digitValue_26 (by decide) (fun c26 => ?_) (fun c26 => ?_)
      · skip
        refine lv_iload_n hx hb dX1_digitValue_37 rfl (lv_at hl 0 rfl) ?_
        refine lv_bipush (v := nI 65) hx hb dX1_digitValue_38 (by decide) ?_
        refine m_icmp_lt (tgt := 57) hx hb (by omega) (by omega) dX1_digitValue_40 (by decide) (fun c40 => ?_) (fun c40 => ?_)
        · skip
          refine lv_iconst (v := -1) hx hb dX1_digitValue_57 (by decide) ?_
          exact m_iret hx hb hr hlocks hLc dX1_digitValue_58 (⟨Or.inl ⟨by unfold worthN; (repeat' split) <;> omega, rfl⟩, rfl⟩)
        · skip
          refine lv_iload_n hx hb dX1_digitValue_43 rfl (lv_at hl 0 rfl) ?_
          refine lv_bipush (v := nI 90) hx hb dX1_digitValue_44 (by decide) ?_
          refine m_icmp_gt (tgt := 57) hx hb (by omega) (by omega) dX1_digitValue_46 (by decide) (fun c46 => ?_) (fun c46 => ?_)
          · skip
            refine lv_iconst (v := -1) hx hb dX1_digitValue_57 (by decide) ?_
            exact m_iret hx hb hr hlocks hLc dX1_digitValue_58 (⟨Or.inl ⟨by unfold worthN; (repeat' split) <;> omega, rfl⟩, rfl⟩)
          · skip
            refine lv_iload_n hx hb dX1_digitValue_49 rfl (lv_at hl 0 rfl) ?_
            refine lv_bipush (v := nI 65) hx hb dX1_digitValue_50 (by decide) ?_
            refine m_isub (a := x) (b := 65) hx hb (by omega) dX1_digitValue_52 ?_
            refine lv_bipush (v := nI 10) hx hb dX1_digitValue_53 (by decide) ?_
            refine m_iadd (a := x - 65) (b := 10) hx hb dX1_digitValue_55 ?_
            exact m_iret hx hb hr hlocks hLc dX1_digitValue_56 (⟨Or.inr ⟨by unfold worthN; (repeat' split) <;> omega, congrArg nI (by unfold worthN; (repeat' split) <;> omega)⟩, rfl⟩)
      · skip
        refine lv_iload_n hx hb dX1_digitValue_29 rfl (lv_at hl 0 rfl) ?_
        refine lv_bipush (v := nI 97) hx hb dX1_digitValue_30 (by decide) ?_
        refine m_isub (a := x) (b := 97) hx hb (by omega) dX1_digitValue_32 ?_
        refine lv_bipush (v := nI 10) hx hb dX1_digitValue_33 (by decide) ?_
        refine m_iadd (a := x - 97) (b := 10) hx hb dX1_digitValue_35 ?_
        exact m_iret hx hb hr hlocks hLc dX1_digitValue_36 (⟨Or.inr ⟨by unfold worthN; (repeat' split) <;> omega, congrArg nI (by unfold worthN; (repeat' split) <;> omega)⟩, rfl⟩)
  · skip
    refine lv_iload_n hx hb dX1_digitValue_6 rfl (lv_at hl 0 rfl) ?_
    refine lv_bipush (v := nI 57) hx hb dX1_digitValue_7 (by decide) ?_
    refine m_icmp_gt (tgt := 17) hx hb (by omega) (by omega) dX1_digitValue_9 (by decide) (fun c9 => ?_) (fun c9 => ?_)
    · skip
      refine lv_iload_n hx hb dX1_digitValue_17 rfl (lv_at hl 0 rfl) ?_
      refine lv_bipush (v := nI 97) hx hb dX1_digitValue_18 (by decide) ?_
      refine m_icmp_lt (tgt := 37) hx hb (by omega) (by omega) dX1_digitValue_20 (by decide) (fun c20 => ?_) (fun c20 => ?_)
      · skip
        refine lv_iload_n hx hb dX1_digitValue_37 rfl (lv_at hl 0 rfl) ?_
        refine lv_bipush (v := nI 65) hx hb dX1_digitValue_38 (by decide) ?_
        refine m_icmp_lt (tgt := 57) hx hb (by omega) (by omega) dX1_digitValue_40 (by decide) (fun c40 => ?_) (fun c40 => ?_)
        · skip
          refine lv_iconst (v := -1) hx hb dX1_digitValue_57 (by decide) ?_
          exact m_iret hx hb hr hlocks hLc dX1_digitValue_58 (⟨Or.inl ⟨by unfold worthN; (repeat' split) <;> omega, rfl⟩, rfl⟩)
        · skip
          refine lv_iload_n hx hb dX1_digitValue_43 rfl (lv_at hl 0 rfl) ?_
          refine lv_bipush (v := nI 90) hx hb dX1_digitValue_44 (by decide) ?_
          refine m_icmp_gt (tgt := 57) hx hb (by omega) (by omega) dX1_digitValue_46 (by decide) (fun c46 => ?_) (fun c46 => ?_)
          · skip
            refine lv_iconst (v := -1) hx hb dX1_digitValue_57 (by decide) ?_
            exact m_iret hx hb hr hlocks hLc dX1_digitValue_58 (⟨Or.inl ⟨by unfold worthN; (repeat' split) <;> omega, rfl⟩, rfl⟩)
          · skip
            refine lv_iload_n hx hb dX1_digitValue_49 rfl (lv_at hl 0 rfl) ?_
            refine lv_bipush (v := nI 65) hx hb dX1_digitValue_50 (by decide) ?_
            refine m_isub (a := x) (b := 65) hx hb (by omega) dX1_digitValue_52 ?_
            refine lv_bipush (v := nI 10) hx hb dX1_digitValue_53 (by decide) ?_
            refine m_iadd (a := x - 65) (b := 10) hx hb dX1_digitValue_55 ?_
            exact m_iret hx hb hr hlocks hLc dX1_digitValue_56 (⟨Or.inr ⟨by unfold worthN; (repeat' split) <;> omega, congrArg nI (by unfold worthN; (repeat' split) <;> omega)⟩, rfl⟩)
      · skip
        refine lv_iload_n hx hb dX1_digitValue_23 rfl (lv_at hl 0 rfl) ?_
        refine lv_bipush (v := nI 122) hx hb dX1_digitValue_24 (by decide) ?_
        refine m_icmp_gt (tgt := 37) hx hb (by omega) (by omega) dX1_digitValue_26 (by decide) (fun c26 => ?_) (fun c26 => ?_)
        · skip
          refine lv_iload_n hx hb dX1_digitValue_37 rfl (lv_at hl 0 rfl) ?_
          refine lv_bipush (v := nI 65) hx hb dX1_digitValue_38 (by decide) ?_
          refine m_icmp_lt (tgt := 57) hx hb (by omega) (by omega) dX1_digitValue_40 (by decide) (fun c40 => ?_) (fun c40 => ?_)
          · skip
            refine lv_iconst (v := -1) hx hb dX1_digitValue_57 (by decide) ?_
            exact m_iret hx hb hr hlocks hLc dX1_digitValue_58 (⟨Or.inl ⟨by unfold worthN; (repeat' split) <;> omega, rfl⟩, rfl⟩)
          · skip
            refine lv_iload_n hx hb dX1_digitValue_43 rfl (lv_at hl 0 rfl) ?_
            refine lv_bipush (v := nI 90) hx hb dX1_digitValue_44 (by decide) ?_
            refine m_icmp_gt (tgt := 57) hx hb (by omega) (by omega) dX1_digitValue_46 (by decide) (fun c46 => ?_) (fun c46 => ?_)
            · skip
              refine lv_iconst (v := -1) hx hb dX1_digitValue_57 (by decide) ?_
              exact m_iret hx hb hr hlocks hLc dX1_digitValue_58 (⟨Or.inl ⟨by unfold worthN; (repeat' split) <;> omega, rfl⟩, rfl⟩)
            · skip
              refine lv_iload_n hx hb dX1_digitValue_49 rfl (lv_at hl 0 rfl) ?_
              refine lv_bipush (v := nI 65) hx hb dX1_digitValue_50 (by decide) ?_
              refine m_isub (a := x) (b := 65) hx hb (by omega) dX1_digitValue_52 ?_
              refine lv_bipush (v := nI 10) hx hb dX1_digitValue_53 (by decide) ?_
              refine m_iadd (a := x - 65) (b := 10) hx hb dX1_digitValue_55 ?_
              exact m_iret hx hb hr hlocks hLc dX1_digitValue_56 (⟨Or.inr ⟨by unfold worthN; (repeat' split) <;> omega, congrArg nI (by unfold worthN; (repeat' split) <;> omega)⟩, rfl⟩)
        · skip
          refine lv_iload_n hx hb dX1_digitValue_29 rfl (lv_at hl 0 rfl) ?_
          refine lv_bipush (v := nI 97) hx hb dX1_digitValue_30 (by decide) ?_
          refine m_isub (a := x) (b := 97) hx hb (by omega) dX1_digitValue_32 ?_
          refine lv_bipush (v := nI 10) hx hb dX1_digitValue_33 (by decide) ?_
          refine m_iadd (a := x - 97) (b := 10) hx hb dX1_digitValue_35 ?_
          exact m_iret hx hb hr hlocks hLc dX1_digitValue_36 (⟨Or.inr ⟨by unfold worthN; (repeat' split) <;> omega, congrArg nI (by unfold worthN; (repeat' split) <;> omega)⟩, rfl⟩)
    · skip
      refine lv_iload_n hx hb dX1_digitValue_12 rfl (lv_at hl 0 rfl) ?_
      refine lv_bipush (v := nI 48) hx hb dX1_digitValue_13 (by decide) ?_
      refine m_isub (a := x) (b := 48) hx hb (by omega) dX1_digitValue_15 ?_
      exact m_iret hx hb hr hlocks hLc dX1_digitValue_16 (⟨Or.inr ⟨by unfold worthN; (repeat' split) <;> omega, congrArg nI (by unfold worthN; (repeat' split) <;> omega)⟩, rfl⟩)

set_option maxRecDepth 100000 in
set_option maxHeartbeats 4000000 in
theorem digits_9 {p : Program} {l : Launch} {e : Env} {s : State} {m : MethodId} {args : Array Value} {below : List Frame} {meth : Method} {c : Code} {G : gG} {b0 : Nat} {H : Heap} {o : Nat} {ad : Nat → Nat} {sz : Nat → Nat → Nat} {bl : Nat → Nat} {dv : Nat → Nat} {dc : Nat} {wr : Nat → Nat} {wf : Nat} {f1 : Nat → Nat} {f2 : Nat → Nat} {fw : Nat → Nat} {u : Nat} (hF : FxM p s m args meth c G cX1_digits 7 (some .boolean) RX1 wsX1_digits) (hI : IV sz bl) (hu : u < 18446744073709551616) (hdc : dc ≤ 1000) (hdv : ∀ j, j < 1008 → dv j ≤ 35) : ∀ (k : Nat) (n : Nat) (f : Nat → Nat) (Hc : Heap), k ≤ 8 → dc ≤ n → n + k ≤ dc + 8 → (okb u 8 ↔ okb u k) → (∀ j, j < 1008 → f j ≤ 35) → (∀ j, j < dc → f j = dv j) → (dgs u k n f).1 = (dgs u 8 dc dv).1 → (∀ j, j < (dgs u k n f).1 → (dgs u k n f).2 j = (dgs u 8 dc dv).2 j) → SX G b0 o ad H sz bl f dc wr wf f1 f2 fw Hc → ∀ (locs : List Loc) (ls : Array Slot), lcs b0 locs → lv_has ls 7 [(0, .ref o), (1, .long (lN u)), (3, .int (nI n)), (4, .int (nI (8 * k) - 8))] → W p l e ({ frames := 1, cells := 0, slots := 0, locals := 20 } : Room) s m args below meth c Hc locs 0 0 (MQ below (QcI (fun r H1 => (r = nI 1 ∧ okb u 8 ∧ (dgs u 8 dc dv).1 ≤ 1000 ∧ ∃ dv2 : Nat → Nat, (∀ j, j < 1008 → dv2 j ≤ 35) ∧ (∀ j, j < (dgs u 8 dc dv).1 → dv2 j = (dgs u 8 dc dv).2 j) ∧ RX G b0 o ad H (valX sz bl) dv2 (dgs u 8 dc dv).1 wr wf H1) ∨ (r = nI 0 ∧ ¬ (okb u 8 ∧ (dgs u 8 dc dv).1 ≤ 1000) ∧ ∃ dv2 : Nat → Nat, (∀ j, j < 1008 → dv2 j ≤ 35) ∧ (∀ j, j < dc → dv2 j = dv j) ∧ RX G b0 o ad H (valX sz bl) dv2 dc wr wf H1))) args s 0 0 (fre b0)) (F0 m 9 ls []) := by
  obtain ⟨hx, hb, hr, hml, hown, hts, hlocks, hK⟩ := id hF
  intro k
  induction k with
  | zero =>
    intro n f Hc hk hdn hnk hok hf hfd hd1 hd2 hS locs ls hLc hl
    refine lv_iload hx hb dX1_digits_9 (lv_at hl 3 rfl) ?_
    refine lv_if_lt (tgt := 63) hx hb dX1_digits_11 (by decide) (fun _ => ?_) (fun h => absurd (by decide) h)
    refine lv_iload_n hx hb dX1_digits_63 rfl (lv_at hl 2 rfl) ?_
    refine lv_sipush (v := nI 1000) hx hb dX1_digits_64 (by decide) ?_
    refine m_icmp_le (tgt := 72) hx hb (by omega) (by decide) dX1_digits_67 (by decide) (fun c67 => ?_) (fun c67 => ?_)
    · skip
      refine lv_aload_n hx hb dX1_digits_72 rfl (lv_at hl 0 rfl) ?_
      refine lv_iload_n hx hb dX1_digits_73 rfl (lv_at hl 2 rfl) ?_
      refine m_put (C := RX1) (T := TX1) (N := 9) (ci := 0) (ty := .int) (b0 := b0) hx hb hts hwsX1_digits tyX1 tyX1_ok nmX1 hown hK hS.w.ob rfl 3 (by decide) (hts (.fieldLink RX1 22 "ExactNumbers" "digitCount" "I") (by decide +kernel)) rfl (by decide +kernel) (rfl) (rfl) (Nat.le_of_ble_eq_true rfl) hS.w.bo hLc dX1_digits_74 (fun Hc2 locs hO hsz hq hLc => ?_)
      have hS := hS.f_dc hO hsz hq
      clear hO hsz hq
      obtain ⟨Hc, rfl⟩ : ∃ Hz, Hz = Hc2 := ⟨_, rfl⟩
      refine lv_iconst (v := nI 1) hx hb dX1_digits_77 (by decide) ?_
      exact m_zret hx hb hr hlocks hLc (by decide) dX1_digits_78 (Or.inl ⟨rfl, hok.mpr (fun j hj => absurd hj (by omega)), by rw [← hd1]; exact c67, f, hf, fun j hj => by rw [← hd1] at hj; exact hd2 j hj, by rw [← hd1]; exact hS.r hI⟩)
    · skip
      refine lv_iconst (v := nI 0) hx hb dX1_digits_70 (by decide) ?_
      exact m_zret hx hb hr hlocks hLc (by decide) dX1_digits_71 (Or.inr ⟨rfl, fun h => absurd h.2 (by rw [← hd1]; show ¬ n ≤ 1000; omega), f, hf, hfd, hS.r hI⟩)
  | succ k ih =>
    intro n f Hc hk hdn hnk hok hf hfd hd1 hd2 hS locs ls hLc hl
    rw [nI_dec8] at hl
    have hb6 : byt u k < 256 := Nat.mod_lt _ (by decide)
    refine lv_iload hx hb dX1_digits_9 (lv_at hl 3 rfl) ?_
    refine lv_if_lt (tgt := 63) hx hb dX1_digits_11 (by decide) (fun h => absurd h (nI_pos (by omega))) (fun _ => ?_)
    refine lv_lload_n hx hb dX1_digits_14 rfl (lv_at hl 1 rfl) ?_
    refine lv_iload hx hb dX1_digits_15 (lv_at hl 3 rfl) ?_
    refine m_lushr hx hb (by omega) (by omega) dX1_digits_17 ?_
    refine m_l2i hx hb dX1_digits_18 ?_
    refine lv_sipush (v := nI 255) hx hb dX1_digits_19 (by decide) ?_
    refine m_iand255n hx hb dX1_digits_22 ?_
    rw [show u / 2 ^ (8 * k) % 256 = byt u k from rfl]
    refine lv_istore (lv' := [(5, .int (nI (byt u k))), (0, .ref o), (1, .long (lN u)), (3, .int (nI n)), (4, .int (nI (8 * k)))]) hx hb dX1_digits_23 hl (by decide) rfl (fun ls hl => ?_)
    refine lv_iload hx hb dX1_digits_25 (lv_at hl 0 rfl) ?_
    refine m_if_eq (tgt := 57) hx hb (by omega) dX1_digits_27 (by decide) (fun c27 => ?_) (fun c27 => ?_)
    · skip
      refine lv_iinc (v := nI (8 * k) - 8) (lv' := [(4, .int (nI (8 * k) - 8)), (5, .int (nI (byt u k))), (0, .ref o), (1, .long (lN u)), (3, .int (nI n))]) hx hb dX1_digits_57 hl (k := 4) rfl (nI_m8 _) (by decide) rfl (fun ls hl => ?_)
      refine lv_goto (tgt := 9) hx hb dX1_digits_60 (by decide) ?_
      exact ih n f _ (by omega) hdn (by omega) (hok.trans ⟨fun h j hj => h j (by omega), fun h j hj hb => if e : j = k then absurd c27 (e ▸ hb) else h j (by omega) hb⟩) hf hfd (by rw [← dgs_0 c27]; exact hd1) (fun j hj => by rw [← dgs_0 c27] at hj ⊢; exact hd2 j hj) hS _ _ hLc (lv_sub hl [2, 3, 4, 0] rfl)
    · skip
      refine lv_iload hx hb dX1_digits_30 (lv_at hl 0 rfl) ?_
      refine mc_i0 (va_runS (As := [.int (nI (byt u k))]) (rest := []) ⟨hx, hb, hml, hown, hts⟩ (c_X1_digitValue l G b0 Hc hb6) (va_cwS 1 hts gX1_digits_X1_digitValue rfl rfl rfl (by decide +kernel) ⟨Nat.le_of_ble_eq_true rfl, Nat.le_of_ble_eq_true rfl⟩) (mp_S hK) rfl rfl hl.1 rfl (lv_room (Nat.le_of_ble_eq_true rfl)) dX1_digits_32 ⟨Nat.le_of_ble_eq_true rfl, Nat.le_of_ble_eq_true rfl⟩) hLc (fun r H1 locs hP hLc => ?_)
      obtain ⟨hP, rfl⟩ := hP
      rcases hP with ⟨hw9, rfl⟩ | ⟨hw3, rfl⟩
      · skip
        refine lv_istore (lv' := [(6, .int (-1)), (5, .int (nI (byt u k))), (0, .ref o), (1, .long (lN u)), (3, .int (nI n)), (4, .int (nI (8 * k)))]) hx hb dX1_digits_35 hl (by decide) rfl (fun ls hl => ?_)
        refine lv_iload hx hb dX1_digits_37 (lv_at hl 0 rfl) ?_
        refine lv_iconst (v := -1) hx hb dX1_digits_39 (by decide) ?_
        refine lv_icmp_ne (tgt := 45) hx hb dX1_digits_40 (by decide) (fun h => absurd (rfl) h) (fun _ => ?_)
        refine lv_iconst (v := nI 0) hx hb dX1_digits_43 (by decide) ?_
        exact m_zret hx hb hr hlocks hLc (by decide) dX1_digits_44 (Or.inr ⟨rfl, fun h => absurd (hok.mp h.1 k (by omega) c27) (by omega), f, hf, hfd, hS.r hI⟩)
      · skip
        refine lv_istore (lv' := [(6, .int (nI (worthN (byt u k)))), (5, .int (nI (byt u k))), (0, .ref o), (1, .long (lN u)), (3, .int (nI n)), (4, .int (nI (8 * k)))]) hx hb dX1_digits_35 hl (by decide) rfl (fun ls hl => ?_)
        refine lv_iload hx hb dX1_digits_37 (lv_at hl 0 rfl) ?_
        refine lv_iconst (v := -1) hx hb dX1_digits_39 (by decide) ?_
        refine lv_icmp_ne (tgt := 45) hx hb dX1_digits_40 (by decide) (fun _ => ?_) (fun h => absurd h (nI_nm1 (by omega)))
        refine lv_aload_n hx hb dX1_digits_45 rfl (lv_at hl 2 rfl) ?_
        refine va_get (D := G.1) (ci := 0) (v := .ref (ad 2)) (C := RX1) (T := TX1) (N := 9) hx hb hts hwsX1_digits hown hK hS.w.ob 0 rfl rfl 2 (by decide) (hts (.fieldLink RX1 18 "ExactNumbers" "digitValues" "[B") (by decide +kernel)) (fun _ h9 => h9) rfl dX1_digits_46 ?_
        refine lv_iload_n hx hb dX1_digits_49 rfl (lv_at hl 4 rfl) ?_
        refine lv_iload hx hb dX1_digits_50 (lv_at hl 0 rfl) ?_
        refine m_i2b hx hb (by omega) dX1_digits_52 ?_
        refine m_bast (n := 1008) (f := f) (b0 := b0) hx hb hK (hS.w.get 2 (by decide)) (by omega) (by decide) (by omega) (hS.w.b 2 (by decide)) hLc dX1_digits_53 (fun locs hLc => ?_)
        have hS := hS.p_dv (fup f n (worthN (byt u k)))
        generalize hput Hc (ad 2) (aB G 1008 (fup f n (worthN (byt u k)))) = Hc at hS ⊢
        refine lv_iinc (v := nI (n + 1)) (lv' := [(3, .int (nI (n + 1))), (6, .int (nI (worthN (byt u k)))), (5, .int (nI (byt u k))), (0, .ref o), (1, .long (lN u)), (4, .int (nI (8 * k)))]) hx hb dX1_digits_54 hl (k := 4) rfl (nI_add n 1) (by decide) rfl (fun ls hl => ?_)
        refine lv_iinc (v := nI (8 * k) - 8) (lv' := [(4, .int (nI (8 * k) - 8)), (3, .int (nI (n + 1))), (6, .int (nI (worthN (byt u k)))), (5, .int (nI (byt u k))), (0, .ref o), (1, .long (lN u))]) hx hb dX1_digits_57 hl (k := 5) rfl (nI_m8 _) (by decide) rfl (fun ls hl => ?_)
        refine lv_goto (tgt := 9) hx hb dX1_digits_60 (by decide) ?_
        exact ih (n + 1) _ _ (by omega) (by omega) (by omega) (hok.trans ⟨fun h j hj => h j (by omega), fun h j hj hb => if e : j = k then (by rw [e]; exact hw3) else h j (by omega) hb⟩) (fun j hj => if e : j = n then (by rw [e, fup_s]; exact hw3) else (by rw [fup_n _ _ e]; exact hf j hj)) (fun j hj => by rw [fup_n _ _ (by omega)]; exact hfd j hj) (by rw [← dgs_1 c27]; exact hd1) (fun j hj => by rw [← dgs_1 c27] at hj ⊢; exact hd2 j hj) hS _ _ hLc (lv_sub hl [4, 5, 1, 0] rfl)
set_option maxRecDepth 100000 in
set_option maxHeartbeats 4000000 in
theorem c_X1_digits (l : Launch) (G : gG) (b0 : Nat) (H : Heap) {o : Nat} {ad : Nat → Nat} {sz : Nat → Nat → Nat} {bl : Nat → Nat} {dv : Nat → Nat} {dc : Nat} {wr : Nat → Nat} {wf : Nat} {f1 : Nat → Nat} {f2 : Nat → Nat} {fw : Nat → Nat} (hS : SX G b0 o ad H sz bl dv dc wr wf f1 f2 fw H) (hI : IV sz bl) {u : Nat} (hu : u < 18446744073709551616) (hdc : dc ≤ 1000) (hdv : ∀ j, j < 1008 → dv j ≤ 35) : Met l yX1_digits wsX1_digits ({ frames := 1, cells := 0, slots := 0, locals := 20 } : Room) (PcH G H [.ref o, .long (lN u)]) (QcI (fun r H1 => (r = nI 1 ∧ okb u 8 ∧ (dgs u 8 dc dv).1 ≤ 1000 ∧ ∃ dv2 : Nat → Nat, (∀ j, j < 1008 → dv2 j ≤ 35) ∧ (∀ j, j < (dgs u 8 dc dv).1 → dv2 j = (dgs u 8 dc dv).2 j) ∧ RX G b0 o ad H (valX sz bl) dv2 (dgs u 8 dc dv).1 wr wf H1) ∨ (r = nI 0 ∧ ¬ (okb u 8 ∧ (dgs u 8 dc dv).1 ≤ 1000) ∧ ∃ dv2 : Nat → Nat, (∀ j, j < 1008 → dv2 j ≤ 35) ∧ (∀ j, j < dc → dv2 j = dv j) ∧ RX G b0 o ad H (valX sz bl) dv2 dc wr wf H1))) 0 0 (fre b0) := by
  refine m_enter (cc := cX1_digits) (maxL := 7) (ret := (some .boolean)) (own := RX1) (by decide) rfl rfl (Nat.le_of_ble_eq_true rfl) ?_
  intro p e s m below meth c ls hF hnm hH hl
  have hl : lv_has ls 7 [(0, .ref o), (1, .long (lN u))] := hl
  have hLc : lcs b0 [] := lcs_nil b0
  obtain ⟨hx, hb, hr, hml, hown, hts, hlocks, hK⟩ := id hF
  refine lv_aload_n hx hb dX1_digits_0 rfl (lv_at hl 0 rfl) ?_
  refine va_get (D := G.1) (ci := 0) (v := .int (nI dc)) (C := RX1) (T := TX1) (N := 9) hx hb hts hwsX1_digits hown hK hS.w.ob 0 rfl rfl 3 (by decide) (hts (.fieldLink RX1 22 "ExactNumbers" "digitCount" "I") (by decide +kernel)) (fun _ h9 => h9) rfl dX1_digits_1 ?_
  refine lv_istore_n (lv' := [(3, .int (nI dc)), (0, .ref o), (1, .long (lN u))]) hx hb dX1_digits_4 rfl hl (by decide) rfl (fun ls hl => ?_)
  refine lv_bipush (v := nI 56) hx hb dX1_digits_5 (by decide) ?_
  refine lv_istore (lv' := [(4, .int (nI 56)), (3, .int (nI dc)), (0, .ref o), (1, .long (lN u))]) hx hb dX1_digits_7 hl (by decide) rfl (fun ls hl => ?_)
  rw [show nI 56 = nI (8 * 8) - 8 from by decide] at hl
  exact digits_9 (dv := dv) hF hI hu hdc hdv 8 dc dv _ (Nat.le_refl 8) (Nat.le_refl dc) (Nat.le_refl _) Iff.rfl hdv (fun j _ => rfl) rfl (fun j _ => rfl) hS _ _ hLc (lv_sub hl [2, 3, 1, 0] rfl)

set_option maxRecDepth 100000 in
set_option maxHeartbeats 4000000 in
theorem areDigitsOf_2 {p : Program} {l : Launch} {e : Env} {s : State} {m : MethodId} {args : Array Value} {below : List Frame} {meth : Method} {c : Code} {G : gG} {b0 : Nat} {H : Heap} {o : Nat} {ad : Nat → Nat} {sz : Nat → Nat → Nat} {bl : Nat → Nat} {dv : Nat → Nat} {dc : Nat} {wr : Nat → Nat} {wf : Nat} {f1 : Nat → Nat} {f2 : Nat → Nat} {fw : Nat → Nat} {b n : Nat} (hF : FxM p s m args meth c G cX1_areDigitsOf 4 (some .boolean) RX1 wsX1_areDigitsOf) (hS : SX G b0 o ad H sz bl dv dc wr wf f1 f2 fw H) (hdv : ∀ j, j < 1008 → dv j ≤ 35) (hb36 : b ≤ 36) (hn : n ≤ 1000) : ∀ (q : Nat) (i : Nat), i + q = n → (∀ j, j < i → dv j < b) → ∀ (locs : List Loc) (ls : Array Slot), lcs b0 locs → lv_has ls 4 [(0, .ref o), (1, .int (nI b)), (2, .int (nI n)), (3, .int (nI i))] → W p l e ({ frames := 0, cells := 0, slots := 0, locals := 0 } : Room) s m args below meth c H locs 0 0 (MQ below (QcI (fun r H1 => ((r = nI 1 ∧ ∀ j, j < n → dv j < b) ∨ (r = nI 0 ∧ ∃ j, j < n ∧ b ≤ dv j)) ∧ H = H1)) args s 0 0 (fre b0)) (F0 m 2 ls []) := by
  obtain ⟨hx, hb, hr, hml, hown, hts, hlocks, hK⟩ := id hF
  intro q
  induction q with
  | zero =>
    intro i hi hd locs ls hLc hl
    refine lv_iload_n hx hb dX1_areDigitsOf_2 rfl (lv_at hl 3 rfl) ?_
    refine lv_iload_n hx hb dX1_areDigitsOf_3 rfl (lv_at hl 2 rfl) ?_
    refine lv_icmp_ge (tgt := 25) hx hb dX1_areDigitsOf_4 (by decide) (fun _ => ?_) (fun h => absurd (nI_le (by omega) (by omega)) h)
    refine lv_iconst (v := nI 1) hx hb dX1_areDigitsOf_25 (by decide) ?_
    exact m_zret hx hb hr hlocks hLc (by decide) dX1_areDigitsOf_26 (⟨Or.inl ⟨rfl, fun j hj => hd j (by omega)⟩, rfl⟩)
  | succ q ih =>
    intro i hi hd locs ls hLc hl
    have hdi := hdv i (by omega)
    refine lv_iload_n hx hb dX1_areDigitsOf_2 rfl (lv_at hl 3 rfl) ?_
    refine lv_iload_n hx hb dX1_areDigitsOf_3 rfl (lv_at hl 2 rfl) ?_
    refine lv_icmp_ge (tgt := 25) hx hb dX1_areDigitsOf_4 (by decide) (fun h => absurd h (nI_ge (by omega) (by omega))) (fun _ => ?_)
    refine lv_aload_n hx hb dX1_areDigitsOf_7 rfl (lv_at hl 0 rfl) ?_
    refine va_get (D := G.1) (ci := 0) (v := .ref (ad 2)) (C := RX1) (T := TX1) (N := 9) hx hb hts hwsX1_areDigitsOf hown hK hS.w.ob 0 rfl rfl 2 (by decide) (hts (.fieldLink RX1 18 "ExactNumbers" "digitValues" "[B") (by decide +kernel)) (fun _ h9 => h9) rfl dX1_areDigitsOf_8 ?_
    refine lv_iload_n hx hb dX1_areDigitsOf_11 rfl (lv_at hl 3 rfl) ?_
    refine m_bald (n := 1008) (f := dv) hx hb hK (hS.w.get 2 (by decide)) (by omega) (by decide) dX1_areDigitsOf_12 ?_
    refine lv_iload_n hx hb dX1_areDigitsOf_13 rfl (lv_at hl 1 rfl) ?_
    refine m_icmp_lt (tgt := 19) hx hb (by omega) (by omega) dX1_areDigitsOf_14 (by decide) (fun c14 => ?_) (fun c14 => ?_)
    · skip
      have hd2 : ∀ j, j < i + 1 → dv j < b := fun j hj => if e : j = i then (by rw [e]; exact c14) else hd j (by omega)
      refine lv_iinc (v := nI (i + 1)) (lv' := [(3, .int (nI (i + 1))), (0, .ref o), (1, .int (nI b)), (2, .int (nI n))]) hx hb dX1_areDigitsOf_19 hl (k := 3) rfl (nI_add i 1) (by decide) rfl (fun ls hl => ?_)
      refine lv_goto (tgt := 2) hx hb dX1_areDigitsOf_22 (by decide) ?_
      exact ih (i + 1) (by omega) hd2 _ _ hLc (lv_sub hl [1, 2, 3, 0] rfl)
    · skip
      refine lv_iconst (v := nI 0) hx hb dX1_areDigitsOf_17 (by decide) ?_
      exact m_zret hx hb hr hlocks hLc (by decide) dX1_areDigitsOf_18 (⟨Or.inr ⟨rfl, i, by omega, c14⟩, rfl⟩)
set_option maxRecDepth 100000 in
set_option maxHeartbeats 4000000 in
theorem c_X1_areDigitsOf (l : Launch) (G : gG) (b0 : Nat) (H : Heap) {o : Nat} {ad : Nat → Nat} {sz : Nat → Nat → Nat} {bl : Nat → Nat} {dv : Nat → Nat} {dc : Nat} {wr : Nat → Nat} {wf : Nat} {f1 : Nat → Nat} {f2 : Nat → Nat} {fw : Nat → Nat} (hS : SX G b0 o ad H sz bl dv dc wr wf f1 f2 fw H) (hdv : ∀ j, j < 1008 → dv j ≤ 35) {b n : Nat} (hb36 : b ≤ 36) (hn : n ≤ 1000) : Met l yX1_areDigitsOf wsX1_areDigitsOf ({ frames := 0, cells := 0, slots := 0, locals := 0 } : Room) (PcH G H [.ref o, .int (nI b), .int (nI n)]) (QcI (fun r H1 => ((r = nI 1 ∧ ∀ j, j < n → dv j < b) ∨ (r = nI 0 ∧ ∃ j, j < n ∧ b ≤ dv j)) ∧ H = H1)) 0 0 (fre b0) := by
  refine m_enter (cc := cX1_areDigitsOf) (maxL := 4) (ret := (some .boolean)) (own := RX1) (by decide) rfl rfl (Nat.le_of_ble_eq_true rfl) ?_
  intro p e s m below meth c ls hF hnm hH hl
  have hl : lv_has ls 4 [(0, .ref o), (1, .int (nI b)), (2, .int (nI n))] := hl
  have hLc : lcs b0 [] := lcs_nil b0
  obtain ⟨hx, hb, hr, hml, hown, hts, hlocks, hK⟩ := id hF
  refine lv_iconst (v := nI 0) hx hb dX1_areDigitsOf_0 (by decide) ?_
  refine lv_istore_n (lv' := [(3, .int (nI 0)), (0, .ref o), (1, .int (nI b)), (2, .int (nI n))]) hx hb dX1_areDigitsOf_1 rfl hl (by decide) rfl (fun ls hl => ?_)
  exact areDigitsOf_2 hF hS hdv hb36 hn n 0 (by omega) (fun j hj => absurd hj (by omega)) _ _ hLc (lv_sub hl [1, 2, 3, 0] rfl)

set_option maxRecDepth 100000 in
set_option maxHeartbeats 4000000 in
theorem read_56 {p : Program} {l : Launch} {e : Env} {s : State} {m : MethodId} {args : Array Value} {below : List Frame} {meth : Method} {c : Code} {G : gG} {b0 : Nat} {H : Heap} {o : Nat} {ad : Nat → Nat} {sz : Nat → Nat → Nat} {bl : Nat → Nat} {dv : Nat → Nat} {dc : Nat} {wr : Nat → Nat} {wf : Nat} {f1 : Nat → Nat} {f2 : Nat → Nat} {fw : Nat → Nat} {k b : Nat} {x y : Int32} (hF : FxM p s m args meth c G cX1_read 9 (some .int) RX1 wsX1_read) (hI : IV sz bl) (hdc : dc ≤ 1000) (hdv : ∀ j, j < 1008 → dv j ≤ 35) (hk : k ≤ 63) (hb2 : 2 ≤ b) (hb36 : b ≤ 36) (hdd : ∀ j, j < dc → dv j < b) (hdc0 : dc ≠ 0) (hxk : x = nI k) (hyb : y = nI b) : ∀ (q : Nat) (i pw gp : Nat) (F : Nat → Nat) (Hc : Heap), i + q = dc → lim F 17 → vl F 17 < 2 ^ 512 → vl F 17 * pw + gp = rdv b dv i → 1 ≤ pw → pw * b ≤ 2147483648 → gp < pw → (i = dc → pw = 1 ∧ gp = 0) → SX G b0 o ad H sz bl dv 0 wr wf F f2 fw Hc → ∀ (locs : List Loc) (ls : Array Slot), lcs b0 locs → lv_has ls 9 [(0, .ref o), (1, .int (nI k)), (2, .int (nI b)), (3, .int (nI dc)), (4, .long (lN pw)), (6, .long (lN gp)), (8, .int (nI i))] → W p l e ({ frames := 2, cells := 0, slots := 0, locals := 64 } : Room) s m args below meth c Hc locs 0 0 (MQ below (QcI (fun r H1 => (∃ k b, k ≤ 63 ∧ 2 ≤ b ∧ b ≤ 36 ∧ x = nI k ∧ y = nI b ∧ dc ≠ 0 ∧ (∀ j, j < dc → dv j < b) ∧ KX G b0 o ad H (valX sz bl) dv 0 wr wf k (rdv b dv dc) r H1) ∨ ((noslot x ∨ (∀ b, 2 ≤ b → b ≤ 36 → b < 2 ^ 31 → y ≠ nI b) ∨ dc = 0 ∨ (∃ k b, x = nI k ∧ 2 ≤ b ∧ b ≤ 36 ∧ y = nI b ∧ ∃ j, j < dc ∧ b ≤ dv j)) ∧ r = nI 3 ∧ RX G b0 o ad H (valX sz bl) dv 0 wr wf H1))) args s 0 0 (fre b0)) (F0 m 56 ls []) := by
  obtain ⟨hx, hb, hr, hml, hown, hts, hlocks, hK⟩ := id hF
  intro q
  induction q with
  | zero =>
    intro i pw gp F Hc hi hFl hF5 hv hp1 hp2 hgp hend hS locs ls hLc hl
    obtain ⟨hpw, hgg⟩ := hend (by omega)
    rw [hpw, hgg, Nat.mul_one, Nat.add_zero, show i = dc by omega] at hv
    refine lv_iload hx hb dX1_read_56 (lv_at hl 6 rfl) ?_
    refine lv_iload_n hx hb dX1_read_58 rfl (lv_at hl 3 rfl) ?_
    refine lv_icmp_ge (tgt := 142) hx hb dX1_read_59 (by decide) (fun _ => ?_) (fun h => absurd (nI_le (by omega) (by omega)) h)
    refine lv_aload_n hx hb dX1_read_142 rfl (lv_at hl 0 rfl) ?_
    refine lv_iload_n hx hb dX1_read_143 rfl (lv_at hl 1 rfl) ?_
    refine lv_aload_n hx hb dX1_read_144 rfl (lv_at hl 0 rfl) ?_
    refine va_get (D := G.1) (ci := 0) (v := .ref (ad 4)) (C := RX1) (T := TX1) (N := 9) hx hb hts hwsX1_read hown hK hS.w.ob 0 rfl rfl 6 (by decide) (hts (.fieldLink RX1 32 "ExactNumbers" "first" "[J") (by decide +kernel)) (fun _ h9 => h9) rfl dX1_read_145 ?_
    refine lv_iconst (v := nI 0) hx hb dX1_read_148 (by decide) ?_
    refine mc_i0 (va_runV (As := [.int (nI k), .ref (ad 4), .int (nI 0)]) (rest := []) ⟨hx, hb, hml, hown, hts⟩ (c_X1_store l G b0 Hc hS.rf hI k (by omega) (hS.w.get 4 (by decide)) (by decide) (by decide) hFl (by decide)) (cwV 3 hts gX1_read_X1_store rfl rfl rfl (by decide +kernel) ⟨Nat.le_of_ble_eq_true rfl, Nat.le_of_ble_eq_true rfl⟩) (mp_V hK hS.w.ob rfl) rfl rfl hl.1 rfl (lv_room (Nat.le_of_ble_eq_true rfl)) dX1_read_149 ⟨Nat.le_of_ble_eq_true rfl, Nat.le_of_ble_eq_true rfl⟩) hLc (fun r H1 locs hP hLc => ?_)
    exact m_iret hx hb hr hlocks hLc dX1_read_152 (Or.inl ⟨k, b, hk, hb2, hb36, hxk, hyb, by omega, hdd, (KX.trans hS hP).val (by rw [sg_0, hv]) (fun _ _ => rfl)⟩)
  | succ q ih =>
    intro i pw gp F Hc hi hFl hF5 hv hp1 hp2 hgp hend hS locs ls hLc hl
    have hdi := hdd i (by omega)
    have hst := rd_step (b := b) (d := dv i) hv
    have hg2 := rd_lt hgp hdi
    have hdvi := hdv i (by omega)
    have hpb : pw * b * b ≤ 2147483648 * 36 := Nat.mul_le_mul hp2 hb36
    have hgb : gp * b ≤ pw * b := Nat.mul_le_mul_right _ (Nat.le_of_lt hgp)
    refine lv_iload hx hb dX1_read_56 (lv_at hl 6 rfl) ?_
    refine lv_iload_n hx hb dX1_read_58 rfl (lv_at hl 3 rfl) ?_
    refine lv_icmp_ge (tgt := 142) hx hb dX1_read_59 (by decide) (fun h => absurd h (nI_ge (by omega) (by omega))) (fun _ => ?_)
    refine lv_lload hx hb dX1_read_62 (lv_at hl 4 rfl) ?_
    refine lv_iload_n hx hb dX1_read_64 rfl (lv_at hl 2 rfl) ?_
    refine m_i2l hx hb (by omega) dX1_read_65 ?_
    refine m_lmul hx hb dX1_read_66 ?_
    refine lv_lstore (lv' := [(4, .long (lN (pw * b))), (0, .ref o), (1, .int (nI k)), (2, .int (nI b)), (3, .int (nI dc)), (6, .long (lN gp)), (8, .int (nI i))]) hx hb dX1_read_67 hl (by decide) rfl (fun ls hl => ?_)
    refine lv_lload hx hb dX1_read_69 (lv_at hl 5 rfl) ?_
    refine lv_iload_n hx hb dX1_read_71 rfl (lv_at hl 3 rfl) ?_
    refine m_i2l hx hb (by omega) dX1_read_72 ?_
    refine m_lmul hx hb dX1_read_73 ?_
    refine lv_aload_n hx hb dX1_read_74 rfl (lv_at hl 1 rfl) ?_
    refine va_get (D := G.1) (ci := 0) (v := .ref (ad 2)) (C := RX1) (T := TX1) (N := 9) hx hb hts hwsX1_read hown hK hS.w.ob 0 rfl rfl 2 (by decide) (hts (.fieldLink RX1 18 "ExactNumbers" "digitValues" "[B") (by decide +kernel)) (fun _ h9 => h9) rfl dX1_read_75 ?_
    refine lv_iload hx hb dX1_read_78 (lv_at hl 6 rfl) ?_
    refine m_bald (n := 1008) (f := dv) hx hb hK (hS.w.get 2 (by decide)) (by omega) (by decide) dX1_read_80 ?_
    refine m_i2l hx hb (by omega) dX1_read_81 ?_
    refine m_ladd hx hb dX1_read_82 ?_
    refine lv_lstore (lv' := [(6, .long (lN ((gp * b) + (dv i)))), (4, .long (lN (pw * b))), (0, .ref o), (1, .int (nI k)), (2, .int (nI b)), (3, .int (nI dc)), (8, .int (nI i))]) hx hb dX1_read_83 hl (by decide) rfl (fun ls hl => ?_)
    refine lv_lload hx hb dX1_read_85 (lv_at hl 1 rfl) ?_
    refine lv_iload_n hx hb dX1_read_87 rfl (lv_at hl 4 rfl) ?_
    refine m_i2l hx hb (by omega) dX1_read_88 ?_
    refine m_lmul hx hb dX1_read_89 ?_
    refine lv_ldc2 (v := lN 2147483648) hx hb hown (hts (.constantLong RX1 69 (lN 2147483648)) (by decide +kernel)) dX1_read_90 ?_
    refine m_lc_gt (tgt := 105) hx hb (by omega) (by decide) dX1_read_93 dX1_read_94 (by decide) (fun c93 => ?_) (fun c93 => ?_)
    · skip
      refine lv_aload_n hx hb dX1_read_105 rfl (lv_at hl 2 rfl) ?_
      refine va_get (D := G.1) (ci := 0) (v := .ref (ad 4)) (C := RX1) (T := TX1) (N := 9) hx hb hts hwsX1_read hown hK hS.w.ob 0 rfl rfl 6 (by decide) (hts (.fieldLink RX1 32 "ExactNumbers" "first" "[J") (by decide +kernel)) (fun _ h9 => h9) rfl dX1_read_106 ?_
      refine lv_lload hx hb dX1_read_109 (lv_at hl 1 rfl) ?_
      refine lv_lload hx hb dX1_read_111 (lv_at hl 0 rfl) ?_
      refine mc_v0 (va_runS (As := [.ref (ad 4), .long (lN (pw * b)), .long (lN ((gp * b) + (dv i)))]) (rest := []) ⟨hx, hb, hml, hown, hts⟩ (c_X0_multiplyAndAdd l G b0 Hc (hS.w.get 4 (by decide)) (by decide) hFl (hS.w.b 4 (by decide)) (by omega) (by omega)) (va_cwS 3 hts gX1_read_X0_multiplyAndAdd rfl rfl rfl (by decide +kernel) ⟨Nat.le_of_ble_eq_true rfl, Nat.le_of_ble_eq_true rfl⟩) (mp_S hK) rfl rfl hl.1 rfl (lv_room (Nat.le_of_ble_eq_true rfl)) dX1_read_113 ⟨Nat.le_of_ble_eq_true rfl, Nat.le_of_ble_eq_true rfl⟩) hLc (fun H1 locs hP hLc => ?_)
      obtain ⟨F2, c2, hF2, hv2, rfl⟩ := hP
      have hv2 := rd_flush (T := 0) hF5 hp2 hg2 hv2
      have hv3 : vl F2 17 = rdv b dv (i + 1) := by rw [hv2, rdv_s]; exact hst
      have htp := top0 hF2
      have hF16 := hF2 16 (by decide)
      have hS := hS.p_f1 F2
      generalize hput Hc (ad 4) (aJ G 17 F2) = Hc at hS ⊢
      refine lv_aload_n hx hb dX1_read_116 rfl (lv_at hl 2 rfl) ?_
      refine va_get (D := G.1) (ci := 0) (v := .ref (ad 4)) (C := RX1) (T := TX1) (N := 9) hx hb hts hwsX1_read hown hK hS.w.ob 0 rfl rfl 6 (by decide) (hts (.fieldLink RX1 32 "ExactNumbers" "first" "[J") (by decide +kernel)) (fun _ h9 => h9) rfl dX1_read_117 ?_
      refine lv_bipush (v := nI 16) hx hb dX1_read_120 (by decide) ?_
      refine m_lald (n := 17) (f := F2) hx hb hK (hS.w.get 4 (by decide)) (by omega) (by decide) dX1_read_122 ?_
      refine lv_lconst (v := lN 0) hx hb dX1_read_123 (by decide) ?_
      refine m_lc_eq (tgt := 130) hx hb (by omega) (by decide) dX1_read_124 dX1_read_125 (by decide) (fun c124 => ?_) (fun c124 => ?_)
      · skip
        refine lv_lconst (v := lN 1) hx hb dX1_read_130 (by decide) ?_
        refine lv_lstore (lv' := [(4, .long (lN 1)), (6, .long (lN ((gp * b) + (dv i)))), (0, .ref o), (1, .int (nI k)), (2, .int (nI b)), (3, .int (nI dc)), (8, .int (nI i))]) hx hb dX1_read_131 hl (by decide) rfl (fun ls hl => ?_)
        refine lv_lconst (v := lN 0) hx hb dX1_read_133 (by decide) ?_
        refine lv_lstore (lv' := [(6, .long (lN 0)), (4, .long (lN 1)), (0, .ref o), (1, .int (nI k)), (2, .int (nI b)), (3, .int (nI dc)), (8, .int (nI i))]) hx hb dX1_read_134 hl (by decide) rfl (fun ls hl => ?_)
        refine lv_iinc (v := nI (i + 1)) (lv' := [(8, .int (nI (i + 1))), (6, .long (lN 0)), (4, .long (lN 1)), (0, .ref o), (1, .int (nI k)), (2, .int (nI b)), (3, .int (nI dc))]) hx hb dX1_read_136 hl (k := 6) rfl (nI_add i 1) (by decide) rfl (fun ls hl => ?_)
        refine lv_goto (tgt := 56) hx hb dX1_read_139 (by decide) ?_
        exact ih (i + 1) 1 0 F2 _ (by omega) hF2 (htp.1 c124) (by rw [Nat.mul_one, Nat.add_zero]; exact hv3) (by decide) (by omega) (by decide) (fun _ => ⟨rfl, rfl⟩) hS _ _ hLc (lv_sub hl [3, 4, 5, 6, 2, 1, 0] rfl)
      · skip
        refine lv_iconst (v := nI 1) hx hb dX1_read_128 (by decide) ?_
        exact m_iret hx hb hr hlocks hLc dX1_read_129 (Or.inl ⟨k, b, hk, hb2, hb36, hxk, hyb, by omega, hdd, Or.inr ⟨by have h1 := htp.2 c124; have h2 := rdv_mono (b := b) dv (by omega) (show i + 1 ≤ dc by omega); omega, rfl, hS.r hI⟩⟩)
    · skip
      refine lv_iload hx hb dX1_read_97 (lv_at hl 6 rfl) ?_
      refine lv_iload_n hx hb dX1_read_99 rfl (lv_at hl 5 rfl) ?_
      refine lv_iconst (v := nI 1) hx hb dX1_read_100 (by decide) ?_
      refine m_isub (a := dc) (b := 1) hx hb (by omega) dX1_read_101 ?_
      refine m_icmp_ne (tgt := 136) hx hb (by omega) (by omega) dX1_read_102 (by decide) (fun c102 => ?_) (fun c102 => ?_)
      · skip
        refine lv_iinc (v := nI (i + 1)) (lv' := [(8, .int (nI (i + 1))), (6, .long (lN ((gp * b) + (dv i)))), (4, .long (lN (pw * b))), (0, .ref o), (1, .int (nI k)), (2, .int (nI b)), (3, .int (nI dc))]) hx hb dX1_read_136 hl (k := 6) rfl (nI_add i 1) (by decide) rfl (fun ls hl => ?_)
        refine lv_goto (tgt := 56) hx hb dX1_read_139 (by decide) ?_
        exact ih (i + 1) (pw * b) (gp * b + dv i) F _ (by omega) hFl hF5 hst (Nat.mul_pos hp1 (by omega)) c93 hg2 (fun e => absurd e (by omega)) hS _ _ hLc (lv_sub hl [3, 4, 5, 6, 2, 1, 0] rfl)
      · skip
        refine lv_aload_n hx hb dX1_read_105 rfl (lv_at hl 2 rfl) ?_
        refine va_get (D := G.1) (ci := 0) (v := .ref (ad 4)) (C := RX1) (T := TX1) (N := 9) hx hb hts hwsX1_read hown hK hS.w.ob 0 rfl rfl 6 (by decide) (hts (.fieldLink RX1 32 "ExactNumbers" "first" "[J") (by decide +kernel)) (fun _ h9 => h9) rfl dX1_read_106 ?_
        refine lv_lload hx hb dX1_read_109 (lv_at hl 1 rfl) ?_
        refine lv_lload hx hb dX1_read_111 (lv_at hl 0 rfl) ?_
        refine mc_v0 (va_runS (As := [.ref (ad 4), .long (lN (pw * b)), .long (lN ((gp * b) + (dv i)))]) (rest := []) ⟨hx, hb, hml, hown, hts⟩ (c_X0_multiplyAndAdd l G b0 Hc (hS.w.get 4 (by decide)) (by decide) hFl (hS.w.b 4 (by decide)) (by omega) (by omega)) (va_cwS 3 hts gX1_read_X0_multiplyAndAdd rfl rfl rfl (by decide +kernel) ⟨Nat.le_of_ble_eq_true rfl, Nat.le_of_ble_eq_true rfl⟩) (mp_S hK) rfl rfl hl.1 rfl (lv_room (Nat.le_of_ble_eq_true rfl)) dX1_read_113 ⟨Nat.le_of_ble_eq_true rfl, Nat.le_of_ble_eq_true rfl⟩) hLc (fun H1 locs hP hLc => ?_)
        obtain ⟨F2, c2, hF2, hv2, rfl⟩ := hP
        have hv2 := rd_flush (T := 0) hF5 hp2 hg2 hv2
        have hv3 : vl F2 17 = rdv b dv (i + 1) := by rw [hv2, rdv_s]; exact hst
        have htp := top0 hF2
        have hF16 := hF2 16 (by decide)
        have hS := hS.p_f1 F2
        generalize hput Hc (ad 4) (aJ G 17 F2) = Hc at hS ⊢
        refine lv_aload_n hx hb dX1_read_116 rfl (lv_at hl 2 rfl) ?_
        refine va_get (D := G.1) (ci := 0) (v := .ref (ad 4)) (C := RX1) (T := TX1) (N := 9) hx hb hts hwsX1_read hown hK hS.w.ob 0 rfl rfl 6 (by decide) (hts (.fieldLink RX1 32 "ExactNumbers" "first" "[J") (by decide +kernel)) (fun _ h9 => h9) rfl dX1_read_117 ?_
        refine lv_bipush (v := nI 16) hx hb dX1_read_120 (by decide) ?_
        refine m_lald (n := 17) (f := F2) hx hb hK (hS.w.get 4 (by decide)) (by omega) (by decide) dX1_read_122 ?_
        refine lv_lconst (v := lN 0) hx hb dX1_read_123 (by decide) ?_
        refine m_lc_eq (tgt := 130) hx hb (by omega) (by decide) dX1_read_124 dX1_read_125 (by decide) (fun c124 => ?_) (fun c124 => ?_)
        · skip
          refine lv_lconst (v := lN 1) hx hb dX1_read_130 (by decide) ?_
          refine lv_lstore (lv' := [(4, .long (lN 1)), (6, .long (lN ((gp * b) + (dv i)))), (0, .ref o), (1, .int (nI k)), (2, .int (nI b)), (3, .int (nI dc)), (8, .int (nI i))]) hx hb dX1_read_131 hl (by decide) rfl (fun ls hl => ?_)
          refine lv_lconst (v := lN 0) hx hb dX1_read_133 (by decide) ?_
          refine lv_lstore (lv' := [(6, .long (lN 0)), (4, .long (lN 1)), (0, .ref o), (1, .int (nI k)), (2, .int (nI b)), (3, .int (nI dc)), (8, .int (nI i))]) hx hb dX1_read_134 hl (by decide) rfl (fun ls hl => ?_)
          refine lv_iinc (v := nI (i + 1)) (lv' := [(8, .int (nI (i + 1))), (6, .long (lN 0)), (4, .long (lN 1)), (0, .ref o), (1, .int (nI k)), (2, .int (nI b)), (3, .int (nI dc))]) hx hb dX1_read_136 hl (k := 6) rfl (nI_add i 1) (by decide) rfl (fun ls hl => ?_)
          refine lv_goto (tgt := 56) hx hb dX1_read_139 (by decide) ?_
          exact ih (i + 1) 1 0 F2 _ (by omega) hF2 (htp.1 c124) (by rw [Nat.mul_one, Nat.add_zero]; exact hv3) (by decide) (by omega) (by decide) (fun _ => ⟨rfl, rfl⟩) hS _ _ hLc (lv_sub hl [3, 4, 5, 6, 2, 1, 0] rfl)
        · skip
          refine lv_iconst (v := nI 1) hx hb dX1_read_128 (by decide) ?_
          exact m_iret hx hb hr hlocks hLc dX1_read_129 (Or.inl ⟨k, b, hk, hb2, hb36, hxk, hyb, by omega, hdd, Or.inr ⟨by have h1 := htp.2 c124; have h2 := rdv_mono (b := b) dv (by omega) (show i + 1 ≤ dc by omega); omega, rfl, hS.r hI⟩⟩)
set_option maxRecDepth 100000 in
set_option maxHeartbeats 4000000 in
theorem c_X1_read (l : Launch) (G : gG) (b0 : Nat) (H : Heap) {o : Nat} {ad : Nat → Nat} {sz : Nat → Nat → Nat} {bl : Nat → Nat} {dv : Nat → Nat} {dc : Nat} {wr : Nat → Nat} {wf : Nat} {f1 : Nat → Nat} {f2 : Nat → Nat} {fw : Nat → Nat} (hS : SX G b0 o ad H sz bl dv dc wr wf f1 f2 fw H) (hI : IV sz bl) (hdc : dc ≤ 1000) (hdv : ∀ j, j < 1008 → dv j ≤ 35) (x y : Int32) : Met l yX1_read wsX1_read ({ frames := 2, cells := 0, slots := 0, locals := 64 } : Room) (PcH G H [.ref o, .int x, .int y]) (QcI (fun r H1 => (∃ k b, k ≤ 63 ∧ 2 ≤ b ∧ b ≤ 36 ∧ x = nI k ∧ y = nI b ∧ dc ≠ 0 ∧ (∀ j, j < dc → dv j < b) ∧ KX G b0 o ad H (valX sz bl) dv 0 wr wf k (rdv b dv dc) r H1) ∨ ((noslot x ∨ (∀ b, 2 ≤ b → b ≤ 36 → b < 2 ^ 31 → y ≠ nI b) ∨ dc = 0 ∨ (∃ k b, x = nI k ∧ 2 ≤ b ∧ b ≤ 36 ∧ y = nI b ∧ ∃ j, j < dc ∧ b ≤ dv j)) ∧ r = nI 3 ∧ RX G b0 o ad H (valX sz bl) dv 0 wr wf H1))) 0 0 (fre b0) := by
  refine m_enter (cc := cX1_read) (maxL := 9) (ret := (some .int)) (own := RX1) (by decide) rfl rfl (Nat.le_of_ble_eq_true rfl) ?_
  intro p e s m below meth c ls hF hnm hH hl
  have hl : lv_has ls 9 [(0, .ref o), (1, .int x), (2, .int y)] := hl
  have hLc : lcs b0 [] := lcs_nil b0
  obtain ⟨hx, hb, hr, hml, hown, hts, hlocks, hK⟩ := id hF
  refine lv_aload_n hx hb dX1_read_0 rfl (lv_at hl 0 rfl) ?_
  refine va_get (D := G.1) (ci := 0) (v := .int (nI dc)) (C := RX1) (T := TX1) (N := 9) hx hb hts hwsX1_read hown hK hS.w.ob 0 rfl rfl 3 (by decide) (hts (.fieldLink RX1 22 "ExactNumbers" "digitCount" "I") (by decide +kernel)) (fun _ h9 => h9) rfl dX1_read_1 ?_
  refine lv_istore_n (lv' := [(3, .int (nI dc)), (0, .ref o), (1, .int x), (2, .int y)]) hx hb dX1_read_4 rfl hl (by decide) rfl (fun ls hl => ?_)
  refine lv_aload_n hx hb dX1_read_5 rfl (lv_at hl 1 rfl) ?_
  refine lv_iconst (v := nI 0) hx hb dX1_read_6 (by decide) ?_
  refine m_put (C := RX1) (T := TX1) (N := 9) (ci := 0) (ty := .int) (b0 := b0) hx hb hts hwsX1_read tyX1 tyX1_ok nmX1 hown hK hS.w.ob rfl 3 (by decide) (hts (.fieldLink RX1 22 "ExactNumbers" "digitCount" "I") (by decide +kernel)) rfl (by decide +kernel) (rfl) (rfl) (Nat.le_of_ble_eq_true rfl) hS.w.bo hLc dX1_read_7 (fun Hc2 locs hO hsz hq hLc => ?_)
  have hS := hS.f_dc hO hsz hq
  clear hO hsz hq
  obtain ⟨Hc, rfl⟩ : ∃ Hz, Hz = Hc2 := ⟨_, rfl⟩
  refine lv_iload_n hx hb dX1_read_10 rfl (lv_at hl 2 rfl) ?_
  refine mc_i0 (va_runS (As := [.int x]) (rest := []) ⟨hx, hb, hml, hown, hts⟩ (c_X1_isSlot l G b0 Hc (x)) (va_cwS 1 hts gX1_read_X1_isSlot rfl rfl rfl (by decide +kernel) ⟨Nat.le_of_ble_eq_true rfl, Nat.le_of_ble_eq_true rfl⟩) (mp_S hK) rfl rfl hl.1 rfl (lv_room (Nat.le_of_ble_eq_true rfl)) dX1_read_11 ⟨Nat.le_of_ble_eq_true rfl, Nat.le_of_ble_eq_true rfl⟩) hLc (fun r H1 locs hP hLc => ?_)
  obtain ⟨hP, rfl⟩ := hP
  rcases hP with ⟨k, _h0, hk, rfl, rfl⟩ | ⟨hno, rfl⟩
  · skip
    refine m_if_eq (tgt := 37) hx hb (by decide) dX1_read_14 (by decide) (fun h => absurd h (by decide)) (fun _ => ?_)
    refine lv_iload_n hx hb dX1_read_17 rfl (lv_at hl 3 rfl) ?_
    refine mc_i0 (va_runS (As := [.int y]) (rest := []) ⟨hx, hb, hml, hown, hts⟩ (c_X1_isBase l G b0 Hc (y)) (va_cwS 1 hts gX1_read_X1_isBase rfl rfl rfl (by decide +kernel) ⟨Nat.le_of_ble_eq_true rfl, Nat.le_of_ble_eq_true rfl⟩) (mp_S hK) rfl rfl hl.1 rfl (lv_room (Nat.le_of_ble_eq_true rfl)) dX1_read_18 ⟨Nat.le_of_ble_eq_true rfl, Nat.le_of_ble_eq_true rfl⟩) hLc (fun r H1 locs hP hLc => ?_)
    obtain ⟨hP, rfl⟩ := hP
    rcases hP with ⟨b, hb2, hb36, rfl, rfl⟩ | ⟨hnb, rfl⟩
    · skip
      refine m_if_eq (tgt := 37) hx hb (by decide) dX1_read_21 (by decide) (fun h => absurd h (by decide)) (fun _ => ?_)
      refine lv_iload_n hx hb dX1_read_24 rfl (lv_at hl 0 rfl) ?_
      refine m_if_eq (tgt := 37) hx hb (by omega) dX1_read_25 (by decide) (fun c25 => ?_) (fun c25 => ?_)
      · skip
        refine lv_iconst (v := nI 3) hx hb dX1_read_37 (by decide) ?_
        exact m_iret hx hb hr hlocks hLc dX1_read_38 (Or.inr ⟨by first | exact Or.inl hno | exact Or.inr (Or.inl hnb) | exact Or.inr (Or.inr (Or.inl c25)) | exact Or.inr (Or.inr (Or.inr ⟨k, b, rfl, hb2, hb36, rfl, hdd⟩)), rfl, hS.r hI⟩)
      · skip
        refine lv_aload_n hx hb dX1_read_28 rfl (lv_at hl 1 rfl) ?_
        refine lv_iload_n hx hb dX1_read_29 rfl (lv_at hl 3 rfl) ?_
        refine lv_iload_n hx hb dX1_read_30 rfl (lv_at hl 0 rfl) ?_
        refine mc_i0 (va_runV (As := [.int (nI b), .int (nI dc)]) (rest := []) ⟨hx, hb, hml, hown, hts⟩ (c_X1_areDigitsOf l G b0 Hc hS.rf hdv hb36 hdc) (cwV 2 hts gX1_read_X1_areDigitsOf rfl rfl rfl (by decide +kernel) ⟨Nat.le_of_ble_eq_true rfl, Nat.le_of_ble_eq_true rfl⟩) (mp_V hK hS.w.ob rfl) rfl rfl hl.1 rfl (lv_room (Nat.le_of_ble_eq_true rfl)) dX1_read_31 ⟨Nat.le_of_ble_eq_true rfl, Nat.le_of_ble_eq_true rfl⟩) hLc (fun r H1 locs hP hLc => ?_)
        obtain ⟨hP, rfl⟩ := hP
        rcases hP with ⟨rfl, hdd⟩ | ⟨rfl, hdd⟩
        · skip
          refine m_if_ne (tgt := 39) hx hb (by decide) dX1_read_34 (by decide) (fun _ => ?_) (fun h => absurd h (by decide))
          refine lv_aload_n hx hb dX1_read_39 rfl (lv_at hl 1 rfl) ?_
          refine va_get (D := G.1) (ci := 0) (v := .ref (ad 4)) (C := RX1) (T := TX1) (N := 9) hx hb hts hwsX1_read hown hK hS.w.ob 0 rfl rfl 6 (by decide) (hts (.fieldLink RX1 32 "ExactNumbers" "first" "[J") (by decide +kernel)) (fun _ h9 => h9) rfl dX1_read_40 ?_
          refine lv_lconst (v := lN 0) hx hb dX1_read_43 (by decide) ?_
          refine mc_v0 (va_runS (As := [.ref (ad 4), .long (lN 0)]) (rest := []) ⟨hx, hb, hml, hown, hts⟩ (c_J7_fill_d0a16 l G b0 Hc (hS.w.get 4 (by decide)) (by decide) (hS.w.b 4 (by decide))) (va_cwS 2 hts gX1_read_J7_fill_d0a16 rfl rfl rfl (by decide +kernel) ⟨Nat.le_of_ble_eq_true rfl, Nat.le_of_ble_eq_true rfl⟩) (mp_S hK) rfl rfl hl.1 rfl (lv_room (Nat.le_of_ble_eq_true rfl)) dX1_read_44 ⟨Nat.le_of_ble_eq_true rfl, Nat.le_of_ble_eq_true rfl⟩) hLc (fun H1 locs hP hLc => ?_)
          subst hP
          have hS := hS.p_f1 (fun _ => 0)
          generalize hput Hc (ad 4) (aJ G 17 (fun _ => 0)) = Hc at hS ⊢
          refine lv_lconst (v := lN 1) hx hb dX1_read_47 (by decide) ?_
          refine lv_lstore (lv' := [(4, .long (lN 1)), (3, .int (nI dc)), (0, .ref o), (1, .int (nI k)), (2, .int (nI b))]) hx hb dX1_read_48 hl (by decide) rfl (fun ls hl => ?_)
          refine lv_lconst (v := lN 0) hx hb dX1_read_50 (by decide) ?_
          refine lv_lstore (lv' := [(6, .long (lN 0)), (4, .long (lN 1)), (3, .int (nI dc)), (0, .ref o), (1, .int (nI k)), (2, .int (nI b))]) hx hb dX1_read_51 hl (by decide) rfl (fun ls hl => ?_)
          refine lv_iconst (v := nI 0) hx hb dX1_read_53 (by decide) ?_
          refine lv_istore (lv' := [(8, .int (nI 0)), (6, .long (lN 0)), (4, .long (lN 1)), (3, .int (nI dc)), (0, .ref o), (1, .int (nI k)), (2, .int (nI b))]) hx hb dX1_read_54 hl (by decide) rfl (fun ls hl => ?_)
          exact read_56 (f1 := f1) hF hI hdc hdv hk hb2 hb36 hdd c25 rfl rfl dc 0 1 0 _ _ (by omega) (fun j _ => (by decide : 0 < 4294967296)) (by rw [vl_zero_iff.mpr (fun j _ => rfl)]; exact Nat.pow_pos (by decide)) (by rw [vl_zero_iff.mpr (fun j _ => rfl)]; rfl) (by decide) (by omega) (by decide) (fun e => absurd e (by omega)) hS _ _ hLc (lv_sub hl [4, 5, 6, 3, 2, 1, 0] rfl)
        · skip
          refine m_if_ne (tgt := 39) hx hb (by decide) dX1_read_34 (by decide) (fun h => absurd h (by decide)) (fun _ => ?_)
          refine lv_iconst (v := nI 3) hx hb dX1_read_37 (by decide) ?_
          exact m_iret hx hb hr hlocks hLc dX1_read_38 (Or.inr ⟨by first | exact Or.inl hno | exact Or.inr (Or.inl hnb) | exact Or.inr (Or.inr (Or.inl c25)) | exact Or.inr (Or.inr (Or.inr ⟨k, b, rfl, hb2, hb36, rfl, hdd⟩)), rfl, hS.r hI⟩)
    · skip
      refine m_if_eq (tgt := 37) hx hb (by decide) dX1_read_21 (by decide) (fun _ => ?_) (fun h => absurd h (by decide))
      refine lv_iconst (v := nI 3) hx hb dX1_read_37 (by decide) ?_
      exact m_iret hx hb hr hlocks hLc dX1_read_38 (Or.inr ⟨by first | exact Or.inl hno | exact Or.inr (Or.inl hnb) | exact Or.inr (Or.inr (Or.inl c25)) | exact Or.inr (Or.inr (Or.inr ⟨k, b, rfl, hb2, hb36, rfl, hdd⟩)), rfl, hS.r hI⟩)
  · skip
    refine m_if_eq (tgt := 37) hx hb (by decide) dX1_read_14 (by decide) (fun _ => ?_) (fun h => absurd h (by decide))
    refine lv_iconst (v := nI 3) hx hb dX1_read_37 (by decide) ?_
    exact m_iret hx hb hr hlocks hLc dX1_read_38 (Or.inr ⟨by first | exact Or.inl hno | exact Or.inr (Or.inl hnb) | exact Or.inr (Or.inr (Or.inl c25)) | exact Or.inr (Or.inr (Or.inr ⟨k, b, rfl, hb2, hb36, rfl, hdd⟩)), rfl, hS.r hI⟩)
