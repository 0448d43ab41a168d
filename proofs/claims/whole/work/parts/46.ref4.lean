set_option maxRecDepth 100000 in
set_option maxHeartbeats 4000000 in
theorem c_M0_work (l : Launch) (G : gG) (b0 : Nat) (H : Heap) {o : Nat} {ad : Nat → Nat} {th : Nat} {dg : Nat → Nat} {bw : Nat → Nat} {lm : Nat → Nat} {lf : Nat → Nat} {rt : Nat → Nat} {ou : Nat → Nat} {rs : Nat → Nat} {lb : Nat} {rb : Nat} {ob : Nat} {bL : Nat → Nat} {bR : Nat → Nat} {td : Nat} {tp : Nat → Nat} {wn : Nat} {tx : Nat → Nat} (hS : SM G b0 o ad H th dg bw lm lf rt ou rs lb rb ob bL bR td tp wn tx H) (hI : IM dg bw lm) (z s0 x y : Int32) : Met l yM0_work wsM0_work ({ frames := 3, cells := 0, slots := 0, locals := 74 } : Room) (PcH G H [.ref o, .int z, .int s0, .int x, .int y]) (QcI (fun r H1 => (∃ n k i j, n ≤ 8 ∧ k ≤ 63 ∧ i ≤ 63 ∧ j ≤ 63 ∧ z = nI n ∧ s0 = nI k ∧ x = nI i ∧ y = nI j ∧ ((((n = 3 ∨ n = 4) ∧ valM dg bw j = 0) ∧ r = nI 2 ∧ RM G b0 o ad H (valM dg bw) tp td tx wn H1) ∨ (¬ ((n = 3 ∨ n = 4) ∧ valM dg bw j = 0) ∧ KM G b0 o ad H (valM dg bw) tp td tx wn k (wv n (valM dg bw i) (valM dg bw j)) r H1))) ∨ ((noslot s0 ∨ noslot x ∨ noslot y ∨ noop z) ∧ r = nI 3 ∧ RM G b0 o ad H (valM dg bw) tp td tx wn H1))) 0 0 (fre b0) := by
  refine m_enter (cc := cM0_work) (maxL := 5) (ret := (some .int)) (own := RM0) (by decide) rfl rfl (Nat.le_of_ble_eq_true rfl) ?_
  intro p e s m below meth c ls hF hnm hH hl
  have hl : lv_has ls 5 [(0, .ref o), (1, .int z), (2, .int s0), (3, .int x), (4, .int y)] := hl
  have hLc : lcs b0 [] := lcs_nil b0
  obtain ⟨hx, hb, hr, hml, hown, hts, hlocks, hK⟩ := id hF
  refine lv_aload_n hx hb dM0_work_0 rfl (lv_at hl 0 rfl) ?_
  refine lv_iconst (v := nI 0) hx hb dM0_work_1 (by decide) ?_
  refine m_put (C := RM0) (T := TM0) (N := 17) (ci := 1) (ty := .int) (b0 := b0) hx hb hts hwsM0_work tyM0 tyM0_ok nmM0 hown hK hS.w.ob rfl 0 (by decide) (hts (.fieldLink RM0 48 "ExactNumbersModel" "thrown" "I") (by decide +kernel)) rfl (by decide +kernel) (rfl) (rfl) (Nat.le_of_ble_eq_true rfl) hS.w.bo hLc dM0_work_2 (fun Hc2 locs hO hsz hq hLc => ?_)
  have hS := hS.f_th hO hsz hq
  clear hO hsz hq
  obtain ⟨Hc, rfl⟩ : ∃ Hz, Hz = Hc2 := ⟨_, rfl⟩
  refine lv_iload_n hx hb dM0_work_5 rfl (lv_at hl 1 rfl) ?_
  refine lv_if_lt (tgt := 37) hx hb dM0_work_6 (by decide) (fun c6 => ?_) (fun c6 => ?_)
  · skip
    have hno := noop_lt c6
    refine lv_iconst (v := nI 3) hx hb dM0_work_37 (by decide) ?_
    exact m_iret hx hb hr hlocks hLc dM0_work_38 (Or.inr ⟨by first | exact Or.inl hno | exact Or.inr (Or.inl hno) | exact Or.inr (Or.inr (Or.inl hno)) | exact Or.inr (Or.inr (Or.inr hno)), rfl, hS.r hI⟩)
  · skip
    obtain ⟨n, hn31, rfl⟩ := nI_of c6
    refine lv_iload_n hx hb dM0_work_9 rfl (lv_at hl 1 rfl) ?_
    refine lv_bipush (v := nI 8) hx hb dM0_work_10 (by decide) ?_
    refine m_icmp_gt (tgt := 37) hx hb (by omega) (by decide) dM0_work_12 (by decide) (fun c12 => ?_) (fun c12 => ?_)
    · skip
      have hno := noop_gt hn31 c12
      refine lv_iconst (v := nI 3) hx hb dM0_work_37 (by decide) ?_
      exact m_iret hx hb hr hlocks hLc dM0_work_38 (Or.inr ⟨by first | exact Or.inl hno | exact Or.inr (Or.inl hno) | exact Or.inr (Or.inr (Or.inl hno)) | exact Or.inr (Or.inr (Or.inr hno)), rfl, hS.r hI⟩)
    · skip
      refine lv_iload_n hx hb dM0_work_15 rfl (lv_at hl 2 rfl) ?_
      refine mc_i0 (va_runS (As := [.int s0]) (rest := []) ⟨hx, hb, hml, hown, hts⟩ (c_M0_isSlot l G b0 Hc (s0)) (va_cwS 1 hts gM0_work_M0_isSlot rfl rfl rfl (by decide +kernel) ⟨Nat.le_of_ble_eq_true rfl, Nat.le_of_ble_eq_true rfl⟩) (mp_S hK) rfl rfl hl.1 rfl (lv_room (Nat.le_of_ble_eq_true rfl)) dM0_work_16 ⟨Nat.le_of_ble_eq_true rfl, Nat.le_of_ble_eq_true rfl⟩) hLc (fun r H1 locs hP hLc => ?_)
      obtain ⟨hP, rfl⟩ := hP
      rcases hP with ⟨k, _h0, hk, rfl, rfl⟩ | ⟨hno, rfl⟩
      · skip
        refine m_if_eq (tgt := 37) hx hb (by decide) dM0_work_19 (by decide) (fun h => absurd h (by decide)) (fun _ => ?_)
        refine lv_iload_n hx hb dM0_work_22 rfl (lv_at hl 3 rfl) ?_
        refine mc_i0 (va_runS (As := [.int x]) (rest := []) ⟨hx, hb, hml, hown, hts⟩ (c_M0_isSlot l G b0 Hc (x)) (va_cwS 1 hts gM0_work_M0_isSlot rfl rfl rfl (by decide +kernel) ⟨Nat.le_of_ble_eq_true rfl, Nat.le_of_ble_eq_true rfl⟩) (mp_S hK) rfl rfl hl.1 rfl (lv_room (Nat.le_of_ble_eq_true rfl)) dM0_work_23 ⟨Nat.le_of_ble_eq_true rfl, Nat.le_of_ble_eq_true rfl⟩) hLc (fun r H1 locs hP hLc => ?_)
        obtain ⟨hP, rfl⟩ := hP
        rcases hP with ⟨i, _h0, hi, rfl, rfl⟩ | ⟨hno, rfl⟩
        · skip
          refine m_if_eq (tgt := 37) hx hb (by decide) dM0_work_26 (by decide) (fun h => absurd h (by decide)) (fun _ => ?_)
          refine lv_iload hx hb dM0_work_29 (lv_at hl 4 rfl) ?_
          refine mc_i0 (va_runS (As := [.int y]) (rest := []) ⟨hx, hb, hml, hown, hts⟩ (c_M0_isSlot l G b0 Hc (y)) (va_cwS 1 hts gM0_work_M0_isSlot rfl rfl rfl (by decide +kernel) ⟨Nat.le_of_ble_eq_true rfl, Nat.le_of_ble_eq_true rfl⟩) (mp_S hK) rfl rfl hl.1 rfl (lv_room (Nat.le_of_ble_eq_true rfl)) dM0_work_31 ⟨Nat.le_of_ble_eq_true rfl, Nat.le_of_ble_eq_true rfl⟩) hLc (fun r H1 locs hP hLc => ?_)
          obtain ⟨hP, rfl⟩ := hP
          rcases hP with ⟨j, _h0, hj, rfl, rfl⟩ | ⟨hno, rfl⟩
          · skip
            refine m_if_ne (tgt := 39) hx hb (by decide) dM0_work_34 (by decide) (fun _ => ?_) (fun h => absurd h (by decide))
            refine lv_aload_n hx hb dM0_work_39 rfl (lv_at hl 0 rfl) ?_
            refine lv_iload_n hx hb dM0_work_40 rfl (lv_at hl 3 rfl) ?_
            refine lv_iload hx hb dM0_work_41 (lv_at hl 4 rfl) ?_
            refine mc_v0 (va_runV (As := [.int (nI i), .int (nI j)]) (rest := []) ⟨hx, hb, hml, hown, hts⟩ (c_M0_loadBoth l G b0 Hc hS.rf hI hi hj) (cwV 2 hts gM0_work_M0_loadBoth rfl rfl rfl (by decide +kernel) ⟨Nat.le_of_ble_eq_true rfl, Nat.le_of_ble_eq_true rfl⟩) (mp_V hK hS.w.ob rfl) rfl rfl hl.1 rfl (lv_room (Nat.le_of_ble_eq_true rfl)) dM0_work_43 ⟨Nat.le_of_ble_eq_true rfl, Nat.le_of_ble_eq_true rfl⟩) hLc (fun H1 locs hP hLc => ?_)
            obtain ⟨g, h, hg, hvg, hh, hvh, hP⟩ := hP
            have hS : SM G b0 o ad H 0 dg bw lm g h ou rs (bw i) (bw j) ob bL bR td tp wn tx H1 := WO.trans hS hP
            generalize H1 = Hc at hS ⊢
            have hbi := hI.b (show i < 64 by omega)
            have hbj := hI.b (show j < 64 by omega)
            have hzi := hI.z (show i < 64 by omega)
            have hzj := hI.z (show j < 64 by omega)
            have hli := hI.lt (show i < 64 by omega)
            have hlj := hI.lt (show j < 64 by omega)
            have hvi : valM dg bw i = sg (bw i) (dl (shf dg (160 * i)) 160) := rfl
            have hvj : valM dg bw j = sg (bw j) (dl (shf dg (160 * j)) 160) := rfl
            rw [← hvg] at hzi hli hvi
            rw [← hvh] at hzj hlj hvj
            have hn8 : n ≤ 8 := c12
            refine lv_iload_n hx hb dM0_work_46 rfl (lv_at hl 1 rfl) ?_
            refine lv_iconst (v := nI 3) hx hb dM0_work_47 (by decide) ?_
            refine m_icmp_eq (tgt := 56) hx hb (by omega) (by omega) dM0_work_48 (by decide) (fun c48 => ?_) (fun c48 => ?_)
            · skip
              refine lv_aload_n hx hb dM0_work_56 rfl (lv_at hl 0 rfl) ?_
              refine va_get (D := G.1) (ci := 1) (v := .ref (ad 4)) (C := RM0) (T := TM0) (N := 17) hx hb hts hwsM0_work hown hK hS.w.ob 0 rfl rfl 5 (by decide) (hts (.fieldLink RM0 23 "ExactNumbersModel" "right" "[I") (by decide +kernel)) (fun _ h9 => h9) rfl dM0_work_57 ?_
              refine mc_i0 (va_runS (As := [.ref (ad 4)]) (rest := []) ⟨hx, hb, hml, hown, hts⟩ (c_M0_isZero l G b0 Hc (hS.w.get 4 (by decide)) hh) (va_cwS 1 hts gM0_work_M0_isZero rfl rfl rfl (by decide +kernel) ⟨Nat.le_of_ble_eq_true rfl, Nat.le_of_ble_eq_true rfl⟩) (mp_S hK) rfl rfl hl.1 rfl (lv_room (Nat.le_of_ble_eq_true rfl)) dM0_work_60 ⟨Nat.le_of_ble_eq_true rfl, Nat.le_of_ble_eq_true rfl⟩) hLc (fun r H1 locs hP hLc => ?_)
              obtain ⟨hP, rfl⟩ := hP
              rcases hP with ⟨rfl, hzz⟩ | ⟨rfl, hzz⟩
              · skip
                refine m_if_eq (tgt := 68) hx hb (by decide) dM0_work_63 (by decide) (fun h => absurd h (by decide)) (fun _ => ?_)
                refine lv_iconst (v := nI 2) hx hb dM0_work_66 (by decide) ?_
                exact m_iret hx hb hr hlocks hLc dM0_work_67 (Or.inl ⟨n, k, i, j, hn8, hk, hi, hj, rfl, rfl, rfl, rfl, Or.inl ⟨⟨by omega, by rw [hvj]; exact sg_zero.mpr hzz⟩, rfl, hS.r hI⟩⟩)
              · skip
                refine m_if_eq (tgt := 68) hx hb (by decide) dM0_work_63 (by decide) (fun _ => ?_) (fun h => absurd h (by decide))
                refine lv_iload_n hx hb dM0_work_68 rfl (lv_at hl 1 rfl) ?_
                refine lv_iconst (v := nI 2) hx hb dM0_work_69 (by decide) ?_
                refine m_icmp_ge (tgt := 90) hx hb (by omega) (by omega) dM0_work_70 (by decide) (fun c70 => ?_) (fun c70 => ?_)
                · skip
                  refine lv_iload_n hx hb dM0_work_90 rfl (lv_at hl 1 rfl) ?_
                  refine lv_iconst (v := nI 2) hx hb dM0_work_91 (by decide) ?_
                  refine m_icmp_ne (tgt := 102) hx hb (by omega) (by omega) dM0_work_92 (by decide) (fun c92 => ?_) (fun c92 => ?_)
                  · skip
                    refine lv_iload_n hx hb dM0_work_102 rfl (lv_at hl 1 rfl) ?_
                    refine lv_iconst (v := nI 5) hx hb dM0_work_103 (by decide) ?_
                    refine m_icmp_ge (tgt := 138) hx hb (by omega) (by omega) dM0_work_104 (by decide) (fun c104 => ?_) (fun c104 => ?_)
                    · skip
                      refine lv_aload_n hx hb dM0_work_138 rfl (lv_at hl 0 rfl) ?_
                      refine lv_iload_n hx hb dM0_work_139 rfl (lv_at hl 1 rfl) ?_
                      refine mc_v0 (va_runV (As := [.int (nI n)]) (rest := []) ⟨hx, hb, hml, hown, hts⟩ (c_M0_bitwise l G b0 Hc hS.rf hg hh hbi hbj hli hlj hzi hzj (by omega) hn8) (cwV 1 hts gM0_work_M0_bitwise rfl rfl rfl (by decide +kernel) ⟨Nat.le_of_ble_eq_true rfl, Nat.le_of_ble_eq_true rfl⟩) (mp_V hK hS.w.ob rfl) rfl rfl hl.1 rfl (lv_room (Nat.le_of_ble_eq_true rfl)) dM0_work_140 ⟨Nat.le_of_ble_eq_true rfl, Nat.le_of_ble_eq_true rfl⟩) hLc (fun H1 locs hP hLc => ?_)
                      obtain ⟨g3, r3, gl3, gr3, b3, hg3, hb3, hv3, hP⟩ := hP
                      have hS : SM G b0 o ad H 0 dg bw lm g h g3 r3 (bw i) (bw j) b3 gl3 gr3 td tp wn tx H1 := WO.trans hS hP
                      generalize H1 = Hc at hS ⊢
                      refine lv_aload_n hx hb dM0_work_143 rfl (lv_at hl 0 rfl) ?_
                      refine lv_iload_n hx hb dM0_work_144 rfl (lv_at hl 2 rfl) ?_
                      refine mc_i0 (va_runV (As := [.int (nI k)]) (rest := []) ⟨hx, hb, hml, hown, hts⟩ (c_M0_keep l G b0 Hc hS.rf hI hg3 hb3 hk) (cwV 1 hts gM0_work_M0_keep rfl rfl rfl (by decide +kernel) ⟨Nat.le_of_ble_eq_true rfl, Nat.le_of_ble_eq_true rfl⟩) (mp_V hK hS.w.ob rfl) rfl rfl hl.1 rfl (lv_room (Nat.le_of_ble_eq_true rfl)) dM0_work_145 ⟨Nat.le_of_ble_eq_true rfl, Nat.le_of_ble_eq_true rfl⟩) hLc (fun r H1 locs hP hLc => ?_)
                      exact m_iret hx hb hr hlocks hLc dM0_work_148 (Or.inl ⟨n, k, i, j, hn8, hk, hi, hj, rfl, rfl, rfl, rfl, Or.inr ⟨by omega, (KM.trans hS hP).val (by rw [hv3, wv_5 (by omega), hvi, hvj])⟩⟩)
                    · skip
                      refine lv_aload_n hx hb dM0_work_107 rfl (lv_at hl 0 rfl) ?_
                      refine mc_v0 (va_runV (As := []) (rest := []) ⟨hx, hb, hml, hown, hts⟩ (c_M0_divide l G b0 Hc hS.rf hg hh hbi hbj hli hlj (by omega)) (cwV 0 hts gM0_work_M0_divide rfl rfl rfl (by decide +kernel) ⟨Nat.le_of_ble_eq_true rfl, Nat.le_of_ble_eq_true rfl⟩) (mp_V hK hS.w.ob rfl) rfl rfl hl.1 rfl (lv_room (Nat.le_of_ble_eq_true rfl)) dM0_work_108 ⟨Nat.le_of_ble_eq_true rfl, Nat.le_of_ble_eq_true rfl⟩) hLc (fun H1 locs hP hLc => ?_)
                      obtain ⟨g3, r3, hg3, hr3, hv3, hw3, hP⟩ := hP
                      have hS : SM G b0 o ad H 0 dg bw lm g h g3 r3 (bw i) (bw j) ((if bw i = bw j then 0 else 1)) bL bR td tp wn tx H1 := WO.trans hS hP
                      generalize H1 = Hc at hS ⊢
                      refine lv_iload_n hx hb dM0_work_111 rfl (lv_at hl 1 rfl) ?_
                      refine lv_iconst (v := nI 4) hx hb dM0_work_112 (by decide) ?_
                      refine m_icmp_ne (tgt := 143) hx hb (by omega) (by omega) dM0_work_113 (by decide) (fun c113 => ?_) (fun c113 => ?_)
                      · skip
                        refine lv_aload_n hx hb dM0_work_143 rfl (lv_at hl 0 rfl) ?_
                        refine lv_iload_n hx hb dM0_work_144 rfl (lv_at hl 2 rfl) ?_
                        refine mc_i0 (va_runV (As := [.int (nI k)]) (rest := []) ⟨hx, hb, hml, hown, hts⟩ (c_M0_keep l G b0 Hc hS.rf hI hg3 (by split <;> omega) hk) (cwV 1 hts gM0_work_M0_keep rfl rfl rfl (by decide +kernel) ⟨Nat.le_of_ble_eq_true rfl, Nat.le_of_ble_eq_true rfl⟩) (mp_V hK hS.w.ob rfl) rfl rfl hl.1 rfl (lv_room (Nat.le_of_ble_eq_true rfl)) dM0_work_145 ⟨Nat.le_of_ble_eq_true rfl, Nat.le_of_ble_eq_true rfl⟩) hLc (fun r H1 locs hP hLc => ?_)
                        exact m_iret hx hb hr hlocks hLc dM0_work_148 (Or.inl ⟨n, k, i, j, hn8, hk, hi, hj, rfl, rfl, rfl, rfl, Or.inr ⟨by first | omega | exact fun e => hzz (sg_zero.mp (hvj ▸ e.2)), (KM.trans hS hP).val (by rw [hv3, tdiv_sg _ _ _ _ hbi hbj, wv_3 (by omega), hvi, hvj])⟩⟩)
                      · skip
                        refine lv_aload_n hx hb dM0_work_116 rfl (lv_at hl 0 rfl) ?_
                        refine va_get (D := G.1) (ci := 1) (v := .ref (ad 6)) (C := RM0) (T := TM0) (N := 17) hx hb hts hwsM0_work hown hK hS.w.ob 0 rfl rfl 7 (by decide) (hts (.fieldLink RM0 29 "ExactNumbersModel" "rest" "[I") (by decide +kernel)) (fun _ h9 => h9) rfl dM0_work_117 ?_
                        refine lv_aload_n hx hb dM0_work_120 rfl (lv_at hl 0 rfl) ?_
                        refine va_get (D := G.1) (ci := 1) (v := .ref (ad 5)) (C := RM0) (T := TM0) (N := 17) hx hb hts hwsM0_work hown hK hS.w.ob 0 rfl rfl 6 (by decide) (hts (.fieldLink RM0 26 "ExactNumbersModel" "out" "[I") (by decide +kernel)) (fun _ h9 => h9) rfl dM0_work_121 ?_
                        refine mc_v0 (va_runS (As := [.ref (ad 6), .ref (ad 5)]) (rest := []) ⟨hx, hb, hml, hown, hts⟩ (c_M0_copy l G b0 Hc (hS.w.get 6 (by decide)) (hS.w.get 5 (by decide)) (hS.w.ne (i := 6) (j := 5) (by decide) (by decide) (by decide)) (hS.w.b 5 (by decide))) (va_cwS 2 hts gM0_work_M0_copy rfl rfl rfl (by decide +kernel) ⟨Nat.le_of_ble_eq_true rfl, Nat.le_of_ble_eq_true rfl⟩) (mp_S hK) rfl rfl hl.1 rfl (lv_room (Nat.le_of_ble_eq_true rfl)) dM0_work_124 ⟨Nat.le_of_ble_eq_true rfl, Nat.le_of_ble_eq_true rfl⟩) hLc (fun H1 locs hP hLc => ?_)
                        subst hP
                        have hS := hS.p_ou r3
                        generalize hput Hc (ad 5) (aN G 330 r3) = Hc at hS ⊢
                        refine lv_aload_n hx hb dM0_work_127 rfl (lv_at hl 0 rfl) ?_
                        refine lv_aload_n hx hb dM0_work_128 rfl (lv_at hl 0 rfl) ?_
                        refine va_get (D := G.1) (ci := 1) (v := .int (nI (bw i))) (C := RM0) (T := TM0) (N := 17) hx hb hts hwsM0_work hown hK hS.w.ob 0 rfl rfl 8 (by decide) (hts (.fieldLink RM0 64 "ExactNumbersModel" "leftBelow" "Z") (by decide +kernel)) (fun _ h9 => h9) rfl dM0_work_129 ?_
                        refine m_put (C := RM0) (T := TM0) (N := 17) (ci := 1) (ty := .boolean) (b0 := b0) hx hb hts hwsM0_work tyM0 tyM0_ok nmM0 hown hK hS.w.ob rfl 10 (by decide) (hts (.fieldLink RM0 75 "ExactNumbersModel" "outBelow" "Z") (by decide +kernel)) rfl (by decide +kernel) (nar_z (by omega)) (fit_z (by omega)) (Nat.le_of_ble_eq_true rfl) hS.w.bo hLc dM0_work_132 (fun Hc2 locs hO hsz hq hLc => ?_)
                        have hS := hS.f_ob hO hsz hq
                        clear hO hsz hq
                        obtain ⟨Hc, rfl⟩ : ∃ Hz, Hz = Hc2 := ⟨_, rfl⟩
                        refine lv_goto (tgt := 143) hx hb dM0_work_135 (by decide) ?_
                        refine lv_aload_n hx hb dM0_work_143 rfl (lv_at hl 0 rfl) ?_
                        refine lv_iload_n hx hb dM0_work_144 rfl (lv_at hl 2 rfl) ?_
                        refine mc_i0 (va_runV (As := [.int (nI k)]) (rest := []) ⟨hx, hb, hml, hown, hts⟩ (c_M0_keep l G b0 Hc hS.rf hI hr3 hbi hk) (cwV 1 hts gM0_work_M0_keep rfl rfl rfl (by decide +kernel) ⟨Nat.le_of_ble_eq_true rfl, Nat.le_of_ble_eq_true rfl⟩) (mp_V hK hS.w.ob rfl) rfl rfl hl.1 rfl (lv_room (Nat.le_of_ble_eq_true rfl)) dM0_work_145 ⟨Nat.le_of_ble_eq_true rfl, Nat.le_of_ble_eq_true rfl⟩) hLc (fun r H1 locs hP hLc => ?_)
                        exact m_iret hx hb hr hlocks hLc dM0_work_148 (Or.inl ⟨n, k, i, j, hn8, hk, hi, hj, rfl, rfl, rfl, rfl, Or.inr ⟨by first | omega | exact fun e => hzz (sg_zero.mp (hvj ▸ e.2)), (KM.trans hS hP).val (by rw [hw3, tmod_sg _ (bw j) _ _ hbi hbj, wv_4 c113, hvi, hvj])⟩⟩)
                  · skip
                    refine lv_aload_n hx hb dM0_work_95 rfl (lv_at hl 0 rfl) ?_
                    refine mc_v0 (va_runV (As := []) (rest := []) ⟨hx, hb, hml, hown, hts⟩ (c_M0_times l G b0 Hc hS.rf hg hh hbi hbj hli hlj) (cwV 0 hts gM0_work_M0_times rfl rfl rfl (by decide +kernel) ⟨Nat.le_of_ble_eq_true rfl, Nat.le_of_ble_eq_true rfl⟩) (mp_V hK hS.w.ob rfl) rfl rfl hl.1 rfl (lv_room (Nat.le_of_ble_eq_true rfl)) dM0_work_96 ⟨Nat.le_of_ble_eq_true rfl, Nat.le_of_ble_eq_true rfl⟩) hLc (fun H1 locs hP hLc => ?_)
                    obtain ⟨g3, hg3, hv3, hP⟩ := hP
                    have hS : SM G b0 o ad H 0 dg bw lm g h g3 rs (bw i) (bw j) ((if bw i = bw j then 0 else 1)) bL bR td tp wn tx H1 := WO.trans hS hP
                    generalize H1 = Hc at hS ⊢
                    refine lv_goto (tgt := 143) hx hb dM0_work_99 (by decide) ?_
                    refine lv_aload_n hx hb dM0_work_143 rfl (lv_at hl 0 rfl) ?_
                    refine lv_iload_n hx hb dM0_work_144 rfl (lv_at hl 2 rfl) ?_
                    refine mc_i0 (va_runV (As := [.int (nI k)]) (rest := []) ⟨hx, hb, hml, hown, hts⟩ (c_M0_keep l G b0 Hc hS.rf hI hg3 (by split <;> omega) hk) (cwV 1 hts gM0_work_M0_keep rfl rfl rfl (by decide +kernel) ⟨Nat.le_of_ble_eq_true rfl, Nat.le_of_ble_eq_true rfl⟩) (mp_V hK hS.w.ob rfl) rfl rfl hl.1 rfl (lv_room (Nat.le_of_ble_eq_true rfl)) dM0_work_145 ⟨Nat.le_of_ble_eq_true rfl, Nat.le_of_ble_eq_true rfl⟩) hLc (fun r H1 locs hP hLc => ?_)
                    exact m_iret hx hb hr hlocks hLc dM0_work_148 (Or.inl ⟨n, k, i, j, hn8, hk, hi, hj, rfl, rfl, rfl, rfl, Or.inr ⟨by omega, (KM.trans hS hP).val (by rw [hv3, mul_sg _ _ _ _ hbi hbj, wv_2 c92, hvi, hvj])⟩⟩)
                · skip
                  refine lv_aload_n hx hb dM0_work_73 rfl (lv_at hl 0 rfl) ?_
                  refine lv_iload_n hx hb dM0_work_74 rfl (lv_at hl 1 rfl) ?_
                  refine lv_iconst (v := nI 1) hx hb dM0_work_75 (by decide) ?_
                  refine m_icmp_ne (tgt := 83) hx hb (by omega) (by omega) dM0_work_76 (by decide) (fun c76 => ?_) (fun c76 => ?_)
                  · skip
                    refine lv_iconst (v := nI 0) hx hb dM0_work_83 (by decide) ?_
                    refine mc_v0 (va_runV (As := [.int (nI 0)]) (rest := []) ⟨hx, hb, hml, hown, hts⟩ (c_M0_sum l G b0 Hc hS.rf hg hh hbi hbj (Nat.le_of_lt hli) (Nat.le_of_lt hlj) (by decide)) (cwV 1 hts gM0_work_M0_sum rfl rfl rfl (by decide +kernel) ⟨Nat.le_of_ble_eq_true rfl, Nat.le_of_ble_eq_true rfl⟩) (mp_V hK hS.w.ob rfl) rfl rfl hl.1 rfl (lv_room (Nat.le_of_ble_eq_true rfl)) dM0_work_84 ⟨Nat.le_of_ble_eq_true rfl, Nat.le_of_ble_eq_true rfl⟩) hLc (fun H1 locs hP hLc => ?_)
                    obtain ⟨g3, b3, hg3, hb3, hv3, hP⟩ := hP
                    have hS : SM G b0 o ad H 0 dg bw lm g h g3 rs (bw i) (bw j) b3 bL bR td tp wn tx H1 := WO.trans hS hP
                    generalize H1 = Hc at hS ⊢
                    refine lv_goto (tgt := 143) hx hb dM0_work_87 (by decide) ?_
                    refine lv_aload_n hx hb dM0_work_143 rfl (lv_at hl 0 rfl) ?_
                    refine lv_iload_n hx hb dM0_work_144 rfl (lv_at hl 2 rfl) ?_
                    refine mc_i0 (va_runV (As := [.int (nI k)]) (rest := []) ⟨hx, hb, hml, hown, hts⟩ (c_M0_keep l G b0 Hc hS.rf hI hg3 hb3 hk) (cwV 1 hts gM0_work_M0_keep rfl rfl rfl (by decide +kernel) ⟨Nat.le_of_ble_eq_true rfl, Nat.le_of_ble_eq_true rfl⟩) (mp_V hK hS.w.ob rfl) rfl rfl hl.1 rfl (lv_room (Nat.le_of_ble_eq_true rfl)) dM0_work_145 ⟨Nat.le_of_ble_eq_true rfl, Nat.le_of_ble_eq_true rfl⟩) hLc (fun r H1 locs hP hLc => ?_)
                    exact m_iret hx hb hr hlocks hLc dM0_work_148 (Or.inl ⟨n, k, i, j, hn8, hk, hi, hj, rfl, rfl, rfl, rfl, Or.inr ⟨by omega, (KM.trans hS hP).val (by rw [hv3, sgt0 hbj, wv_0 (by omega), hvi, hvj])⟩⟩)
                  · skip
                    refine lv_iconst (v := nI 1) hx hb dM0_work_79 (by decide) ?_
                    refine lv_goto (tgt := 84) hx hb dM0_work_80 (by decide) ?_
                    refine mc_v0 (va_runV (As := [.int (nI 1)]) (rest := []) ⟨hx, hb, hml, hown, hts⟩ (c_M0_sum l G b0 Hc hS.rf hg hh hbi hbj (Nat.le_of_lt hli) (Nat.le_of_lt hlj) (by decide)) (cwV 1 hts gM0_work_M0_sum rfl rfl rfl (by decide +kernel) ⟨Nat.le_of_ble_eq_true rfl, Nat.le_of_ble_eq_true rfl⟩) (mp_V hK hS.w.ob rfl) rfl rfl hl.1 rfl (lv_room (Nat.le_of_ble_eq_true rfl)) dM0_work_84 ⟨Nat.le_of_ble_eq_true rfl, Nat.le_of_ble_eq_true rfl⟩) hLc (fun H1 locs hP hLc => ?_)
                    obtain ⟨g3, b3, hg3, hb3, hv3, hP⟩ := hP
                    have hS : SM G b0 o ad H 0 dg bw lm g h g3 rs (bw i) (bw j) b3 bL bR td tp wn tx H1 := WO.trans hS hP
                    generalize H1 = Hc at hS ⊢
                    refine lv_goto (tgt := 143) hx hb dM0_work_87 (by decide) ?_
                    refine lv_aload_n hx hb dM0_work_143 rfl (lv_at hl 0 rfl) ?_
                    refine lv_iload_n hx hb dM0_work_144 rfl (lv_at hl 2 rfl) ?_
                    refine mc_i0 (va_runV (As := [.int (nI k)]) (rest := []) ⟨hx, hb, hml, hown, hts⟩ (c_M0_keep l G b0 Hc hS.rf hI hg3 hb3 hk) (cwV 1 hts gM0_work_M0_keep rfl rfl rfl (by decide +kernel) ⟨Nat.le_of_ble_eq_true rfl, Nat.le_of_ble_eq_true rfl⟩) (mp_V hK hS.w.ob rfl) rfl rfl hl.1 rfl (lv_room (Nat.le_of_ble_eq_true rfl)) dM0_work_145 ⟨Nat.le_of_ble_eq_true rfl, Nat.le_of_ble_eq_true rfl⟩) hLc (fun r H1 locs hP hLc => ?_)
                    exact m_iret hx hb hr hlocks hLc dM0_work_148 (Or.inl ⟨n, k, i, j, hn8, hk, hi, hj, rfl, rfl, rfl, rfl, Or.inr ⟨by omega, (KM.trans hS hP).val (by rw [hv3, sgt1 hbj, wv_1 c76, hvi, hvj]; omega)⟩⟩)
            · skip
              refine lv_iload_n hx hb dM0_work_51 rfl (lv_at hl 1 rfl) ?_
              refine lv_iconst (v := nI 4) hx hb dM0_work_52 (by decide) ?_
              refine m_icmp_ne (tgt := 68) hx hb (by omega) (by omega) dM0_work_53 (by decide) (fun c53 => ?_) (fun c53 => ?_)
              · skip
                refine lv_iload_n hx hb dM0_work_68 rfl (lv_at hl 1 rfl) ?_
                refine lv_iconst (v := nI 2) hx hb dM0_work_69 (by decide) ?_
                refine m_icmp_ge (tgt := 90) hx hb (by omega) (by omega) dM0_work_70 (by decide) (fun c70 => ?_) (fun c70 => ?_)
                · skip
                  refine lv_iload_n hx hb dM0_work_90 rfl (lv_at hl 1 rfl) ?_
                  refine lv_iconst (v := nI 2) hx hb dM0_work_91 (by decide) ?_
                  refine m_icmp_ne (tgt := 102) hx hb (by omega) (by omega) dM0_work_92 (by decide) (fun c92 => ?_) (fun c92 => ?_)
                  · skip
                    refine lv_iload_n hx hb dM0_work_102 rfl (lv_at hl 1 rfl) ?_
                    refine lv_iconst (v := nI 5) hx hb dM0_work_103 (by decide) ?_
                    refine m_icmp_ge (tgt := 138) hx hb (by omega) (by omega) dM0_work_104 (by decide) (fun c104 => ?_) (fun c104 => ?_)
                    · skip
                      refine lv_aload_n hx hb dM0_work_138 rfl (lv_at hl 0 rfl) ?_
                      refine lv_iload_n hx hb dM0_work_139 rfl (lv_at hl 1 rfl) ?_
                      refine mc_v0 (va_runV (As := [.int (nI n)]) (rest := []) ⟨hx, hb, hml, hown, hts⟩ (c_M0_bitwise l G b0 Hc hS.rf hg hh hbi hbj hli hlj hzi hzj (by omega) hn8) (cwV 1 hts gM0_work_M0_bitwise rfl rfl rfl (by decide +kernel) ⟨Nat.le_of_ble_eq_true rfl, Nat.le_of_ble_eq_true rfl⟩) (mp_V hK hS.w.ob rfl) rfl rfl hl.1 rfl (lv_room (Nat.le_of_ble_eq_true rfl)) dM0_work_140 ⟨Nat.le_of_ble_eq_true rfl, Nat.le_of_ble_eq_true rfl⟩) hLc (fun H1 locs hP hLc => ?_)
                      obtain ⟨g3, r3, gl3, gr3, b3, hg3, hb3, hv3, hP⟩ := hP
                      have hS : SM G b0 o ad H 0 dg bw lm g h g3 r3 (bw i) (bw j) b3 gl3 gr3 td tp wn tx H1 := WO.trans hS hP
                      generalize H1 = Hc at hS ⊢
                      refine lv_aload_n hx hb dM0_work_143 rfl (lv_at hl 0 rfl) ?_
                      refine lv_iload_n hx hb dM0_work_144 rfl (lv_at hl 2 rfl) ?_
                      refine mc_i0 (va_runV (As := [.int (nI k)]) (rest := []) ⟨hx, hb, hml, hown, hts⟩ (c_M0_keep l G b0 Hc hS.rf hI hg3 hb3 hk) (cwV 1 hts gM0_work_M0_keep rfl rfl rfl (by decide +kernel) ⟨Nat.le_of_ble_eq_true rfl, Nat.le_of_ble_eq_true rfl⟩) (mp_V hK hS.w.ob rfl) rfl rfl hl.1 rfl (lv_room (Nat.le_of_ble_eq_true rfl)) dM0_work_145 ⟨Nat.le_of_ble_eq_true rfl, Nat.le_of_ble_eq_true rfl⟩) hLc (fun r H1 locs hP hLc => ?_)
                      exact m_iret hx hb hr hlocks hLc dM0_work_148 (Or.inl ⟨n, k, i, j, hn8, hk, hi, hj, rfl, rfl, rfl, rfl, Or.inr ⟨by omega, (KM.trans hS hP).val (by rw [hv3, wv_5 (by omega), hvi, hvj])⟩⟩)
                    · skip
                      refine lv_aload_n hx hb dM0_work_107 rfl (lv_at hl 0 rfl) ?_
                      refine mc_v0 (va_runV (As := []) (rest := []) ⟨hx, hb, hml, hown, hts⟩ (c_M0_divide l G b0 Hc hS.rf hg hh hbi hbj hli hlj (by omega)) (cwV 0 hts gM0_work_M0_divide rfl rfl rfl (by decide +kernel) ⟨Nat.le_of_ble_eq_true rfl, Nat.le_of_ble_eq_true rfl⟩) (mp_V hK hS.w.ob rfl) rfl rfl hl.1 rfl (lv_room (Nat.le_of_ble_eq_true rfl)) dM0_work_108 ⟨Nat.le_of_ble_eq_true rfl, Nat.le_of_ble_eq_true rfl⟩) hLc (fun H1 locs hP hLc => ?_)
                      obtain ⟨g3, r3, hg3, hr3, hv3, hw3, hP⟩ := hP
                      have hS : SM G b0 o ad H 0 dg bw lm g h g3 r3 (bw i) (bw j) ((if bw i = bw j then 0 else 1)) bL bR td tp wn tx H1 := WO.trans hS hP
                      generalize H1 = Hc at hS ⊢
                      refine lv_iload_n hx hb dM0_work_111 rfl (lv_at hl 1 rfl) ?_
                      refine lv_iconst (v := nI 4) hx hb dM0_work_112 (by decide) ?_
                      refine m_icmp_ne (tgt := 143) hx hb (by omega) (by omega) dM0_work_113 (by decide) (fun c113 => ?_) (fun c113 => ?_)
                      · skip
                        refine lv_aload_n hx hb dM0_work_143 rfl (lv_at hl 0 rfl) ?_
                        refine lv_iload_n hx hb dM0_work_144 rfl (lv_at hl 2 rfl) ?_
                        refine mc_i0 (va_runV (As := [.int (nI k)]) (rest := []) ⟨hx, hb, hml, hown, hts⟩ (c_M0_keep l G b0 Hc hS.rf hI hg3 (by split <;> omega) hk) (cwV 1 hts gM0_work_M0_keep rfl rfl rfl (by decide +kernel) ⟨Nat.le_of_ble_eq_true rfl, Nat.le_of_ble_eq_true rfl⟩) (mp_V hK hS.w.ob rfl) rfl rfl hl.1 rfl (lv_room (Nat.le_of_ble_eq_true rfl)) dM0_work_145 ⟨Nat.le_of_ble_eq_true rfl, Nat.le_of_ble_eq_true rfl⟩) hLc (fun r H1 locs hP hLc => ?_)
                        exact m_iret hx hb hr hlocks hLc dM0_work_148 (Or.inl ⟨n, k, i, j, hn8, hk, hi, hj, rfl, rfl, rfl, rfl, Or.inr ⟨by first | omega | exact fun e => hzz (sg_zero.mp (hvj ▸ e.2)), (KM.trans hS hP).val (by rw [hv3, tdiv_sg _ _ _ _ hbi hbj, wv_3 (by omega), hvi, hvj])⟩⟩)
                      · skip
                        refine lv_aload_n hx hb dM0_work_116 rfl (lv_at hl 0 rfl) ?_
                        refine va_get (D := G.1) (ci := 1) (v := .ref (ad 6)) (C := RM0) (T := TM0) (N := 17) hx hb hts hwsM0_work hown hK hS.w.ob 0 rfl rfl 7 (by decide) (hts (.fieldLink RM0 29 "ExactNumbersModel" "rest" "[I") (by decide +kernel)) (fun _ h9 => h9) rfl dM0_work_117 ?_
                        refine lv_aload_n hx hb dM0_work_120 rfl (lv_at hl 0 rfl) ?_
                        refine va_get (D := G.1) (ci := 1) (v := .ref (ad 5)) (C := RM0) (T := TM0) (N := 17) hx hb hts hwsM0_work hown hK hS.w.ob 0 rfl rfl 6 (by decide) (hts (.fieldLink RM0 26 "ExactNumbersModel" "out" "[I") (by decide +kernel)) (fun _ h9 => h9) rfl dM0_work_121 ?_
                        refine mc_v0 (va_runS (As := [.ref (ad 6), .ref (ad 5)]) (rest := []) ⟨hx, hb, hml, hown, hts⟩ (c_M0_copy l G b0 Hc (hS.w.get 6 (by decide)) (hS.w.get 5 (by decide)) (hS.w.ne (i := 6) (j := 5) (by decide) (by decide) (by decide)) (hS.w.b 5 (by decide))) (va_cwS 2 hts gM0_work_M0_copy rfl rfl rfl (by decide +kernel) ⟨Nat.le_of_ble_eq_true rfl, Nat.le_of_ble_eq_true rfl⟩) (mp_S hK) rfl rfl hl.1 rfl (lv_room (Nat.le_of_ble_eq_true rfl)) dM0_work_124 ⟨Nat.le_of_ble_eq_true rfl, Nat.le_of_ble_eq_true rfl⟩) hLc (fun H1 locs hP hLc => ?_)
                        subst hP
                        have hS := hS.p_ou r3
                        generalize hput Hc (ad 5) (aN G 330 r3) = Hc at hS ⊢
                        refine lv_aload_n hx hb dM0_work_127 rfl (lv_at hl 0 rfl) ?_
                        refine lv_aload_n hx hb dM0_work_128 rfl (lv_at hl 0 rfl) ?_
                        refine va_get (D := G.1) (ci := 1) (v := .int (nI (bw i))) (C := RM0) (T := TM0) (N := 17) hx hb hts hwsM0_work hown hK hS.w.ob 0 rfl rfl 8 (by decide) (hts (.fieldLink RM0 64 "ExactNumbersModel" "leftBelow" "Z") (by decide +kernel)) (fun _ h9 => h9) rfl dM0_work_129 ?_
                        refine m_put (C := RM0) (T := TM0) (N := 17) (ci := 1) (ty := .boolean) (b0 := b0) hx hb hts hwsM0_work tyM0 tyM0_ok nmM0 hown hK hS.w.ob rfl 10 (by decide) (hts (.fieldLink RM0 75 "ExactNumbersModel" "outBelow" "Z") (by decide +kernel)) rfl (by decide +kernel) (nar_z (by omega)) (fit_z (by omega)) (Nat.le_of_ble_eq_true rfl) hS.w.bo hLc dM0_work_132 (fun Hc2 locs hO hsz hq hLc => ?_)
                        have hS := hS.f_ob hO hsz hq
                        clear hO hsz hq
                        obtain ⟨Hc, rfl⟩ : ∃ Hz, Hz = Hc2 := ⟨_, rfl⟩
                        refine lv_goto (tgt := 143) hx hb dM0_work_135 (by decide) ?_
                        refine lv_aload_n hx hb dM0_work_143 rfl (lv_at hl 0 rfl) ?_
                        refine lv_iload_n hx hb dM0_work_144 rfl (lv_at hl 2 rfl) ?_
                        refine mc_i0 (va_runV (As := [.int (nI k)]) (rest := []) ⟨hx, hb, hml, hown, hts⟩ (c_M0_keep l G b0 Hc hS.rf hI hr3 hbi hk) (cwV 1 hts gM0_work_M0_keep rfl rfl rfl (by decide +kernel) ⟨Nat.le_of_ble_eq_true rfl, Nat.le_of_ble_eq_true rfl⟩) (mp_V hK hS.w.ob rfl) rfl rfl hl.1 rfl (lv_room (Nat.le_of_ble_eq_true rfl)) dM0_work_145 ⟨Nat.le_of_ble_eq_true rfl, Nat.le_of_ble_eq_true rfl⟩) hLc (fun r H1 locs hP hLc => ?_)
                        exact m_iret hx hb hr hlocks hLc dM0_work_148 (Or.inl ⟨n, k, i, j, hn8, hk, hi, hj, rfl, rfl, rfl, rfl, Or.inr ⟨by first | omega | exact fun e => hzz (sg_zero.mp (hvj ▸ e.2)), (KM.trans hS hP).val (by rw [hw3, tmod_sg _ (bw j) _ _ hbi hbj, wv_4 c113, hvi, hvj])⟩⟩)
                  · skip
                    refine lv_aload_n hx hb dM0_work_95 rfl (lv_at hl 0 rfl) ?_
                    refine mc_v0 (va_runV (As := []) (rest := []) ⟨hx, hb, hml, hown, hts⟩ (c_M0_times l G b0 Hc hS.rf hg hh hbi hbj hli hlj) (cwV 0 hts gM0_work_M0_times rfl rfl rfl (by decide +kernel) ⟨Nat.le_of_ble_eq_true rfl, Nat.le_of_ble_eq_true rfl⟩) (mp_V hK hS.w.ob rfl) rfl rfl hl.1 rfl (lv_room (Nat.le_of_ble_eq_true rfl)) dM0_work_96 ⟨Nat.le_of_ble_eq_true rfl, Nat.le_of_ble_eq_true rfl⟩) hLc (fun H1 locs hP hLc => ?_)
                    obtain ⟨g3, hg3, hv3, hP⟩ := hP
                    have hS : SM G b0 o ad H 0 dg bw lm g h g3 rs (bw i) (bw j) ((if bw i = bw j then 0 else 1)) bL bR td tp wn tx H1 := WO.trans hS hP
                    generalize H1 = Hc at hS ⊢
                    refine lv_goto (tgt := 143) hx hb dM0_work_99 (by decide) ?_
                    refine lv_aload_n hx hb dM0_work_143 rfl (lv_at hl 0 rfl) ?_
                    refine lv_iload_n hx hb dM0_work_144 rfl (lv_at hl 2 rfl) ?_
                    refine mc_i0 (va_runV (As := [.int (nI k)]) (rest := []) ⟨hx, hb, hml, hown, hts⟩ (c_M0_keep l G b0 Hc hS.rf hI hg3 (by split <;> omega) hk) (cwV 1 hts gM0_work_M0_keep rfl rfl rfl (by decide +kernel) ⟨Nat.le_of_ble_eq_true rfl, Nat.le_of_ble_eq_true rfl⟩) (mp_V hK hS.w.ob rfl) rfl rfl hl.1 rfl (lv_room (Nat.le_of_ble_eq_true rfl)) dM0_work_145 ⟨Nat.le_of_ble_eq_true rfl, Nat.le_of_ble_eq_true rfl⟩) hLc (fun r H1 locs hP hLc => ?_)
                    exact m_iret hx hb hr hlocks hLc dM0_work_148 (Or.inl ⟨n, k, i, j, hn8, hk, hi, hj, rfl, rfl, rfl, rfl, Or.inr ⟨by omega, (KM.trans hS hP).val (by rw [hv3, mul_sg _ _ _ _ hbi hbj, wv_2 c92, hvi, hvj])⟩⟩)
                · skip
                  refine lv_aload_n hx hb dM0_work_73 rfl (lv_at hl 0 rfl) ?_
                  refine lv_iload_n hx hb dM0_work_74 rfl (lv_at hl 1 rfl) ?_
                  refine lv_iconst (v := nI 1) hx hb dM0_work_75 (by decide) ?_
                  refine m_icmp_ne (tgt := 83) hx hb (by omega) (by omega) dM0_work_76 (by decide) (fun c76 => ?_) (fun c76 => ?_)
                  · skip
                    refine lv_iconst (v := nI 0) hx hb dM0_work_83 (by decide) ?_
                    refine mc_v0 (va_runV (As := [.int (nI 0)]) (rest := []) ⟨hx, hb, hml, hown, hts⟩ (c_M0_sum l G b0 Hc hS.rf hg hh hbi hbj (Nat.le_of_lt hli) (Nat.le_of_lt hlj) (by decide)) (cwV 1 hts gM0_work_M0_sum rfl rfl rfl (by decide +kernel) ⟨Nat.le_of_ble_eq_true rfl, Nat.le_of_ble_eq_true rfl⟩) (mp_V hK hS.w.ob rfl) rfl rfl hl.1 rfl (lv_room (Nat.le_of_ble_eq_true rfl)) dM0_work_84 ⟨Nat.le_of_ble_eq_true rfl, Nat.le_of_ble_eq_true rfl⟩) hLc (fun H1 locs hP hLc => ?_)
                    obtain ⟨g3, b3, hg3, hb3, hv3, hP⟩ := hP
                    have hS : SM G b0 o ad H 0 dg bw lm g h g3 rs (bw i) (bw j) b3 bL bR td tp wn tx H1 := WO.trans hS hP
                    generalize H1 = Hc at hS ⊢
                    refine lv_goto (tgt := 143) hx hb dM0_work_87 (by decide) ?_
                    refine lv_aload_n hx hb dM0_work_143 rfl (lv_at hl 0 rfl) ?_
                    refine lv_iload_n hx hb dM0_work_144 rfl (lv_at hl 2 rfl) ?_
                    refine mc_i0 (va_runV (As := [.int (nI k)]) (rest := []) ⟨hx, hb, hml, hown, hts⟩ (c_M0_keep l G b0 Hc hS.rf hI hg3 hb3 hk) (cwV 1 hts gM0_work_M0_keep rfl rfl rfl (by decide +kernel) ⟨Nat.le_of_ble_eq_true rfl, Nat.le_of_ble_eq_true rfl⟩) (mp_V hK hS.w.ob rfl) rfl rfl hl.1 rfl (lv_room (Nat.le_of_ble_eq_true rfl)) dM0_work_145 ⟨Nat.le_of_ble_eq_true rfl, Nat.le_of_ble_eq_true rfl⟩) hLc (fun r H1 locs hP hLc => ?_)
                    exact m_iret hx hb hr hlocks hLc dM0_work_148 (Or.inl ⟨n, k, i, j, hn8, hk, hi, hj, rfl, rfl, rfl, rfl, Or.inr ⟨by omega, (KM.trans hS hP).val (by rw [hv3, sgt0 hbj, wv_0 (by omega), hvi, hvj])⟩⟩)
                  · skip
                    refine lv_iconst (v := nI 1) hx hb dM0_work_79 (by decide) ?_
                    refine lv_goto (tgt := 84) hx hb dM0_work_80 (by decide) ?_
                    refine mc_v0 (va_runV (As := [.int (nI 1)]) (rest := []) ⟨hx, hb, hml, hown, hts⟩ (c_M0_sum l G b0 Hc hS.rf hg hh hbi hbj (Nat.le_of_lt hli) (Nat.le_of_lt hlj) (by decide)) (cwV 1 hts gM0_work_M0_sum rfl rfl rfl (by decide +kernel) ⟨Nat.le_of_ble_eq_true rfl, Nat.le_of_ble_eq_true rfl⟩) (mp_V hK hS.w.ob rfl) rfl rfl hl.1 rfl (lv_room (Nat.le_of_ble_eq_true rfl)) dM0_work_84 ⟨Nat.le_of_ble_eq_true rfl, Nat.le_of_ble_eq_true rfl⟩) hLc (fun H1 locs hP hLc => ?_)
                    obtain ⟨g3, b3, hg3, hb3, hv3, hP⟩ := hP
                    have hS : SM G b0 o ad H 0 dg bw lm g h g3 rs (bw i) (bw j) b3 bL bR td tp wn tx H1 := WO.trans hS hP
                    generalize H1 = Hc at hS ⊢
                    refine lv_goto (tgt := 143) hx hb dM0_work_87 (by decide) ?_
                    refine lv_aload_n hx hb dM0_work_143 rfl (lv_at hl 0 rfl) ?_
                    refine lv_iload_n hx hb dM0_work_144 rfl (lv_at hl 2 rfl) ?_
                    refine mc_i0 (va_runV (As := [.int (nI k)]) (rest := []) ⟨hx, hb, hml, hown, hts⟩ (c_M0_keep l G b0 Hc hS.rf hI hg3 hb3 hk) (cwV 1 hts gM0_work_M0_keep rfl rfl rfl (by decide +kernel) ⟨Nat.le_of_ble_eq_true rfl, Nat.le_of_ble_eq_true rfl⟩) (mp_V hK hS.w.ob rfl) rfl rfl hl.1 rfl (lv_room (Nat.le_of_ble_eq_true rfl)) dM0_work_145 ⟨Nat.le_of_ble_eq_true rfl, Nat.le_of_ble_eq_true rfl⟩) hLc (fun r H1 locs hP hLc => ?_)
                    exact m_iret hx hb hr hlocks hLc dM0_work_148 (Or.inl ⟨n, k, i, j, hn8, hk, hi, hj, rfl, rfl, rfl, rfl, Or.inr ⟨by omega, (KM.trans hS hP).val (by rw [hv3, sgt1 hbj, wv_1 c76, hvi, hvj]; omega)⟩⟩)
              · skip
                refine lv_aload_n hx hb dM0_work_56 rfl (lv_at hl 0 rfl) ?_
                refine va_get (D := G.1) (ci := 1) (v := .ref (ad 4)) (C := RM0) (T := TM0) (N := 17) hx hb hts hwsM0_work hown hK hS.w.ob 0 rfl rfl 5 (by decide) (hts (.fieldLink RM0 23 "ExactNumbersModel" "right" "[I") (by decide +kernel)) (fun _ h9 => h9) rfl dM0_work_57 ?_
                refine mc_i0 (va_runS (As := [.ref (ad 4)]) (rest := []) ⟨hx, hb, hml, hown, hts⟩ (c_M0_isZero l G b0 Hc (hS.w.get 4 (by decide)) hh) (va_cwS 1 hts gM0_work_M0_isZero rfl rfl rfl (by decide +kernel) ⟨Nat.le_of_ble_eq_true rfl, Nat.le_of_ble_eq_true rfl⟩) (mp_S hK) rfl rfl hl.1 rfl (lv_room (Nat.le_of_ble_eq_true rfl)) dM0_work_60 ⟨Nat.le_of_ble_eq_true rfl, Nat.le_of_ble_eq_true rfl⟩) hLc (fun r H1 locs hP hLc => ?_)
                obtain ⟨hP, rfl⟩ := hP
                rcases hP with ⟨rfl, hzz⟩ | ⟨rfl, hzz⟩
                · skip
                  refine m_if_eq (tgt := 68) hx hb (by decide) dM0_work_63 (by decide) (fun h => absurd h (by decide)) (fun _ => ?_)
                  refine lv_iconst (v := nI 2) hx hb dM0_work_66 (by decide) ?_
                  exact m_iret hx hb hr hlocks hLc dM0_work_67 (Or.inl ⟨n, k, i, j, hn8, hk, hi, hj, rfl, rfl, rfl, rfl, Or.inl ⟨⟨by omega, by rw [hvj]; exact sg_zero.mpr hzz⟩, rfl, hS.r hI⟩⟩)
                · skip
                  refine m_if_eq (tgt := 68) hx hb (by decide) dM0_work_63 (by decide) (fun _ => ?_) (fun h => absurd h (by decide))
                  refine lv_iload_n hx hb dM0_work_68 rfl (lv_at hl 1 rfl) ?_
                  refine lv_iconst (v := nI 2) hx hb dM0_work_69 (by decide) ?_
                  refine m_icmp_ge (tgt := 90) hx hb (by omega) (by omega) dM0_work_70 (by decide) (fun c70 => ?_) (fun c70 => ?_)
                  · skip
                    refine lv_iload_n hx hb dM0_work_90 rfl (lv_at hl 1 rfl) ?_
                    refine lv_iconst (v := nI 2) hx hb dM0_work_91 (by decide) ?_
                    refine m_icmp_ne (tgt := 102) hx hb (by omega) (by omega) dM0_work_92 (by decide) (fun c92 => ?_) (fun c92 => ?_)
                    · skip
                      refine lv_iload_n hx hb dM0_work_102 rfl (lv_at hl 1 rfl) ?_
                      refine lv_iconst (v := nI 5) hx hb dM0_work_103 (by decide) ?_
                      refine m_icmp_ge (tgt := 138) hx hb (by omega) (by omega) dM0_work_104 (by decide) (fun c104 => ?_) (fun c104 => ?_)
                      · skip
                        refine lv_aload_n hx hb dM0_work_138 rfl (lv_at hl 0 rfl) ?_
                        refine lv_iload_n hx hb dM0_work_139 rfl (lv_at hl 1 rfl) ?_
                        refine mc_v0 (va_runV (As := [.int (nI n)]) (rest := []) ⟨hx, hb, hml, hown, hts⟩ (c_M0_bitwise l G b0 Hc hS.rf hg hh hbi hbj hli hlj hzi hzj (by omega) hn8) (cwV 1 hts gM0_work_M0_bitwise rfl rfl rfl (by decide +kernel) ⟨Nat.le_of_ble_eq_true rfl, Nat.le_of_ble_eq_true rfl⟩) (mp_V hK hS.w.ob rfl) rfl rfl hl.1 rfl (lv_room (Nat.le_of_ble_eq_true rfl)) dM0_work_140 ⟨Nat.le_of_ble_eq_true rfl, Nat.le_of_ble_eq_true rfl⟩) hLc (fun H1 locs hP hLc => ?_)
                        obtain ⟨g3, r3, gl3, gr3, b3, hg3, hb3, hv3, hP⟩ := hP
                        have hS : SM G b0 o ad H 0 dg bw lm g h g3 r3 (bw i) (bw j) b3 gl3 gr3 td tp wn tx H1 := WO.trans hS hP
                        generalize H1 = Hc at hS ⊢
                        refine lv_aload_n hx hb dM0_work_143 rfl (lv_at hl 0 rfl) ?_
                        refine lv_iload_n hx hb dM0_work_144 rfl (lv_at hl 2 rfl) ?_
                        refine mc_i0 (va_runV (As := [.int (nI k)]) (rest := []) ⟨hx, hb, hml, hown, hts⟩ (c_M0_keep l G b0 Hc hS.rf hI hg3 hb3 hk) (cwV 1 hts gM0_work_M0_keep rfl rfl rfl (by decide +kernel) ⟨Nat.le_of_ble_eq_true rfl, Nat.le_of_ble_eq_true rfl⟩) (mp_V hK hS.w.ob rfl) rfl rfl hl.1 rfl (lv_room (Nat.le_of_ble_eq_true rfl)) dM0_work_145 ⟨Nat.le_of_ble_eq_true rfl, Nat.le_of_ble_eq_true rfl⟩) hLc (fun r H1 locs hP hLc => ?_)
                        exact m_iret hx hb hr hlocks hLc dM0_work_148 (Or.inl ⟨n, k, i, j, hn8, hk, hi, hj, rfl, rfl, rfl, rfl, Or.inr ⟨by omega, (KM.trans hS hP).val (by rw [hv3, wv_5 (by omega), hvi, hvj])⟩⟩)
                      · skip
                        refine lv_aload_n hx hb dM0_work_107 rfl (lv_at hl 0 rfl) ?_
                        refine mc_v0 (va_runV (As := []) (rest := []) ⟨hx, hb, hml, hown, hts⟩ (c_M0_divide l G b0 Hc hS.rf hg hh hbi hbj hli hlj (by omega)) (cwV 0 hts gM0_work_M0_divide rfl rfl rfl (by decide +kernel) ⟨Nat.le_of_ble_eq_true rfl, Nat.le_of_ble_eq_true rfl⟩) (mp_V hK hS.w.ob rfl) rfl rfl hl.1 rfl (lv_room (Nat.le_of_ble_eq_true rfl)) dM0_work_108 ⟨Nat.le_of_ble_eq_true rfl, Nat.le_of_ble_eq_true rfl⟩) hLc (fun H1 locs hP hLc => ?_)
                        obtain ⟨g3, r3, hg3, hr3, hv3, hw3, hP⟩ := hP
                        have hS : SM G b0 o ad H 0 dg bw lm g h g3 r3 (bw i) (bw j) ((if bw i = bw j then 0 else 1)) bL bR td tp wn tx H1 := WO.trans hS hP
                        generalize H1 = Hc at hS ⊢
                        refine lv_iload_n hx hb dM0_work_111 rfl (lv_at hl 1 rfl) ?_
                        refine lv_iconst (v := nI 4) hx hb dM0_work_112 (by decide) ?_
                        refine m_icmp_ne (tgt := 143) hx hb (by omega) (by omega) dM0_work_113 (by decide) (fun c113 => ?_) (fun c113 => ?_)
                        · skip
                          refine lv_aload_n hx hb dM0_work_143 rfl (lv_at hl 0 rfl) ?_
                          refine lv_iload_n hx hb dM0_work_144 rfl (lv_at hl 2 rfl) ?_
                          refine mc_i0 (va_runV (As := [.int (nI k)]) (rest := []) ⟨hx, hb, hml, hown, hts⟩ (c_M0_keep l G b0 Hc hS.rf hI hg3 (by split <;> omega) hk) (cwV 1 hts gM0_work_M0_keep rfl rfl rfl (by decide +kernel) ⟨Nat.le_of_ble_eq_true rfl, Nat.le_of_ble_eq_true rfl⟩) (mp_V hK hS.w.ob rfl) rfl rfl hl.1 rfl (lv_room (Nat.le_of_ble_eq_true rfl)) dM0_work_145 ⟨Nat.le_of_ble_eq_true rfl, Nat.le_of_ble_eq_true rfl⟩) hLc (fun r H1 locs hP hLc => ?_)
                          exact m_iret hx hb hr hlocks hLc dM0_work_148 (Or.inl ⟨n, k, i, j, hn8, hk, hi, hj, rfl, rfl, rfl, rfl, Or.inr ⟨by first | omega | exact fun e => hzz (sg_zero.mp (hvj ▸ e.2)), (KM.trans hS hP).val (by rw [hv3, tdiv_sg _ _ _ _ hbi hbj, wv_3 (by omega), hvi, hvj])⟩⟩)
                        · skip
                          refine lv_aload_n hx hb dM0_work_116 rfl (lv_at hl 0 rfl) ?_
                          refine va_get (D := G.1) (ci := 1) (v := .ref (ad 6)) (C := RM0) (T := TM0) (N := 17) hx hb hts hwsM0_work hown hK hS.w.ob 0 rfl rfl 7 (by decide) (hts (.fieldLink RM0 29 "ExactNumbersModel" "rest" "[I") (by decide +kernel)) (fun _ h9 => h9) rfl dM0_work_117 ?_
                          refine lv_aload_n hx hb dM0_work_120 rfl (lv_at hl 0 rfl) ?_
                          refine va_get (D := G.1) (ci := 1) (v := .ref (ad 5)) (C := RM0) (T := TM0) (N := 17) hx hb hts hwsM0_work hown hK hS.w.ob 0 rfl rfl 6 (by decide) (hts (.fieldLink RM0 26 "ExactNumbersModel" "out" "[I") (by decide +kernel)) (fun _ h9 => h9) rfl dM0_work_121 ?_
                          refine mc_v0 (va_runS (As := [.ref (ad 6), .ref (ad 5)]) (rest := []) ⟨hx, hb, hml, hown, hts⟩ (c_M0_copy l G b0 Hc (hS.w.get 6 (by decide)) (hS.w.get 5 (by decide)) (hS.w.ne (i := 6) (j := 5) (by decide) (by decide) (by decide)) (hS.w.b 5 (by decide))) (va_cwS 2 hts gM0_work_M0_copy rfl rfl rfl (by decide +kernel) ⟨Nat.le_of_ble_eq_true rfl, Nat.le_of_ble_eq_true rfl⟩) (mp_S hK) rfl rfl hl.1 rfl (lv_room (Nat.le_of_ble_eq_true rfl)) dM0_work_124 ⟨Nat.le_of_ble_eq_true rfl, Nat.le_of_ble_eq_true rfl⟩) hLc (fun H1 locs hP hLc => ?_)
                          subst hP
                          have hS := hS.p_ou r3
                          generalize hput Hc (ad 5) (aN G 330 r3) = Hc at hS ⊢
                          refine lv_aload_n hx hb dM0_work_127 rfl (lv_at hl 0 rfl) ?_
                          refine lv_aload_n hx hb dM0_work_128 rfl (lv_at hl 0 rfl) ?_
                          refine va_get (D := G.1) (ci := 1) (v := .int (nI (bw i))) (C := RM0) (T := TM0) (N := 17) hx hb hts hwsM0_work hown hK hS.w.ob 0 rfl rfl 8 (by decide) (hts (.fieldLink RM0 64 "ExactNumbersModel" "leftBelow" "Z") (by decide +kernel)) (fun _ h9 => h9) rfl dM0_work_129 ?_
                          refine m_put (C := RM0) (T := TM0) (N := 17) (ci := 1) (ty := .boolean) (b0 := b0) hx hb hts hwsM0_work tyM0 tyM0_ok nmM0 hown hK hS.w.ob rfl 10 (by decide) (hts (.fieldLink RM0 75 "ExactNumbersModel" "outBelow" "Z") (by decide +kernel)) rfl (by decide +kernel) (nar_z (by omega)) (fit_z (by omega)) (Nat.le_of_ble_eq_true rfl) hS.w.bo hLc dM0_work_132 (fun Hc2 locs hO hsz hq hLc => ?_)
                          have hS := hS.f_ob hO hsz hq
                          clear hO hsz hq
                          obtain ⟨Hc, rfl⟩ : ∃ Hz, Hz = Hc2 := ⟨_, rfl⟩
                          refine lv_goto (tgt := 143) hx hb dM0_work_135 (by decide) ?_
                          refine lv_aload_n hx hb dM0_work_143 rfl (lv_at hl 0 rfl) ?_
                          refine lv_iload_n hx hb dM0_work_144 rfl (lv_at hl 2 rfl) ?_
                          refine mc_i0 (va_runV (As := [.int (nI k)]) (rest := []) ⟨hx, hb, hml, hown, hts⟩ (c_M0_keep l G b0 Hc hS.rf hI hr3 hbi hk) (cwV 1 hts gM0_work_M0_keep rfl rfl rfl (by decide +kernel) ⟨Nat.le_of_ble_eq_true rfl, Nat.le_of_ble_eq_true rfl⟩) (mp_V hK hS.w.ob rfl) rfl rfl hl.1 rfl (lv_room (Nat.le_of_ble_eq_true rfl)) dM0_work_145 ⟨Nat.le_of_ble_eq_true rfl, Nat.le_of_ble_eq_true rfl⟩) hLc (fun r H1 locs hP hLc => ?_)
                          exact m_iret hx hb hr hlocks hLc dM0_work_148 (Or.inl ⟨n, k, i, j, hn8, hk, hi, hj, rfl, rfl, rfl, rfl, Or.inr ⟨by first | omega | exact fun e => hzz (sg_zero.mp (hvj ▸ e.2)), (KM.trans hS hP).val (by rw [hw3, tmod_sg _ (bw j) _ _ hbi hbj, wv_4 c113, hvi, hvj])⟩⟩)
                    · skip
                      refine lv_aload_n hx hb dM0_work_95 rfl (lv_at hl 0 rfl) ?_
                      refine mc_v0 (va_runV (As := []) (rest := []) ⟨hx, hb, hml, hown, hts⟩ (c_M0_times l G b0 Hc hS.rf hg hh hbi hbj hli hlj) (cwV 0 hts gM0_work_M0_times rfl rfl rfl (by decide +kernel) ⟨Nat.le_of_ble_eq_true rfl, Nat.le_of_ble_eq_true rfl⟩) (mp_V hK hS.w.ob rfl) rfl rfl hl.1 rfl (lv_room (Nat.le_of_ble_eq_true rfl)) dM0_work_96 ⟨Nat.le_of_ble_eq_true rfl, Nat.le_of_ble_eq_true rfl⟩) hLc (fun H1 locs hP hLc => ?_)
                      obtain ⟨g3, hg3, hv3, hP⟩ := hP
                      have hS : SM G b0 o ad H 0 dg bw lm g h g3 rs (bw i) (bw j) ((if bw i = bw j then 0 else 1)) bL bR td tp wn tx H1 := WO.trans hS hP
                      generalize H1 = Hc at hS ⊢
                      refine lv_goto (tgt := 143) hx hb dM0_work_99 (by decide) ?_
                      refine lv_aload_n hx hb dM0_work_143 rfl (lv_at hl 0 rfl) ?_
                      refine lv_iload_n hx hb dM0_work_144 rfl (lv_at hl 2 rfl) ?_
                      refine mc_i0 (va_runV (As := [.int (nI k)]) (rest := []) ⟨hx, hb, hml, hown, hts⟩ (c_M0_keep l G b0 Hc hS.rf hI hg3 (by split <;> omega) hk) (cwV 1 hts gM0_work_M0_keep rfl rfl rfl (by decide +kernel) ⟨Nat.le_of_ble_eq_true rfl, Nat.le_of_ble_eq_true rfl⟩) (mp_V hK hS.w.ob rfl) rfl rfl hl.1 rfl (lv_room (Nat.le_of_ble_eq_true rfl)) dM0_work_145 ⟨Nat.le_of_ble_eq_true rfl, Nat.le_of_ble_eq_true rfl⟩) hLc (fun r H1 locs hP hLc => ?_)
                      exact m_iret hx hb hr hlocks hLc dM0_work_148 (Or.inl ⟨n, k, i, j, hn8, hk, hi, hj, rfl, rfl, rfl, rfl, Or.inr ⟨by omega, (KM.trans hS hP).val (by rw [hv3, mul_sg _ _ _ _ hbi hbj, wv_2 c92, hvi, hvj])⟩⟩)
                  · skip
                    refine lv_aload_n hx hb dM0_work_73 rfl (lv_at hl 0 rfl) ?_
                    refine lv_iload_n hx hb dM0_work_74 rfl (lv_at hl 1 rfl) ?_
                    refine lv_iconst (v := nI 1) hx hb dM0_work_75 (by decide) ?_
                    refine m_icmp_ne (tgt := 83) hx hb (by omega) (by omega) dM0_work_76 (by decide) (fun c76 => ?_) (fun c76 => ?_)
                    · skip
                      refine lv_iconst (v := nI 0) hx hb dM0_work_83 (by decide) ?_
                      refine mc_v0 (va_runV (As := [.int (nI 0)]) (rest := []) ⟨hx, hb, hml, hown, hts⟩ (c_M0_sum l G b0 Hc hS.rf hg hh hbi hbj (Nat.le_of_lt hli) (Nat.le_of_lt hlj) (by decide)) (cwV 1 hts gM0_work_M0_sum rfl rfl rfl (by decide +kernel) ⟨Nat.le_of_ble_eq_true rfl, Nat.le_of_ble_eq_true rfl⟩) (mp_V hK hS.w.ob rfl) rfl rfl hl.1 rfl (lv_room (Nat.le_of_ble_eq_true rfl)) dM0_work_84 ⟨Nat.le_of_ble_eq_true rfl, Nat.le_of_ble_eq_true rfl⟩) hLc (fun H1 locs hP hLc => ?_)
                      obtain ⟨g3, b3, hg3, hb3, hv3, hP⟩ := hP
                      have hS : SM G b0 o ad H 0 dg bw lm g h g3 rs (bw i) (bw j) b3 bL bR td tp wn tx H1 := WO.trans hS hP
                      generalize H1 = Hc at hS ⊢
                      refine lv_goto (tgt := 143) hx hb dM0_work_87 (by decide) ?_
                      refine lv_aload_n hx hb dM0_work_143 rfl (lv_at hl 0 rfl) ?_
                      refine lv_iload_n hx hb dM0_work_144 rfl (lv_at hl 2 rfl) ?_
                      refine mc_i0 (va_runV (As := [.int (nI k)]) (rest := []) ⟨hx, hb, hml, hown, hts⟩ (c_M0_keep l G b0 Hc hS.rf hI hg3 hb3 hk) (cwV 1 hts gM0_work_M0_keep rfl rfl rfl (by decide +kernel) ⟨Nat.le_of_ble_eq_true rfl, Nat.le_of_ble_eq_true rfl⟩) (mp_V hK hS.w.ob rfl) rfl rfl hl.1 rfl (lv_room (Nat.le_of_ble_eq_true rfl)) dM0_work_145 ⟨Nat.le_of_ble_eq_true rfl, Nat.le_of_ble_eq_true rfl⟩) hLc (fun r H1 locs hP hLc => ?_)
                      exact m_iret hx hb hr hlocks hLc dM0_work_148 (Or.inl ⟨n, k, i, j, hn8, hk, hi, hj, rfl, rfl, rfl, rfl, Or.inr ⟨by omega, (KM.trans hS hP).val (by rw [hv3, sgt0 hbj, wv_0 (by omega), hvi, hvj])⟩⟩)
                    · skip
                      refine lv_iconst (v := nI 1) hx hb dM0_work_79 (by decide) ?_
                      refine lv_goto (tgt := 84) hx hb dM0_work_80 (by decide) ?_
                      refine mc_v0 (va_runV (As := [.int (nI 1)]) (rest := []) ⟨hx, hb, hml, hown, hts⟩ (c_M0_sum l G b0 Hc hS.rf hg hh hbi hbj (Nat.le_of_lt hli) (Nat.le_of_lt hlj) (by decide)) (cwV 1 hts gM0_work_M0_sum rfl rfl rfl (by decide +kernel) ⟨Nat.le_of_ble_eq_true rfl, Nat.le_of_ble_eq_true rfl⟩) (mp_V hK hS.w.ob rfl) rfl rfl hl.1 rfl (lv_room (Nat.le_of_ble_eq_true rfl)) dM0_work_84 ⟨Nat.le_of_ble_eq_true rfl, Nat.le_of_ble_eq_true rfl⟩) hLc (fun H1 locs hP hLc => ?_)
                      obtain ⟨g3, b3, hg3, hb3, hv3, hP⟩ := hP
                      have hS : SM G b0 o ad H 0 dg bw lm g h g3 rs (bw i) (bw j) b3 bL bR td tp wn tx H1 := WO.trans hS hP
                      generalize H1 = Hc at hS ⊢
                      refine lv_goto (tgt := 143) hx hb dM0_work_87 (by decide) ?_
                      refine lv_aload_n hx hb dM0_work_143 rfl (lv_at hl 0 rfl) ?_
                      refine lv_iload_n hx hb dM0_work_144 rfl (lv_at hl 2 rfl) ?_
                      refine mc_i0 (va_runV (As := [.int (nI k)]) (rest := []) ⟨hx, hb, hml, hown, hts⟩ (c_M0_keep l G b0 Hc hS.rf hI hg3 hb3 hk) (cwV 1 hts gM0_work_M0_keep rfl rfl rfl (by decide +kernel) ⟨Nat.le_of_ble_eq_true rfl, Nat.le_of_ble_eq_true rfl⟩) (mp_V hK hS.w.ob rfl) rfl rfl hl.1 rfl (lv_room (Nat.le_of_ble_eq_true rfl)) dM0_work_145 ⟨Nat.le_of_ble_eq_true rfl, Nat.le_of_ble_eq_true rfl⟩) hLc (fun r H1 locs hP hLc => ?_)
                      exact m_iret hx hb hr hlocks hLc dM0_work_148 (Or.inl ⟨n, k, i, j, hn8, hk, hi, hj, rfl, rfl, rfl, rfl, Or.inr ⟨by omega, (KM.trans hS hP).val (by rw [hv3, sgt1 hbj, wv_1 c76, hvi, hvj]; omega)⟩⟩)
          · skip
            refine m_if_ne (tgt := 39) hx hb (by decide) dM0_work_34 (by decide) (fun h => absurd h (by decide)) (fun _ => ?_)
            refine lv_iconst (v := nI 3) hx hb dM0_work_37 (by decide) ?_
            exact m_iret hx hb hr hlocks hLc dM0_work_38 (Or.inr ⟨by first | exact Or.inl hno | exact Or.inr (Or.inl hno) | exact Or.inr (Or.inr (Or.inl hno)) | exact Or.inr (Or.inr (Or.inr hno)), rfl, hS.r hI⟩)
        · skip
          refine m_if_eq (tgt := 37) hx hb (by decide) dM0_work_26 (by decide) (fun _ => ?_) (fun h => absurd h (by decide))
          refine lv_iconst (v := nI 3) hx hb dM0_work_37 (by decide) ?_
          exact m_iret hx hb hr hlocks hLc dM0_work_38 (Or.inr ⟨by first | exact Or.inl hno | exact Or.inr (Or.inl hno) | exact Or.inr (Or.inr (Or.inl hno)) | exact Or.inr (Or.inr (Or.inr hno)), rfl, hS.r hI⟩)
      · skip
        refine m_if_eq (tgt := 37) hx hb (by decide) dM0_work_19 (by decide) (fun _ => ?_) (fun h => absurd h (by decide))
        refine lv_iconst (v := nI 3) hx hb dM0_work_37 (by decide) ?_
        exact m_iret hx hb hr hlocks hLc dM0_work_38 (Or.inr ⟨by first | exact Or.inl hno | exact Or.inr (Or.inl hno) | exact Or.inr (Or.inr (Or.inl hno)) | exact Or.inr (Or.inr (Or.inr hno)), rfl, hS.r hI⟩)

set_option maxRecDepth 100000 in
set_option maxHeartbeats 4000000 in
theorem c_M0_turn (l : Launch) (G : gG) (b0 : Nat) (H : Heap) {o : Nat} {ad : Nat → Nat} {th : Nat} {dg : Nat → Nat} {bw : Nat → Nat} {lm : Nat → Nat} {lf : Nat → Nat} {rt : Nat → Nat} {ou : Nat → Nat} {rs : Nat → Nat} {lb : Nat} {rb : Nat} {ob : Nat} {bL : Nat → Nat} {bR : Nat → Nat} {td : Nat} {tp : Nat → Nat} {wn : Nat} {tx : Nat → Nat} (hS : SM G b0 o ad H th dg bw lm lf rt ou rs lb rb ob bL bR td tp wn tx H) (hI : IM dg bw lm) (x y : Int32) {g : Nat} (hg1 : g ≤ 1) : Met l yM0_turn wsM0_turn ({ frames := 3, cells := 0, slots := 0, locals := 66 } : Room) (PcH G H [.ref o, .int x, .int y, .int (nI g)]) (QcI (fun r H1 => (∃ k i, k ≤ 63 ∧ i ≤ 63 ∧ x = nI k ∧ y = nI i ∧ KM G b0 o ad H (valM dg bw) tp td tx wn k (if g = 1 then -1 - valM dg bw i else -valM dg bw i) r H1) ∨ ((noslot x ∨ noslot y) ∧ r = nI 3 ∧ RM G b0 o ad H (valM dg bw) tp td tx wn H1))) 0 0 (fre b0) := by
  refine m_enter (cc := cM0_turn) (maxL := 4) (ret := (some .int)) (own := RM0) (by decide) rfl rfl (Nat.le_of_ble_eq_true rfl) ?_
  intro p e s m below meth c ls hF hnm hH hl
  have hl : lv_has ls 4 [(0, .ref o), (1, .int x), (2, .int y), (3, .int (nI g))] := hl
  have hLc : lcs b0 [] := lcs_nil b0
  obtain ⟨hx, hb, hr, hml, hown, hts, hlocks, hK⟩ := id hF
  refine lv_aload_n hx hb dM0_turn_0 rfl (lv_at hl 0 rfl) ?_
  refine lv_iconst (v := nI 0) hx hb dM0_turn_1 (by decide) ?_
  refine m_put (C := RM0) (T := TM0) (N := 17) (ci := 1) (ty := .int) (b0 := b0) hx hb hts hwsM0_turn tyM0 tyM0_ok nmM0 hown hK hS.w.ob rfl 0 (by decide) (hts (.fieldLink RM0 48 "ExactNumbersModel" "thrown" "I") (by decide +kernel)) rfl (by decide +kernel) (rfl) (rfl) (Nat.le_of_ble_eq_true rfl) hS.w.bo hLc dM0_turn_2 (fun Hc2 locs hO hsz hq hLc => ?_)
  have hS := hS.f_th hO hsz hq
  clear hO hsz hq
  obtain ⟨Hc, rfl⟩ : ∃ Hz, Hz = Hc2 := ⟨_, rfl⟩
  refine lv_iload_n hx hb dM0_turn_5 rfl (lv_at hl 1 rfl) ?_
  refine mc_i0 (va_runS (As := [.int x]) (rest := []) ⟨hx, hb, hml, hown, hts⟩ (c_M0_isSlot l G b0 Hc (x)) (va_cwS 1 hts gM0_turn_M0_isSlot rfl rfl rfl (by decide +kernel) ⟨Nat.le_of_ble_eq_true rfl, Nat.le_of_ble_eq_true rfl⟩) (mp_S hK) rfl rfl hl.1 rfl (lv_room (Nat.le_of_ble_eq_true rfl)) dM0_turn_6 ⟨Nat.le_of_ble_eq_true rfl, Nat.le_of_ble_eq_true rfl⟩) hLc (fun r H1 locs hP hLc => ?_)
  obtain ⟨hP, rfl⟩ := hP
  rcases hP with ⟨k, _h0, hk, rfl, rfl⟩ | ⟨hno, rfl⟩
  · skip
    refine m_if_eq (tgt := 19) hx hb (by decide) dM0_turn_9 (by decide) (fun h => absurd h (by decide)) (fun _ => ?_)
    refine lv_iload_n hx hb dM0_turn_12 rfl (lv_at hl 2 rfl) ?_
    refine mc_i0 (va_runS (As := [.int y]) (rest := []) ⟨hx, hb, hml, hown, hts⟩ (c_M0_isSlot l G b0 Hc (y)) (va_cwS 1 hts gM0_turn_M0_isSlot rfl rfl rfl (by decide +kernel) ⟨Nat.le_of_ble_eq_true rfl, Nat.le_of_ble_eq_true rfl⟩) (mp_S hK) rfl rfl hl.1 rfl (lv_room (Nat.le_of_ble_eq_true rfl)) dM0_turn_13 ⟨Nat.le_of_ble_eq_true rfl, Nat.le_of_ble_eq_true rfl⟩) hLc (fun r H1 locs hP hLc => ?_)
    obtain ⟨hP, rfl⟩ := hP
    rcases hP with ⟨i, _h0, hi, rfl, rfl⟩ | ⟨hno, rfl⟩
    · skip
      refine m_if_ne (tgt := 21) hx hb (by decide) dM0_turn_16 (by decide) (fun _ => ?_) (fun h => absurd h (by decide))
      refine lv_iload_n hx hb dM0_turn_21 rfl (lv_at hl 3 rfl) ?_
      refine m_if_ne (tgt := 58) hx hb (by omega) dM0_turn_22 (by decide) (fun c22 => ?_) (fun c22 => ?_)
      · skip
        refine lv_aload_n hx hb dM0_turn_58 rfl (lv_at hl 0 rfl) ?_
        refine lv_iload_n hx hb dM0_turn_59 rfl (lv_at hl 2 rfl) ?_
        refine lv_iload_n hx hb dM0_turn_60 rfl (lv_at hl 2 rfl) ?_
        refine mc_v0 (va_runV (As := [.int (nI i), .int (nI i)]) (rest := []) ⟨hx, hb, hml, hown, hts⟩ (c_M0_loadBoth l G b0 Hc hS.rf hI hi hi) (cwV 2 hts gM0_turn_M0_loadBoth rfl rfl rfl (by decide +kernel) ⟨Nat.le_of_ble_eq_true rfl, Nat.le_of_ble_eq_true rfl⟩) (mp_V hK hS.w.ob rfl) rfl rfl hl.1 rfl (lv_room (Nat.le_of_ble_eq_true rfl)) dM0_turn_61 ⟨Nat.le_of_ble_eq_true rfl, Nat.le_of_ble_eq_true rfl⟩) hLc (fun H1 locs hP hLc => ?_)
        obtain ⟨g4, h4, hg4, hvg, hh4, hvh, hP⟩ := hP
        have hS : SM G b0 o ad H 0 dg bw lm g4 h4 ou rs (bw i) (bw i) ob bL bR td tp wn tx H1 := WO.trans hS hP
        generalize H1 = Hc at hS ⊢
        have hbi := hI.b (show i < 64 by omega)
        have hzi := hI.z (show i < 64 by omega)
        have hli := hI.lt (show i < 64 by omega)
        have hvi : valM dg bw i = sg (bw i) (dl (shf dg (160 * i)) 160) := rfl
        rw [← hvg] at hzi hli hvi
        refine lv_aload_n hx hb dM0_turn_64 rfl (lv_at hl 0 rfl) ?_
        refine va_get (D := G.1) (ci := 1) (v := .ref (ad 3)) (C := RM0) (T := TM0) (N := 17) hx hb hts hwsM0_turn hown hK hS.w.ob 0 rfl rfl 4 (by decide) (hts (.fieldLink RM0 20 "ExactNumbersModel" "left" "[I") (by decide +kernel)) (fun _ h9 => h9) rfl dM0_turn_65 ?_
        refine lv_aload_n hx hb dM0_turn_68 rfl (lv_at hl 0 rfl) ?_
        refine va_get (D := G.1) (ci := 1) (v := .ref (ad 4)) (C := RM0) (T := TM0) (N := 17) hx hb hts hwsM0_turn hown hK hS.w.ob 0 rfl rfl 5 (by decide) (hts (.fieldLink RM0 23 "ExactNumbersModel" "right" "[I") (by decide +kernel)) (fun _ h9 => h9) rfl dM0_turn_69 ?_
        refine mc_v0 (va_runS (As := [.ref (ad 3), .ref (ad 4)]) (rest := []) ⟨hx, hb, hml, hown, hts⟩ (c_M0_copy l G b0 Hc (hS.w.get 3 (by decide)) (hS.w.get 4 (by decide)) (hS.w.ne (i := 3) (j := 4) (by decide) (by decide) (by decide)) (hS.w.b 4 (by decide))) (va_cwS 2 hts gM0_turn_M0_copy rfl rfl rfl (by decide +kernel) ⟨Nat.le_of_ble_eq_true rfl, Nat.le_of_ble_eq_true rfl⟩) (mp_S hK) rfl rfl hl.1 rfl (lv_room (Nat.le_of_ble_eq_true rfl)) dM0_turn_72 ⟨Nat.le_of_ble_eq_true rfl, Nat.le_of_ble_eq_true rfl⟩) hLc (fun H1 locs hP hLc => ?_)
        subst hP
        have hS := hS.p_rt g4
        generalize hput Hc (ad 4) (aN G 330 g4) = Hc at hS ⊢
        refine lv_aload_n hx hb dM0_turn_75 rfl (lv_at hl 0 rfl) ?_
        refine lv_aload_n hx hb dM0_turn_76 rfl (lv_at hl 0 rfl) ?_
        refine va_get (D := G.1) (ci := 1) (v := .int (nI (bw i))) (C := RM0) (T := TM0) (N := 17) hx hb hts hwsM0_turn hown hK hS.w.ob 0 rfl rfl 8 (by decide) (hts (.fieldLink RM0 64 "ExactNumbersModel" "leftBelow" "Z") (by decide +kernel)) (fun _ h9 => h9) rfl dM0_turn_77 ?_
        refine m_put (C := RM0) (T := TM0) (N := 17) (ci := 1) (ty := .boolean) (b0 := b0) hx hb hts hwsM0_turn tyM0 tyM0_ok nmM0 hown hK hS.w.ob rfl 9 (by decide) (hts (.fieldLink RM0 68 "ExactNumbersModel" "rightBelow" "Z") (by decide +kernel)) rfl (by decide +kernel) (nar_z (by omega)) (fit_z (by omega)) (Nat.le_of_ble_eq_true rfl) hS.w.bo hLc dM0_turn_80 (fun Hc2 locs hO hsz hq hLc => ?_)
        have hS := hS.f_rb hO hsz hq
        clear hO hsz hq
        obtain ⟨Hc, rfl⟩ : ∃ Hz, Hz = Hc2 := ⟨_, rfl⟩
        refine lv_aload_n hx hb dM0_turn_83 rfl (lv_at hl 0 rfl) ?_
        refine va_get (D := G.1) (ci := 1) (v := .ref (ad 3)) (C := RM0) (T := TM0) (N := 17) hx hb hts hwsM0_turn hown hK hS.w.ob 0 rfl rfl 4 (by decide) (hts (.fieldLink RM0 20 "ExactNumbersModel" "left" "[I") (by decide +kernel)) (fun _ h9 => h9) rfl dM0_turn_84 ?_
        refine mc_v0 (va_runS (As := [.ref (ad 3)]) (rest := []) ⟨hx, hb, hml, hown, hts⟩ (c_M0_clear l G b0 Hc (hS.w.get 3 (by decide)) (hS.w.b 3 (by decide))) (va_cwS 1 hts gM0_turn_M0_clear rfl rfl rfl (by decide +kernel) ⟨Nat.le_of_ble_eq_true rfl, Nat.le_of_ble_eq_true rfl⟩) (mp_S hK) rfl rfl hl.1 rfl (lv_room (Nat.le_of_ble_eq_true rfl)) dM0_turn_87 ⟨Nat.le_of_ble_eq_true rfl, Nat.le_of_ble_eq_true rfl⟩) hLc (fun H1 locs hP hLc => ?_)
        subst hP
        have hS := hS.p_lf (fun _ => 0)
        generalize hput Hc (ad 3) (aN G 330 (fun _ => 0)) = Hc at hS ⊢
        refine lv_aload_n hx hb dM0_turn_90 rfl (lv_at hl 0 rfl) ?_
        refine va_get (D := G.1) (ci := 1) (v := .ref (ad 3)) (C := RM0) (T := TM0) (N := 17) hx hb hts hwsM0_turn hown hK hS.w.ob 0 rfl rfl 4 (by decide) (hts (.fieldLink RM0 20 "ExactNumbersModel" "left" "[I") (by decide +kernel)) (fun _ h9 => h9) rfl dM0_turn_91 ?_
        refine lv_iconst (v := nI 0) hx hb dM0_turn_94 (by decide) ?_
        refine lv_iconst (v := nI 1) hx hb dM0_turn_95 (by decide) ?_
        refine m_nast (n := 330) (f := fun _ => 0) (b0 := b0) hx hb hK (hS.w.get 3 (by decide)) (by omega) (by decide) (hS.w.b 3 (by decide)) hLc dM0_turn_96 (fun locs hLc => ?_)
        have hS := hS.p_lf (fup (fun _ => 0) 0 1)
        generalize hput Hc (ad 3) (aN G 330 (fup (fun _ => 0) 0 1)) = Hc at hS ⊢
        refine lv_aload_n hx hb dM0_turn_97 rfl (lv_at hl 0 rfl) ?_
        refine lv_iconst (v := nI 1) hx hb dM0_turn_98 (by decide) ?_
        refine m_put (C := RM0) (T := TM0) (N := 17) (ci := 1) (ty := .boolean) (b0 := b0) hx hb hts hwsM0_turn tyM0 tyM0_ok nmM0 hown hK hS.w.ob rfl 8 (by decide) (hts (.fieldLink RM0 64 "ExactNumbersModel" "leftBelow" "Z") (by decide +kernel)) rfl (by decide +kernel) (nar_z (by decide)) (fit_z (by decide)) (Nat.le_of_ble_eq_true rfl) hS.w.bo hLc dM0_turn_99 (fun Hc2 locs hO hsz hq hLc => ?_)
        have hS := hS.f_lb hO hsz hq
        clear hO hsz hq
        obtain ⟨Hc, rfl⟩ : ∃ Hz, Hz = Hc2 := ⟨_, rfl⟩
        refine lv_aload_n hx hb dM0_turn_102 rfl (lv_at hl 0 rfl) ?_
        refine lv_iconst (v := nI 1) hx hb dM0_turn_103 (by decide) ?_
        refine mc_v0 (va_runV (As := [.int (nI 1)]) (rest := []) ⟨hx, hb, hml, hown, hts⟩ (c_M0_sum l G b0 Hc hS.rf (dlm_fup (fun j _ => by decide) (by decide)) hg4 (by decide) hbi (by rw [dl_one 329]; exact p1_) (Nat.le_of_lt hli) (by decide)) (cwV 1 hts gM0_turn_M0_sum rfl rfl rfl (by decide +kernel) ⟨Nat.le_of_ble_eq_true rfl, Nat.le_of_ble_eq_true rfl⟩) (mp_V hK hS.w.ob rfl) rfl rfl hl.1 rfl (lv_room (Nat.le_of_ble_eq_true rfl)) dM0_turn_104 ⟨Nat.le_of_ble_eq_true rfl, Nat.le_of_ble_eq_true rfl⟩) hLc (fun H1 locs hP hLc => ?_)
        obtain ⟨g3, b3, hg3, hb3, hv3, hP⟩ := hP
        have hS : SM G b0 o ad H 0 dg bw lm (fup (fun _ => 0) 0 1) g4 g3 rs 1 (bw i) b3 bL bR td tp wn tx H1 := WO.trans hS hP
        generalize H1 = Hc at hS ⊢
        refine lv_aload_n hx hb dM0_turn_107 rfl (lv_at hl 0 rfl) ?_
        refine lv_iload_n hx hb dM0_turn_108 rfl (lv_at hl 1 rfl) ?_
        refine mc_i0 (va_runV (As := [.int (nI k)]) (rest := []) ⟨hx, hb, hml, hown, hts⟩ (c_M0_keep l G b0 Hc hS.rf hI hg3 hb3 hk) (cwV 1 hts gM0_turn_M0_keep rfl rfl rfl (by decide +kernel) ⟨Nat.le_of_ble_eq_true rfl, Nat.le_of_ble_eq_true rfl⟩) (mp_V hK hS.w.ob rfl) rfl rfl hl.1 rfl (lv_room (Nat.le_of_ble_eq_true rfl)) dM0_turn_109 ⟨Nat.le_of_ble_eq_true rfl, Nat.le_of_ble_eq_true rfl⟩) hLc (fun r H1 locs hP hLc => ?_)
        exact m_iret hx hb hr hlocks hLc dM0_turn_112 (Or.inl ⟨k, i, hk, hi, rfl, rfl, (KM.trans hS hP).val (by rw [if_pos (by omega), hvi, hv3, sgt1 hbi, dl_one 329, sg_1]; omega)⟩)
      · skip
        refine lv_aload_n hx hb dM0_turn_25 rfl (lv_at hl 0 rfl) ?_
        refine lv_iload_n hx hb dM0_turn_26 rfl (lv_at hl 2 rfl) ?_
        refine lv_aload_n hx hb dM0_turn_27 rfl (lv_at hl 0 rfl) ?_
        refine va_get (D := G.1) (ci := 1) (v := .ref (ad 5)) (C := RM0) (T := TM0) (N := 17) hx hb hts hwsM0_turn hown hK hS.w.ob 0 rfl rfl 6 (by decide) (hts (.fieldLink RM0 26 "ExactNumbersModel" "out" "[I") (by decide +kernel)) (fun _ h9 => h9) rfl dM0_turn_28 ?_
        refine mc_v0 (va_runV (As := [.int (nI i), .ref (ad 5)]) (rest := []) ⟨hx, hb, hml, hown, hts⟩ (c_M0_load_ou l G b0 Hc hS.rf hI hi) (cwV 2 hts gM0_turn_M0_load rfl rfl rfl (by decide +kernel) ⟨Nat.le_of_ble_eq_true rfl, Nat.le_of_ble_eq_true rfl⟩) (mp_V hK hS.w.ob rfl) rfl rfl hl.1 rfl (lv_room (Nat.le_of_ble_eq_true rfl)) dM0_turn_31 ⟨Nat.le_of_ble_eq_true rfl, Nat.le_of_ble_eq_true rfl⟩) hLc (fun H1 locs hP hLc => ?_)
        obtain ⟨g3, hg3, hvg3, hP⟩ := hP
        have hS : SM G b0 o ad H 0 dg bw lm lf rt g3 rs lb rb ob bL bR td tp wn tx H1 := WO.trans hS hP
        generalize H1 = Hc at hS ⊢
        have hbi := hI.b (show i < 64 by omega)
        have hzi := hI.z (show i < 64 by omega)
        have hli := hI.lt (show i < 64 by omega)
        have hvi : valM dg bw i = sg (bw i) (dl (shf dg (160 * i)) 160) := rfl
        rw [← hvg3] at hzi hli hvi
        refine lv_aload_n hx hb dM0_turn_34 rfl (lv_at hl 0 rfl) ?_
        refine lv_aload_n hx hb dM0_turn_35 rfl (lv_at hl 0 rfl) ?_
        refine va_get (D := G.1) (ci := 1) (v := .ref (ad 1)) (C := RM0) (T := TM0) (N := 17) hx hb hts hwsM0_turn hown hK hS.w.ob 0 rfl rfl 2 (by decide) (hts (.fieldLink RM0 13 "ExactNumbersModel" "below" "[Z") (by decide +kernel)) (fun _ h9 => h9) rfl dM0_turn_36 ?_
        refine lv_iload_n hx hb dM0_turn_39 rfl (lv_at hl 2 rfl) ?_
        refine m_zald (n := 64) (f := bw) hx hb hK (hS.w.get 1 (by decide)) (by omega) (by decide) dM0_turn_40 ?_
        refine m_if_ne (tgt := 48) hx hb (by omega) dM0_turn_41 (by decide) (fun c41 => ?_) (fun c41 => ?_)
        · skip
          refine lv_iconst (v := nI 0) hx hb dM0_turn_48 (by decide) ?_
          refine m_put (C := RM0) (T := TM0) (N := 17) (ci := 1) (ty := .boolean) (b0 := b0) hx hb hts hwsM0_turn tyM0 tyM0_ok nmM0 hown hK hS.w.ob rfl 10 (by decide) (hts (.fieldLink RM0 75 "ExactNumbersModel" "outBelow" "Z") (by decide +kernel)) rfl (by decide +kernel) (nar_z (by decide)) (fit_z (by decide)) (Nat.le_of_ble_eq_true rfl) hS.w.bo hLc dM0_turn_49 (fun Hc2 locs hO hsz hq hLc => ?_)
          have hS := hS.f_ob hO hsz hq
          clear hO hsz hq
          obtain ⟨Hc, rfl⟩ : ∃ Hz, Hz = Hc2 := ⟨_, rfl⟩
          refine lv_aload_n hx hb dM0_turn_52 rfl (lv_at hl 0 rfl) ?_
          refine lv_iload_n hx hb dM0_turn_53 rfl (lv_at hl 1 rfl) ?_
          refine mc_i0 (va_runV (As := [.int (nI k)]) (rest := []) ⟨hx, hb, hml, hown, hts⟩ (c_M0_keep l G b0 Hc hS.rf hI hg3 (by decide) hk) (cwV 1 hts gM0_turn_M0_keep rfl rfl rfl (by decide +kernel) ⟨Nat.le_of_ble_eq_true rfl, Nat.le_of_ble_eq_true rfl⟩) (mp_V hK hS.w.ob rfl) rfl rfl hl.1 rfl (lv_room (Nat.le_of_ble_eq_true rfl)) dM0_turn_54 ⟨Nat.le_of_ble_eq_true rfl, Nat.le_of_ble_eq_true rfl⟩) hLc (fun r H1 locs hP hLc => ?_)
          exact m_iret hx hb hr hlocks hLc dM0_turn_57 (Or.inl ⟨k, i, hk, hi, rfl, rfl, (KM.trans hS hP).val (by rw [if_neg (by omega), hvi]; exact sg_flip0 hbi c41)⟩)
        · skip
          refine lv_iconst (v := nI 1) hx hb dM0_turn_44 (by decide) ?_
          refine lv_goto (tgt := 49) hx hb dM0_turn_45 (by decide) ?_
          refine m_put (C := RM0) (T := TM0) (N := 17) (ci := 1) (ty := .boolean) (b0 := b0) hx hb hts hwsM0_turn tyM0 tyM0_ok nmM0 hown hK hS.w.ob rfl 10 (by decide) (hts (.fieldLink RM0 75 "ExactNumbersModel" "outBelow" "Z") (by decide +kernel)) rfl (by decide +kernel) (nar_z (by decide)) (fit_z (by decide)) (Nat.le_of_ble_eq_true rfl) hS.w.bo hLc dM0_turn_49 (fun Hc2 locs hO hsz hq hLc => ?_)
          have hS := hS.f_ob hO hsz hq
          clear hO hsz hq
          obtain ⟨Hc, rfl⟩ : ∃ Hz, Hz = Hc2 := ⟨_, rfl⟩
          refine lv_aload_n hx hb dM0_turn_52 rfl (lv_at hl 0 rfl) ?_
          refine lv_iload_n hx hb dM0_turn_53 rfl (lv_at hl 1 rfl) ?_
          refine mc_i0 (va_runV (As := [.int (nI k)]) (rest := []) ⟨hx, hb, hml, hown, hts⟩ (c_M0_keep l G b0 Hc hS.rf hI hg3 (by decide) hk) (cwV 1 hts gM0_turn_M0_keep rfl rfl rfl (by decide +kernel) ⟨Nat.le_of_ble_eq_true rfl, Nat.le_of_ble_eq_true rfl⟩) (mp_V hK hS.w.ob rfl) rfl rfl hl.1 rfl (lv_room (Nat.le_of_ble_eq_true rfl)) dM0_turn_54 ⟨Nat.le_of_ble_eq_true rfl, Nat.le_of_ble_eq_true rfl⟩) hLc (fun r H1 locs hP hLc => ?_)
          exact m_iret hx hb hr hlocks hLc dM0_turn_57 (Or.inl ⟨k, i, hk, hi, rfl, rfl, (KM.trans hS hP).val (by rw [if_neg (by omega), hvi]; exact sg_flip1 c41)⟩)
    · skip
      refine m_if_ne (tgt := 21) hx hb (by decide) dM0_turn_16 (by decide) (fun h => absurd h (by decide)) (fun _ => ?_)
      refine lv_iconst (v := nI 3) hx hb dM0_turn_19 (by decide) ?_
      exact m_iret hx hb hr hlocks hLc dM0_turn_20 (Or.inr ⟨by first | exact Or.inl hno | exact Or.inr hno, rfl, hS.r hI⟩)
  · skip
    refine m_if_eq (tgt := 19) hx hb (by decide) dM0_turn_9 (by decide) (fun _ => ?_) (fun h => absurd h (by decide))
    refine lv_iconst (v := nI 3) hx hb dM0_turn_19 (by decide) ?_
    exact m_iret hx hb hr hlocks hLc dM0_turn_20 (Or.inr ⟨by first | exact Or.inl hno | exact Or.inr hno, rfl, hS.r hI⟩)

set_option maxRecDepth 100000 in
set_option maxHeartbeats 4000000 in
theorem c_M0_compare (l : Launch) (G : gG) (b0 : Nat) (H : Heap) {o : Nat} {ad : Nat → Nat} {th : Nat} {dg : Nat → Nat} {bw : Nat → Nat} {lm : Nat → Nat} {lf : Nat → Nat} {rt : Nat → Nat} {ou : Nat → Nat} {rs : Nat → Nat} {lb : Nat} {rb : Nat} {ob : Nat} {bL : Nat → Nat} {bR : Nat → Nat} {td : Nat} {tp : Nat → Nat} {wn : Nat} {tx : Nat → Nat} (hS : SM G b0 o ad H th dg bw lm lf rt ou rs lb rb ob bL bR td tp wn tx H) (hI : IM dg bw lm) (x y : Int32) : Met l yM0_compare wsM0_compare ({ frames := 3, cells := 0, slots := 0, locals := 66 } : Room) (PcH G H [.ref o, .int x, .int y]) (QcI (fun r H1 => ((∃ i j, i ≤ 63 ∧ j ≤ 63 ∧ x = nI i ∧ y = nI j ∧ cmpP r (valM dg bw i) (valM dg bw j)) ∨ ((noslot x ∨ noslot y) ∧ r = -2)) ∧ RM G b0 o ad H (valM dg bw) tp td tx wn H1)) 0 0 (fre b0) := by
  refine m_enter (cc := cM0_compare) (maxL := 4) (ret := (some .int)) (own := RM0) (by decide) rfl rfl (Nat.le_of_ble_eq_true rfl) ?_
  intro p e s m below meth c ls hF hnm hH hl
  have hl : lv_has ls 4 [(0, .ref o), (1, .int x), (2, .int y)] := hl
  have hLc : lcs b0 [] := lcs_nil b0
  obtain ⟨hx, hb, hr, hml, hown, hts, hlocks, hK⟩ := id hF
  refine lv_aload_n hx hb dM0_compare_0 rfl (lv_at hl 0 rfl) ?_
  refine lv_iconst (v := nI 0) hx hb dM0_compare_1 (by decide) ?_
  refine m_put (C := RM0) (T := TM0) (N := 17) (ci := 1) (ty := .int) (b0 := b0) hx hb hts hwsM0_compare tyM0 tyM0_ok nmM0 hown hK hS.w.ob rfl 0 (by decide) (hts (.fieldLink RM0 48 "ExactNumbersModel" "thrown" "I") (by decide +kernel)) rfl (by decide +kernel) (rfl) (rfl) (Nat.le_of_ble_eq_true rfl) hS.w.bo hLc dM0_compare_2 (fun Hc2 locs hO hsz hq hLc => ?_)
  have hS := hS.f_th hO hsz hq
  clear hO hsz hq
  obtain ⟨Hc, rfl⟩ : ∃ Hz, Hz = Hc2 := ⟨_, rfl⟩
  refine lv_iload_n hx hb dM0_compare_5 rfl (lv_at hl 1 rfl) ?_
  refine mc_i0 (va_runS (As := [.int x]) (rest := []) ⟨hx, hb, hml, hown, hts⟩ (c_M0_isSlot l G b0 Hc (x)) (va_cwS 1 hts gM0_compare_M0_isSlot rfl rfl rfl (by decide +kernel) ⟨Nat.le_of_ble_eq_true rfl, Nat.le_of_ble_eq_true rfl⟩) (mp_S hK) rfl rfl hl.1 rfl (lv_room (Nat.le_of_ble_eq_true rfl)) dM0_compare_6 ⟨Nat.le_of_ble_eq_true rfl, Nat.le_of_ble_eq_true rfl⟩) hLc (fun r H1 locs hP hLc => ?_)
  obtain ⟨hP, rfl⟩ := hP
  rcases hP with ⟨i, _h0, hi, rfl, rfl⟩ | ⟨hno, rfl⟩
  · skip
    refine m_if_eq (tgt := 19) hx hb (by decide) dM0_compare_9 (by decide) (fun h => absurd h (by decide)) (fun _ => ?_)
    refine lv_iload_n hx hb dM0_compare_12 rfl (lv_at hl 2 rfl) ?_
    refine mc_i0 (va_runS (As := [.int y]) (rest := []) ⟨hx, hb, hml, hown, hts⟩ (c_M0_isSlot l G b0 Hc (y)) (va_cwS 1 hts gM0_compare_M0_isSlot rfl rfl rfl (by decide +kernel) ⟨Nat.le_of_ble_eq_true rfl, Nat.le_of_ble_eq_true rfl⟩) (mp_S hK) rfl rfl hl.1 rfl (lv_room (Nat.le_of_ble_eq_true rfl)) dM0_compare_13 ⟨Nat.le_of_ble_eq_true rfl, Nat.le_of_ble_eq_true rfl⟩) hLc (fun r H1 locs hP hLc => ?_)
    obtain ⟨hP, rfl⟩ := hP
    rcases hP with ⟨j, _h0, hj, rfl, rfl⟩ | ⟨hno, rfl⟩
    · skip
      refine m_if_ne (tgt := 22) hx hb (by decide) dM0_compare_16 (by decide) (fun _ => ?_) (fun h => absurd h (by decide))
      refine lv_aload_n hx hb dM0_compare_22 rfl (lv_at hl 0 rfl) ?_
      refine lv_iload_n hx hb dM0_compare_23 rfl (lv_at hl 1 rfl) ?_
      refine lv_iload_n hx hb dM0_compare_24 rfl (lv_at hl 2 rfl) ?_
      refine mc_v0 (va_runV (As := [.int (nI i), .int (nI j)]) (rest := []) ⟨hx, hb, hml, hown, hts⟩ (c_M0_loadBoth l G b0 Hc hS.rf hI hi hj) (cwV 2 hts gM0_compare_M0_loadBoth rfl rfl rfl (by decide +kernel) ⟨Nat.le_of_ble_eq_true rfl, Nat.le_of_ble_eq_true rfl⟩) (mp_V hK hS.w.ob rfl) rfl rfl hl.1 rfl (lv_room (Nat.le_of_ble_eq_true rfl)) dM0_compare_25 ⟨Nat.le_of_ble_eq_true rfl, Nat.le_of_ble_eq_true rfl⟩) hLc (fun H1 locs hP hLc => ?_)
      obtain ⟨g, h, hg, hvg, hh, hvh, hP⟩ := hP
      have hS : SM G b0 o ad H 0 dg bw lm g h ou rs (bw i) (bw j) ob bL bR td tp wn tx H1 := WO.trans hS hP
      generalize H1 = Hc at hS ⊢
      have hbi := hI.b (show i < 64 by omega)
      have hbj := hI.b (show j < 64 by omega)
      have hzi := hI.z (show i < 64 by omega)
      have hzj := hI.z (show j < 64 by omega)
      have hli := hI.lt (show i < 64 by omega)
      have hlj := hI.lt (show j < 64 by omega)
      have hvi : valM dg bw i = sg (bw i) (dl (shf dg (160 * i)) 160) := rfl
      have hvj : valM dg bw j = sg (bw j) (dl (shf dg (160 * j)) 160) := rfl
      rw [← hvg] at hzi hli hvi
      rw [← hvh] at hzj hlj hvj
      refine lv_aload_n hx hb dM0_compare_28 rfl (lv_at hl 0 rfl) ?_
      refine va_get (D := G.1) (ci := 1) (v := .int (nI (bw i))) (C := RM0) (T := TM0) (N := 17) hx hb hts hwsM0_compare hown hK hS.w.ob 0 rfl rfl 8 (by decide) (hts (.fieldLink RM0 64 "ExactNumbersModel" "leftBelow" "Z") (by decide +kernel)) (fun _ h9 => h9) rfl dM0_compare_29 ?_
      refine lv_aload_n hx hb dM0_compare_32 rfl (lv_at hl 0 rfl) ?_
      refine va_get (D := G.1) (ci := 1) (v := .int (nI (bw j))) (C := RM0) (T := TM0) (N := 17) hx hb hts hwsM0_compare hown hK hS.w.ob 0 rfl rfl 9 (by decide) (hts (.fieldLink RM0 68 "ExactNumbersModel" "rightBelow" "Z") (by decide +kernel)) (fun _ h9 => h9) rfl dM0_compare_33 ?_
      refine m_icmp_eq (tgt := 52) hx hb (by omega) (by omega) dM0_compare_36 (by decide) (fun c36 => ?_) (fun c36 => ?_)
      · skip
        refine lv_aload_n hx hb dM0_compare_52 rfl (lv_at hl 0 rfl) ?_
        refine va_get (D := G.1) (ci := 1) (v := .ref (ad 3)) (C := RM0) (T := TM0) (N := 17) hx hb hts hwsM0_compare hown hK hS.w.ob 0 rfl rfl 4 (by decide) (hts (.fieldLink RM0 20 "ExactNumbersModel" "left" "[I") (by decide +kernel)) (fun _ h9 => h9) rfl dM0_compare_53 ?_
        refine lv_aload_n hx hb dM0_compare_56 rfl (lv_at hl 0 rfl) ?_
        refine va_get (D := G.1) (ci := 1) (v := .ref (ad 4)) (C := RM0) (T := TM0) (N := 17) hx hb hts hwsM0_compare hown hK hS.w.ob 0 rfl rfl 5 (by decide) (hts (.fieldLink RM0 23 "ExactNumbersModel" "right" "[I") (by decide +kernel)) (fun _ h9 => h9) rfl dM0_compare_57 ?_
        refine mc_i0 (va_runS (As := [.ref (ad 3), .ref (ad 4)]) (rest := []) ⟨hx, hb, hml, hown, hts⟩ (c_M0_order l G b0 Hc (hS.w.get 3 (by decide)) (hS.w.get 4 (by decide)) hg hh) (va_cwS 2 hts gM0_compare_M0_order rfl rfl rfl (by decide +kernel) ⟨Nat.le_of_ble_eq_true rfl, Nat.le_of_ble_eq_true rfl⟩) (mp_S hK) rfl rfl hl.1 rfl (lv_room (Nat.le_of_ble_eq_true rfl)) dM0_compare_60 ⟨Nat.le_of_ble_eq_true rfl, Nat.le_of_ble_eq_true rfl⟩) hLc (fun r H1 locs hP hLc => ?_)
        obtain ⟨hor, rfl⟩ := hP
        refine lv_istore_n (lv' := [(3, .int r), (0, .ref o), (1, .int (nI i)), (2, .int (nI j))]) hx hb dM0_compare_63 rfl hl (by decide) rfl (fun ls hl => ?_)
        refine lv_aload_n hx hb dM0_compare_64 rfl (lv_at hl 1 rfl) ?_
        refine va_get (D := G.1) (ci := 1) (v := .int (nI (bw i))) (C := RM0) (T := TM0) (N := 17) hx hb hts hwsM0_compare hown hK hS.w.ob 0 rfl rfl 8 (by decide) (hts (.fieldLink RM0 64 "ExactNumbersModel" "leftBelow" "Z") (by decide +kernel)) (fun _ h9 => h9) rfl dM0_compare_65 ?_
        refine m_if_eq (tgt := 76) hx hb (by omega) dM0_compare_68 (by decide) (fun c68 => ?_) (fun c68 => ?_)
        · skip
          refine lv_iload_n hx hb dM0_compare_76 rfl (lv_at hl 0 rfl) ?_
          exact m_iret hx hb hr hlocks hLc dM0_compare_77 (⟨Or.inl ⟨i, j, hi, hj, rfl, rfl, by rw [hvi, hvj]; exact cmpg_p c36 c68 hor⟩, hS.r hI⟩)
        · skip
          refine lv_iload_n hx hb dM0_compare_71 rfl (lv_at hl 0 rfl) ?_
          refine lv_ineg hx hb dM0_compare_72 ?_
          refine lv_goto (tgt := 77) hx hb dM0_compare_73 (by decide) ?_
          exact m_iret hx hb hr hlocks hLc dM0_compare_77 (⟨Or.inl ⟨i, j, hi, hj, rfl, rfl, by rw [hvi, hvj]; exact cmpg_m hbi c36 c68 hor⟩, hS.r hI⟩)
      · skip
        refine lv_aload_n hx hb dM0_compare_39 rfl (lv_at hl 0 rfl) ?_
        refine va_get (D := G.1) (ci := 1) (v := .int (nI (bw i))) (C := RM0) (T := TM0) (N := 17) hx hb hts hwsM0_compare hown hK hS.w.ob 0 rfl rfl 8 (by decide) (hts (.fieldLink RM0 64 "ExactNumbersModel" "leftBelow" "Z") (by decide +kernel)) (fun _ h9 => h9) rfl dM0_compare_40 ?_
        refine m_if_eq (tgt := 50) hx hb (by omega) dM0_compare_43 (by decide) (fun c43 => ?_) (fun c43 => ?_)
        · skip
          refine lv_iconst (v := nI 1) hx hb dM0_compare_50 (by decide) ?_
          exact m_iret hx hb hr hlocks hLc dM0_compare_51 (⟨Or.inl ⟨i, j, hi, hj, rfl, rfl, by rw [hvi, hvj]; exact cmpg_0 hbi hbj hzj c36 c43⟩, hS.r hI⟩)
        · skip
          refine lv_iconst (v := -1) hx hb dM0_compare_46 (by decide) ?_
          refine lv_goto (tgt := 51) hx hb dM0_compare_47 (by decide) ?_
          exact m_iret hx hb hr hlocks hLc dM0_compare_51 (⟨Or.inl ⟨i, j, hi, hj, rfl, rfl, by rw [hvi, hvj]; exact cmpg_1 hbi hbj hzi c36 c43⟩, hS.r hI⟩)
    · skip
      refine m_if_ne (tgt := 22) hx hb (by decide) dM0_compare_16 (by decide) (fun h => absurd h (by decide)) (fun _ => ?_)
      refine lv_bipush (v := -2) hx hb dM0_compare_19 (by decide) ?_
      exact m_iret hx hb hr hlocks hLc dM0_compare_21 (⟨Or.inr ⟨by first | exact Or.inl hno | exact Or.inr hno, rfl⟩, hS.r hI⟩)
  · skip
    refine m_if_eq (tgt := 19) hx hb (by decide) dM0_compare_9 (by decide) (fun _ => ?_) (fun h => absurd h (by decide))
    refine lv_bipush (v := -2) hx hb dM0_compare_19 (by decide) ?_
    exact m_iret hx hb hr hlocks hLc dM0_compare_21 (⟨Or.inr ⟨by first | exact Or.inl hno | exact Or.inr hno, rfl⟩, hS.r hI⟩)

set_option maxRecDepth 100000 in
set_option maxHeartbeats 4000000 in
theorem rbits_25 {p : Program} {l : Launch} {e : Env} {s : State} {m : MethodId} {args : Array Value} {below : List Frame} {meth : Method} {c : Code} {G : gG} {b0 : Nat} {H : Heap} {o : Nat} {ad : Nat → Nat} {th : Nat} {dg : Nat → Nat} {bw : Nat → Nat} {lm : Nat → Nat} {lf : Nat → Nat} {rt : Nat → Nat} {ou : Nat → Nat} {rs : Nat → Nat} {lb : Nat} {rb : Nat} {ob : Nat} {bL : Nat → Nat} {bR : Nat → Nat} {td : Nat} {tp : Nat → Nat} {wn : Nat} {tx : Nat → Nat} {i : Nat} {x : Int32} (hF : FxM p s m args meth c G cM0_bits 4 (some .int) RM0 wsM0_bits) (hI : IM dg bw lm) (hi : i ≤ 63) (hxi : x = nI i) : ∀ (q : Nat) (n : Nat) (g : Nat → Nat) (Hc : Heap), n + q = 512 → dlm g 330 → dl g 330 = dl (shf dg (160 * i)) 160 / 2 ^ n → (n = 0 ∨ 2 ^ (n - 1) ≤ dl (shf dg (160 * i)) 160) → SM G b0 o ad H 0 dg bw lm g rt ou rs lb rb ob bL bR td tp wn tx Hc → ∀ (locs : List Loc) (ls : Array Slot), lcs b0 locs → lv_has ls 4 [(0, .ref o), (1, .int (nI i)), (2, .int (nI n))] → W p l e ({ frames := 2, cells := 0, slots := 0, locals := 44 } : Room) s m args below meth c Hc locs 0 0 (MQ below (QcI (fun r H1 => ((∃ i b, i ≤ 63 ∧ x = nI i ∧ r = nI b ∧ isBL b (valM dg bw i).natAbs) ∨ (noslot x ∧ r = -1)) ∧ RM G b0 o ad H (valM dg bw) tp td tx wn H1)) args s 0 0 (fre b0)) (F0 m 25 ls []) := by
  obtain ⟨hx, hb, hr, hml, hown, hts, hlocks, hK⟩ := id hF
  intro q
  induction q with
  | zero =>
    intro n g Hc hn hg hv hm hS locs ls hLc hl
    refine lv_aload_n hx hb dM0_bits_25 rfl (lv_at hl 0 rfl) ?_
    refine va_get (D := G.1) (ci := 1) (v := .ref (ad 3)) (C := RM0) (T := TM0) (N := 17) hx hb hts hwsM0_bits hown hK hS.w.ob 0 rfl rfl 4 (by decide) (hts (.fieldLink RM0 20 "ExactNumbersModel" "left" "[I") (by decide +kernel)) (fun _ h9 => h9) rfl dM0_bits_26 ?_
    refine mc_i0 (va_runS (As := [.ref (ad 3)]) (rest := []) ⟨hx, hb, hml, hown, hts⟩ (c_M0_isZero l G b0 Hc (hS.w.get 3 (by decide)) hg) (va_cwS 1 hts gM0_bits_M0_isZero rfl rfl rfl (by decide +kernel) ⟨Nat.le_of_ble_eq_true rfl, Nat.le_of_ble_eq_true rfl⟩) (mp_S hK) rfl rfl hl.1 rfl (lv_room (Nat.le_of_ble_eq_true rfl)) dM0_bits_29 ⟨Nat.le_of_ble_eq_true rfl, Nat.le_of_ble_eq_true rfl⟩) hLc (fun r H1 locs hP hLc => ?_)
    obtain ⟨hP, rfl⟩ := hP
    rcases hP with ⟨rfl, hzz⟩ | ⟨rfl, hzz⟩
    · skip
      refine m_if_ne (tgt := 50) hx hb (by decide) dM0_bits_32 (by decide) (fun _ => ?_) (fun h => absurd h (by decide))
      refine lv_iload_n hx hb dM0_bits_50 rfl (lv_at hl 2 rfl) ?_
      exact m_iret hx hb hr hlocks hLc dM0_bits_51 (⟨Or.inl ⟨i, n, hi, hxi, rfl, by rw [show (valM dg bw i).natAbs = dl (shf dg (160 * i)) 160 from sg_abs _ _]; exact bl_of (by rw [← hv]; exact hzz) hm⟩, hS.r hI⟩)
    · skip
      exact absurd (hv.trans (Nat.div_eq_of_lt (by rw [show n = 512 by omega]; exact hI.lt (show i < 64 by omega)))) hzz
  | succ q ih =>
    intro n g Hc hn hg hv hm hS locs ls hLc hl
    refine lv_aload_n hx hb dM0_bits_25 rfl (lv_at hl 0 rfl) ?_
    refine va_get (D := G.1) (ci := 1) (v := .ref (ad 3)) (C := RM0) (T := TM0) (N := 17) hx hb hts hwsM0_bits hown hK hS.w.ob 0 rfl rfl 4 (by decide) (hts (.fieldLink RM0 20 "ExactNumbersModel" "left" "[I") (by decide +kernel)) (fun _ h9 => h9) rfl dM0_bits_26 ?_
    refine mc_i0 (va_runS (As := [.ref (ad 3)]) (rest := []) ⟨hx, hb, hml, hown, hts⟩ (c_M0_isZero l G b0 Hc (hS.w.get 3 (by decide)) hg) (va_cwS 1 hts gM0_bits_M0_isZero rfl rfl rfl (by decide +kernel) ⟨Nat.le_of_ble_eq_true rfl, Nat.le_of_ble_eq_true rfl⟩) (mp_S hK) rfl rfl hl.1 rfl (lv_room (Nat.le_of_ble_eq_true rfl)) dM0_bits_29 ⟨Nat.le_of_ble_eq_true rfl, Nat.le_of_ble_eq_true rfl⟩) hLc (fun r H1 locs hP hLc => ?_)
    obtain ⟨hP, rfl⟩ := hP
    rcases hP with ⟨rfl, hzz⟩ | ⟨rfl, hzz⟩
    · skip
      refine m_if_ne (tgt := 50) hx hb (by decide) dM0_bits_32 (by decide) (fun _ => ?_) (fun h => absurd h (by decide))
      refine lv_iload_n hx hb dM0_bits_50 rfl (lv_at hl 2 rfl) ?_
      exact m_iret hx hb hr hlocks hLc dM0_bits_51 (⟨Or.inl ⟨i, n, hi, hxi, rfl, by rw [show (valM dg bw i).natAbs = dl (shf dg (160 * i)) 160 from sg_abs _ _]; exact bl_of (by rw [← hv]; exact hzz) hm⟩, hS.r hI⟩)
    · skip
      refine m_if_ne (tgt := 50) hx hb (by decide) dM0_bits_32 (by decide) (fun h => absurd h (by decide)) (fun _ => ?_)
      refine lv_aload_n hx hb dM0_bits_35 rfl (lv_at hl 0 rfl) ?_
      refine va_get (D := G.1) (ci := 1) (v := .ref (ad 3)) (C := RM0) (T := TM0) (N := 17) hx hb hts hwsM0_bits hown hK hS.w.ob 0 rfl rfl 4 (by decide) (hts (.fieldLink RM0 20 "ExactNumbersModel" "left" "[I") (by decide +kernel)) (fun _ h9 => h9) rfl dM0_bits_36 ?_
      refine lv_iconst (v := nI 2) hx hb dM0_bits_39 (by decide) ?_
      refine mc_i0 (va_runS (As := [.ref (ad 3), .int (nI 2)]) (rest := []) ⟨hx, hb, hml, hown, hts⟩ (c_M0_shrink l G b0 Hc (hS.w.get 3 (by decide)) hg (hS.w.b 3 (by decide)) (by decide) (by decide)) (va_cwS 2 hts gM0_bits_M0_shrink rfl rfl rfl (by decide +kernel) ⟨Nat.le_of_ble_eq_true rfl, Nat.le_of_ble_eq_true rfl⟩) (mp_S hK) rfl rfl hl.1 rfl (lv_room (Nat.le_of_ble_eq_true rfl)) dM0_bits_40 ⟨Nat.le_of_ble_eq_true rfl, Nat.le_of_ble_eq_true rfl⟩) hLc (fun r H1 locs hP hLc => ?_)
      obtain ⟨g3, z, rfl, hz2, hg3, hv3, rfl⟩ := hP
      have hS := hS.p_lf g3
      generalize hput Hc (ad 3) (aN G 330 g3) = Hc at hS ⊢
      rw [hv] at hv3
      obtain ⟨hv4, hz3⟩ := shr_bit hv3 hz2
      refine lv_istore_n (lv' := [(3, .int (nI z)), (0, .ref o), (1, .int (nI i)), (2, .int (nI n))]) hx hb dM0_bits_43 rfl hl (by decide) rfl (fun ls hl => ?_)
      refine lv_iinc (v := nI (n + 1)) (lv' := [(2, .int (nI (n + 1))), (3, .int (nI z)), (0, .ref o), (1, .int (nI i))]) hx hb dM0_bits_44 hl (k := 3) rfl (nI_add n 1) (by decide) rfl (fun ls hl => ?_)
      refine lv_goto (tgt := 25) hx hb dM0_bits_47 (by decide) ?_
      exact ih (n + 1) g3 _ (by omega) hg3 hv4 (Or.inr (by rw [Nat.add_sub_cancel]; exact le_of_dv (by rw [← hv]; exact hzz))) hS _ _ hLc (lv_sub hl [2, 3, 0] rfl)
set_option maxRecDepth 100000 in
set_option maxHeartbeats 4000000 in
theorem c_M0_bits (l : Launch) (G : gG) (b0 : Nat) (H : Heap) {o : Nat} {ad : Nat → Nat} {th : Nat} {dg : Nat → Nat} {bw : Nat → Nat} {lm : Nat → Nat} {lf : Nat → Nat} {rt : Nat → Nat} {ou : Nat → Nat} {rs : Nat → Nat} {lb : Nat} {rb : Nat} {ob : Nat} {bL : Nat → Nat} {bR : Nat → Nat} {td : Nat} {tp : Nat → Nat} {wn : Nat} {tx : Nat → Nat} (hS : SM G b0 o ad H th dg bw lm lf rt ou rs lb rb ob bL bR td tp wn tx H) (hI : IM dg bw lm) (x : Int32) : Met l yM0_bits wsM0_bits ({ frames := 2, cells := 0, slots := 0, locals := 44 } : Room) (PcH G H [.ref o, .int x]) (QcI (fun r H1 => ((∃ i b, i ≤ 63 ∧ x = nI i ∧ r = nI b ∧ isBL b (valM dg bw i).natAbs) ∨ (noslot x ∧ r = -1)) ∧ RM G b0 o ad H (valM dg bw) tp td tx wn H1)) 0 0 (fre b0) := by
  refine m_enter (cc := cM0_bits) (maxL := 4) (ret := (some .int)) (own := RM0) (by decide) rfl rfl (Nat.le_of_ble_eq_true rfl) ?_
  intro p e s m below meth c ls hF hnm hH hl
  have hl : lv_has ls 4 [(0, .ref o), (1, .int x)] := hl
  have hLc : lcs b0 [] := lcs_nil b0
  obtain ⟨hx, hb, hr, hml, hown, hts, hlocks, hK⟩ := id hF
  refine lv_aload_n hx hb dM0_bits_0 rfl (lv_at hl 0 rfl) ?_
  refine lv_iconst (v := nI 0) hx hb dM0_bits_1 (by decide) ?_
  refine m_put (C := RM0) (T := TM0) (N := 17) (ci := 1) (ty := .int) (b0 := b0) hx hb hts hwsM0_bits tyM0 tyM0_ok nmM0 hown hK hS.w.ob rfl 0 (by decide) (hts (.fieldLink RM0 48 "ExactNumbersModel" "thrown" "I") (by decide +kernel)) rfl (by decide +kernel) (rfl) (rfl) (Nat.le_of_ble_eq_true rfl) hS.w.bo hLc dM0_bits_2 (fun Hc2 locs hO hsz hq hLc => ?_)
  have hS := hS.f_th hO hsz hq
  clear hO hsz hq
  obtain ⟨Hc, rfl⟩ : ∃ Hz, Hz = Hc2 := ⟨_, rfl⟩
  refine lv_iload_n hx hb dM0_bits_5 rfl (lv_at hl 1 rfl) ?_
  refine mc_i0 (va_runS (As := [.int x]) (rest := []) ⟨hx, hb, hml, hown, hts⟩ (c_M0_isSlot l G b0 Hc (x)) (va_cwS 1 hts gM0_bits_M0_isSlot rfl rfl rfl (by decide +kernel) ⟨Nat.le_of_ble_eq_true rfl, Nat.le_of_ble_eq_true rfl⟩) (mp_S hK) rfl rfl hl.1 rfl (lv_room (Nat.le_of_ble_eq_true rfl)) dM0_bits_6 ⟨Nat.le_of_ble_eq_true rfl, Nat.le_of_ble_eq_true rfl⟩) hLc (fun r H1 locs hP hLc => ?_)
  obtain ⟨hP, rfl⟩ := hP
  rcases hP with ⟨i, _h0, hi, rfl, rfl⟩ | ⟨hno, rfl⟩
  · skip
    refine m_if_ne (tgt := 14) hx hb (by decide) dM0_bits_9 (by decide) (fun _ => ?_) (fun h => absurd h (by decide))
    refine lv_aload_n hx hb dM0_bits_14 rfl (lv_at hl 0 rfl) ?_
    refine lv_iload_n hx hb dM0_bits_15 rfl (lv_at hl 1 rfl) ?_
    refine lv_aload_n hx hb dM0_bits_16 rfl (lv_at hl 0 rfl) ?_
    refine va_get (D := G.1) (ci := 1) (v := .ref (ad 3)) (C := RM0) (T := TM0) (N := 17) hx hb hts hwsM0_bits hown hK hS.w.ob 0 rfl rfl 4 (by decide) (hts (.fieldLink RM0 20 "ExactNumbersModel" "left" "[I") (by decide +kernel)) (fun _ h9 => h9) rfl dM0_bits_17 ?_
    refine mc_v0 (va_runV (As := [.int (nI i), .ref (ad 3)]) (rest := []) ⟨hx, hb, hml, hown, hts⟩ (c_M0_load_lf l G b0 Hc hS.rf hI hi) (cwV 2 hts gM0_bits_M0_load rfl rfl rfl (by decide +kernel) ⟨Nat.le_of_ble_eq_true rfl, Nat.le_of_ble_eq_true rfl⟩) (mp_V hK hS.w.ob rfl) rfl rfl hl.1 rfl (lv_room (Nat.le_of_ble_eq_true rfl)) dM0_bits_20 ⟨Nat.le_of_ble_eq_true rfl, Nat.le_of_ble_eq_true rfl⟩) hLc (fun H1 locs hP hLc => ?_)
    obtain ⟨g, hg, hvg, hP⟩ := hP
    have hS : SM G b0 o ad H 0 dg bw lm g rt ou rs lb rb ob bL bR td tp wn tx H1 := WO.trans hS hP
    generalize H1 = Hc at hS ⊢
    refine lv_iconst (v := nI 0) hx hb dM0_bits_23 (by decide) ?_
    refine lv_istore_n (lv' := [(2, .int (nI 0)), (0, .ref o), (1, .int (nI i))]) hx hb dM0_bits_24 rfl hl (by decide) rfl (fun ls hl => ?_)
    exact rbits_25 (th := th) (lf := lf) hF hI hi rfl 512 0 g _ (by omega) hg (by rw [hvg, Nat.pow_zero, Nat.div_one]) (Or.inl rfl) hS _ _ hLc (lv_sub hl [1, 2, 0] rfl)
  · skip
    refine m_if_ne (tgt := 14) hx hb (by decide) dM0_bits_9 (by decide) (fun h => absurd h (by decide)) (fun _ => ?_)
    refine lv_iconst (v := -1) hx hb dM0_bits_12 (by decide) ?_
    exact m_iret hx hb hr hlocks hLc dM0_bits_13 (⟨Or.inr ⟨hno, rfl⟩, hS.r hI⟩)

set_option maxRecDepth 100000 in
set_option maxHeartbeats 4000000 in
theorem c_M0_fits (l : Launch) (G : gG) (b0 : Nat) (H : Heap) {o : Nat} {ad : Nat → Nat} {th : Nat} {dg : Nat → Nat} {bw : Nat → Nat} {lm : Nat → Nat} {lf : Nat → Nat} {rt : Nat → Nat} {ou : Nat → Nat} {rs : Nat → Nat} {lb : Nat} {rb : Nat} {ob : Nat} {bL : Nat → Nat} {bR : Nat → Nat} {td : Nat} {tp : Nat → Nat} {wn : Nat} {tx : Nat → Nat} (hS : SM G b0 o ad H th dg bw lm lf rt ou rs lb rb ob bL bR td tp wn tx H) (hI : IM dg bw lm) (x y : Int32) {g : Nat} (hg1 : g ≤ 1) : Met l yM0_fits wsM0_fits ({ frames := 2, cells := 0, slots := 0, locals := 47 } : Room) (PcH G H [.ref o, .int x, .int y, .int (nI g)]) (QcI (fun r H1 => ((∃ i w, i ≤ 63 ∧ 1 ≤ w ∧ w ≤ 64 ∧ x = nI i ∧ y = nI w ∧ ((r = nI 1 ∧ fitsI (valM dg bw i) w g) ∨ (r = nI 0 ∧ ¬ fitsI (valM dg bw i) w g))) ∨ ((noslot x ∨ (∀ w, 1 ≤ w → w ≤ 64 → w < 2 ^ 31 → y ≠ nI w)) ∧ r = nI 0)) ∧ RM G b0 o ad H (valM dg bw) tp td tx wn H1)) 0 0 (fre b0) := by
  refine m_enter (cc := cM0_fits) (maxL := 5) (ret := (some .boolean)) (own := RM0) (by decide) rfl rfl (Nat.le_of_ble_eq_true rfl) ?_
  intro p e s m below meth c ls hF hnm hH hl
  have hl : lv_has ls 5 [(0, .ref o), (1, .int x), (2, .int y), (3, .int (nI g))] := hl
  have hLc : lcs b0 [] := lcs_nil b0
  obtain ⟨hx, hb, hr, hml, hown, hts, hlocks, hK⟩ := id hF
  refine lv_aload_n hx hb dM0_fits_0 rfl (lv_at hl 0 rfl) ?_
  refine lv_iconst (v := nI 0) hx hb dM0_fits_1 (by decide) ?_
  refine m_put (C := RM0) (T := TM0) (N := 17) (ci := 1) (ty := .int) (b0 := b0) hx hb hts hwsM0_fits tyM0 tyM0_ok nmM0 hown hK hS.w.ob rfl 0 (by decide) (hts (.fieldLink RM0 48 "ExactNumbersModel" "thrown" "I") (by decide +kernel)) rfl (by decide +kernel) (rfl) (rfl) (Nat.le_of_ble_eq_true rfl) hS.w.bo hLc dM0_fits_2 (fun Hc2 locs hO hsz hq hLc => ?_)
  have hS := hS.f_th hO hsz hq
  clear hO hsz hq
  obtain ⟨Hc, rfl⟩ : ∃ Hz, Hz = Hc2 := ⟨_, rfl⟩
  refine lv_iload_n hx hb dM0_fits_5 rfl (lv_at hl 1 rfl) ?_
  refine mc_i0 (va_runS (As := [.int x]) (rest := []) ⟨hx, hb, hml, hown, hts⟩ (c_M0_isSlot l G b0 Hc (x)) (va_cwS 1 hts gM0_fits_M0_isSlot rfl rfl rfl (by decide +kernel) ⟨Nat.le_of_ble_eq_true rfl, Nat.le_of_ble_eq_true rfl⟩) (mp_S hK) rfl rfl hl.1 rfl (lv_room (Nat.le_of_ble_eq_true rfl)) dM0_fits_6 ⟨Nat.le_of_ble_eq_true rfl, Nat.le_of_ble_eq_true rfl⟩) hLc (fun r H1 locs hP hLc => ?_)
  obtain ⟨hP, rfl⟩ := hP
  rcases hP with ⟨i, _h0, hi, rfl, rfl⟩ | ⟨hno, rfl⟩
  · skip
    refine m_if_eq (tgt := 23) hx hb (by decide) dM0_fits_9 (by decide) (fun h => absurd h (by decide)) (fun _ => ?_)
    refine lv_iload_n hx hb dM0_fits_12 rfl (lv_at hl 2 rfl) ?_
    refine lv_iconst (v := nI 1) hx hb dM0_fits_13 (by decide) ?_
    refine lv_icmp_lt (tgt := 23) hx hb dM0_fits_14 (by decide) (fun c14 => ?_) (fun c14 => ?_)
    · skip
      have hnw : ∀ w, 1 ≤ w → w ≤ 64 → w < 2 ^ 31 → y ≠ nI w := lt_no (by decide) c14
      refine lv_iconst (v := nI 0) hx hb dM0_fits_23 (by decide) ?_
      exact m_zret hx hb hr hlocks hLc (by decide) dM0_fits_24 (⟨Or.inr ⟨by first | exact Or.inl hno | exact Or.inr hnw, rfl⟩, hS.r hI⟩)
    · skip
      obtain ⟨w, hwlo, hw31, rfl⟩ := ge_of (by decide) c14
      refine lv_iload_n hx hb dM0_fits_17 rfl (lv_at hl 2 rfl) ?_
      refine lv_bipush (v := nI 64) hx hb dM0_fits_18 (by decide) ?_
      refine m_icmp_le (tgt := 25) hx hb (by omega) (by decide) dM0_fits_20 (by decide) (fun c20 => ?_) (fun c20 => ?_)
      · skip
        refine lv_aload_n hx hb dM0_fits_25 rfl (lv_at hl 0 rfl) ?_
        refine lv_iload_n hx hb dM0_fits_26 rfl (lv_at hl 1 rfl) ?_
        refine lv_aload_n hx hb dM0_fits_27 rfl (lv_at hl 0 rfl) ?_
        refine va_get (D := G.1) (ci := 1) (v := .ref (ad 3)) (C := RM0) (T := TM0) (N := 17) hx hb hts hwsM0_fits hown hK hS.w.ob 0 rfl rfl 4 (by decide) (hts (.fieldLink RM0 20 "ExactNumbersModel" "left" "[I") (by decide +kernel)) (fun _ h9 => h9) rfl dM0_fits_28 ?_
        refine mc_v0 (va_runV (As := [.int (nI i), .ref (ad 3)]) (rest := []) ⟨hx, hb, hml, hown, hts⟩ (c_M0_load_lf l G b0 Hc hS.rf hI hi) (cwV 2 hts gM0_fits_M0_load rfl rfl rfl (by decide +kernel) ⟨Nat.le_of_ble_eq_true rfl, Nat.le_of_ble_eq_true rfl⟩) (mp_V hK hS.w.ob rfl) rfl rfl hl.1 rfl (lv_room (Nat.le_of_ble_eq_true rfl)) dM0_fits_31 ⟨Nat.le_of_ble_eq_true rfl, Nat.le_of_ble_eq_true rfl⟩) hLc (fun H1 locs hP hLc => ?_)
        obtain ⟨g3, hg3, hvg3, hP⟩ := hP
        have hS : SM G b0 o ad H 0 dg bw lm g3 rt ou rs lb rb ob bL bR td tp wn tx H1 := WO.trans hS hP
        generalize H1 = Hc at hS ⊢
        have hbi := hI.b (show i < 64 by omega)
        have hzi := hI.z (show i < 64 by omega)
        have hli := hI.lt (show i < 64 by omega)
        have hvi : valM dg bw i = sg (bw i) (dl (shf dg (160 * i)) 160) := rfl
        rw [← hvg3] at hzi hli hvi
        refine lv_aload_n hx hb dM0_fits_34 rfl (lv_at hl 0 rfl) ?_
        refine va_get (D := G.1) (ci := 1) (v := .ref (ad 4)) (C := RM0) (T := TM0) (N := 17) hx hb hts hwsM0_fits hown hK hS.w.ob 0 rfl rfl 5 (by decide) (hts (.fieldLink RM0 23 "ExactNumbersModel" "right" "[I") (by decide +kernel)) (fun _ h9 => h9) rfl dM0_fits_35 ?_
        refine lv_iload_n hx hb dM0_fits_38 rfl (lv_at hl 3 rfl) ?_
        refine m_if_eq (tgt := 48) hx hb (by omega) dM0_fits_39 (by decide) (fun c39 => ?_) (fun c39 => ?_)
        · skip
          refine lv_iload_n hx hb dM0_fits_48 rfl (lv_at hl 2 rfl) ?_
          refine mc_v0 (va_runS (As := [.ref (ad 4), .int (nI w)]) (rest := []) ⟨hx, hb, hml, hown, hts⟩ (c_M0_power l G b0 Hc (hS.w.get 4 (by decide)) (hS.w.b 4 (by decide)) (by omega)) (va_cwS 2 hts gM0_fits_M0_power rfl rfl rfl (by decide +kernel) ⟨Nat.le_of_ble_eq_true rfl, Nat.le_of_ble_eq_true rfl⟩) (mp_S hK) rfl rfl hl.1 rfl (lv_room (Nat.le_of_ble_eq_true rfl)) dM0_fits_49 ⟨Nat.le_of_ble_eq_true rfl, Nat.le_of_ble_eq_true rfl⟩) hLc (fun H1 locs hP hLc => ?_)
          obtain ⟨p3, hp3, hvp3, rfl⟩ := hP
          have hS := hS.p_rt p3
          generalize hput Hc (ad 4) (aN G 330 p3) = Hc at hS ⊢
          refine lv_aload_n hx hb dM0_fits_52 rfl (lv_at hl 0 rfl) ?_
          refine va_get (D := G.1) (ci := 1) (v := .ref (ad 3)) (C := RM0) (T := TM0) (N := 17) hx hb hts hwsM0_fits hown hK hS.w.ob 0 rfl rfl 4 (by decide) (hts (.fieldLink RM0 20 "ExactNumbersModel" "left" "[I") (by decide +kernel)) (fun _ h9 => h9) rfl dM0_fits_53 ?_
          refine lv_aload_n hx hb dM0_fits_56 rfl (lv_at hl 0 rfl) ?_
          refine va_get (D := G.1) (ci := 1) (v := .ref (ad 4)) (C := RM0) (T := TM0) (N := 17) hx hb hts hwsM0_fits hown hK hS.w.ob 0 rfl rfl 5 (by decide) (hts (.fieldLink RM0 23 "ExactNumbersModel" "right" "[I") (by decide +kernel)) (fun _ h9 => h9) rfl dM0_fits_57 ?_
          refine mc_i0 (va_runS (As := [.ref (ad 3), .ref (ad 4)]) (rest := []) ⟨hx, hb, hml, hown, hts⟩ (c_M0_order l G b0 Hc (hS.w.get 3 (by decide)) (hS.w.get 4 (by decide)) hg3 hp3) (va_cwS 2 hts gM0_fits_M0_order rfl rfl rfl (by decide +kernel) ⟨Nat.le_of_ble_eq_true rfl, Nat.le_of_ble_eq_true rfl⟩) (mp_S hK) rfl rfl hl.1 rfl (lv_room (Nat.le_of_ble_eq_true rfl)) dM0_fits_60 ⟨Nat.le_of_ble_eq_true rfl, Nat.le_of_ble_eq_true rfl⟩) hLc (fun r H1 locs hP hLc => ?_)
          obtain ⟨hP, rfl⟩ := hP
          rcases hP with ⟨hor, rfl⟩ | ⟨hor, rfl⟩ | ⟨hor, rfl⟩
          · skip
            refine lv_istore (lv' := [(4, .int (-1)), (0, .ref o), (1, .int (nI i)), (2, .int (nI w)), (3, .int (nI g))]) hx hb dM0_fits_63 hl (by decide) rfl (fun ls hl => ?_)
            refine lv_aload_n hx hb dM0_fits_65 rfl (lv_at hl 1 rfl) ?_
            refine va_get (D := G.1) (ci := 1) (v := .ref (ad 1)) (C := RM0) (T := TM0) (N := 17) hx hb hts hwsM0_fits hown hK hS.w.ob 0 rfl rfl 2 (by decide) (hts (.fieldLink RM0 13 "ExactNumbersModel" "below" "[Z") (by decide +kernel)) (fun _ h9 => h9) rfl dM0_fits_66 ?_
            refine lv_iload_n hx hb dM0_fits_69 rfl (lv_at hl 2 rfl) ?_
            refine m_zald (n := 64) (f := bw) hx hb hK (hS.w.get 1 (by decide)) (by omega) (by decide) dM0_fits_70 ?_
            refine m_if_eq (tgt := 91) hx hb (by omega) dM0_fits_71 (by decide) (fun c71 => ?_) (fun c71 => ?_)
            · skip
              refine lv_iload hx hb dM0_fits_91 (lv_at hl 0 rfl) ?_
              refine lv_if_ge (tgt := 100) hx hb dM0_fits_93 (by decide) (fun h => absurd h (by decide)) (fun _ => ?_)
              refine lv_iconst (v := nI 1) hx hb dM0_fits_96 (by decide) ?_
              refine lv_goto (tgt := 101) hx hb dM0_fits_97 (by decide) ?_
              exact m_zret hx hb hr hlocks hLc (by decide) dM0_fits_101 (⟨Or.inl ⟨i, w, hi, hwlo, by omega, rfl, rfl, Or.inl ⟨rfl, by rw [hvi]; exact fit_u1 (by omega) c71 (by omega)⟩⟩, hS.r hI⟩)
            · skip
              refine lv_iload_n hx hb dM0_fits_74 rfl (lv_at hl 4 rfl) ?_
              refine m_if_eq (tgt := 87) hx hb (by omega) dM0_fits_75 (by decide) (fun c75 => ?_) (fun c75 => ?_)
              · skip
                refine lv_iconst (v := nI 0) hx hb dM0_fits_87 (by decide) ?_
                refine lv_goto (tgt := 101) hx hb dM0_fits_88 (by decide) ?_
                exact m_zret hx hb hr hlocks hLc (by decide) dM0_fits_101 (⟨Or.inl ⟨i, w, hi, hwlo, by omega, rfl, rfl, Or.inr ⟨rfl, by rw [hvi]; exact fit_u0 (by omega) hbi hzi (Or.inl c71)⟩⟩, hS.r hI⟩)
              · skip
                exact absurd c39 c75
          · skip
            refine lv_istore (lv' := [(4, .int 0), (0, .ref o), (1, .int (nI i)), (2, .int (nI w)), (3, .int (nI g))]) hx hb dM0_fits_63 hl (by decide) rfl (fun ls hl => ?_)
            refine lv_aload_n hx hb dM0_fits_65 rfl (lv_at hl 1 rfl) ?_
            refine va_get (D := G.1) (ci := 1) (v := .ref (ad 1)) (C := RM0) (T := TM0) (N := 17) hx hb hts hwsM0_fits hown hK hS.w.ob 0 rfl rfl 2 (by decide) (hts (.fieldLink RM0 13 "ExactNumbersModel" "below" "[Z") (by decide +kernel)) (fun _ h9 => h9) rfl dM0_fits_66 ?_
            refine lv_iload_n hx hb dM0_fits_69 rfl (lv_at hl 2 rfl) ?_
            refine m_zald (n := 64) (f := bw) hx hb hK (hS.w.get 1 (by decide)) (by omega) (by decide) dM0_fits_70 ?_
            refine m_if_eq (tgt := 91) hx hb (by omega) dM0_fits_71 (by decide) (fun c71 => ?_) (fun c71 => ?_)
            · skip
              refine lv_iload hx hb dM0_fits_91 (lv_at hl 0 rfl) ?_
              refine lv_if_ge (tgt := 100) hx hb dM0_fits_93 (by decide) (fun _ => ?_) (fun h => absurd (by decide) h)
              refine lv_iconst (v := nI 0) hx hb dM0_fits_100 (by decide) ?_
              exact m_zret hx hb hr hlocks hLc (by decide) dM0_fits_101 (⟨Or.inl ⟨i, w, hi, hwlo, by omega, rfl, rfl, Or.inr ⟨rfl, by rw [hvi]; exact fit_u0 (by omega) hbi hzi (Or.inr (by omega))⟩⟩, hS.r hI⟩)
            · skip
              refine lv_iload_n hx hb dM0_fits_74 rfl (lv_at hl 4 rfl) ?_
              refine m_if_eq (tgt := 87) hx hb (by omega) dM0_fits_75 (by decide) (fun c75 => ?_) (fun c75 => ?_)
              · skip
                refine lv_iconst (v := nI 0) hx hb dM0_fits_87 (by decide) ?_
                refine lv_goto (tgt := 101) hx hb dM0_fits_88 (by decide) ?_
                exact m_zret hx hb hr hlocks hLc (by decide) dM0_fits_101 (⟨Or.inl ⟨i, w, hi, hwlo, by omega, rfl, rfl, Or.inr ⟨rfl, by rw [hvi]; exact fit_u0 (by omega) hbi hzi (Or.inl c71)⟩⟩, hS.r hI⟩)
              · skip
                exact absurd c39 c75
          · skip
            refine lv_istore (lv' := [(4, .int 1), (0, .ref o), (1, .int (nI i)), (2, .int (nI w)), (3, .int (nI g))]) hx hb dM0_fits_63 hl (by decide) rfl (fun ls hl => ?_)
            refine lv_aload_n hx hb dM0_fits_65 rfl (lv_at hl 1 rfl) ?_
            refine va_get (D := G.1) (ci := 1) (v := .ref (ad 1)) (C := RM0) (T := TM0) (N := 17) hx hb hts hwsM0_fits hown hK hS.w.ob 0 rfl rfl 2 (by decide) (hts (.fieldLink RM0 13 "ExactNumbersModel" "below" "[Z") (by decide +kernel)) (fun _ h9 => h9) rfl dM0_fits_66 ?_
            refine lv_iload_n hx hb dM0_fits_69 rfl (lv_at hl 2 rfl) ?_
            refine m_zald (n := 64) (f := bw) hx hb hK (hS.w.get 1 (by decide)) (by omega) (by decide) dM0_fits_70 ?_
            refine m_if_eq (tgt := 91) hx hb (by omega) dM0_fits_71 (by decide) (fun c71 => ?_) (fun c71 => ?_)
            · skip
              refine lv_iload hx hb dM0_fits_91 (lv_at hl 0 rfl) ?_
              refine lv_if_ge (tgt := 100) hx hb dM0_fits_93 (by decide) (fun _ => ?_) (fun h => absurd (by decide) h)
              refine lv_iconst (v := nI 0) hx hb dM0_fits_100 (by decide) ?_
              exact m_zret hx hb hr hlocks hLc (by decide) dM0_fits_101 (⟨Or.inl ⟨i, w, hi, hwlo, by omega, rfl, rfl, Or.inr ⟨rfl, by rw [hvi]; exact fit_u0 (by omega) hbi hzi (Or.inr (by omega))⟩⟩, hS.r hI⟩)
            · skip
              refine lv_iload_n hx hb dM0_fits_74 rfl (lv_at hl 4 rfl) ?_
              refine m_if_eq (tgt := 87) hx hb (by omega) dM0_fits_75 (by decide) (fun c75 => ?_) (fun c75 => ?_)
              · skip
                refine lv_iconst (v := nI 0) hx hb dM0_fits_87 (by decide) ?_
                refine lv_goto (tgt := 101) hx hb dM0_fits_88 (by decide) ?_
                exact m_zret hx hb hr hlocks hLc (by decide) dM0_fits_101 (⟨Or.inl ⟨i, w, hi, hwlo, by omega, rfl, rfl, Or.inr ⟨rfl, by rw [hvi]; exact fit_u0 (by omega) hbi hzi (Or.inl c71)⟩⟩, hS.r hI⟩)
              · skip
                exact absurd c39 c75
        · skip
          refine lv_iload_n hx hb dM0_fits_42 rfl (lv_at hl 2 rfl) ?_
          refine lv_iconst (v := nI 1) hx hb dM0_fits_43 (by decide) ?_
          refine m_isub (a := w) (b := 1) hx hb (by omega) dM0_fits_44 ?_
          refine lv_goto (tgt := 49) hx hb dM0_fits_45 (by decide) ?_
          refine mc_v0 (va_runS (As := [.ref (ad 4), .int (nI (w - 1))]) (rest := []) ⟨hx, hb, hml, hown, hts⟩ (c_M0_power l G b0 Hc (hS.w.get 4 (by decide)) (hS.w.b 4 (by decide)) (by omega)) (va_cwS 2 hts gM0_fits_M0_power rfl rfl rfl (by decide +kernel) ⟨Nat.le_of_ble_eq_true rfl, Nat.le_of_ble_eq_true rfl⟩) (mp_S hK) rfl rfl hl.1 rfl (lv_room (Nat.le_of_ble_eq_true rfl)) dM0_fits_49 ⟨Nat.le_of_ble_eq_true rfl, Nat.le_of_ble_eq_true rfl⟩) hLc (fun H1 locs hP hLc => ?_)
          obtain ⟨p3, hp3, hvp3, rfl⟩ := hP
          have hS := hS.p_rt p3
          generalize hput Hc (ad 4) (aN G 330 p3) = Hc at hS ⊢
          refine lv_aload_n hx hb dM0_fits_52 rfl (lv_at hl 0 rfl) ?_
          refine va_get (D := G.1) (ci := 1) (v := .ref (ad 3)) (C := RM0) (T := TM0) (N := 17) hx hb hts hwsM0_fits hown hK hS.w.ob 0 rfl rfl 4 (by decide) (hts (.fieldLink RM0 20 "ExactNumbersModel" "left" "[I") (by decide +kernel)) (fun _ h9 => h9) rfl dM0_fits_53 ?_
          refine lv_aload_n hx hb dM0_fits_56 rfl (lv_at hl 0 rfl) ?_
          refine va_get (D := G.1) (ci := 1) (v := .ref (ad 4)) (C := RM0) (T := TM0) (N := 17) hx hb hts hwsM0_fits hown hK hS.w.ob 0 rfl rfl 5 (by decide) (hts (.fieldLink RM0 23 "ExactNumbersModel" "right" "[I") (by decide +kernel)) (fun _ h9 => h9) rfl dM0_fits_57 ?_
          refine mc_i0 (va_runS (As := [.ref (ad 3), .ref (ad 4)]) (rest := []) ⟨hx, hb, hml, hown, hts⟩ (c_M0_order l G b0 Hc (hS.w.get 3 (by decide)) (hS.w.get 4 (by decide)) hg3 hp3) (va_cwS 2 hts gM0_fits_M0_order rfl rfl rfl (by decide +kernel) ⟨Nat.le_of_ble_eq_true rfl, Nat.le_of_ble_eq_true rfl⟩) (mp_S hK) rfl rfl hl.1 rfl (lv_room (Nat.le_of_ble_eq_true rfl)) dM0_fits_60 ⟨Nat.le_of_ble_eq_true rfl, Nat.le_of_ble_eq_true rfl⟩) hLc (fun r H1 locs hP hLc => ?_)
          obtain ⟨hP, rfl⟩ := hP
          rcases hP with ⟨hor, rfl⟩ | ⟨hor, rfl⟩ | ⟨hor, rfl⟩
          · skip
            refine lv_istore (lv' := [(4, .int (-1)), (0, .ref o), (1, .int (nI i)), (2, .int (nI w)), (3, .int (nI g))]) hx hb dM0_fits_63 hl (by decide) rfl (fun ls hl => ?_)
            refine lv_aload_n hx hb dM0_fits_65 rfl (lv_at hl 1 rfl) ?_
            refine va_get (D := G.1) (ci := 1) (v := .ref (ad 1)) (C := RM0) (T := TM0) (N := 17) hx hb hts hwsM0_fits hown hK hS.w.ob 0 rfl rfl 2 (by decide) (hts (.fieldLink RM0 13 "ExactNumbersModel" "below" "[Z") (by decide +kernel)) (fun _ h9 => h9) rfl dM0_fits_66 ?_
            refine lv_iload_n hx hb dM0_fits_69 rfl (lv_at hl 2 rfl) ?_
            refine m_zald (n := 64) (f := bw) hx hb hK (hS.w.get 1 (by decide)) (by omega) (by decide) dM0_fits_70 ?_
            refine m_if_eq (tgt := 91) hx hb (by omega) dM0_fits_71 (by decide) (fun c71 => ?_) (fun c71 => ?_)
            · skip
              refine lv_iload hx hb dM0_fits_91 (lv_at hl 0 rfl) ?_
              refine lv_if_ge (tgt := 100) hx hb dM0_fits_93 (by decide) (fun h => absurd h (by decide)) (fun _ => ?_)
              refine lv_iconst (v := nI 1) hx hb dM0_fits_96 (by decide) ?_
              refine lv_goto (tgt := 101) hx hb dM0_fits_97 (by decide) ?_
              exact m_zret hx hb hr hlocks hLc (by decide) dM0_fits_101 (⟨Or.inl ⟨i, w, hi, hwlo, by omega, rfl, rfl, Or.inl ⟨rfl, by rw [hvi]; exact fit_s1 (by omega) hbi hwlo (Or.inl (by omega))⟩⟩, hS.r hI⟩)
            · skip
              refine lv_iload_n hx hb dM0_fits_74 rfl (lv_at hl 4 rfl) ?_
              refine m_if_eq (tgt := 87) hx hb (by omega) dM0_fits_75 (by decide) (fun c75 => ?_) (fun c75 => ?_)
              · skip
                exact absurd c75 c39
              · skip
                refine lv_iload hx hb dM0_fits_78 (lv_at hl 0 rfl) ?_
                refine lv_if_gt (tgt := 87) hx hb dM0_fits_80 (by decide) (fun h => absurd h (by decide)) (fun _ => ?_)
                refine lv_iconst (v := nI 1) hx hb dM0_fits_83 (by decide) ?_
                refine lv_goto (tgt := 101) hx hb dM0_fits_84 (by decide) ?_
                exact m_zret hx hb hr hlocks hLc (by decide) dM0_fits_101 (⟨Or.inl ⟨i, w, hi, hwlo, by omega, rfl, rfl, Or.inl ⟨rfl, by rw [hvi]; exact fit_s1 (by omega) hbi hwlo (by omega)⟩⟩, hS.r hI⟩)
          · skip
            refine lv_istore (lv' := [(4, .int 0), (0, .ref o), (1, .int (nI i)), (2, .int (nI w)), (3, .int (nI g))]) hx hb dM0_fits_63 hl (by decide) rfl (fun ls hl => ?_)
            refine lv_aload_n hx hb dM0_fits_65 rfl (lv_at hl 1 rfl) ?_
            refine va_get (D := G.1) (ci := 1) (v := .ref (ad 1)) (C := RM0) (T := TM0) (N := 17) hx hb hts hwsM0_fits hown hK hS.w.ob 0 rfl rfl 2 (by decide) (hts (.fieldLink RM0 13 "ExactNumbersModel" "below" "[Z") (by decide +kernel)) (fun _ h9 => h9) rfl dM0_fits_66 ?_
            refine lv_iload_n hx hb dM0_fits_69 rfl (lv_at hl 2 rfl) ?_
            refine m_zald (n := 64) (f := bw) hx hb hK (hS.w.get 1 (by decide)) (by omega) (by decide) dM0_fits_70 ?_
            refine m_if_eq (tgt := 91) hx hb (by omega) dM0_fits_71 (by decide) (fun c71 => ?_) (fun c71 => ?_)
            · skip
              refine lv_iload hx hb dM0_fits_91 (lv_at hl 0 rfl) ?_
              refine lv_if_ge (tgt := 100) hx hb dM0_fits_93 (by decide) (fun _ => ?_) (fun h => absurd (by decide) h)
              refine lv_iconst (v := nI 0) hx hb dM0_fits_100 (by decide) ?_
              exact m_zret hx hb hr hlocks hLc (by decide) dM0_fits_101 (⟨Or.inl ⟨i, w, hi, hwlo, by omega, rfl, rfl, Or.inr ⟨rfl, by rw [hvi]; exact fit_s0 (by omega) hbi hwlo (by omega) (Or.inl c71)⟩⟩, hS.r hI⟩)
            · skip
              refine lv_iload_n hx hb dM0_fits_74 rfl (lv_at hl 4 rfl) ?_
              refine m_if_eq (tgt := 87) hx hb (by omega) dM0_fits_75 (by decide) (fun c75 => ?_) (fun c75 => ?_)
              · skip
                exact absurd c75 c39
              · skip
                refine lv_iload hx hb dM0_fits_78 (lv_at hl 0 rfl) ?_
                refine lv_if_gt (tgt := 87) hx hb dM0_fits_80 (by decide) (fun h => absurd h (by decide)) (fun _ => ?_)
                refine lv_iconst (v := nI 1) hx hb dM0_fits_83 (by decide) ?_
                refine lv_goto (tgt := 101) hx hb dM0_fits_84 (by decide) ?_
                exact m_zret hx hb hr hlocks hLc (by decide) dM0_fits_101 (⟨Or.inl ⟨i, w, hi, hwlo, by omega, rfl, rfl, Or.inl ⟨rfl, by rw [hvi]; exact fit_s1 (by omega) hbi hwlo (by omega)⟩⟩, hS.r hI⟩)
          · skip
            refine lv_istore (lv' := [(4, .int 1), (0, .ref o), (1, .int (nI i)), (2, .int (nI w)), (3, .int (nI g))]) hx hb dM0_fits_63 hl (by decide) rfl (fun ls hl => ?_)
            refine lv_aload_n hx hb dM0_fits_65 rfl (lv_at hl 1 rfl) ?_
            refine va_get (D := G.1) (ci := 1) (v := .ref (ad 1)) (C := RM0) (T := TM0) (N := 17) hx hb hts hwsM0_fits hown hK hS.w.ob 0 rfl rfl 2 (by decide) (hts (.fieldLink RM0 13 "ExactNumbersModel" "below" "[Z") (by decide +kernel)) (fun _ h9 => h9) rfl dM0_fits_66 ?_
            refine lv_iload_n hx hb dM0_fits_69 rfl (lv_at hl 2 rfl) ?_
            refine m_zald (n := 64) (f := bw) hx hb hK (hS.w.get 1 (by decide)) (by omega) (by decide) dM0_fits_70 ?_
            refine m_if_eq (tgt := 91) hx hb (by omega) dM0_fits_71 (by decide) (fun c71 => ?_) (fun c71 => ?_)
            · skip
              refine lv_iload hx hb dM0_fits_91 (lv_at hl 0 rfl) ?_
              refine lv_if_ge (tgt := 100) hx hb dM0_fits_93 (by decide) (fun _ => ?_) (fun h => absurd (by decide) h)
              refine lv_iconst (v := nI 0) hx hb dM0_fits_100 (by decide) ?_
              exact m_zret hx hb hr hlocks hLc (by decide) dM0_fits_101 (⟨Or.inl ⟨i, w, hi, hwlo, by omega, rfl, rfl, Or.inr ⟨rfl, by rw [hvi]; exact fit_s0 (by omega) hbi hwlo (by omega) (Or.inl c71)⟩⟩, hS.r hI⟩)
            · skip
              refine lv_iload_n hx hb dM0_fits_74 rfl (lv_at hl 4 rfl) ?_
              refine m_if_eq (tgt := 87) hx hb (by omega) dM0_fits_75 (by decide) (fun c75 => ?_) (fun c75 => ?_)
              · skip
                exact absurd c75 c39
              · skip
                refine lv_iload hx hb dM0_fits_78 (lv_at hl 0 rfl) ?_
                refine lv_if_gt (tgt := 87) hx hb dM0_fits_80 (by decide) (fun _ => ?_) (fun h => absurd (by decide) h)
                refine lv_iconst (v := nI 0) hx hb dM0_fits_87 (by decide) ?_
                refine lv_goto (tgt := 101) hx hb dM0_fits_88 (by decide) ?_
                exact m_zret hx hb hr hlocks hLc (by decide) dM0_fits_101 (⟨Or.inl ⟨i, w, hi, hwlo, by omega, rfl, rfl, Or.inr ⟨rfl, by rw [hvi]; exact fit_s0 (by omega) hbi hwlo (by omega) (Or.inr (by omega))⟩⟩, hS.r hI⟩)
      · skip
        have hnw : ∀ w2, 1 ≤ w2 → w2 ≤ 64 → w2 < 2 ^ 31 → nI w ≠ nI w2 := gt_no hw31 (by omega)
        refine lv_iconst (v := nI 0) hx hb dM0_fits_23 (by decide) ?_
        exact m_zret hx hb hr hlocks hLc (by decide) dM0_fits_24 (⟨Or.inr ⟨by first | exact Or.inl hno | exact Or.inr hnw, rfl⟩, hS.r hI⟩)
  · skip
    refine m_if_eq (tgt := 23) hx hb (by decide) dM0_fits_9 (by decide) (fun _ => ?_) (fun h => absurd h (by decide))
    refine lv_iconst (v := nI 0) hx hb dM0_fits_23 (by decide) ?_
    exact m_zret hx hb hr hlocks hLc (by decide) dM0_fits_24 (⟨Or.inr ⟨by first | exact Or.inl hno | exact Or.inr hnw, rfl⟩, hS.r hI⟩)
