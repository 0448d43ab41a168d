set_option maxRecDepth 100000 in
set_option maxHeartbeats 4000000 in
theorem quotientOrRest_80 {p : Program} {l : Launch} {e : Env} {s : State} {m : MethodId} {args : Array Value} {below : List Frame} {meth : Method} {c : Code} {G : gG} {b0 : Nat} {H : Heap} {o : Nat} {ad : Nat → Nat} {sz : Nat → Nat → Nat} {bl : Nat → Nat} {dv : Nat → Nat} {dc : Nat} {wr : Nat → Nat} {wf : Nat} {f1 : Nat → Nat} {f2 : Nat → Nat} {fw : Nat → Nat} {k x y w ln sh : Nat} (hF : FxM p s m args meth c G cX1_quotientOrRest 8 (some .int) RX1 wsX1_quotientOrRest) (hI : IV sz bl) (hk : k < 64) (hx0 : x < 64) (hy0 : y < 64) (hw : w ≤ 1) {v2 : Nat → Nat} (hln1 : 1 ≤ ln) (hln2 : ln ≤ 16) (hsh : sh ≤ 31) (hvl : lim v2 17) (hvv : vl v2 ln = vl (sz y) 16 * 2 ^ sh) (hvt : 2147483648 ≤ v2 (ln - 1)) (hdp : 0 < vl (sz y) 16) : ∀ (t : Nat) (F Wd : Nat → Nat) (Hc : Heap), t ≤ 17 - ln → lim F 17 → lim Wd 32 → (∀ j, j < t → Wd j = 0) → vl (sz x) 16 * 2 ^ sh = vl Wd 32 * (vl (sz y) 16 * 2 ^ sh) + vl F 17 → vl F 17 < vl (sz y) 16 * 2 ^ sh * 4294967296 ^ t → SX G b0 o ad H sz bl dv dc wr wf F v2 Wd Hc → ∀ (locs : List Loc) (ls : Array Slot), lcs b0 locs → lv_has ls 8 [(0, .ref o), (1, .int (nI k)), (2, .int (nI x)), (3, .int (nI y)), (4, .int (nI w)), (5, .int (nI ln)), (6, .int (nI sh)), (7, .int (nI t - 1))] → W p l e ({ frames := 3, cells := 0, slots := 0, locals := 64 } : Room) s m args below meth c Hc locs 0 0 (MQ below (QcI (fun r H1 => (valX sz bl y = 0 ∧ r = nI 2 ∧ RX G b0 o ad H (valX sz bl) dv dc wr wf H1) ∨ (valX sz bl y ≠ 0 ∧ KX G b0 o ad H (valX sz bl) dv dc wr wf k (if w = 1 then Int.tmod (valX sz bl x) (valX sz bl y) else Int.tdiv (valX sz bl x) (valX sz bl y)) r H1))) args s 0 0 (fre b0)) (F0 m 80 ls []) := by
  obtain ⟨hx, hb, hr, hml, hown, hts, hlocks, hK⟩ := id hF
  intro t
  induction t with
  | zero =>
    intro F Wd Hc ht hFl hWl hz hA hlt hS locs ls hLc hl
    rw [Nat.pow_zero, Nat.mul_one] at hlt
    obtain ⟨hQ, hR⟩ := qr_end (Nat.pow_pos (by decide)) hA hlt
    have hbx := (hI x hx0).2.1
    have hby := (hI y hy0).2.1
    refine lv_iload hx hb dX1_quotientOrRest_80 (lv_at hl 7 rfl) ?_
    refine lv_if_lt (tgt := 113) hx hb dX1_quotientOrRest_82 (by decide) (fun _ => ?_) (fun h => absurd (by decide) h)
    refine lv_iload hx hb dX1_quotientOrRest_113 (lv_at hl 4 rfl) ?_
    refine m_if_eq (tgt := 147) hx hb (by omega) dX1_quotientOrRest_115 (by decide) (fun c115 => ?_) (fun c115 => ?_)
    · skip
      refine lv_aload_n hx hb dX1_quotientOrRest_147 rfl (lv_at hl 0 rfl) ?_
      refine lv_iload_n hx hb dX1_quotientOrRest_148 rfl (lv_at hl 1 rfl) ?_
      refine lv_aload_n hx hb dX1_quotientOrRest_149 rfl (lv_at hl 0 rfl) ?_
      refine va_get (D := G.1) (ci := 0) (v := .ref (ad 6)) (C := RX1) (T := TX1) (N := 9) hx hb hts hwsX1_quotientOrRest hown hK hS.w.ob 0 rfl rfl 8 (by decide) (hts (.fieldLink RX1 39 "ExactNumbers" "wide" "[J") (by decide +kernel)) (fun _ h9 => h9) rfl dX1_quotientOrRest_150 ?_
      refine lv_aload_n hx hb dX1_quotientOrRest_153 rfl (lv_at hl 0 rfl) ?_
      refine va_get (D := G.1) (ci := 0) (v := .ref (ad 1)) (C := RX1) (T := TX1) (N := 9) hx hb hts hwsX1_quotientOrRest hown hK hS.w.ob 0 rfl rfl 1 (by decide) (hts (.fieldLink RX1 14 "ExactNumbers" "below" "[Z") (by decide +kernel)) (fun _ h9 => h9) rfl dX1_quotientOrRest_154 ?_
      refine lv_iload_n hx hb dX1_quotientOrRest_157 rfl (lv_at hl 2 rfl) ?_
      refine m_zald (n := 64) (f := bl) hx hb hK (hS.w.get 1 (by decide)) (by omega) (by decide) dX1_quotientOrRest_158 ?_
      refine lv_aload_n hx hb dX1_quotientOrRest_159 rfl (lv_at hl 0 rfl) ?_
      refine va_get (D := G.1) (ci := 0) (v := .ref (ad 1)) (C := RX1) (T := TX1) (N := 9) hx hb hts hwsX1_quotientOrRest hown hK hS.w.ob 0 rfl rfl 1 (by decide) (hts (.fieldLink RX1 14 "ExactNumbers" "below" "[Z") (by decide +kernel)) (fun _ h9 => h9) rfl dX1_quotientOrRest_160 ?_
      refine lv_iload_n hx hb dX1_quotientOrRest_163 rfl (lv_at hl 3 rfl) ?_
      refine m_zald (n := 64) (f := bl) hx hb hK (hS.w.get 1 (by decide)) (by omega) (by decide) dX1_quotientOrRest_164 ?_
      refine m_icmp_eq (tgt := 172) hx hb (by omega) (by omega) dX1_quotientOrRest_165 (by decide) (fun c165 => ?_) (fun c165 => ?_)
      · skip
        refine lv_iconst (v := nI 0) hx hb dX1_quotientOrRest_172 (by decide) ?_
        refine mc_i0 (va_runV (As := [.int (nI k), .ref (ad 6), .int (nI 0)]) (rest := []) ⟨hx, hb, hml, hown, hts⟩ (c_X1_store l G b0 Hc hS.rf hI k hk (hS.w.get 6 (by decide)) (by decide) (by decide) hWl (by decide)) (cwV 3 hts gX1_quotientOrRest_X1_store rfl rfl rfl (by decide +kernel) ⟨Nat.le_of_ble_eq_true rfl, Nat.le_of_ble_eq_true rfl⟩) (mp_V hK hS.w.ob rfl) rfl rfl hl.1 rfl (lv_room (Nat.le_of_ble_eq_true rfl)) dX1_quotientOrRest_173 ⟨Nat.le_of_ble_eq_true rfl, Nat.le_of_ble_eq_true rfl⟩) hLc (fun r H1 locs hP hLc => ?_)
        exact m_iret hx hb hr hlocks hLc dX1_quotientOrRest_176 (Or.inr ⟨fun e => Nat.ne_of_gt hdp (sg_zero.mp e), (KX.trans hS hP).val (by rw [if_neg (by omega), hQ]; exact (congrArg (fun z => sg z _) ((if_pos c165).symm)).trans (tdiv_sg _ _ _ _ hbx hby)) (fun _ _ => rfl)⟩)
      · skip
        refine lv_iconst (v := nI 1) hx hb dX1_quotientOrRest_168 (by decide) ?_
        refine lv_goto (tgt := 173) hx hb dX1_quotientOrRest_169 (by decide) ?_
        refine mc_i0 (va_runV (As := [.int (nI k), .ref (ad 6), .int (nI 1)]) (rest := []) ⟨hx, hb, hml, hown, hts⟩ (c_X1_store l G b0 Hc hS.rf hI k hk (hS.w.get 6 (by decide)) (by decide) (by decide) hWl (by decide)) (cwV 3 hts gX1_quotientOrRest_X1_store rfl rfl rfl (by decide +kernel) ⟨Nat.le_of_ble_eq_true rfl, Nat.le_of_ble_eq_true rfl⟩) (mp_V hK hS.w.ob rfl) rfl rfl hl.1 rfl (lv_room (Nat.le_of_ble_eq_true rfl)) dX1_quotientOrRest_173 ⟨Nat.le_of_ble_eq_true rfl, Nat.le_of_ble_eq_true rfl⟩) hLc (fun r H1 locs hP hLc => ?_)
        exact m_iret hx hb hr hlocks hLc dX1_quotientOrRest_176 (Or.inr ⟨fun e => Nat.ne_of_gt hdp (sg_zero.mp e), (KX.trans hS hP).val (by rw [if_neg (by omega), hQ]; exact (congrArg (fun z => sg z _) ((if_neg c165).symm)).trans (tdiv_sg _ _ _ _ hbx hby)) (fun _ _ => rfl)⟩)
    · skip
      refine lv_aload_n hx hb dX1_quotientOrRest_118 rfl (lv_at hl 0 rfl) ?_
      refine va_get (D := G.1) (ci := 0) (v := .ref (ad 4)) (C := RX1) (T := TX1) (N := 9) hx hb hts hwsX1_quotientOrRest hown hK hS.w.ob 0 rfl rfl 6 (by decide) (hts (.fieldLink RX1 32 "ExactNumbers" "first" "[J") (by decide +kernel)) (fun _ h9 => h9) rfl dX1_quotientOrRest_119 ?_
      refine lv_iload hx hb dX1_quotientOrRest_122 (lv_at hl 6 rfl) ?_
      refine lv_aload_n hx hb dX1_quotientOrRest_124 rfl (lv_at hl 0 rfl) ?_
      refine va_get (D := G.1) (ci := 0) (v := .ref (ad 6)) (C := RX1) (T := TX1) (N := 9) hx hb hts hwsX1_quotientOrRest hown hK hS.w.ob 0 rfl rfl 8 (by decide) (hts (.fieldLink RX1 39 "ExactNumbers" "wide" "[J") (by decide +kernel)) (fun _ h9 => h9) rfl dX1_quotientOrRest_125 ?_
      refine mc_v0 (va_runS (As := [.ref (ad 4), .int (nI sh), .ref (ad 6)]) (rest := []) ⟨hx, hb, hml, hown, hts⟩ (c_X0_moveDown l G b0 Hc (hS.w.get 4 (by decide)) (hS.w.get 6 (by decide)) (by decide) (by decide) (by omega) hFl (hS.w.ne (by decide) (by decide) (by decide)) (hS.w.b 6 (by decide))) (va_cwS 3 hts gX1_quotientOrRest_X0_moveDown rfl rfl rfl (by decide +kernel) ⟨Nat.le_of_ble_eq_true rfl, Nat.le_of_ble_eq_true rfl⟩) (mp_S hK) rfl rfl hl.1 rfl (lv_room (Nat.le_of_ble_eq_true rfl)) dX1_quotientOrRest_128 ⟨Nat.le_of_ble_eq_true rfl, Nat.le_of_ble_eq_true rfl⟩) hLc (fun H1 locs hP hLc => ?_)
      obtain ⟨g2, hg2, rfl⟩ := hP
      have hl2 := lim_digits hg2
      have hv2 : vl g2 32 = vl (sz x) 16 % vl (sz y) 16 := by rw [vl_digits hg2, hR]; exact Nat.mod_eq_of_lt (Nat.lt_of_le_of_lt (Nat.mod_le _ _) (Nat.lt_trans (hI.lt hx0) (by decide +kernel)))
      have hS := hS.p_fw g2
      generalize hput Hc (ad 6) (aJ G 32 g2) = Hc at hS ⊢
      refine lv_aload_n hx hb dX1_quotientOrRest_131 rfl (lv_at hl 0 rfl) ?_
      refine lv_iload_n hx hb dX1_quotientOrRest_132 rfl (lv_at hl 1 rfl) ?_
      refine lv_aload_n hx hb dX1_quotientOrRest_133 rfl (lv_at hl 0 rfl) ?_
      refine va_get (D := G.1) (ci := 0) (v := .ref (ad 6)) (C := RX1) (T := TX1) (N := 9) hx hb hts hwsX1_quotientOrRest hown hK hS.w.ob 0 rfl rfl 8 (by decide) (hts (.fieldLink RX1 39 "ExactNumbers" "wide" "[J") (by decide +kernel)) (fun _ h9 => h9) rfl dX1_quotientOrRest_134 ?_
      refine lv_aload_n hx hb dX1_quotientOrRest_137 rfl (lv_at hl 0 rfl) ?_
      refine va_get (D := G.1) (ci := 0) (v := .ref (ad 1)) (C := RX1) (T := TX1) (N := 9) hx hb hts hwsX1_quotientOrRest hown hK hS.w.ob 0 rfl rfl 1 (by decide) (hts (.fieldLink RX1 14 "ExactNumbers" "below" "[Z") (by decide +kernel)) (fun _ h9 => h9) rfl dX1_quotientOrRest_138 ?_
      refine lv_iload_n hx hb dX1_quotientOrRest_141 rfl (lv_at hl 2 rfl) ?_
      refine m_zald (n := 64) (f := bl) hx hb hK (hS.w.get 1 (by decide)) (by omega) (by decide) dX1_quotientOrRest_142 ?_
      refine mc_i0 (va_runV (As := [.int (nI k), .ref (ad 6), .int (nI (bl x))]) (rest := []) ⟨hx, hb, hml, hown, hts⟩ (c_X1_store l G b0 Hc hS.rf hI k hk (hS.w.get 6 (by decide)) (by decide) (by decide) hl2 hbx) (cwV 3 hts gX1_quotientOrRest_X1_store rfl rfl rfl (by decide +kernel) ⟨Nat.le_of_ble_eq_true rfl, Nat.le_of_ble_eq_true rfl⟩) (mp_V hK hS.w.ob rfl) rfl rfl hl.1 rfl (lv_room (Nat.le_of_ble_eq_true rfl)) dX1_quotientOrRest_143 ⟨Nat.le_of_ble_eq_true rfl, Nat.le_of_ble_eq_true rfl⟩) hLc (fun r H1 locs hP hLc => ?_)
      exact m_iret hx hb hr hlocks hLc dX1_quotientOrRest_146 (Or.inr ⟨fun e => Nat.ne_of_gt hdp (sg_zero.mp e), (KX.trans hS hP).val (by rw [if_pos (by omega), hv2]; exact tmod_sg _ _ _ _ hbx hby) (fun _ _ => rfl)⟩)
  | succ t ih =>
    intro F Wd Hc ht hFl hWl hz hA hlt hS locs ls hLc hl
    rw [nI_pred] at hl
    have hD0 : 0 < vl (sz y) 16 * 2 ^ sh := Nat.mul_pos hdp (Nat.pow_pos (by decide))
    have hDB : vl (sz y) 16 * 2 ^ sh < 4294967296 ^ ln := by rw [← hvv]; exact vl_lt (lim_le hvl (by omega))
    have hz0 := hz t (by omega)
    refine lv_iload hx hb dX1_quotientOrRest_80 (lv_at hl 7 rfl) ?_
    refine lv_if_lt (tgt := 113) hx hb dX1_quotientOrRest_82 (by decide) (fun h => absurd h (nI_pos (by omega))) (fun _ => ?_)
    refine lv_aload_n hx hb dX1_quotientOrRest_85 rfl (lv_at hl 0 rfl) ?_
    refine va_get (D := G.1) (ci := 0) (v := .ref (ad 6)) (C := RX1) (T := TX1) (N := 9) hx hb hts hwsX1_quotientOrRest hown hK hS.w.ob 0 rfl rfl 8 (by decide) (hts (.fieldLink RX1 39 "ExactNumbers" "wide" "[J") (by decide +kernel)) (fun _ h9 => h9) rfl dX1_quotientOrRest_86 ?_
    refine lv_iload hx hb dX1_quotientOrRest_89 (lv_at hl 7 rfl) ?_
    refine lv_aload_n hx hb dX1_quotientOrRest_91 rfl (lv_at hl 0 rfl) ?_
    refine va_get (D := G.1) (ci := 0) (v := .ref (ad 4)) (C := RX1) (T := TX1) (N := 9) hx hb hts hwsX1_quotientOrRest hown hK hS.w.ob 0 rfl rfl 6 (by decide) (hts (.fieldLink RX1 32 "ExactNumbers" "first" "[J") (by decide +kernel)) (fun _ h9 => h9) rfl dX1_quotientOrRest_92 ?_
    refine lv_aload_n hx hb dX1_quotientOrRest_95 rfl (lv_at hl 0 rfl) ?_
    refine va_get (D := G.1) (ci := 0) (v := .ref (ad 5)) (C := RX1) (T := TX1) (N := 9) hx hb hts hwsX1_quotientOrRest hown hK hS.w.ob 0 rfl rfl 7 (by decide) (hts (.fieldLink RX1 36 "ExactNumbers" "second" "[J") (by decide +kernel)) (fun _ h9 => h9) rfl dX1_quotientOrRest_96 ?_
    refine lv_iload hx hb dX1_quotientOrRest_99 (lv_at hl 5 rfl) ?_
    refine lv_iload hx hb dX1_quotientOrRest_101 (lv_at hl 7 rfl) ?_
    refine mc_l0 (va_runS (As := [.ref (ad 4), .ref (ad 5), .int (nI ln), .int (nI t)]) (rest := [.int (nI t), .ref (ad 6)]) ⟨hx, hb, hml, hown, hts⟩ (c_X0_takeOut l G b0 Hc (hS.w.get 4 (by decide)) (hS.w.get 5 (by decide)) (by decide) (by decide) hFl hvl (hS.w.b 4 (by decide)) (hS.w.ne (by decide) (by decide) (by decide)) (by omega) (by omega) hln1 hvt (by rw [hvv]; exact (qr_hlt hFl (by omega) hlt hDB).2.2)) (va_cwS 4 hts gX1_quotientOrRest_X0_takeOut rfl rfl rfl (by decide +kernel) ⟨Nat.le_of_ble_eq_true rfl, Nat.le_of_ble_eq_true rfl⟩) (mp_S hK) rfl rfl hl.1 rfl (lv_room (Nat.le_of_ble_eq_true rfl)) dX1_quotientOrRest_103 ⟨Nat.le_of_ble_eq_true rfl, Nat.le_of_ble_eq_true rfl⟩) hLc (fun r H1 locs hP hLc => ?_)
    obtain ⟨rfl, F2, hF2, hs2, hv2, rfl⟩ := hP
    rw [hvv] at hv2 ⊢
    obtain ⟨hA2, hlt2, hqB⟩ := qr_step hFl (by omega) hlt hDB hD0 hs2 hv2
    have hS := hS.p_f1 F2
    generalize hput Hc (ad 4) (aJ G 17 F2) = Hc at hS ⊢
    refine m_last (n := 32) (f := Wd) (b0 := b0) hx hb hK (hS.w.get 6 (by decide)) (by omega) (by decide) (hS.w.b 6 (by decide)) hLc dX1_quotientOrRest_106 (fun locs hLc => ?_)
    have hS := hS.p_fw (fup Wd t (vl (shf F t) (ln + 1) / (vl (sz y) 16 * 2 ^ sh)))
    generalize hput Hc (ad 6) (aJ G 32 (fup Wd t (vl (shf F t) (ln + 1) / (vl (sz y) 16 * 2 ^ sh)))) = Hc at hS ⊢
    refine lv_iinc (v := nI t - 1) (lv' := [(7, .int (nI t - 1)), (0, .ref o), (1, .int (nI k)), (2, .int (nI x)), (3, .int (nI y)), (4, .int (nI w)), (5, .int (nI ln)), (6, .int (nI sh))]) hx hb dX1_quotientOrRest_107 hl (k := 7) rfl (nI_decI _) (by decide) rfl (fun ls hl => ?_)
    refine lv_goto (tgt := 80) hx hb dX1_quotientOrRest_110 (by decide) ?_
    exact ih F2 _ _ (by omega) hF2 (lim_fup hWl hqB) (fun j hj => by rw [fup_n _ _ (by omega)]; exact hz j (by omega)) (qr_put (by omega) hz0 hA hA2) hlt2 hS _ _ hLc (lv_sub hl [1, 2, 3, 4, 5, 6, 7, 0] rfl)
set_option maxRecDepth 100000 in
set_option maxHeartbeats 4000000 in
theorem c_X1_quotientOrRest (l : Launch) (G : gG) (b0 : Nat) (H : Heap) {o : Nat} {ad : Nat → Nat} {sz : Nat → Nat → Nat} {bl : Nat → Nat} {dv : Nat → Nat} {dc : Nat} {wr : Nat → Nat} {wf : Nat} {f1 : Nat → Nat} {f2 : Nat → Nat} {fw : Nat → Nat} (hS : SX G b0 o ad H sz bl dv dc wr wf f1 f2 fw H) (hI : IV sz bl) {k x y w : Nat} (hk : k < 64) (hx0 : x < 64) (hy0 : y < 64) (hw : w ≤ 1) : Met l yX1_quotientOrRest wsX1_quotientOrRest ({ frames := 3, cells := 0, slots := 0, locals := 64 } : Room) (PcH G H [.ref o, .int (nI k), .int (nI x), .int (nI y), .int (nI w)]) (QcI (fun r H1 => (valX sz bl y = 0 ∧ r = nI 2 ∧ RX G b0 o ad H (valX sz bl) dv dc wr wf H1) ∨ (valX sz bl y ≠ 0 ∧ KX G b0 o ad H (valX sz bl) dv dc wr wf k (if w = 1 then Int.tmod (valX sz bl x) (valX sz bl y) else Int.tdiv (valX sz bl x) (valX sz bl y)) r H1))) 0 0 (fre b0) := by
  refine m_enter (cc := cX1_quotientOrRest) (maxL := 8) (ret := (some .int)) (own := RX1) (by decide) rfl rfl (Nat.le_of_ble_eq_true rfl) ?_
  intro p e s m below meth c ls hF hnm hH hl
  have hl : lv_has ls 8 [(0, .ref o), (1, .int (nI k)), (2, .int (nI x)), (3, .int (nI y)), (4, .int (nI w))] := hl
  have hLc : lcs b0 [] := lcs_nil b0
  obtain ⟨hx, hb, hr, hml, hown, hts, hlocks, hK⟩ := id hF
  have hul := us_le (sz y) 16
  refine lv_aload_n hx hb dX1_quotientOrRest_0 rfl (lv_at hl 0 rfl) ?_
  refine va_get (D := G.1) (ci := 0) (v := .ref (ad 0)) (C := RX1) (T := TX1) (N := 9) hx hb hts hwsX1_quotientOrRest hown hK hS.w.ob 0 rfl rfl 0 (by decide) (hts (.fieldLink RX1 11 "ExactNumbers" "sizes" "[[J") (by decide +kernel)) (fun _ h9 => h9) rfl dX1_quotientOrRest_1 ?_
  refine lv_iload_n hx hb dX1_quotientOrRest_4 rfl (lv_at hl 3 rfl) ?_
  refine m_aald (n := 64) (f := (fun i => ad (i + 7))) hx hb hK (hS.w.get 0 (by decide)) (by omega) (by decide) dX1_quotientOrRest_5 ?_
  refine mc_i0 (va_runS (As := [.ref (ad (y + 7))]) (rest := []) ⟨hx, hb, hml, hown, hts⟩ (c_X0_used l G b0 H (hS.w.get (y + 7) (by omega)) (by decide) (hI y hy0).1) (va_cwS 1 hts gX1_quotientOrRest_X0_used rfl rfl rfl (by decide +kernel) ⟨Nat.le_of_ble_eq_true rfl, Nat.le_of_ble_eq_true rfl⟩) (mp_S hK) rfl rfl hl.1 rfl (lv_room (Nat.le_of_ble_eq_true rfl)) dX1_quotientOrRest_6 ⟨Nat.le_of_ble_eq_true rfl, Nat.le_of_ble_eq_true rfl⟩) hLc (fun r H1 locs hP hLc => ?_)
  obtain ⟨rfl, rfl⟩ := hP
  refine lv_istore (lv' := [(5, .int (nI (us (sz y) 16))), (0, .ref o), (1, .int (nI k)), (2, .int (nI x)), (3, .int (nI y)), (4, .int (nI w))]) hx hb dX1_quotientOrRest_9 hl (by decide) rfl (fun ls hl => ?_)
  refine lv_iload hx hb dX1_quotientOrRest_11 (lv_at hl 0 rfl) ?_
  refine m_if_ne (tgt := 18) hx hb (by omega) dX1_quotientOrRest_13 (by decide) (fun c13 => ?_) (fun c13 => ?_)
  · skip
    have hdp : 0 < vl (sz y) 16 := Nat.pos_of_ne_zero (fun e => c13 ((us_0 _ _).mpr e))
    refine lv_iload hx hb dX1_quotientOrRest_18 (lv_at hl 0 rfl) ?_
    refine lv_bipush (v := nI 32) hx hb dX1_quotientOrRest_20 (by decide) ?_
    refine m_imul (a := us (sz y) 16) (b := 32) hx hb dX1_quotientOrRest_22 ?_
    refine lv_aload_n hx hb dX1_quotientOrRest_23 rfl (lv_at hl 1 rfl) ?_
    refine va_get (D := G.1) (ci := 0) (v := .ref (ad 0)) (C := RX1) (T := TX1) (N := 9) hx hb hts hwsX1_quotientOrRest hown hK hS.w.ob 0 rfl rfl 0 (by decide) (hts (.fieldLink RX1 11 "ExactNumbers" "sizes" "[[J") (by decide +kernel)) (fun _ h9 => h9) rfl dX1_quotientOrRest_24 ?_
    refine lv_iload_n hx hb dX1_quotientOrRest_27 rfl (lv_at hl 4 rfl) ?_
    refine m_aald (n := 64) (f := (fun i => ad (i + 7))) hx hb hK (hS.w.get 0 (by decide)) (by omega) (by decide) dX1_quotientOrRest_28 ?_
    refine mc_i0 (va_runS (As := [.ref (ad (y + 7))]) (rest := [.int (nI ((us (sz y) 16) * 32))]) ⟨hx, hb, hml, hown, hts⟩ (c_X0_bitLength l G b0 H (hS.w.get (y + 7) (by omega)) (by decide) (hI y hy0).1) (va_cwS 1 hts gX1_quotientOrRest_X0_bitLength rfl rfl rfl (by decide +kernel) ⟨Nat.le_of_ble_eq_true rfl, Nat.le_of_ble_eq_true rfl⟩) (mp_S hK) rfl rfl hl.1 rfl (lv_room (Nat.le_of_ble_eq_true rfl)) dX1_quotientOrRest_29 ⟨Nat.le_of_ble_eq_true rfl, Nat.le_of_ble_eq_true rfl⟩) hLc (fun r H1 locs hP hLc => ?_)
    obtain ⟨⟨b, rfl, hb3, hbl⟩, rfl⟩ := hP
    obtain ⟨hbm, hl31, hD1, hD2⟩ := qr_lift (hI y hy0).1 c13 hbl
    refine m_isub (a := (us (sz y) 16) * 32) (b := b) hx hb (by omega) dX1_quotientOrRest_32 ?_
    refine lv_istore (lv' := [(6, .int (nI (((us (sz y) 16) * 32) - b))), (5, .int (nI (us (sz y) 16))), (0, .ref o), (1, .int (nI k)), (2, .int (nI x)), (3, .int (nI y)), (4, .int (nI w))]) hx hb dX1_quotientOrRest_33 hl (by decide) rfl (fun ls hl => ?_)
    refine lv_aload_n hx hb dX1_quotientOrRest_35 rfl (lv_at hl 2 rfl) ?_
    refine va_get (D := G.1) (ci := 0) (v := .ref (ad 0)) (C := RX1) (T := TX1) (N := 9) hx hb hts hwsX1_quotientOrRest hown hK hS.w.ob 0 rfl rfl 0 (by decide) (hts (.fieldLink RX1 11 "ExactNumbers" "sizes" "[[J") (by decide +kernel)) (fun _ h9 => h9) rfl dX1_quotientOrRest_36 ?_
    refine lv_iload_n hx hb dX1_quotientOrRest_39 rfl (lv_at hl 4 rfl) ?_
    refine m_aald (n := 64) (f := (fun i => ad (i + 7))) hx hb hK (hS.w.get 0 (by decide)) (by omega) (by decide) dX1_quotientOrRest_40 ?_
    refine lv_iload hx hb dX1_quotientOrRest_41 (lv_at hl 0 rfl) ?_
    refine lv_aload_n hx hb dX1_quotientOrRest_43 rfl (lv_at hl 2 rfl) ?_
    refine va_get (D := G.1) (ci := 0) (v := .ref (ad 4)) (C := RX1) (T := TX1) (N := 9) hx hb hts hwsX1_quotientOrRest hown hK hS.w.ob 0 rfl rfl 6 (by decide) (hts (.fieldLink RX1 32 "ExactNumbers" "first" "[J") (by decide +kernel)) (fun _ h9 => h9) rfl dX1_quotientOrRest_44 ?_
    refine mc_v0 (va_runS (As := [.ref (ad (x + 7)), .int (nI (((us (sz y) 16) * 32) - b)), .ref (ad 4)]) (rest := []) ⟨hx, hb, hml, hown, hts⟩ (c_X0_moveUp l G b0 H (hS.w.get (x + 7) (by omega)) (hS.w.get 4 (by decide)) (by decide) (by decide) (by omega) (hI x hx0).1 (hS.w.ne (by omega) (by decide) (by omega)) (hS.w.b 4 (by decide))) (va_cwS 3 hts gX1_quotientOrRest_X0_moveUp rfl rfl rfl (by decide +kernel) ⟨Nat.le_of_ble_eq_true rfl, Nat.le_of_ble_eq_true rfl⟩) (mp_S hK) rfl rfl hl.1 rfl (lv_room (Nat.le_of_ble_eq_true rfl)) dX1_quotientOrRest_47 ⟨Nat.le_of_ble_eq_true rfl, Nat.le_of_ble_eq_true rfl⟩) hLc (fun H1 locs hP hLc => ?_)
    obtain ⟨F, hgF, rfl⟩ := hP
    obtain ⟨hFl, hFv, hFlt⟩ := qr_first (by omega) hul (hI.lt hx0) hl31 hgF hD1
    have hS := hS.p_f1 F
    generalize hput H (ad 4) (aJ G 17 F) = Hc at hS ⊢
    refine lv_aload_n hx hb dX1_quotientOrRest_50 rfl (lv_at hl 2 rfl) ?_
    refine va_get (D := G.1) (ci := 0) (v := .ref (ad 0)) (C := RX1) (T := TX1) (N := 9) hx hb hts hwsX1_quotientOrRest hown hK hS.w.ob 0 rfl rfl 0 (by decide) (hts (.fieldLink RX1 11 "ExactNumbers" "sizes" "[[J") (by decide +kernel)) (fun _ h9 => h9) rfl dX1_quotientOrRest_51 ?_
    refine lv_iload_n hx hb dX1_quotientOrRest_54 rfl (lv_at hl 5 rfl) ?_
    refine m_aald (n := 64) (f := (fun i => ad (i + 7))) hx hb hK (hS.w.get 0 (by decide)) (by omega) (by decide) dX1_quotientOrRest_55 ?_
    refine lv_iload hx hb dX1_quotientOrRest_56 (lv_at hl 0 rfl) ?_
    refine lv_aload_n hx hb dX1_quotientOrRest_58 rfl (lv_at hl 2 rfl) ?_
    refine va_get (D := G.1) (ci := 0) (v := .ref (ad 5)) (C := RX1) (T := TX1) (N := 9) hx hb hts hwsX1_quotientOrRest hown hK hS.w.ob 0 rfl rfl 7 (by decide) (hts (.fieldLink RX1 36 "ExactNumbers" "second" "[J") (by decide +kernel)) (fun _ h9 => h9) rfl dX1_quotientOrRest_59 ?_
    refine mc_v0 (va_runS (As := [.ref (ad (y + 7)), .int (nI (((us (sz y) 16) * 32) - b)), .ref (ad 5)]) (rest := []) ⟨hx, hb, hml, hown, hts⟩ (c_X0_moveUp l G b0 Hc (hS.w.get (y + 7) (by omega)) (hS.w.get 5 (by decide)) (by decide) (by decide) (by omega) (hI y hy0).1 (hS.w.ne (by omega) (by decide) (by omega)) (hS.w.b 5 (by decide))) (va_cwS 3 hts gX1_quotientOrRest_X0_moveUp rfl rfl rfl (by decide +kernel) ⟨Nat.le_of_ble_eq_true rfl, Nat.le_of_ble_eq_true rfl⟩) (mp_S hK) rfl rfl hl.1 rfl (lv_room (Nat.le_of_ble_eq_true rfl)) dX1_quotientOrRest_62 ⟨Nat.le_of_ble_eq_true rfl, Nat.le_of_ble_eq_true rfl⟩) hLc (fun H1 locs hP hLc => ?_)
    obtain ⟨v2, hgv, rfl⟩ := hP
    obtain ⟨hvl, hvv, hvt⟩ := qr_second (by omega) hul hgv hD1 hD2
    have hS := hS.p_f2 v2
    generalize hput Hc (ad 5) (aJ G 17 v2) = Hc at hS ⊢
    refine lv_aload_n hx hb dX1_quotientOrRest_65 rfl (lv_at hl 2 rfl) ?_
    refine va_get (D := G.1) (ci := 0) (v := .ref (ad 6)) (C := RX1) (T := TX1) (N := 9) hx hb hts hwsX1_quotientOrRest hown hK hS.w.ob 0 rfl rfl 8 (by decide) (hts (.fieldLink RX1 39 "ExactNumbers" "wide" "[J") (by decide +kernel)) (fun _ h9 => h9) rfl dX1_quotientOrRest_66 ?_
    refine lv_lconst (v := lN 0) hx hb dX1_quotientOrRest_69 (by decide) ?_
    refine mc_v0 (va_runS (As := [.ref (ad 6), .long (lN 0)]) (rest := []) ⟨hx, hb, hml, hown, hts⟩ (c_J7_fill_d0a16 l G b0 Hc (hS.w.get 6 (by decide)) (by decide) (hS.w.b 6 (by decide))) (va_cwS 2 hts gX1_quotientOrRest_J7_fill_d0a16 rfl rfl rfl (by decide +kernel) ⟨Nat.le_of_ble_eq_true rfl, Nat.le_of_ble_eq_true rfl⟩) (mp_S hK) rfl rfl hl.1 rfl (lv_room (Nat.le_of_ble_eq_true rfl)) dX1_quotientOrRest_70 ⟨Nat.le_of_ble_eq_true rfl, Nat.le_of_ble_eq_true rfl⟩) hLc (fun H1 locs hP hLc => ?_)
    subst hP
    have hS := hS.p_fw (fun _ => 0)
    generalize hput Hc (ad 6) (aJ G 32 (fun _ => 0)) = Hc at hS ⊢
    refine lv_bipush (v := nI 16) hx hb dX1_quotientOrRest_73 (by decide) ?_
    refine lv_iload hx hb dX1_quotientOrRest_75 (lv_at hl 1 rfl) ?_
    refine m_isub (a := 16) (b := us (sz y) 16) hx hb (by omega) dX1_quotientOrRest_77 ?_
    refine lv_istore (lv' := [(7, .int (nI (16 - (us (sz y) 16)))), (6, .int (nI (((us (sz y) 16) * 32) - b))), (5, .int (nI (us (sz y) 16))), (0, .ref o), (1, .int (nI k)), (2, .int (nI x)), (3, .int (nI y)), (4, .int (nI w))]) hx hb dX1_quotientOrRest_78 hl (by decide) rfl (fun ls hl => ?_)
    rw [show nI (16 - us (sz y) 16) = nI (17 - us (sz y) 16) - 1 from by rw [show 17 - us (sz y) 16 = 16 - us (sz y) 16 + 1 by omega, nI_pred]] at hl
    exact quotientOrRest_80 (ln := us (sz y) 16) (sh := us (sz y) 16 * 32 - b) (f1 := f1) (f2 := f2) (fw := fw) hF hI hk hx0 hy0 hw (by omega) hul hl31 hvl hvv hvt hdp (17 - us (sz y) 16) F (fun _ => 0) _ (Nat.le_refl _) hFl (fun j _ => (by decide : 0 < 4294967296)) (fun j _ => rfl) (by rw [hFv, vl_zero_iff.mpr (fun j _ => rfl), Nat.zero_mul, Nat.zero_add]) hFlt hS _ _ hLc (lv_sub hl [3, 4, 5, 6, 7, 2, 1, 0] rfl)
  · skip
    refine lv_iconst (v := nI 2) hx hb dX1_quotientOrRest_16 (by decide) ?_
    exact m_iret hx hb hr hlocks hLc dX1_quotientOrRest_17 (Or.inl ⟨sg_zero.mpr ((us_0 _ _).mp c13), rfl, hS.r hI⟩)
