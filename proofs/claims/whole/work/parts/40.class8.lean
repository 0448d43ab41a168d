set_option maxRecDepth 100000 in
set_option maxHeartbeats 4000000 in
theorem write_121 {p : Program} {l : Launch} {e : Env} {s : State} {m : MethodId} {args : Array Value} {below : List Frame} {meth : Method} {c : Code} {G : gG} {b0 : Nat} {H : Heap} {o : Nat} {ad : Nat → Nat} {sz : Nat → Nat → Nat} {bl : Nat → Nat} {dv : Nat → Nat} {dc : Nat} {wr : Nat → Nat} {wf : Nat} {f1 : Nat → Nat} {f2 : Nat → Nat} {fw : Nat → Nat} {i b e0 : Nat} {F w2 : Nat → Nat} {Hc : Heap} {x y : Int32} (hF : FxM p s m args meth c G cX1_write 10 (some .int) RX1 wsX1_write) (hI : IV sz bl) (hi : i ≤ 63) (hb2 : 2 ≤ b) (hb36 : b ≤ 36) (hxi : x = nI i) (hyb : y = nI b) (he0 : e0 ≤ 512) (h0 : vl (sz i) 16 / b ^ e0 = 0) (hmin : e0 = 0 ∨ b ^ (e0 - 1) ≤ vl (sz i) 16) (hk : ∀ z, z < e0 → w2 (512 - z) = chd (vl (sz i) 16 / b ^ z % b)) (hS : SX G b0 o ad H sz bl dv dc w2 (513 - e0) F f2 fw Hc) : ∀ (locs : List Loc) (ls : Array Slot), lcs b0 locs → lv_has ls 10 [(0, .ref o), (1, .int (nI i)), (2, .int (nI b))] → W p l e ({ frames := 2, cells := 0, slots := 0, locals := 49 } : Room) s m args below meth c Hc locs 0 0 (MQ below (QcI (fun r H1 => (∃ i b n len, i ≤ 63 ∧ 2 ≤ b ∧ b ≤ 36 ∧ x = nI i ∧ y = nI b ∧ isND n b (valX sz bl i).natAbs ∧ len = n + (if valX sz bl i < 0 then 1 else 0) ∧ len ≤ 513 ∧ r = nI len ∧ ∃ wr2 : Nat → Nat, (∀ e, e < len → wr2 (512 - e) = tch b (valX sz bl i) n e) ∧ RX G b0 o ad H (valX sz bl) dv dc wr2 (513 - len) H1) ∨ ((noslot x ∨ (∀ b, 2 ≤ b → b ≤ 36 → b < 2 ^ 31 → y ≠ nI b)) ∧ r = -3 ∧ RX G b0 o ad H (valX sz bl) dv dc wr wf H1))) args s 0 0 (fre b0)) (F0 m 121 ls []) := by
  obtain ⟨hx, hb, hr, hml, hown, hts, hlocks, hK⟩ := id hF
  intro locs ls hLc hl
  have hbb := (hI i (by omega)).2.1
  have hnz := (hI i (by omega)).2.2
  have habs : (valX sz bl i).natAbs = vl (sz i) 16 := sg_abs _ _
  refine lv_aload_n hx hb dX1_write_121 rfl (lv_at hl 0 rfl) ?_
  refine va_get (D := G.1) (ci := 0) (v := .int (nI (513 - e0))) (C := RX1) (T := TX1) (N := 9) hx hb hts hwsX1_write hown hK hS.w.ob 0 rfl rfl 5 (by decide) (hts (.fieldLink RX1 29 "ExactNumbers" "writtenFrom" "I") (by decide +kernel)) (fun _ h9 => h9) rfl dX1_write_122 ?_
  refine lv_aload_n hx hb dX1_write_125 rfl (lv_at hl 0 rfl) ?_
  refine va_get (D := G.1) (ci := 0) (v := .ref (ad 3)) (C := RX1) (T := TX1) (N := 9) hx hb hts hwsX1_write hown hK hS.w.ob 0 rfl rfl 4 (by decide) (hts (.fieldLink RX1 26 "ExactNumbers" "written" "[B") (by decide +kernel)) (fun _ h9 => h9) rfl dX1_write_126 ?_
  refine m_alenB (n := 513) (f := w2) hx hb hK (hS.w.get 3 (by decide)) dX1_write_129 ?_
  refine m_icmp_ne (tgt := 139) hx hb (by omega) (by decide) dX1_write_130 (by decide) (fun c130 => ?_) (fun c130 => ?_)
  · skip
    refine lv_aload_n hx hb dX1_write_139 rfl (lv_at hl 0 rfl) ?_
    refine va_get (D := G.1) (ci := 0) (v := .ref (ad 1)) (C := RX1) (T := TX1) (N := 9) hx hb hts hwsX1_write hown hK hS.w.ob 0 rfl rfl 1 (by decide) (hts (.fieldLink RX1 14 "ExactNumbers" "below" "[Z") (by decide +kernel)) (fun _ h9 => h9) rfl dX1_write_140 ?_
    refine lv_iload_n hx hb dX1_write_143 rfl (lv_at hl 1 rfl) ?_
    refine m_zald (n := 64) (f := bl) hx hb hK (hS.w.get 1 (by decide)) (by omega) (by decide) dX1_write_144 ?_
    refine m_if_eq (tgt := 154) hx hb (by omega) dX1_write_145 (by decide) (fun c145 => ?_) (fun c145 => ?_)
    · skip
      have hpos : ¬ valX sz bl i < 0 := by unfold valX; rw [c145, sg_0]; omega
      refine lv_aload_n hx hb dX1_write_154 rfl (lv_at hl 0 rfl) ?_
      refine va_get (D := G.1) (ci := 0) (v := .ref (ad 3)) (C := RX1) (T := TX1) (N := 9) hx hb hts hwsX1_write hown hK hS.w.ob 0 rfl rfl 4 (by decide) (hts (.fieldLink RX1 26 "ExactNumbers" "written" "[B") (by decide +kernel)) (fun _ h9 => h9) rfl dX1_write_155 ?_
      refine m_alenB (n := 513) (f := w2) hx hb hK (hS.w.get 3 (by decide)) dX1_write_158 ?_
      refine lv_aload_n hx hb dX1_write_159 rfl (lv_at hl 0 rfl) ?_
      refine va_get (D := G.1) (ci := 0) (v := .int (nI (513 - e0))) (C := RX1) (T := TX1) (N := 9) hx hb hts hwsX1_write hown hK hS.w.ob 0 rfl rfl 5 (by decide) (hts (.fieldLink RX1 29 "ExactNumbers" "writtenFrom" "I") (by decide +kernel)) (fun _ h9 => h9) rfl dX1_write_160 ?_
      refine m_isub (a := 513) (b := 513 - e0) hx hb (by omega) dX1_write_163 ?_
      exact m_iret hx hb hr hlocks hLc dX1_write_164 (Or.inl ⟨i, b, e0, e0, hi, hb2, hb36, hxi, hyb, by rw [habs]; exact nd_of hb2 h0 (by omega) hmin, by rw [if_neg hpos, Nat.add_zero], by omega, congrArg nI (by omega), w2, fun e he => by unfold tch; rw [habs, if_pos he]; exact hk e he, RX_wf (show 513 - e0 = 513 - (e0) by omega) (hS.r hI)⟩)
    · skip
      have hneg : valX sz bl i < 0 := by have := hnz (by omega); unfold valX; rw [show bl i = 1 by omega, sg_1]; omega
      refine lv_aload_n hx hb dX1_write_148 rfl (lv_at hl 0 rfl) ?_
      refine lv_bipush (v := nI 45) hx hb dX1_write_149 (by decide) ?_
      refine mc_v0 (va_runV (As := [.int (nI 45)]) (rest := []) ⟨hx, hb, hml, hown, hts⟩ (c_X1_put l G b0 Hc hS.rf (by omega) (by omega) (by decide)) (cwV 1 hts gX1_write_X1_put rfl rfl rfl (by decide +kernel) ⟨Nat.le_of_ble_eq_true rfl, Nat.le_of_ble_eq_true rfl⟩) (mp_V hK hS.w.ob rfl) rfl rfl hl.1 rfl (lv_room (Nat.le_of_ble_eq_true rfl)) dX1_write_151 ⟨Nat.le_of_ble_eq_true rfl, Nat.le_of_ble_eq_true rfl⟩) hLc (fun H1 locs hP hLc => ?_)
      have hS : SX G b0 o ad H sz bl dv dc (fup w2 ((513 - e0) - 1) 45) ((513 - e0) - 1) F f2 fw H1 := WO.trans hS hP
      generalize H1 = Hc at hS ⊢
      refine lv_aload_n hx hb dX1_write_154 rfl (lv_at hl 0 rfl) ?_
      refine va_get (D := G.1) (ci := 0) (v := .ref (ad 3)) (C := RX1) (T := TX1) (N := 9) hx hb hts hwsX1_write hown hK hS.w.ob 0 rfl rfl 4 (by decide) (hts (.fieldLink RX1 26 "ExactNumbers" "written" "[B") (by decide +kernel)) (fun _ h9 => h9) rfl dX1_write_155 ?_
      refine m_alenB (n := 513) (f := fup w2 ((513 - e0) - 1) 45) hx hb hK (hS.w.get 3 (by decide)) dX1_write_158 ?_
      refine lv_aload_n hx hb dX1_write_159 rfl (lv_at hl 0 rfl) ?_
      refine va_get (D := G.1) (ci := 0) (v := .int (nI ((513 - e0) - 1))) (C := RX1) (T := TX1) (N := 9) hx hb hts hwsX1_write hown hK hS.w.ob 0 rfl rfl 5 (by decide) (hts (.fieldLink RX1 29 "ExactNumbers" "writtenFrom" "I") (by decide +kernel)) (fun _ h9 => h9) rfl dX1_write_160 ?_
      refine m_isub (a := 513) (b := (513 - e0) - 1) hx hb (by omega) dX1_write_163 ?_
      exact m_iret hx hb hr hlocks hLc dX1_write_164 (Or.inl ⟨i, b, e0, e0 + 1, hi, hb2, hb36, hxi, hyb, by rw [habs]; exact nd_of hb2 h0 (by omega) hmin, by rw [if_pos hneg], by omega, congrArg nI (by omega), fup w2 ((513 - e0) - 1) 45, fun e he => by unfold tch; rw [habs]; by_cases h9 : e = e0 <;> simp only [fup] <;> (first | (rw [if_pos (by omega), if_neg (by omega)]) | (rw [if_neg (by omega), if_pos (by omega)]; exact hk e (by omega))), RX_wf (show (513 - e0) - 1 = 513 - (e0 + 1) by omega) (hS.r hI)⟩)
  · skip
    have hE0 : e0 = 0 := by omega
    have hA0 : vl (sz i) 16 = 0 := by rw [hE0, Nat.pow_zero, Nat.div_one] at h0; exact h0
    refine lv_aload_n hx hb dX1_write_133 rfl (lv_at hl 0 rfl) ?_
    refine lv_bipush (v := nI 48) hx hb dX1_write_134 (by decide) ?_
    refine mc_v0 (va_runV (As := [.int (nI 48)]) (rest := []) ⟨hx, hb, hml, hown, hts⟩ (c_X1_put l G b0 Hc hS.rf (by omega) (by omega) (by decide)) (cwV 1 hts gX1_write_X1_put rfl rfl rfl (by decide +kernel) ⟨Nat.le_of_ble_eq_true rfl, Nat.le_of_ble_eq_true rfl⟩) (mp_V hK hS.w.ob rfl) rfl rfl hl.1 rfl (lv_room (Nat.le_of_ble_eq_true rfl)) dX1_write_136 ⟨Nat.le_of_ble_eq_true rfl, Nat.le_of_ble_eq_true rfl⟩) hLc (fun H1 locs hP hLc => ?_)
    have hS : SX G b0 o ad H sz bl dv dc (fup w2 ((513 - e0) - 1) 48) ((513 - e0) - 1) F f2 fw H1 := WO.trans hS hP
    generalize H1 = Hc at hS ⊢
    refine lv_aload_n hx hb dX1_write_139 rfl (lv_at hl 0 rfl) ?_
    refine va_get (D := G.1) (ci := 0) (v := .ref (ad 1)) (C := RX1) (T := TX1) (N := 9) hx hb hts hwsX1_write hown hK hS.w.ob 0 rfl rfl 1 (by decide) (hts (.fieldLink RX1 14 "ExactNumbers" "below" "[Z") (by decide +kernel)) (fun _ h9 => h9) rfl dX1_write_140 ?_
    refine lv_iload_n hx hb dX1_write_143 rfl (lv_at hl 1 rfl) ?_
    refine m_zald (n := 64) (f := bl) hx hb hK (hS.w.get 1 (by decide)) (by omega) (by decide) dX1_write_144 ?_
    refine m_if_eq (tgt := 154) hx hb (by omega) dX1_write_145 (by decide) (fun c145 => ?_) (fun c145 => ?_)
    · skip
      have hpos : ¬ valX sz bl i < 0 := by unfold valX; rw [c145, sg_0]; omega
      refine lv_aload_n hx hb dX1_write_154 rfl (lv_at hl 0 rfl) ?_
      refine va_get (D := G.1) (ci := 0) (v := .ref (ad 3)) (C := RX1) (T := TX1) (N := 9) hx hb hts hwsX1_write hown hK hS.w.ob 0 rfl rfl 4 (by decide) (hts (.fieldLink RX1 26 "ExactNumbers" "written" "[B") (by decide +kernel)) (fun _ h9 => h9) rfl dX1_write_155 ?_
      refine m_alenB (n := 513) (f := fup w2 ((513 - e0) - 1) 48) hx hb hK (hS.w.get 3 (by decide)) dX1_write_158 ?_
      refine lv_aload_n hx hb dX1_write_159 rfl (lv_at hl 0 rfl) ?_
      refine va_get (D := G.1) (ci := 0) (v := .int (nI ((513 - e0) - 1))) (C := RX1) (T := TX1) (N := 9) hx hb hts hwsX1_write hown hK hS.w.ob 0 rfl rfl 5 (by decide) (hts (.fieldLink RX1 29 "ExactNumbers" "writtenFrom" "I") (by decide +kernel)) (fun _ h9 => h9) rfl dX1_write_160 ?_
      refine m_isub (a := 513) (b := (513 - e0) - 1) hx hb (by omega) dX1_write_163 ?_
      exact m_iret hx hb hr hlocks hLc dX1_write_164 (Or.inl ⟨i, b, 1, 1, hi, hb2, hb36, hxi, hyb, by rw [habs, hA0]; exact nd_1 hb2, by rw [if_neg hpos, Nat.add_zero], by omega, congrArg nI (by omega), fup w2 ((513 - e0) - 1) 48, fun e he => tch_zero hE0 (habs.trans hA0) he, RX_wf (show (513 - e0) - 1 = 513 - (1) by omega) (hS.r hI)⟩)
    · skip
      exact absurd hA0 (by have := hnz (by omega); omega)
set_option maxRecDepth 100000 in
set_option maxHeartbeats 4000000 in
theorem write_63 {p : Program} {l : Launch} {e : Env} {s : State} {m : MethodId} {args : Array Value} {below : List Frame} {meth : Method} {c : Code} {G : gG} {b0 : Nat} {H : Heap} {o : Nat} {ad : Nat → Nat} {sz : Nat → Nat → Nat} {bl : Nat → Nat} {dv : Nat → Nat} {dc : Nat} {wr : Nat → Nat} {wf : Nat} {f1 : Nat → Nat} {f2 : Nat → Nat} {fw : Nat → Nat} {i b gl : Nat} {x y : Int32} (hF : FxM p s m args meth c G cX1_write 10 (some .int) RX1 wsX1_write) (hI : IV sz bl) (hi : i ≤ 63) (hb2 : 2 ≤ b) (hb36 : b ≤ 36) (hxi : x = nI i) (hyb : y = nI b) (hgl1 : 1 ≤ gl) (hgl2 : gl ≤ 32) (hglp : b ^ gl ≤ 2147483648) : ∀ (q : Nat) (gr e0 : Nat) (F w2 : Nat → Nat) (Hc : Heap), gr + q = 512 → lim F 17 → vl F 17 = vl (sz i) 16 / b ^ e0 → gr ≤ e0 → e0 ≤ 512 → (e0 = 0 ∨ b ^ (e0 - 1) ≤ vl (sz i) 16) → (∀ z, z < e0 → w2 (512 - z) = chd (vl (sz i) 16 / b ^ z % b)) → SX G b0 o ad H sz bl dv dc w2 (513 - e0) F f2 fw Hc → ∀ (locs : List Loc) (ls : Array Slot), lcs b0 locs → lv_has ls 10 [(0, .ref o), (1, .int (nI i)), (2, .int (nI b)), (3, .int (nI gl)), (4, .long (lN (b ^ gl))), (6, .int (nI (us F 17))), (7, .int (nI gr))] → W p l e ({ frames := 2, cells := 0, slots := 0, locals := 49 } : Room) s m args below meth c Hc locs 0 0 (MQ below (QcI (fun r H1 => (∃ i b n len, i ≤ 63 ∧ 2 ≤ b ∧ b ≤ 36 ∧ x = nI i ∧ y = nI b ∧ isND n b (valX sz bl i).natAbs ∧ len = n + (if valX sz bl i < 0 then 1 else 0) ∧ len ≤ 513 ∧ r = nI len ∧ ∃ wr2 : Nat → Nat, (∀ e, e < len → wr2 (512 - e) = tch b (valX sz bl i) n e) ∧ RX G b0 o ad H (valX sz bl) dv dc wr2 (513 - len) H1) ∨ ((noslot x ∨ (∀ b, 2 ≤ b → b ≤ 36 → b < 2 ^ 31 → y ≠ nI b)) ∧ r = -3 ∧ RX G b0 o ad H (valX sz bl) dv dc wr wf H1))) args s 0 0 (fre b0)) (F0 m 63 ls []) := by
  obtain ⟨hx, hb, hr, hml, hown, hts, hlocks, hK⟩ := id hF
  intro q
  induction q with
  | zero =>
    intro gr e0 F w2 Hc hgr hFl hFv hge he0 hmin hk hS locs ls hLc hl
    have h00 : vl (sz i) 16 / b ^ e0 = 0 := div_zero_of hb2 (hI.lt (show i < 64 by omega)) (by omega)
    refine lv_iload hx hb dX1_write_63 (lv_at hl 6 rfl) ?_
    refine lv_sipush (v := nI 512) hx hb dX1_write_65 (by decide) ?_
    refine lv_icmp_ge (tgt := 121) hx hb dX1_write_68 (by decide) (fun _ => ?_) (fun h => absurd (nI_le (by omega) (by omega)) h)
    exact write_121 (f1 := f1) (wr := wr) (wf := wf) hF hI hi hb2 hb36 hxi hyb he0 (h00) hmin hk hS _ _ hLc (lv_sub hl [0, 1, 2] rfl)
  | succ q ih =>
    intro gr e0 F w2 Hc hgr hFl hFv hge he0 hmin hk hS locs ls hLc hl
    have hul := us_le F 17
    have hpp : 0 < b ^ gl := Nat.pow_pos (by omega)
    refine lv_iload hx hb dX1_write_63 (lv_at hl 6 rfl) ?_
    refine lv_sipush (v := nI 512) hx hb dX1_write_65 (by decide) ?_
    refine lv_icmp_ge (tgt := 121) hx hb dX1_write_68 (by decide) (fun h => absurd h (nI_ge (by omega) (by omega))) (fun _ => ?_)
    refine lv_iload hx hb dX1_write_71 (lv_at hl 5 rfl) ?_
    refine lv_if_le (tgt := 121) hx hb dX1_write_73 (by decide) (fun c73 => ?_) (fun c73 => ?_)
    · skip
      have c73 : us F 17 = 0 := if0 (by omega) c73
      exact write_121 (f1 := f1) (wr := wr) (wf := wf) hF hI hi hb2 hb36 hxi hyb he0 (by rw [← hFv]; exact (us_0 _ _).mp c73) hmin hk hS _ _ hLc (lv_sub hl [0, 1, 2] rfl)
    · skip
      have c73 : us F 17 ≠ 0 := ifn0 c73
      refine lv_aload_n hx hb dX1_write_76 rfl (lv_at hl 0 rfl) ?_
      refine va_get (D := G.1) (ci := 0) (v := .ref (ad 4)) (C := RX1) (T := TX1) (N := 9) hx hb hts hwsX1_write hown hK hS.w.ob 0 rfl rfl 6 (by decide) (hts (.fieldLink RX1 32 "ExactNumbers" "first" "[J") (by decide +kernel)) (fun _ h9 => h9) rfl dX1_write_77 ?_
      refine lv_iload hx hb dX1_write_80 (lv_at hl 5 rfl) ?_
      refine lv_lload hx hb dX1_write_82 (lv_at hl 4 rfl) ?_
      refine mc_l0 (va_runS (As := [.ref (ad 4), .int (nI (us F 17)), .long (lN (b ^ gl))]) (rest := []) ⟨hx, hb, hml, hown, hts⟩ (c_X0_divideBySmall l G b0 Hc (hS.w.get 4 (by decide)) (by decide) hFl (hS.w.b 4 (by decide)) (by omega) hglp hul) (va_cwS 3 hts gX1_write_X0_divideBySmall rfl rfl rfl (by decide +kernel) ⟨Nat.le_of_ble_eq_true rfl, Nat.le_of_ble_eq_true rfl⟩) (mp_S hK) rfl rfl hl.1 rfl (lv_room (Nat.le_of_ble_eq_true rfl)) dX1_write_84 ⟨Nat.le_of_ble_eq_true rfl, Nat.le_of_ble_eq_true rfl⟩) hLc (fun r H1 locs hP hLc => ?_)
      obtain ⟨F2, z, rfl, hz, hF2, hv2, hh2, rfl⟩ := hP
      have hv3 := us_div hFl hv2 hh2
      rw [hFv] at hv3
      obtain ⟨hq1, hq2⟩ := vq hz hv3
      have hS := hS.p_f1 F2
      generalize hput Hc (ad 4) (aJ G 17 F2) = Hc at hS ⊢
      refine lv_lstore (lv' := [(8, .long (lN z)), (0, .ref o), (1, .int (nI i)), (2, .int (nI b)), (3, .int (nI gl)), (4, .long (lN (b ^ gl))), (6, .int (nI (us F 17))), (7, .int (nI gr))]) hx hb dX1_write_87 hl (by decide) rfl (fun ls hl => ?_)
      refine lv_aload_n hx hb dX1_write_89 rfl (lv_at hl 1 rfl) ?_
      refine va_get (D := G.1) (ci := 0) (v := .ref (ad 4)) (C := RX1) (T := TX1) (N := 9) hx hb hts hwsX1_write hown hK hS.w.ob 0 rfl rfl 6 (by decide) (hts (.fieldLink RX1 32 "ExactNumbers" "first" "[J") (by decide +kernel)) (fun _ h9 => h9) rfl dX1_write_90 ?_
      refine mc_i0 (va_runS (As := [.ref (ad 4)]) (rest := []) ⟨hx, hb, hml, hown, hts⟩ (c_X0_used l G b0 Hc (hS.w.get 4 (by decide)) (by decide) hF2) (va_cwS 1 hts gX1_write_X0_used rfl rfl rfl (by decide +kernel) ⟨Nat.le_of_ble_eq_true rfl, Nat.le_of_ble_eq_true rfl⟩) (mp_S hK) rfl rfl hl.1 rfl (lv_room (Nat.le_of_ble_eq_true rfl)) dX1_write_93 ⟨Nat.le_of_ble_eq_true rfl, Nat.le_of_ble_eq_true rfl⟩) hLc (fun r H1 locs hP hLc => ?_)
      obtain ⟨rfl, rfl⟩ := hP
      have hul2 := us_le F2 17
      refine lv_istore (lv' := [(6, .int (nI (us F2 17))), (8, .long (lN z)), (0, .ref o), (1, .int (nI i)), (2, .int (nI b)), (3, .int (nI gl)), (4, .long (lN (b ^ gl))), (7, .int (nI gr))]) hx hb dX1_write_96 hl (by decide) rfl (fun ls hl => ?_)
      refine lv_aload_n hx hb dX1_write_98 rfl (lv_at hl 2 rfl) ?_
      refine lv_lload hx hb dX1_write_99 (lv_at hl 1 rfl) ?_
      refine lv_iload_n hx hb dX1_write_101 rfl (lv_at hl 4 rfl) ?_
      refine lv_iload hx hb dX1_write_102 (lv_at hl 0 rfl) ?_
      refine lv_if_le (tgt := 111) hx hb dX1_write_104 (by decide) (fun c104 => ?_) (fun c104 => ?_)
      · skip
        have c104 : us F2 17 = 0 := if0 (by omega) c104
        have hF0 : vl F2 17 = 0 := (us_0 _ _).mp c104
        have hzz : vl (sz i) 16 / b ^ e0 = z := by rw [hF0, Nat.mul_zero, Nat.zero_add] at hv3; exact hv3
        have hzp : 0 < z := Nat.pos_of_ne_zero (fun e => c73 ((us_0 _ _).mpr (by rw [hFv, hzz, e])))
        obtain ⟨n0, hn0a, hn0b, hn0c⟩ := nd_ex hb2 hzp
        have hn0g := pow_lt_of hb2 (Nat.lt_of_le_of_lt hn0c hz)
        have hn0f := n0_fit hb2 (hI.lt (show i < 64 by omega)) hn0a (by rw [hzz]; exact hn0c)
        refine lv_iconst (v := nI 0) hx hb dX1_write_111 (by decide) ?_
        refine mc_v0 (va_runV (As := [.long (lN z), .int (nI b), .int (nI 0)]) (rest := []) ⟨hx, hb, hml, hown, hts⟩ (c_X1_putGroup l G b0 Hc hS.rf hb2 hb36 (by omega) hn0b (by omega) (by omega) (by omega) (by omega)) (cwV 3 hts gX1_write_X1_putGroup rfl rfl rfl (by decide +kernel) ⟨Nat.le_of_ble_eq_true rfl, Nat.le_of_ble_eq_true rfl⟩) (mp_V hK hS.w.ob rfl) rfl rfl hl.1 rfl (lv_room (Nat.le_of_ble_eq_true rfl)) dX1_write_112 ⟨Nat.le_of_ble_eq_true rfl, Nat.le_of_ble_eq_true rfl⟩) hLc (fun H1 locs hP hLc => ?_)
        obtain ⟨n, w3, hn1, hn2, hn3, hn4, hn5, hn6, hS2⟩ := hP
        have hS : SX G b0 o ad H sz bl dv dc w3 (513 - (e0 + n)) F2 f2 fw H1 := by rw [show 513 - (e0 + n) = 513 - e0 - n by omega]; exact WO.trans hS hS2
        generalize H1 = Hc at hS ⊢
        have hk2 := txt_step (n := n) (by omega) (by omega) hq2 hk hn5 hn6
        have hnp : 1 ≤ n := Nat.pos_of_ne_zero (fun e => by rw [e, Nat.pow_zero] at hn3; omega)
        refine lv_iinc (v := nI (gr + 1)) (lv' := [(7, .int (nI (gr + 1))), (6, .int (nI (us F2 17))), (8, .long (lN z)), (0, .ref o), (1, .int (nI i)), (2, .int (nI b)), (3, .int (nI gl)), (4, .long (lN (b ^ gl)))]) hx hb dX1_write_115 hl (k := 7) rfl (nI_add gr 1) (by decide) rfl (fun ls hl => ?_)
        refine lv_goto (tgt := 63) hx hb dX1_write_118 (by decide) ?_
        exact ih (gr + 1) (e0 + n) F2 w3 _ (by omega) hF2 (by rw [hF0, div_pow_add, hzz]; exact (Nat.div_eq_of_lt hn3).symm) (by omega) (by omega) (Or.inr (min_add hb2 (by omega) (by rw [hzz]; exact hn4.resolve_left (by omega)))) hk2 hS _ _ hLc (lv_sub hl [3, 4, 5, 6, 7, 1, 0] rfl)
      · skip
        have c104 : us F2 17 ≠ 0 := ifn0 c104
        have hne : vl (sz i) 16 / b ^ (e0 + gl) ≠ 0 := by rw [← hq1]; exact fun e => c104 ((us_0 _ _).mpr e)
        have hlt5 := lt_512 hb2 (hI.lt (show i < 64 by omega)) hne
        refine lv_iload_n hx hb dX1_write_107 rfl (lv_at hl 5 rfl) ?_
        refine lv_goto (tgt := 112) hx hb dX1_write_108 (by decide) ?_
        refine mc_v0 (va_runV (As := [.long (lN z), .int (nI b), .int (nI gl)]) (rest := []) ⟨hx, hb, hml, hown, hts⟩ (c_X1_putGroup l G b0 Hc hS.rf hb2 hb36 (by omega) hz (Nat.le_refl gl) (by omega) (by omega) (by omega)) (cwV 3 hts gX1_write_X1_putGroup rfl rfl rfl (by decide +kernel) ⟨Nat.le_of_ble_eq_true rfl, Nat.le_of_ble_eq_true rfl⟩) (mp_V hK hS.w.ob rfl) rfl rfl hl.1 rfl (lv_room (Nat.le_of_ble_eq_true rfl)) dX1_write_112 ⟨Nat.le_of_ble_eq_true rfl, Nat.le_of_ble_eq_true rfl⟩) hLc (fun H1 locs hP hLc => ?_)
        obtain ⟨n, w3, hn1, hn2, hn3, hn4, hn5, hn6, hS2⟩ := hP
        have hng : n = gl := full_n hb2 hz hn1 hn4
        have hS : SX G b0 o ad H sz bl dv dc w3 (513 - (e0 + n)) F2 f2 fw H1 := by rw [show 513 - (e0 + n) = 513 - e0 - n by omega]; exact WO.trans hS hS2
        generalize H1 = Hc at hS ⊢
        have hk2 := txt_step (n := n) (by omega) (by omega) hq2 hk hn5 hn6
        refine lv_iinc (v := nI (gr + 1)) (lv' := [(7, .int (nI (gr + 1))), (6, .int (nI (us F2 17))), (8, .long (lN z)), (0, .ref o), (1, .int (nI i)), (2, .int (nI b)), (3, .int (nI gl)), (4, .long (lN (b ^ gl)))]) hx hb dX1_write_115 hl (k := 7) rfl (nI_add gr 1) (by decide) rfl (fun ls hl => ?_)
        refine lv_goto (tgt := 63) hx hb dX1_write_118 (by decide) ?_
        exact ih (gr + 1) (e0 + n) F2 w3 _ (by omega) hF2 (by rw [hng]; exact hq1) (by omega) (by omega) (Or.inr (by rw [hng]; exact min_gl hb2 hgl1 hne)) hk2 hS _ _ hLc (lv_sub hl [3, 4, 5, 6, 7, 1, 0] rfl)
set_option maxRecDepth 100000 in
set_option maxHeartbeats 4000000 in
theorem c_X1_write (l : Launch) (G : gG) (b0 : Nat) (H : Heap) {o : Nat} {ad : Nat → Nat} {sz : Nat → Nat → Nat} {bl : Nat → Nat} {dv : Nat → Nat} {dc : Nat} {wr : Nat → Nat} {wf : Nat} {f1 : Nat → Nat} {f2 : Nat → Nat} {fw : Nat → Nat} (hS : SX G b0 o ad H sz bl dv dc wr wf f1 f2 fw H) (hI : IV sz bl) (x y : Int32) : Met l yX1_write wsX1_write ({ frames := 2, cells := 0, slots := 0, locals := 49 } : Room) (PcH G H [.ref o, .int x, .int y]) (QcI (fun r H1 => (∃ i b n len, i ≤ 63 ∧ 2 ≤ b ∧ b ≤ 36 ∧ x = nI i ∧ y = nI b ∧ isND n b (valX sz bl i).natAbs ∧ len = n + (if valX sz bl i < 0 then 1 else 0) ∧ len ≤ 513 ∧ r = nI len ∧ ∃ wr2 : Nat → Nat, (∀ e, e < len → wr2 (512 - e) = tch b (valX sz bl i) n e) ∧ RX G b0 o ad H (valX sz bl) dv dc wr2 (513 - len) H1) ∨ ((noslot x ∨ (∀ b, 2 ≤ b → b ≤ 36 → b < 2 ^ 31 → y ≠ nI b)) ∧ r = -3 ∧ RX G b0 o ad H (valX sz bl) dv dc wr wf H1))) 0 0 (fre b0) := by
  refine m_enter (cc := cX1_write) (maxL := 10) (ret := (some .int)) (own := RX1) (by decide) rfl rfl (Nat.le_of_ble_eq_true rfl) ?_
  intro p e s m below meth c ls hF hnm hH hl
  have hl : lv_has ls 10 [(0, .ref o), (1, .int x), (2, .int y)] := hl
  have hLc : lcs b0 [] := lcs_nil b0
  obtain ⟨hx, hb, hr, hml, hown, hts, hlocks, hK⟩ := id hF
  refine lv_iload_n hx hb dX1_write_0 rfl (lv_at hl 1 rfl) ?_
  refine mc_i0 (va_runS (As := [.int x]) (rest := []) ⟨hx, hb, hml, hown, hts⟩ (c_X1_isSlot l G b0 H (x)) (va_cwS 1 hts gX1_write_X1_isSlot rfl rfl rfl (by decide +kernel) ⟨Nat.le_of_ble_eq_true rfl, Nat.le_of_ble_eq_true rfl⟩) (mp_S hK) rfl rfl hl.1 rfl (lv_room (Nat.le_of_ble_eq_true rfl)) dX1_write_1 ⟨Nat.le_of_ble_eq_true rfl, Nat.le_of_ble_eq_true rfl⟩) hLc (fun r H1 locs hP hLc => ?_)
  obtain ⟨hP, rfl⟩ := hP
  rcases hP with ⟨i, _h0, hi, rfl, rfl⟩ | ⟨hno, rfl⟩
  · skip
    refine m_if_eq (tgt := 14) hx hb (by decide) dX1_write_4 (by decide) (fun h => absurd h (by decide)) (fun _ => ?_)
    refine lv_iload_n hx hb dX1_write_7 rfl (lv_at hl 2 rfl) ?_
    refine mc_i0 (va_runS (As := [.int y]) (rest := []) ⟨hx, hb, hml, hown, hts⟩ (c_X1_isBase l G b0 H (y)) (va_cwS 1 hts gX1_write_X1_isBase rfl rfl rfl (by decide +kernel) ⟨Nat.le_of_ble_eq_true rfl, Nat.le_of_ble_eq_true rfl⟩) (mp_S hK) rfl rfl hl.1 rfl (lv_room (Nat.le_of_ble_eq_true rfl)) dX1_write_8 ⟨Nat.le_of_ble_eq_true rfl, Nat.le_of_ble_eq_true rfl⟩) hLc (fun r H1 locs hP hLc => ?_)
    obtain ⟨hP, rfl⟩ := hP
    rcases hP with ⟨b, hb2, hb36, rfl, rfl⟩ | ⟨hnb, rfl⟩
    · skip
      refine m_if_ne (tgt := 17) hx hb (by decide) dX1_write_11 (by decide) (fun _ => ?_) (fun h => absurd h (by decide))
      refine lv_iload_n hx hb dX1_write_17 rfl (lv_at hl 2 rfl) ?_
      refine mc_i0 (va_runS (As := [.int (nI b)]) (rest := []) ⟨hx, hb, hml, hown, hts⟩ (c_X1_groupLength l G b0 H hb2 hb36) (va_cwS 1 hts gX1_write_X1_groupLength rfl rfl rfl (by decide +kernel) ⟨Nat.le_of_ble_eq_true rfl, Nat.le_of_ble_eq_true rfl⟩) (mp_S hK) rfl rfl hl.1 rfl (lv_room (Nat.le_of_ble_eq_true rfl)) dX1_write_18 ⟨Nat.le_of_ble_eq_true rfl, Nat.le_of_ble_eq_true rfl⟩) hLc (fun r H1 locs hP hLc => ?_)
      obtain ⟨⟨gl, rfl, hgl1, hgl2, hglp⟩, rfl⟩ := hP
      refine lv_istore_n (lv' := [(3, .int (nI gl)), (0, .ref o), (1, .int (nI i)), (2, .int (nI b))]) hx hb dX1_write_21 rfl hl (by decide) rfl (fun ls hl => ?_)
      refine lv_iload_n hx hb dX1_write_22 rfl (lv_at hl 3 rfl) ?_
      refine lv_iload_n hx hb dX1_write_23 rfl (lv_at hl 0 rfl) ?_
      refine mc_l0 (va_runS (As := [.int (nI b), .int (nI gl)]) (rest := []) ⟨hx, hb, hml, hown, hts⟩ (c_X1_powerOf l G b0 H hb36 hgl2) (va_cwS 2 hts gX1_write_X1_powerOf rfl rfl rfl (by decide +kernel) ⟨Nat.le_of_ble_eq_true rfl, Nat.le_of_ble_eq_true rfl⟩) (mp_S hK) rfl rfl hl.1 rfl (lv_room (Nat.le_of_ble_eq_true rfl)) dX1_write_24 ⟨Nat.le_of_ble_eq_true rfl, Nat.le_of_ble_eq_true rfl⟩) hLc (fun r H1 locs hP hLc => ?_)
      obtain ⟨rfl, rfl⟩ := hP
      refine lv_lstore (lv' := [(4, .long (lN (b ^ gl))), (3, .int (nI gl)), (0, .ref o), (1, .int (nI i)), (2, .int (nI b))]) hx hb dX1_write_27 hl (by decide) rfl (fun ls hl => ?_)
      refine lv_aload_n hx hb dX1_write_29 rfl (lv_at hl 2 rfl) ?_
      refine va_get (D := G.1) (ci := 0) (v := .ref (ad 0)) (C := RX1) (T := TX1) (N := 9) hx hb hts hwsX1_write hown hK hS.w.ob 0 rfl rfl 0 (by decide) (hts (.fieldLink RX1 11 "ExactNumbers" "sizes" "[[J") (by decide +kernel)) (fun _ h9 => h9) rfl dX1_write_30 ?_
      refine lv_iload_n hx hb dX1_write_33 rfl (lv_at hl 3 rfl) ?_
      refine m_aald (n := 64) (f := (fun i => ad (i + 7))) hx hb hK (hS.w.get 0 (by decide)) (by omega) (by decide) dX1_write_34 ?_
      refine lv_aload_n hx hb dX1_write_35 rfl (lv_at hl 2 rfl) ?_
      refine va_get (D := G.1) (ci := 0) (v := .ref (ad 4)) (C := RX1) (T := TX1) (N := 9) hx hb hts hwsX1_write hown hK hS.w.ob 0 rfl rfl 6 (by decide) (hts (.fieldLink RX1 32 "ExactNumbers" "first" "[J") (by decide +kernel)) (fun _ h9 => h9) rfl dX1_write_36 ?_
      refine mc_v0 (va_runS (As := [.ref (ad (i + 7)), .ref (ad 4)]) (rest := []) ⟨hx, hb, hml, hown, hts⟩ (c_X0_copy l G b0 H (hS.w.get (i + 7) (by omega)) (hS.w.get 4 (by decide)) (by decide) (by decide) (hS.w.ne (by omega) (by decide) (by omega)) (hS.w.b 4 (by decide))) (va_cwS 2 hts gX1_write_X0_copy rfl rfl rfl (by decide +kernel) ⟨Nat.le_of_ble_eq_true rfl, Nat.le_of_ble_eq_true rfl⟩) (mp_S hK) rfl rfl hl.1 rfl (lv_room (Nat.le_of_ble_eq_true rfl)) dX1_write_39 ⟨Nat.le_of_ble_eq_true rfl, Nat.le_of_ble_eq_true rfl⟩) hLc (fun H1 locs hP hLc => ?_)
      obtain ⟨F, hgF, rfl⟩ := hP
      have hFl : lim F 17 := fun j hj => by rw [hgF j hj]; exact lat_lim (hI i (by omega)).1 j
      have hFv : vl F 17 = vl (sz i) 16 := by rw [vl_congr hgF, l16_17]
      have hS := hS.p_f1 F
      generalize hput H (ad 4) (aJ G 17 F) = Hc at hS ⊢
      refine lv_aload_n hx hb dX1_write_42 rfl (lv_at hl 2 rfl) ?_
      refine lv_aload_n hx hb dX1_write_43 rfl (lv_at hl 2 rfl) ?_
      refine va_get (D := G.1) (ci := 0) (v := .ref (ad 3)) (C := RX1) (T := TX1) (N := 9) hx hb hts hwsX1_write hown hK hS.w.ob 0 rfl rfl 4 (by decide) (hts (.fieldLink RX1 26 "ExactNumbers" "written" "[B") (by decide +kernel)) (fun _ h9 => h9) rfl dX1_write_44 ?_
      refine m_alenB (n := 513) (f := wr) hx hb hK (hS.w.get 3 (by decide)) dX1_write_47 ?_
      refine m_put (C := RX1) (T := TX1) (N := 9) (ci := 0) (ty := .int) (b0 := b0) hx hb hts hwsX1_write tyX1 tyX1_ok nmX1 hown hK hS.w.ob rfl 5 (by decide) (hts (.fieldLink RX1 29 "ExactNumbers" "writtenFrom" "I") (by decide +kernel)) rfl (by decide +kernel) (rfl) (rfl) (Nat.le_of_ble_eq_true rfl) hS.w.bo hLc dX1_write_48 (fun Hc2 locs hO hsz hq hLc => ?_)
      have hS := hS.f_wf hO hsz hq
      clear hO hsz hq
      obtain ⟨Hc, rfl⟩ : ∃ Hz, Hz = Hc2 := ⟨_, rfl⟩
      refine lv_aload_n hx hb dX1_write_51 rfl (lv_at hl 2 rfl) ?_
      refine va_get (D := G.1) (ci := 0) (v := .ref (ad 4)) (C := RX1) (T := TX1) (N := 9) hx hb hts hwsX1_write hown hK hS.w.ob 0 rfl rfl 6 (by decide) (hts (.fieldLink RX1 32 "ExactNumbers" "first" "[J") (by decide +kernel)) (fun _ h9 => h9) rfl dX1_write_52 ?_
      refine mc_i0 (va_runS (As := [.ref (ad 4)]) (rest := []) ⟨hx, hb, hml, hown, hts⟩ (c_X0_used l G b0 Hc (hS.w.get 4 (by decide)) (by decide) hFl) (va_cwS 1 hts gX1_write_X0_used rfl rfl rfl (by decide +kernel) ⟨Nat.le_of_ble_eq_true rfl, Nat.le_of_ble_eq_true rfl⟩) (mp_S hK) rfl rfl hl.1 rfl (lv_room (Nat.le_of_ble_eq_true rfl)) dX1_write_55 ⟨Nat.le_of_ble_eq_true rfl, Nat.le_of_ble_eq_true rfl⟩) hLc (fun r H1 locs hP hLc => ?_)
      obtain ⟨rfl, rfl⟩ := hP
      refine lv_istore (lv' := [(6, .int (nI (us F 17))), (4, .long (lN (b ^ gl))), (3, .int (nI gl)), (0, .ref o), (1, .int (nI i)), (2, .int (nI b))]) hx hb dX1_write_58 hl (by decide) rfl (fun ls hl => ?_)
      refine lv_iconst (v := nI 0) hx hb dX1_write_60 (by decide) ?_
      refine lv_istore (lv' := [(7, .int (nI 0)), (6, .int (nI (us F 17))), (4, .long (lN (b ^ gl))), (3, .int (nI gl)), (0, .ref o), (1, .int (nI i)), (2, .int (nI b))]) hx hb dX1_write_61 hl (by decide) rfl (fun ls hl => ?_)
      exact write_63 (f1 := f1) (wf := wf) hF hI hi hb2 hb36 rfl rfl hgl1 hgl2 hglp 512 0 0 F wr _ (by omega) hFl (by rw [hFv, Nat.pow_zero, Nat.div_one]) (by omega) (by omega) (Or.inl rfl) (fun z hz => absurd hz (by omega)) hS _ _ hLc (lv_sub hl [4, 5, 6, 3, 2, 1, 0] rfl)
    · skip
      refine m_if_ne (tgt := 17) hx hb (by decide) dX1_write_11 (by decide) (fun h => absurd h (by decide)) (fun _ => ?_)
      refine lv_bipush (v := -3) hx hb dX1_write_14 (by decide) ?_
      exact m_iret hx hb hr hlocks hLc dX1_write_16 (Or.inr ⟨by first | exact Or.inl hno | exact Or.inr hnb, rfl, hS.r hI⟩)
  · skip
    refine m_if_eq (tgt := 14) hx hb (by decide) dX1_write_4 (by decide) (fun _ => ?_) (fun h => absurd h (by decide))
    refine lv_bipush (v := -3) hx hb dX1_write_14 (by decide) ?_
    exact m_iret hx hb hr hlocks hLc dX1_write_16 (Or.inr ⟨by first | exact Or.inl hno | exact Or.inr hnb, rfl, hS.r hI⟩)
