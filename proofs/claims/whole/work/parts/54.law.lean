set_option maxRecDepth 100000 in
set_option maxHeartbeats 4000000 in
theorem law_set {p : Program} {l : Launch} {e : Env} {s : State} {m : MethodId} {below : List Frame} {meth : Method} {c : Code} {G : gG} {b b0 L : Nat} {xs : Nat → Int32} {oX oM : Nat} {ax am : Nat → Nat} {V : Nat → Int} {dv : Nat → Nat} {dc : Nat} {wr : Nat → Nat} {wf : Nat} {tp : Nat → Nat} {td : Nat} {tx : Nat → Nat} {wn : Nat} {H : Heap} {i : Nat} (hL : L ≤ 2560) (C0 : lw_At p s m meth c b L xs) (hK : KK G s) (hD : DJ b b0 oX ax oM am) (hLI : LI G s b b0 L xs oX ax oM am V dv dc wr wf tp td tx wn H) (hi : i + 5 ≤ L) (K : ∀ (V : Nat → Int) (dv : Nat → Nat) (dc : Nat) (wr : Nat → Nat) (wf : Nat) (tp : Nat → Nat) (td : Nat) (tx : Nat → Nat) (wn : Nat) (H : Heap), LI G s b b0 L xs oX ax oM am V dv dc wr wf tp td tx wn H → ∀ (locs : List Loc) (ls : Array Slot), lcs b0 locs → lv_has ls 4 [(0, .ref b), (1, .ref oX), (2, .ref oM), (3, .int (nI i))] → W p l e room_1 s m #[Value.ref b] below meth c H locs 600000 7302250 (lw_Z below #[Value.ref b] s) (F0 m 683 ls [])) : ∀ (locs : List Loc) (ls : Array Slot), lcs b0 locs → lv_has ls 4 [(0, .ref b), (1, .ref oX), (2, .ref oM), (3, .int (nI i))] → W p l e room_1 s m #[Value.ref b] below meth c H locs 600000 7302250 (lw_Z below #[Value.ref b] s) (F0 m 96 ls []) := by
  obtain ⟨hx, hb, hr, hml, hown, hts, -, hbl, hlocks, hgv⟩ := id C0
  obtain ⟨hRX, hRM, hT, hX⟩ := id hLI
  intro locs ls hLc hl
  obtain ⟨u, hu, hue⟩ := wb_of ((xs (i + 2)).toInt64 <<< ((nI 32).toInt64 &&& 63) ||| ((xs (i + 3)).toInt64 &&& lN 4294967295))
  refine lv_aload_n hx hb dL_law_96 rfl (lv_at hl 1 rfl) ?_
  refine lv_aload_n hx hb dL_law_97 rfl (lv_at hl 0 rfl) ?_
  refine lv_iload_n hx hb dL_law_98 rfl (lv_at hl 3 rfl) ?_
  refine lv_iconst (v := nI 1) hx hb dL_law_99 (by decide) ?_
  refine m_iadd (a := i) (b := 1) hx hb dL_law_100 ?_
  refine m_sld hx hb hX (by omega) hL dL_law_101 ?_
  refine lv_aload_n hx hb dL_law_102 rfl (lv_at hl 0 rfl) ?_
  refine lv_iload_n hx hb dL_law_103 rfl (lv_at hl 3 rfl) ?_
  refine lv_iconst (v := nI 2) hx hb dL_law_104 (by decide) ?_
  refine m_iadd (a := i) (b := 2) hx hb dL_law_105 ?_
  refine m_sld hx hb hX (by omega) hL dL_law_106 ?_
  refine lv_i2l (v := (xs (i + 2)).toInt64) hx hb dL_law_107 rfl ?_
  refine lv_bipush (v := nI 32) hx hb dL_law_108 (by decide) ?_
  refine lv_lshl hx hb dL_law_110 rfl ?_
  refine lv_aload_n hx hb dL_law_111 rfl (lv_at hl 0 rfl) ?_
  refine lv_iload_n hx hb dL_law_112 rfl (lv_at hl 3 rfl) ?_
  refine lv_iconst (v := nI 3) hx hb dL_law_113 (by decide) ?_
  refine m_iadd (a := i) (b := 3) hx hb dL_law_114 ?_
  refine m_sld hx hb hX (by omega) hL dL_law_115 ?_
  refine lv_i2l (v := (xs (i + 3)).toInt64) hx hb dL_law_116 rfl ?_
  refine lv_ldc2 (v := lN 4294967295) hx hb hown (hts (.constantLong R_law 13 (lN 4294967295)) (by decide +kernel)) dL_law_117 ?_
  refine lv_land hx hb dL_law_120 ?_
  refine lv_lor hx hb dL_law_121 ?_
  rw [hue]
  refine lv_aload_n hx hb dL_law_122 rfl (lv_at hl 0 rfl) ?_
  refine lv_iload_n hx hb dL_law_123 rfl (lv_at hl 3 rfl) ?_
  refine lv_iconst (v := nI 4) hx hb dL_law_124 (by decide) ?_
  refine m_iadd (a := i) (b := 4) hx hb dL_law_125 ?_
  refine m_sld hx hb hX (by omega) hL dL_law_126 ?_
  refine lv_if_eq (tgt := 134) hx hb dL_law_127 (by decide) (fun c127 => ?_) (fun c127 => ?_)
  · skip
    refine lv_iconst (v := nI 0) hx hb dL_law_134 (by decide) ?_
    obtain ⟨sz, bl, f1, f2, fw, hSX, hIX, hVX⟩ := id hRX
    refine mc_i0 (va_runV (As := [.int (xs (i + 1)), .long (lN u), .int (nI 0)]) (rest := []) ⟨hx, hb, hml, hown, hts⟩ (c_X1_set l G b0 H hSX hIX (xs (i + 1)) hu (by decide)) (cwV 3 hts gL_law_X1_set rfl rfl rfl (by decide +kernel) ⟨Nat.le_of_ble_eq_true rfl, Nat.le_of_ble_eq_true rfl⟩) (mp_V hK hSX.w.ob rfl) rfl rfl hl.1 rfl (lv_room (Nat.le_of_ble_eq_true rfl)) dL_law_135 ⟨Nat.le_of_ble_eq_true rfl, Nat.le_of_ble_eq_true rfl⟩) hLc (fun r H1 locs hP hLc => ?_)
    obtain ⟨_, _, _, _, _, hRX1⟩ : ∃ (V1 : Nat → Int) (d1 : Nat → Nat) (d2 : Nat) (d3 : Nat → Nat) (d4 : Nat), RX G b0 oX ax H V1 d1 d2 d3 d4 H1 := by rcases hP with ⟨_, _, _, ⟨_, _, h9⟩ | ⟨_, _, h9⟩⟩ | ⟨_, _, h9⟩ <;> exact ⟨_, _, _, _, _, h9⟩
    have hRM1 := LI.mid hD hRM hRX1
    have hX1 := LI.scr1 hD hX hRX1
    refine lv_aload_n hx hb dL_law_138 rfl (lv_at hl 2 rfl) ?_
    refine lv_aload_n hx hb dL_law_139 rfl (lv_at hl 0 rfl) ?_
    refine lv_iload_n hx hb dL_law_140 rfl (lv_at hl 3 rfl) ?_
    refine lv_iconst (v := nI 1) hx hb dL_law_141 (by decide) ?_
    refine m_iadd (a := i) (b := 1) hx hb dL_law_142 ?_
    refine m_sld hx hb hX1 (by omega) hL dL_law_143 ?_
    refine lv_aload_n hx hb dL_law_144 rfl (lv_at hl 0 rfl) ?_
    refine lv_iload_n hx hb dL_law_145 rfl (lv_at hl 3 rfl) ?_
    refine lv_iconst (v := nI 2) hx hb dL_law_146 (by decide) ?_
    refine m_iadd (a := i) (b := 2) hx hb dL_law_147 ?_
    refine m_sld hx hb hX1 (by omega) hL dL_law_148 ?_
    refine lv_i2l (v := (xs (i + 2)).toInt64) hx hb dL_law_149 rfl ?_
    refine lv_bipush (v := nI 32) hx hb dL_law_150 (by decide) ?_
    refine lv_lshl hx hb dL_law_152 rfl ?_
    refine lv_aload_n hx hb dL_law_153 rfl (lv_at hl 0 rfl) ?_
    refine lv_iload_n hx hb dL_law_154 rfl (lv_at hl 3 rfl) ?_
    refine lv_iconst (v := nI 3) hx hb dL_law_155 (by decide) ?_
    refine m_iadd (a := i) (b := 3) hx hb dL_law_156 ?_
    refine m_sld hx hb hX1 (by omega) hL dL_law_157 ?_
    refine lv_i2l (v := (xs (i + 3)).toInt64) hx hb dL_law_158 rfl ?_
    refine lv_ldc2 (v := lN 4294967295) hx hb hown (hts (.constantLong R_law 13 (lN 4294967295)) (by decide +kernel)) dL_law_159 ?_
    refine lv_land hx hb dL_law_162 ?_
    refine lv_lor hx hb dL_law_163 ?_
    rw [hue]
    refine lv_aload_n hx hb dL_law_164 rfl (lv_at hl 0 rfl) ?_
    refine lv_iload_n hx hb dL_law_165 rfl (lv_at hl 3 rfl) ?_
    refine lv_iconst (v := nI 4) hx hb dL_law_166 (by decide) ?_
    refine m_iadd (a := i) (b := 4) hx hb dL_law_167 ?_
    refine m_sld hx hb hX1 (by omega) hL dL_law_168 ?_
    refine lv_if_eq (tgt := 176) hx hb dL_law_169 (by decide) (fun _ => ?_) (fun h => absurd (c127) h)
    refine lv_iconst (v := nI 0) hx hb dL_law_176 (by decide) ?_
    obtain ⟨th, dg, bw, lm, lf, rt, ou, rs, lb, rb, ob, bL, bR, hSM, hIM, hVM⟩ := id hRM1
    refine mc_i0 (va_runV (As := [.int (xs (i + 1)), .long (lN u), .int (nI 0)]) (rest := [.int r]) ⟨hx, hb, hml, hown, hts⟩ (c_M0_set l G b0 H1 hSM hIM (xs (i + 1)) hu (by decide)) (cwV 3 hts gL_law_M0_set rfl rfl rfl (by decide +kernel) ⟨Nat.le_of_ble_eq_true rfl, Nat.le_of_ble_eq_true rfl⟩) (mp_V hK hSM.w.ob rfl) rfl rfl hl.1 rfl (lv_room (Nat.le_of_ble_eq_true rfl)) dL_law_177 ⟨Nat.le_of_ble_eq_true rfl, Nat.le_of_ble_eq_true rfl⟩) hLc (fun r2 H2 locs hP2 hLc => ?_)
    obtain ⟨hrr, V2, hA, hB⟩ := M_set (V := V) hVX hVM hP hP2
    refine lv_icmp_eq (tgt := 683) hx hb dL_law_180 (by decide) (fun c180 => ?_) (fun c180 => ?_)
    · skip
      exact K V2 dv dc wr wf tp td tx wn H2 (LI.fin hD hX hA hB hT) _ _ hLc (lv_sub hl [0, 1, 2, 3] rfl)
    · skip
      exact absurd hrr c180
  · skip
    refine lv_iconst (v := nI 1) hx hb dL_law_130 (by decide) ?_
    refine lv_goto (tgt := 135) hx hb dL_law_131 (by decide) ?_
    obtain ⟨sz, bl, f1, f2, fw, hSX, hIX, hVX⟩ := id hRX
    refine mc_i0 (va_runV (As := [.int (xs (i + 1)), .long (lN u), .int (nI 1)]) (rest := []) ⟨hx, hb, hml, hown, hts⟩ (c_X1_set l G b0 H hSX hIX (xs (i + 1)) hu (by decide)) (cwV 3 hts gL_law_X1_set rfl rfl rfl (by decide +kernel) ⟨Nat.le_of_ble_eq_true rfl, Nat.le_of_ble_eq_true rfl⟩) (mp_V hK hSX.w.ob rfl) rfl rfl hl.1 rfl (lv_room (Nat.le_of_ble_eq_true rfl)) dL_law_135 ⟨Nat.le_of_ble_eq_true rfl, Nat.le_of_ble_eq_true rfl⟩) hLc (fun r H1 locs hP hLc => ?_)
    obtain ⟨_, _, _, _, _, hRX1⟩ : ∃ (V1 : Nat → Int) (d1 : Nat → Nat) (d2 : Nat) (d3 : Nat → Nat) (d4 : Nat), RX G b0 oX ax H V1 d1 d2 d3 d4 H1 := by rcases hP with ⟨_, _, _, ⟨_, _, h9⟩ | ⟨_, _, h9⟩⟩ | ⟨_, _, h9⟩ <;> exact ⟨_, _, _, _, _, h9⟩
    have hRM1 := LI.mid hD hRM hRX1
    have hX1 := LI.scr1 hD hX hRX1
    refine lv_aload_n hx hb dL_law_138 rfl (lv_at hl 2 rfl) ?_
    refine lv_aload_n hx hb dL_law_139 rfl (lv_at hl 0 rfl) ?_
    refine lv_iload_n hx hb dL_law_140 rfl (lv_at hl 3 rfl) ?_
    refine lv_iconst (v := nI 1) hx hb dL_law_141 (by decide) ?_
    refine m_iadd (a := i) (b := 1) hx hb dL_law_142 ?_
    refine m_sld hx hb hX1 (by omega) hL dL_law_143 ?_
    refine lv_aload_n hx hb dL_law_144 rfl (lv_at hl 0 rfl) ?_
    refine lv_iload_n hx hb dL_law_145 rfl (lv_at hl 3 rfl) ?_
    refine lv_iconst (v := nI 2) hx hb dL_law_146 (by decide) ?_
    refine m_iadd (a := i) (b := 2) hx hb dL_law_147 ?_
    refine m_sld hx hb hX1 (by omega) hL dL_law_148 ?_
    refine lv_i2l (v := (xs (i + 2)).toInt64) hx hb dL_law_149 rfl ?_
    refine lv_bipush (v := nI 32) hx hb dL_law_150 (by decide) ?_
    refine lv_lshl hx hb dL_law_152 rfl ?_
    refine lv_aload_n hx hb dL_law_153 rfl (lv_at hl 0 rfl) ?_
    refine lv_iload_n hx hb dL_law_154 rfl (lv_at hl 3 rfl) ?_
    refine lv_iconst (v := nI 3) hx hb dL_law_155 (by decide) ?_
    refine m_iadd (a := i) (b := 3) hx hb dL_law_156 ?_
    refine m_sld hx hb hX1 (by omega) hL dL_law_157 ?_
    refine lv_i2l (v := (xs (i + 3)).toInt64) hx hb dL_law_158 rfl ?_
    refine lv_ldc2 (v := lN 4294967295) hx hb hown (hts (.constantLong R_law 13 (lN 4294967295)) (by decide +kernel)) dL_law_159 ?_
    refine lv_land hx hb dL_law_162 ?_
    refine lv_lor hx hb dL_law_163 ?_
    rw [hue]
    refine lv_aload_n hx hb dL_law_164 rfl (lv_at hl 0 rfl) ?_
    refine lv_iload_n hx hb dL_law_165 rfl (lv_at hl 3 rfl) ?_
    refine lv_iconst (v := nI 4) hx hb dL_law_166 (by decide) ?_
    refine m_iadd (a := i) (b := 4) hx hb dL_law_167 ?_
    refine m_sld hx hb hX1 (by omega) hL dL_law_168 ?_
    refine lv_if_eq (tgt := 176) hx hb dL_law_169 (by decide) (fun h => absurd h (c127)) (fun _ => ?_)
    refine lv_iconst (v := nI 1) hx hb dL_law_172 (by decide) ?_
    refine lv_goto (tgt := 177) hx hb dL_law_173 (by decide) ?_
    obtain ⟨th, dg, bw, lm, lf, rt, ou, rs, lb, rb, ob, bL, bR, hSM, hIM, hVM⟩ := id hRM1
    refine mc_i0 (va_runV (As := [.int (xs (i + 1)), .long (lN u), .int (nI 1)]) (rest := [.int r]) ⟨hx, hb, hml, hown, hts⟩ (c_M0_set l G b0 H1 hSM hIM (xs (i + 1)) hu (by decide)) (cwV 3 hts gL_law_M0_set rfl rfl rfl (by decide +kernel) ⟨Nat.le_of_ble_eq_true rfl, Nat.le_of_ble_eq_true rfl⟩) (mp_V hK hSM.w.ob rfl) rfl rfl hl.1 rfl (lv_room (Nat.le_of_ble_eq_true rfl)) dL_law_177 ⟨Nat.le_of_ble_eq_true rfl, Nat.le_of_ble_eq_true rfl⟩) hLc (fun r2 H2 locs hP2 hLc => ?_)
    obtain ⟨hrr, V2, hA, hB⟩ := M_set (V := V) hVX hVM hP hP2
    refine lv_icmp_eq (tgt := 683) hx hb dL_law_180 (by decide) (fun c180 => ?_) (fun c180 => ?_)
    · skip
      exact K V2 dv dc wr wf tp td tx wn H2 (LI.fin hD hX hA hB hT) _ _ hLc (lv_sub hl [0, 1, 2, 3] rfl)
    · skip
      exact absurd hrr c180
set_option maxRecDepth 100000 in
set_option maxHeartbeats 4000000 in
theorem law_digits {p : Program} {l : Launch} {e : Env} {s : State} {m : MethodId} {below : List Frame} {meth : Method} {c : Code} {G : gG} {b b0 L : Nat} {xs : Nat → Int32} {oX oM : Nat} {ax am : Nat → Nat} {V : Nat → Int} {dv : Nat → Nat} {dc : Nat} {wr : Nat → Nat} {wf : Nat} {tp : Nat → Nat} {td : Nat} {tx : Nat → Nat} {wn : Nat} {H : Heap} {i : Nat} (hL : L ≤ 2560) (C0 : lw_At p s m meth c b L xs) (hK : KK G s) (hD : DJ b b0 oX ax oM am) (hLI : LI G s b b0 L xs oX ax oM am V dv dc wr wf tp td tx wn H) (hi : i + 5 ≤ L) (K : ∀ (V : Nat → Int) (dv : Nat → Nat) (dc : Nat) (wr : Nat → Nat) (wf : Nat) (tp : Nat → Nat) (td : Nat) (tx : Nat → Nat) (wn : Nat) (H : Heap), LI G s b b0 L xs oX ax oM am V dv dc wr wf tp td tx wn H → ∀ (locs : List Loc) (ls : Array Slot), lcs b0 locs → lv_has ls 4 [(0, .ref b), (1, .ref oX), (2, .ref oM), (3, .int (nI i))] → W p l e room_1 s m #[Value.ref b] below meth c H locs 600000 7302250 (lw_Z below #[Value.ref b] s) (F0 m 683 ls [])) : ∀ (locs : List Loc) (ls : Array Slot), lcs b0 locs → lv_has ls 4 [(0, .ref b), (1, .ref oX), (2, .ref oM), (3, .int (nI i))] → W p l e room_1 s m #[Value.ref b] below meth c H locs 600000 7302250 (lw_Z below #[Value.ref b] s) (F0 m 185 ls []) := by
  obtain ⟨hx, hb, hr, hml, hown, hts, -, hbl, hlocks, hgv⟩ := id C0
  obtain ⟨hRX, hRM, hT, hX⟩ := id hLI
  intro locs ls hLc hl
  obtain ⟨u, hu, hue⟩ := wb_of ((xs (i + 1)).toInt64 <<< ((nI 32).toInt64 &&& 63) ||| ((xs (i + 2)).toInt64 &&& lN 4294967295))
  refine lv_aload_n hx hb dL_law_185 rfl (lv_at hl 1 rfl) ?_
  refine lv_aload_n hx hb dL_law_186 rfl (lv_at hl 0 rfl) ?_
  refine lv_iload_n hx hb dL_law_187 rfl (lv_at hl 3 rfl) ?_
  refine lv_iconst (v := nI 1) hx hb dL_law_188 (by decide) ?_
  refine m_iadd (a := i) (b := 1) hx hb dL_law_189 ?_
  refine m_sld hx hb hX (by omega) hL dL_law_190 ?_
  refine lv_i2l (v := (xs (i + 1)).toInt64) hx hb dL_law_191 rfl ?_
  refine lv_bipush (v := nI 32) hx hb dL_law_192 (by decide) ?_
  refine lv_lshl hx hb dL_law_194 rfl ?_
  refine lv_aload_n hx hb dL_law_195 rfl (lv_at hl 0 rfl) ?_
  refine lv_iload_n hx hb dL_law_196 rfl (lv_at hl 3 rfl) ?_
  refine lv_iconst (v := nI 2) hx hb dL_law_197 (by decide) ?_
  refine m_iadd (a := i) (b := 2) hx hb dL_law_198 ?_
  refine m_sld hx hb hX (by omega) hL dL_law_199 ?_
  refine lv_i2l (v := (xs (i + 2)).toInt64) hx hb dL_law_200 rfl ?_
  refine lv_ldc2 (v := lN 4294967295) hx hb hown (hts (.constantLong R_law 13 (lN 4294967295)) (by decide +kernel)) dL_law_201 ?_
  refine lv_land hx hb dL_law_204 ?_
  refine lv_lor hx hb dL_law_205 ?_
  rw [hue]
  obtain ⟨sz, bl, f1, f2, fw, hSX, hIX, hVX⟩ := id hRX
  refine mc_i0 (va_runV (As := [.long (lN u)]) (rest := []) ⟨hx, hb, hml, hown, hts⟩ (c_X1_digits l G b0 H hSX hIX hu hT.1.2.1 hT.1.2.2.1) (cwV 1 hts gL_law_X1_digits rfl rfl rfl (by decide +kernel) ⟨Nat.le_of_ble_eq_true rfl, Nat.le_of_ble_eq_true rfl⟩) (mp_V hK hSX.w.ob rfl) rfl rfl hl.1 rfl (lv_room (Nat.le_of_ble_eq_true rfl)) dL_law_206 ⟨Nat.le_of_ble_eq_true rfl, Nat.le_of_ble_eq_true rfl⟩) hLc (fun r H1 locs hP hLc => ?_)
  obtain ⟨_, _, _, _, _, hRX1⟩ : ∃ (V1 : Nat → Int) (d1 : Nat → Nat) (d2 : Nat) (d3 : Nat → Nat) (d4 : Nat), RX G b0 oX ax H V1 d1 d2 d3 d4 H1 := by rcases hP with ⟨_, _, _, _, _, _, h9⟩ | ⟨_, _, _, _, _, h9⟩ <;> exact ⟨_, _, _, _, _, h9⟩
  have hRM1 := LI.mid hD hRM hRX1
  have hX1 := LI.scr1 hD hX hRX1
  refine lv_aload_n hx hb dL_law_209 rfl (lv_at hl 2 rfl) ?_
  refine lv_aload_n hx hb dL_law_210 rfl (lv_at hl 0 rfl) ?_
  refine lv_iload_n hx hb dL_law_211 rfl (lv_at hl 3 rfl) ?_
  refine lv_iconst (v := nI 1) hx hb dL_law_212 (by decide) ?_
  refine m_iadd (a := i) (b := 1) hx hb dL_law_213 ?_
  refine m_sld hx hb hX1 (by omega) hL dL_law_214 ?_
  refine lv_i2l (v := (xs (i + 1)).toInt64) hx hb dL_law_215 rfl ?_
  refine lv_bipush (v := nI 32) hx hb dL_law_216 (by decide) ?_
  refine lv_lshl hx hb dL_law_218 rfl ?_
  refine lv_aload_n hx hb dL_law_219 rfl (lv_at hl 0 rfl) ?_
  refine lv_iload_n hx hb dL_law_220 rfl (lv_at hl 3 rfl) ?_
  refine lv_iconst (v := nI 2) hx hb dL_law_221 (by decide) ?_
  refine m_iadd (a := i) (b := 2) hx hb dL_law_222 ?_
  refine m_sld hx hb hX1 (by omega) hL dL_law_223 ?_
  refine lv_i2l (v := (xs (i + 2)).toInt64) hx hb dL_law_224 rfl ?_
  refine lv_ldc2 (v := lN 4294967295) hx hb hown (hts (.constantLong R_law 13 (lN 4294967295)) (by decide +kernel)) dL_law_225 ?_
  refine lv_land hx hb dL_law_228 ?_
  refine lv_lor hx hb dL_law_229 ?_
  rw [hue]
  obtain ⟨th, dg, bw, lm, lf, rt, ou, rs, lb, rb, ob, bL, bR, hSM, hIM, hVM⟩ := id hRM1
  refine mc_i0 (va_runV (As := [.long (lN u)]) (rest := [.int r]) ⟨hx, hb, hml, hown, hts⟩ (c_M0_digits l G b0 H1 hSM hIM hu (hT.1.1 ▸ hT.1.2.1) hT.1.2.2.2.1) (cwV 1 hts gL_law_M0_digits rfl rfl rfl (by decide +kernel) ⟨Nat.le_of_ble_eq_true rfl, Nat.le_of_ble_eq_true rfl⟩) (mp_V hK hSM.w.ob rfl) rfl rfl hl.1 rfl (lv_room (Nat.le_of_ble_eq_true rfl)) dL_law_230 ⟨Nat.le_of_ble_eq_true rfl, Nat.le_of_ble_eq_true rfl⟩) hLc (fun r2 H2 locs hP2 hLc => ?_)
  obtain ⟨hrr, dv2, d2, tp2, t2, hA, hB, hT2⟩ := M_digits (V := V) hT hVX hVM hP hP2
  refine lv_icmp_eq (tgt := 683) hx hb dL_law_233 (by decide) (fun c233 => ?_) (fun c233 => ?_)
  · skip
    exact K V dv2 d2 wr wf tp2 t2 tx wn H2 (LI.fin hD hX hA hB hT2) _ _ hLc (lv_sub hl [0, 1, 2, 3] rfl)
  · skip
    exact absurd hrr c233
set_option maxRecDepth 100000 in
set_option maxHeartbeats 4000000 in
theorem law_read {p : Program} {l : Launch} {e : Env} {s : State} {m : MethodId} {below : List Frame} {meth : Method} {c : Code} {G : gG} {b b0 L : Nat} {xs : Nat → Int32} {oX oM : Nat} {ax am : Nat → Nat} {V : Nat → Int} {dv : Nat → Nat} {dc : Nat} {wr : Nat → Nat} {wf : Nat} {tp : Nat → Nat} {td : Nat} {tx : Nat → Nat} {wn : Nat} {H : Heap} {i : Nat} (hL : L ≤ 2560) (C0 : lw_At p s m meth c b L xs) (hK : KK G s) (hD : DJ b b0 oX ax oM am) (hLI : LI G s b b0 L xs oX ax oM am V dv dc wr wf tp td tx wn H) (hi : i + 5 ≤ L) (K : ∀ (V : Nat → Int) (dv : Nat → Nat) (dc : Nat) (wr : Nat → Nat) (wf : Nat) (tp : Nat → Nat) (td : Nat) (tx : Nat → Nat) (wn : Nat) (H : Heap), LI G s b b0 L xs oX ax oM am V dv dc wr wf tp td tx wn H → ∀ (locs : List Loc) (ls : Array Slot), lcs b0 locs → lv_has ls 4 [(0, .ref b), (1, .ref oX), (2, .ref oM), (3, .int (nI i))] → W p l e room_1 s m #[Value.ref b] below meth c H locs 600000 7302250 (lw_Z below #[Value.ref b] s) (F0 m 683 ls [])) : ∀ (locs : List Loc) (ls : Array Slot), lcs b0 locs → lv_has ls 4 [(0, .ref b), (1, .ref oX), (2, .ref oM), (3, .int (nI i))] → W p l e room_1 s m #[Value.ref b] below meth c H locs 600000 7302250 (lw_Z below #[Value.ref b] s) (F0 m 238 ls []) := by
  obtain ⟨hx, hb, hr, hml, hown, hts, -, hbl, hlocks, hgv⟩ := id C0
  obtain ⟨hRX, hRM, hT, hX⟩ := id hLI
  intro locs ls hLc hl
  refine lv_aload_n hx hb dL_law_238 rfl (lv_at hl 1 rfl) ?_
  refine lv_aload_n hx hb dL_law_239 rfl (lv_at hl 0 rfl) ?_
  refine lv_iload_n hx hb dL_law_240 rfl (lv_at hl 3 rfl) ?_
  refine lv_iconst (v := nI 1) hx hb dL_law_241 (by decide) ?_
  refine m_iadd (a := i) (b := 1) hx hb dL_law_242 ?_
  refine m_sld hx hb hX (by omega) hL dL_law_243 ?_
  refine lv_aload_n hx hb dL_law_244 rfl (lv_at hl 0 rfl) ?_
  refine lv_iload_n hx hb dL_law_245 rfl (lv_at hl 3 rfl) ?_
  refine lv_iconst (v := nI 2) hx hb dL_law_246 (by decide) ?_
  refine m_iadd (a := i) (b := 2) hx hb dL_law_247 ?_
  refine m_sld hx hb hX (by omega) hL dL_law_248 ?_
  obtain ⟨sz, bl, f1, f2, fw, hSX, hIX, hVX⟩ := id hRX
  refine mc_i0 (va_runV (As := [.int (xs (i + 1)), .int (xs (i + 2))]) (rest := []) ⟨hx, hb, hml, hown, hts⟩ (c_X1_read l G b0 H hSX hIX hT.1.2.1 hT.1.2.2.1 (xs (i + 1)) (xs (i + 2))) (cwV 2 hts gL_law_X1_read rfl rfl rfl (by decide +kernel) ⟨Nat.le_of_ble_eq_true rfl, Nat.le_of_ble_eq_true rfl⟩) (mp_V hK hSX.w.ob rfl) rfl rfl hl.1 rfl (lv_room (Nat.le_of_ble_eq_true rfl)) dL_law_249 ⟨Nat.le_of_ble_eq_true rfl, Nat.le_of_ble_eq_true rfl⟩) hLc (fun r H1 locs hP hLc => ?_)
  obtain ⟨_, _, _, _, _, hRX1⟩ : ∃ (V1 : Nat → Int) (d1 : Nat → Nat) (d2 : Nat) (d3 : Nat → Nat) (d4 : Nat), RX G b0 oX ax H V1 d1 d2 d3 d4 H1 := by rcases hP with ⟨_, _, _, _, _, _, _, _, _, ⟨_, _, h9⟩ | ⟨_, _, h9⟩⟩ | ⟨_, _, h9⟩ <;> exact ⟨_, _, _, _, _, h9⟩
  have hRM1 := LI.mid hD hRM hRX1
  have hX1 := LI.scr1 hD hX hRX1
  refine lv_aload_n hx hb dL_law_252 rfl (lv_at hl 2 rfl) ?_
  refine lv_aload_n hx hb dL_law_253 rfl (lv_at hl 0 rfl) ?_
  refine lv_iload_n hx hb dL_law_254 rfl (lv_at hl 3 rfl) ?_
  refine lv_iconst (v := nI 1) hx hb dL_law_255 (by decide) ?_
  refine m_iadd (a := i) (b := 1) hx hb dL_law_256 ?_
  refine m_sld hx hb hX1 (by omega) hL dL_law_257 ?_
  refine lv_aload_n hx hb dL_law_258 rfl (lv_at hl 0 rfl) ?_
  refine lv_iload_n hx hb dL_law_259 rfl (lv_at hl 3 rfl) ?_
  refine lv_iconst (v := nI 2) hx hb dL_law_260 (by decide) ?_
  refine m_iadd (a := i) (b := 2) hx hb dL_law_261 ?_
  refine m_sld hx hb hX1 (by omega) hL dL_law_262 ?_
  obtain ⟨th, dg, bw, lm, lf, rt, ou, rs, lb, rb, ob, bL, bR, hSM, hIM, hVM⟩ := id hRM1
  refine mc_i0 (va_runV (As := [.int (xs (i + 1)), .int (xs (i + 2))]) (rest := [.int r]) ⟨hx, hb, hml, hown, hts⟩ (c_M0_read l G b0 H1 hSM hIM (hT.1.1 ▸ hT.1.2.1) hT.1.2.2.2.1 (xs (i + 1)) (xs (i + 2))) (cwV 2 hts gL_law_M0_read rfl rfl rfl (by decide +kernel) ⟨Nat.le_of_ble_eq_true rfl, Nat.le_of_ble_eq_true rfl⟩) (mp_V hK hSM.w.ob rfl) rfl rfl hl.1 rfl (lv_room (Nat.le_of_ble_eq_true rfl)) dL_law_263 ⟨Nat.le_of_ble_eq_true rfl, Nat.le_of_ble_eq_true rfl⟩) hLc (fun r2 H2 locs hP2 hLc => ?_)
  obtain ⟨⟨hrr, V2, hA, hB⟩, hT2⟩ := M_read (V := V) hT hVX hVM hP hP2
  refine lv_icmp_eq (tgt := 683) hx hb dL_law_266 (by decide) (fun c266 => ?_) (fun c266 => ?_)
  · skip
    exact K V2 dv 0 wr wf tp 0 tx wn H2 (LI.fin hD hX hA hB hT2) _ _ hLc (lv_sub hl [0, 1, 2, 3] rfl)
  · skip
    exact absurd hrr c266
set_option maxRecDepth 100000 in
set_option maxHeartbeats 4000000 in
theorem law_work {p : Program} {l : Launch} {e : Env} {s : State} {m : MethodId} {below : List Frame} {meth : Method} {c : Code} {G : gG} {b b0 L : Nat} {xs : Nat → Int32} {oX oM : Nat} {ax am : Nat → Nat} {V : Nat → Int} {dv : Nat → Nat} {dc : Nat} {wr : Nat → Nat} {wf : Nat} {tp : Nat → Nat} {td : Nat} {tx : Nat → Nat} {wn : Nat} {H : Heap} {i : Nat} (hL : L ≤ 2560) (C0 : lw_At p s m meth c b L xs) (hK : KK G s) (hD : DJ b b0 oX ax oM am) (hLI : LI G s b b0 L xs oX ax oM am V dv dc wr wf tp td tx wn H) (hi : i + 5 ≤ L) (K : ∀ (V : Nat → Int) (dv : Nat → Nat) (dc : Nat) (wr : Nat → Nat) (wf : Nat) (tp : Nat → Nat) (td : Nat) (tx : Nat → Nat) (wn : Nat) (H : Heap), LI G s b b0 L xs oX ax oM am V dv dc wr wf tp td tx wn H → ∀ (locs : List Loc) (ls : Array Slot), lcs b0 locs → lv_has ls 4 [(0, .ref b), (1, .ref oX), (2, .ref oM), (3, .int (nI i))] → W p l e room_1 s m #[Value.ref b] below meth c H locs 600000 7302250 (lw_Z below #[Value.ref b] s) (F0 m 683 ls [])) : ∀ (locs : List Loc) (ls : Array Slot), lcs b0 locs → lv_has ls 4 [(0, .ref b), (1, .ref oX), (2, .ref oM), (3, .int (nI i))] → W p l e room_1 s m #[Value.ref b] below meth c H locs 600000 7302250 (lw_Z below #[Value.ref b] s) (F0 m 271 ls []) := by
  obtain ⟨hx, hb, hr, hml, hown, hts, -, hbl, hlocks, hgv⟩ := id C0
  obtain ⟨hRX, hRM, hT, hX⟩ := id hLI
  intro locs ls hLc hl
  refine lv_aload_n hx hb dL_law_271 rfl (lv_at hl 1 rfl) ?_
  refine lv_aload_n hx hb dL_law_272 rfl (lv_at hl 0 rfl) ?_
  refine lv_iload_n hx hb dL_law_273 rfl (lv_at hl 3 rfl) ?_
  refine lv_iconst (v := nI 1) hx hb dL_law_274 (by decide) ?_
  refine m_iadd (a := i) (b := 1) hx hb dL_law_275 ?_
  refine m_sld hx hb hX (by omega) hL dL_law_276 ?_
  refine lv_aload_n hx hb dL_law_277 rfl (lv_at hl 0 rfl) ?_
  refine lv_iload_n hx hb dL_law_278 rfl (lv_at hl 3 rfl) ?_
  refine lv_iconst (v := nI 2) hx hb dL_law_279 (by decide) ?_
  refine m_iadd (a := i) (b := 2) hx hb dL_law_280 ?_
  refine m_sld hx hb hX (by omega) hL dL_law_281 ?_
  refine lv_aload_n hx hb dL_law_282 rfl (lv_at hl 0 rfl) ?_
  refine lv_iload_n hx hb dL_law_283 rfl (lv_at hl 3 rfl) ?_
  refine lv_iconst (v := nI 3) hx hb dL_law_284 (by decide) ?_
  refine m_iadd (a := i) (b := 3) hx hb dL_law_285 ?_
  refine m_sld hx hb hX (by omega) hL dL_law_286 ?_
  refine lv_aload_n hx hb dL_law_287 rfl (lv_at hl 0 rfl) ?_
  refine lv_iload_n hx hb dL_law_288 rfl (lv_at hl 3 rfl) ?_
  refine lv_iconst (v := nI 4) hx hb dL_law_289 (by decide) ?_
  refine m_iadd (a := i) (b := 4) hx hb dL_law_290 ?_
  refine m_sld hx hb hX (by omega) hL dL_law_291 ?_
  obtain ⟨sz, bl, f1, f2, fw, hSX, hIX, hVX⟩ := id hRX
  refine mc_i0 (va_runV (As := [.int (xs (i + 1)), .int (xs (i + 2)), .int (xs (i + 3)), .int (xs (i + 4))]) (rest := []) ⟨hx, hb, hml, hown, hts⟩ (c_X1_work l G b0 H hSX hIX (xs (i + 1)) (xs (i + 2)) (xs (i + 3)) (xs (i + 4))) (cwV 4 hts gL_law_X1_work rfl rfl rfl (by decide +kernel) ⟨Nat.le_of_ble_eq_true rfl, Nat.le_of_ble_eq_true rfl⟩) (mp_V hK hSX.w.ob rfl) rfl rfl hl.1 rfl (lv_room (Nat.le_of_ble_eq_true rfl)) dL_law_292 ⟨Nat.le_of_ble_eq_true rfl, Nat.le_of_ble_eq_true rfl⟩) hLc (fun r H1 locs hP hLc => ?_)
  obtain ⟨_, _, _, _, _, hRX1⟩ : ∃ (V1 : Nat → Int) (d1 : Nat → Nat) (d2 : Nat) (d3 : Nat → Nat) (d4 : Nat), RX G b0 oX ax H V1 d1 d2 d3 d4 H1 := by rcases hP with ⟨_, _, _, _, _, _, _, _, _, _, _, _, ⟨_, _, h9⟩ | ⟨_, ⟨_, _, h9⟩ | ⟨_, _, h9⟩⟩⟩ | ⟨_, _, h9⟩ <;> exact ⟨_, _, _, _, _, h9⟩
  have hRM1 := LI.mid hD hRM hRX1
  have hX1 := LI.scr1 hD hX hRX1
  refine lv_aload_n hx hb dL_law_295 rfl (lv_at hl 2 rfl) ?_
  refine lv_aload_n hx hb dL_law_296 rfl (lv_at hl 0 rfl) ?_
  refine lv_iload_n hx hb dL_law_297 rfl (lv_at hl 3 rfl) ?_
  refine lv_iconst (v := nI 1) hx hb dL_law_298 (by decide) ?_
  refine m_iadd (a := i) (b := 1) hx hb dL_law_299 ?_
  refine m_sld hx hb hX1 (by omega) hL dL_law_300 ?_
  refine lv_aload_n hx hb dL_law_301 rfl (lv_at hl 0 rfl) ?_
  refine lv_iload_n hx hb dL_law_302 rfl (lv_at hl 3 rfl) ?_
  refine lv_iconst (v := nI 2) hx hb dL_law_303 (by decide) ?_
  refine m_iadd (a := i) (b := 2) hx hb dL_law_304 ?_
  refine m_sld hx hb hX1 (by omega) hL dL_law_305 ?_
  refine lv_aload_n hx hb dL_law_306 rfl (lv_at hl 0 rfl) ?_
  refine lv_iload_n hx hb dL_law_307 rfl (lv_at hl 3 rfl) ?_
  refine lv_iconst (v := nI 3) hx hb dL_law_308 (by decide) ?_
  refine m_iadd (a := i) (b := 3) hx hb dL_law_309 ?_
  refine m_sld hx hb hX1 (by omega) hL dL_law_310 ?_
  refine lv_aload_n hx hb dL_law_311 rfl (lv_at hl 0 rfl) ?_
  refine lv_iload_n hx hb dL_law_312 rfl (lv_at hl 3 rfl) ?_
  refine lv_iconst (v := nI 4) hx hb dL_law_313 (by decide) ?_
  refine m_iadd (a := i) (b := 4) hx hb dL_law_314 ?_
  refine m_sld hx hb hX1 (by omega) hL dL_law_315 ?_
  obtain ⟨th, dg, bw, lm, lf, rt, ou, rs, lb, rb, ob, bL, bR, hSM, hIM, hVM⟩ := id hRM1
  refine mc_i0 (va_runV (As := [.int (xs (i + 1)), .int (xs (i + 2)), .int (xs (i + 3)), .int (xs (i + 4))]) (rest := [.int r]) ⟨hx, hb, hml, hown, hts⟩ (c_M0_work l G b0 H1 hSM hIM (xs (i + 1)) (xs (i + 2)) (xs (i + 3)) (xs (i + 4))) (cwV 4 hts gL_law_M0_work rfl rfl rfl (by decide +kernel) ⟨Nat.le_of_ble_eq_true rfl, Nat.le_of_ble_eq_true rfl⟩) (mp_V hK hSM.w.ob rfl) rfl rfl hl.1 rfl (lv_room (Nat.le_of_ble_eq_true rfl)) dL_law_316 ⟨Nat.le_of_ble_eq_true rfl, Nat.le_of_ble_eq_true rfl⟩) hLc (fun r2 H2 locs hP2 hLc => ?_)
  obtain ⟨hrr, V2, hA, hB⟩ := M_work (V := V) hVX hVM hP hP2
  refine lv_icmp_eq (tgt := 683) hx hb dL_law_319 (by decide) (fun c319 => ?_) (fun c319 => ?_)
  · skip
    exact K V2 dv dc wr wf tp td tx wn H2 (LI.fin hD hX hA hB hT) _ _ hLc (lv_sub hl [0, 1, 2, 3] rfl)
  · skip
    exact absurd hrr c319
set_option maxRecDepth 100000 in
set_option maxHeartbeats 4000000 in
theorem law_shift {p : Program} {l : Launch} {e : Env} {s : State} {m : MethodId} {below : List Frame} {meth : Method} {c : Code} {G : gG} {b b0 L : Nat} {xs : Nat → Int32} {oX oM : Nat} {ax am : Nat → Nat} {V : Nat → Int} {dv : Nat → Nat} {dc : Nat} {wr : Nat → Nat} {wf : Nat} {tp : Nat → Nat} {td : Nat} {tx : Nat → Nat} {wn : Nat} {H : Heap} {i : Nat} (hL : L ≤ 2560) (C0 : lw_At p s m meth c b L xs) (hK : KK G s) (hD : DJ b b0 oX ax oM am) (hLI : LI G s b b0 L xs oX ax oM am V dv dc wr wf tp td tx wn H) (hi : i + 5 ≤ L) (K : ∀ (V : Nat → Int) (dv : Nat → Nat) (dc : Nat) (wr : Nat → Nat) (wf : Nat) (tp : Nat → Nat) (td : Nat) (tx : Nat → Nat) (wn : Nat) (H : Heap), LI G s b b0 L xs oX ax oM am V dv dc wr wf tp td tx wn H → ∀ (locs : List Loc) (ls : Array Slot), lcs b0 locs → lv_has ls 4 [(0, .ref b), (1, .ref oX), (2, .ref oM), (3, .int (nI i))] → W p l e room_1 s m #[Value.ref b] below meth c H locs 600000 7302250 (lw_Z below #[Value.ref b] s) (F0 m 683 ls [])) : ∀ (locs : List Loc) (ls : Array Slot), lcs b0 locs → lv_has ls 4 [(0, .ref b), (1, .ref oX), (2, .ref oM), (3, .int (nI i))] → W p l e room_1 s m #[Value.ref b] below meth c H locs 600000 7302250 (lw_Z below #[Value.ref b] s) (F0 m 324 ls []) := by
  obtain ⟨hx, hb, hr, hml, hown, hts, -, hbl, hlocks, hgv⟩ := id C0
  obtain ⟨hRX, hRM, hT, hX⟩ := id hLI
  intro locs ls hLc hl
  refine lv_aload_n hx hb dL_law_324 rfl (lv_at hl 1 rfl) ?_
  refine lv_aload_n hx hb dL_law_325 rfl (lv_at hl 0 rfl) ?_
  refine lv_iload_n hx hb dL_law_326 rfl (lv_at hl 3 rfl) ?_
  refine lv_iconst (v := nI 1) hx hb dL_law_327 (by decide) ?_
  refine m_iadd (a := i) (b := 1) hx hb dL_law_328 ?_
  refine m_sld hx hb hX (by omega) hL dL_law_329 ?_
  refine lv_aload_n hx hb dL_law_330 rfl (lv_at hl 0 rfl) ?_
  refine lv_iload_n hx hb dL_law_331 rfl (lv_at hl 3 rfl) ?_
  refine lv_iconst (v := nI 2) hx hb dL_law_332 (by decide) ?_
  refine m_iadd (a := i) (b := 2) hx hb dL_law_333 ?_
  refine m_sld hx hb hX (by omega) hL dL_law_334 ?_
  refine lv_aload_n hx hb dL_law_335 rfl (lv_at hl 0 rfl) ?_
  refine lv_iload_n hx hb dL_law_336 rfl (lv_at hl 3 rfl) ?_
  refine lv_iconst (v := nI 3) hx hb dL_law_337 (by decide) ?_
  refine m_iadd (a := i) (b := 3) hx hb dL_law_338 ?_
  refine m_sld hx hb hX (by omega) hL dL_law_339 ?_
  refine lv_aload_n hx hb dL_law_340 rfl (lv_at hl 0 rfl) ?_
  refine lv_iload_n hx hb dL_law_341 rfl (lv_at hl 3 rfl) ?_
  refine lv_iconst (v := nI 4) hx hb dL_law_342 (by decide) ?_
  refine m_iadd (a := i) (b := 4) hx hb dL_law_343 ?_
  refine m_sld hx hb hX (by omega) hL dL_law_344 ?_
  refine lv_if_eq (tgt := 352) hx hb dL_law_345 (by decide) (fun c345 => ?_) (fun c345 => ?_)
  · skip
    refine lv_iconst (v := nI 0) hx hb dL_law_352 (by decide) ?_
    obtain ⟨sz, bl, f1, f2, fw, hSX, hIX, hVX⟩ := id hRX
    refine mc_i0 (va_runV (As := [.int (xs (i + 1)), .int (xs (i + 2)), .int (xs (i + 3)), .int (nI 0)]) (rest := []) ⟨hx, hb, hml, hown, hts⟩ (c_X1_shift l G b0 H hSX hIX (xs (i + 1)) (xs (i + 2)) (xs (i + 3)) (by decide)) (cwV 4 hts gL_law_X1_shift rfl rfl rfl (by decide +kernel) ⟨Nat.le_of_ble_eq_true rfl, Nat.le_of_ble_eq_true rfl⟩) (mp_V hK hSX.w.ob rfl) rfl rfl hl.1 rfl (lv_room (Nat.le_of_ble_eq_true rfl)) dL_law_353 ⟨Nat.le_of_ble_eq_true rfl, Nat.le_of_ble_eq_true rfl⟩) hLc (fun r H1 locs hP hLc => ?_)
    obtain ⟨_, _, _, _, _, hRX1⟩ : ∃ (V1 : Nat → Int) (d1 : Nat → Nat) (d2 : Nat) (d3 : Nat → Nat) (d4 : Nat), RX G b0 oX ax H V1 d1 d2 d3 d4 H1 := by rcases hP with ⟨_, _, _, _, _, _, _, _, _, ⟨_, _, h9⟩ | ⟨_, _, h9⟩⟩ | ⟨_, _, h9⟩ <;> exact ⟨_, _, _, _, _, h9⟩
    have hRM1 := LI.mid hD hRM hRX1
    have hX1 := LI.scr1 hD hX hRX1
    refine lv_aload_n hx hb dL_law_356 rfl (lv_at hl 2 rfl) ?_
    refine lv_aload_n hx hb dL_law_357 rfl (lv_at hl 0 rfl) ?_
    refine lv_iload_n hx hb dL_law_358 rfl (lv_at hl 3 rfl) ?_
    refine lv_iconst (v := nI 1) hx hb dL_law_359 (by decide) ?_
    refine m_iadd (a := i) (b := 1) hx hb dL_law_360 ?_
    refine m_sld hx hb hX1 (by omega) hL dL_law_361 ?_
    refine lv_aload_n hx hb dL_law_362 rfl (lv_at hl 0 rfl) ?_
    refine lv_iload_n hx hb dL_law_363 rfl (lv_at hl 3 rfl) ?_
    refine lv_iconst (v := nI 2) hx hb dL_law_364 (by decide) ?_
    refine m_iadd (a := i) (b := 2) hx hb dL_law_365 ?_
    refine m_sld hx hb hX1 (by omega) hL dL_law_366 ?_
    refine lv_aload_n hx hb dL_law_367 rfl (lv_at hl 0 rfl) ?_
    refine lv_iload_n hx hb dL_law_368 rfl (lv_at hl 3 rfl) ?_
    refine lv_iconst (v := nI 3) hx hb dL_law_369 (by decide) ?_
    refine m_iadd (a := i) (b := 3) hx hb dL_law_370 ?_
    refine m_sld hx hb hX1 (by omega) hL dL_law_371 ?_
    refine lv_aload_n hx hb dL_law_372 rfl (lv_at hl 0 rfl) ?_
    refine lv_iload_n hx hb dL_law_373 rfl (lv_at hl 3 rfl) ?_
    refine lv_iconst (v := nI 4) hx hb dL_law_374 (by decide) ?_
    refine m_iadd (a := i) (b := 4) hx hb dL_law_375 ?_
    refine m_sld hx hb hX1 (by omega) hL dL_law_376 ?_
    refine lv_if_eq (tgt := 384) hx hb dL_law_377 (by decide) (fun _ => ?_) (fun h => absurd (c345) h)
    refine lv_iconst (v := nI 0) hx hb dL_law_384 (by decide) ?_
    obtain ⟨th, dg, bw, lm, lf, rt, ou, rs, lb, rb, ob, bL, bR, hSM, hIM, hVM⟩ := id hRM1
    refine mc_i0 (va_runV (As := [.int (xs (i + 1)), .int (xs (i + 2)), .int (xs (i + 3)), .int (nI 0)]) (rest := [.int r]) ⟨hx, hb, hml, hown, hts⟩ (c_M0_shift l G b0 H1 hSM hIM (xs (i + 1)) (xs (i + 2)) (xs (i + 3)) (by decide)) (cwV 4 hts gL_law_M0_shift rfl rfl rfl (by decide +kernel) ⟨Nat.le_of_ble_eq_true rfl, Nat.le_of_ble_eq_true rfl⟩) (mp_V hK hSM.w.ob rfl) rfl rfl hl.1 rfl (lv_room (Nat.le_of_ble_eq_true rfl)) dL_law_385 ⟨Nat.le_of_ble_eq_true rfl, Nat.le_of_ble_eq_true rfl⟩) hLc (fun r2 H2 locs hP2 hLc => ?_)
    obtain ⟨hrr, V2, hA, hB⟩ := M_shift (V := V) (f := fun i n => if 0 = 1 then valX sz bl i * ((2 ^ n : Nat) : Int) else valX sz bl i / ((2 ^ n : Nat) : Int)) (fm := fun i n => if 0 = 1 then valM dg bw i * ((2 ^ n : Nat) : Int) else valM dg bw i / ((2 ^ n : Nat) : Int)) hVX hVM (fun i n hi => by rw [hVX i (by omega), hVM i (by omega)]) hP hP2
    refine lv_icmp_eq (tgt := 683) hx hb dL_law_388 (by decide) (fun c388 => ?_) (fun c388 => ?_)
    · skip
      exact K V2 dv dc wr wf tp td tx wn H2 (LI.fin hD hX hA hB hT) _ _ hLc (lv_sub hl [0, 1, 2, 3] rfl)
    · skip
      exact absurd hrr c388
  · skip
    refine lv_iconst (v := nI 1) hx hb dL_law_348 (by decide) ?_
    refine lv_goto (tgt := 353) hx hb dL_law_349 (by decide) ?_
    obtain ⟨sz, bl, f1, f2, fw, hSX, hIX, hVX⟩ := id hRX
    refine mc_i0 (va_runV (As := [.int (xs (i + 1)), .int (xs (i + 2)), .int (xs (i + 3)), .int (nI 1)]) (rest := []) ⟨hx, hb, hml, hown, hts⟩ (c_X1_shift l G b0 H hSX hIX (xs (i + 1)) (xs (i + 2)) (xs (i + 3)) (by decide)) (cwV 4 hts gL_law_X1_shift rfl rfl rfl (by decide +kernel) ⟨Nat.le_of_ble_eq_true rfl, Nat.le_of_ble_eq_true rfl⟩) (mp_V hK hSX.w.ob rfl) rfl rfl hl.1 rfl (lv_room (Nat.le_of_ble_eq_true rfl)) dL_law_353 ⟨Nat.le_of_ble_eq_true rfl, Nat.le_of_ble_eq_true rfl⟩) hLc (fun r H1 locs hP hLc => ?_)
    obtain ⟨_, _, _, _, _, hRX1⟩ : ∃ (V1 : Nat → Int) (d1 : Nat → Nat) (d2 : Nat) (d3 : Nat → Nat) (d4 : Nat), RX G b0 oX ax H V1 d1 d2 d3 d4 H1 := by rcases hP with ⟨_, _, _, _, _, _, _, _, _, ⟨_, _, h9⟩ | ⟨_, _, h9⟩⟩ | ⟨_, _, h9⟩ <;> exact ⟨_, _, _, _, _, h9⟩
    have hRM1 := LI.mid hD hRM hRX1
    have hX1 := LI.scr1 hD hX hRX1
    refine lv_aload_n hx hb dL_law_356 rfl (lv_at hl 2 rfl) ?_
    refine lv_aload_n hx hb dL_law_357 rfl (lv_at hl 0 rfl) ?_
    refine lv_iload_n hx hb dL_law_358 rfl (lv_at hl 3 rfl) ?_
    refine lv_iconst (v := nI 1) hx hb dL_law_359 (by decide) ?_
    refine m_iadd (a := i) (b := 1) hx hb dL_law_360 ?_
    refine m_sld hx hb hX1 (by omega) hL dL_law_361 ?_
    refine lv_aload_n hx hb dL_law_362 rfl (lv_at hl 0 rfl) ?_
    refine lv_iload_n hx hb dL_law_363 rfl (lv_at hl 3 rfl) ?_
    refine lv_iconst (v := nI 2) hx hb dL_law_364 (by decide) ?_
    refine m_iadd (a := i) (b := 2) hx hb dL_law_365 ?_
    refine m_sld hx hb hX1 (by omega) hL dL_law_366 ?_
    refine lv_aload_n hx hb dL_law_367 rfl (lv_at hl 0 rfl) ?_
    refine lv_iload_n hx hb dL_law_368 rfl (lv_at hl 3 rfl) ?_
    refine lv_iconst (v := nI 3) hx hb dL_law_369 (by decide) ?_
    refine m_iadd (a := i) (b := 3) hx hb dL_law_370 ?_
    refine m_sld hx hb hX1 (by omega) hL dL_law_371 ?_
    refine lv_aload_n hx hb dL_law_372 rfl (lv_at hl 0 rfl) ?_
    refine lv_iload_n hx hb dL_law_373 rfl (lv_at hl 3 rfl) ?_
    refine lv_iconst (v := nI 4) hx hb dL_law_374 (by decide) ?_
    refine m_iadd (a := i) (b := 4) hx hb dL_law_375 ?_
    refine m_sld hx hb hX1 (by omega) hL dL_law_376 ?_
    refine lv_if_eq (tgt := 384) hx hb dL_law_377 (by decide) (fun h => absurd h (c345)) (fun _ => ?_)
    refine lv_iconst (v := nI 1) hx hb dL_law_380 (by decide) ?_
    refine lv_goto (tgt := 385) hx hb dL_law_381 (by decide) ?_
    obtain ⟨th, dg, bw, lm, lf, rt, ou, rs, lb, rb, ob, bL, bR, hSM, hIM, hVM⟩ := id hRM1
    refine mc_i0 (va_runV (As := [.int (xs (i + 1)), .int (xs (i + 2)), .int (xs (i + 3)), .int (nI 1)]) (rest := [.int r]) ⟨hx, hb, hml, hown, hts⟩ (c_M0_shift l G b0 H1 hSM hIM (xs (i + 1)) (xs (i + 2)) (xs (i + 3)) (by decide)) (cwV 4 hts gL_law_M0_shift rfl rfl rfl (by decide +kernel) ⟨Nat.le_of_ble_eq_true rfl, Nat.le_of_ble_eq_true rfl⟩) (mp_V hK hSM.w.ob rfl) rfl rfl hl.1 rfl (lv_room (Nat.le_of_ble_eq_true rfl)) dL_law_385 ⟨Nat.le_of_ble_eq_true rfl, Nat.le_of_ble_eq_true rfl⟩) hLc (fun r2 H2 locs hP2 hLc => ?_)
    obtain ⟨hrr, V2, hA, hB⟩ := M_shift (V := V) (f := fun i n => if 1 = 1 then valX sz bl i * ((2 ^ n : Nat) : Int) else valX sz bl i / ((2 ^ n : Nat) : Int)) (fm := fun i n => if 1 = 1 then valM dg bw i * ((2 ^ n : Nat) : Int) else valM dg bw i / ((2 ^ n : Nat) : Int)) hVX hVM (fun i n hi => by rw [hVX i (by omega), hVM i (by omega)]) hP hP2
    refine lv_icmp_eq (tgt := 683) hx hb dL_law_388 (by decide) (fun c388 => ?_) (fun c388 => ?_)
    · skip
      exact K V2 dv dc wr wf tp td tx wn H2 (LI.fin hD hX hA hB hT) _ _ hLc (lv_sub hl [0, 1, 2, 3] rfl)
    · skip
      exact absurd hrr c388
set_option maxRecDepth 100000 in
set_option maxHeartbeats 4000000 in
theorem law_turn {p : Program} {l : Launch} {e : Env} {s : State} {m : MethodId} {below : List Frame} {meth : Method} {c : Code} {G : gG} {b b0 L : Nat} {xs : Nat → Int32} {oX oM : Nat} {ax am : Nat → Nat} {V : Nat → Int} {dv : Nat → Nat} {dc : Nat} {wr : Nat → Nat} {wf : Nat} {tp : Nat → Nat} {td : Nat} {tx : Nat → Nat} {wn : Nat} {H : Heap} {i : Nat} (hL : L ≤ 2560) (C0 : lw_At p s m meth c b L xs) (hK : KK G s) (hD : DJ b b0 oX ax oM am) (hLI : LI G s b b0 L xs oX ax oM am V dv dc wr wf tp td tx wn H) (hi : i + 5 ≤ L) (K : ∀ (V : Nat → Int) (dv : Nat → Nat) (dc : Nat) (wr : Nat → Nat) (wf : Nat) (tp : Nat → Nat) (td : Nat) (tx : Nat → Nat) (wn : Nat) (H : Heap), LI G s b b0 L xs oX ax oM am V dv dc wr wf tp td tx wn H → ∀ (locs : List Loc) (ls : Array Slot), lcs b0 locs → lv_has ls 4 [(0, .ref b), (1, .ref oX), (2, .ref oM), (3, .int (nI i))] → W p l e room_1 s m #[Value.ref b] below meth c H locs 600000 7302250 (lw_Z below #[Value.ref b] s) (F0 m 683 ls [])) : ∀ (locs : List Loc) (ls : Array Slot), lcs b0 locs → lv_has ls 4 [(0, .ref b), (1, .ref oX), (2, .ref oM), (3, .int (nI i))] → W p l e room_1 s m #[Value.ref b] below meth c H locs 600000 7302250 (lw_Z below #[Value.ref b] s) (F0 m 393 ls []) := by
  obtain ⟨hx, hb, hr, hml, hown, hts, -, hbl, hlocks, hgv⟩ := id C0
  obtain ⟨hRX, hRM, hT, hX⟩ := id hLI
  intro locs ls hLc hl
  refine lv_aload_n hx hb dL_law_393 rfl (lv_at hl 1 rfl) ?_
  refine lv_aload_n hx hb dL_law_394 rfl (lv_at hl 0 rfl) ?_
  refine lv_iload_n hx hb dL_law_395 rfl (lv_at hl 3 rfl) ?_
  refine lv_iconst (v := nI 1) hx hb dL_law_396 (by decide) ?_
  refine m_iadd (a := i) (b := 1) hx hb dL_law_397 ?_
  refine m_sld hx hb hX (by omega) hL dL_law_398 ?_
  refine lv_aload_n hx hb dL_law_399 rfl (lv_at hl 0 rfl) ?_
  refine lv_iload_n hx hb dL_law_400 rfl (lv_at hl 3 rfl) ?_
  refine lv_iconst (v := nI 2) hx hb dL_law_401 (by decide) ?_
  refine m_iadd (a := i) (b := 2) hx hb dL_law_402 ?_
  refine m_sld hx hb hX (by omega) hL dL_law_403 ?_
  refine lv_aload_n hx hb dL_law_404 rfl (lv_at hl 0 rfl) ?_
  refine lv_iload_n hx hb dL_law_405 rfl (lv_at hl 3 rfl) ?_
  refine lv_iconst (v := nI 3) hx hb dL_law_406 (by decide) ?_
  refine m_iadd (a := i) (b := 3) hx hb dL_law_407 ?_
  refine m_sld hx hb hX (by omega) hL dL_law_408 ?_
  refine lv_if_eq (tgt := 416) hx hb dL_law_409 (by decide) (fun c409 => ?_) (fun c409 => ?_)
  · skip
    refine lv_iconst (v := nI 0) hx hb dL_law_416 (by decide) ?_
    obtain ⟨sz, bl, f1, f2, fw, hSX, hIX, hVX⟩ := id hRX
    refine mc_i0 (va_runV (As := [.int (xs (i + 1)), .int (xs (i + 2)), .int (nI 0)]) (rest := []) ⟨hx, hb, hml, hown, hts⟩ (c_X1_turn l G b0 H hSX hIX (xs (i + 1)) (xs (i + 2)) (by decide)) (cwV 3 hts gL_law_X1_turn rfl rfl rfl (by decide +kernel) ⟨Nat.le_of_ble_eq_true rfl, Nat.le_of_ble_eq_true rfl⟩) (mp_V hK hSX.w.ob rfl) rfl rfl hl.1 rfl (lv_room (Nat.le_of_ble_eq_true rfl)) dL_law_417 ⟨Nat.le_of_ble_eq_true rfl, Nat.le_of_ble_eq_true rfl⟩) hLc (fun r H1 locs hP hLc => ?_)
    obtain ⟨_, _, _, _, _, hRX1⟩ : ∃ (V1 : Nat → Int) (d1 : Nat → Nat) (d2 : Nat) (d3 : Nat → Nat) (d4 : Nat), RX G b0 oX ax H V1 d1 d2 d3 d4 H1 := by rcases hP with ⟨_, _, _, _, _, _, ⟨_, _, h9⟩ | ⟨_, _, h9⟩⟩ | ⟨_, _, h9⟩ <;> exact ⟨_, _, _, _, _, h9⟩
    have hRM1 := LI.mid hD hRM hRX1
    have hX1 := LI.scr1 hD hX hRX1
    refine lv_aload_n hx hb dL_law_420 rfl (lv_at hl 2 rfl) ?_
    refine lv_aload_n hx hb dL_law_421 rfl (lv_at hl 0 rfl) ?_
    refine lv_iload_n hx hb dL_law_422 rfl (lv_at hl 3 rfl) ?_
    refine lv_iconst (v := nI 1) hx hb dL_law_423 (by decide) ?_
    refine m_iadd (a := i) (b := 1) hx hb dL_law_424 ?_
    refine m_sld hx hb hX1 (by omega) hL dL_law_425 ?_
    refine lv_aload_n hx hb dL_law_426 rfl (lv_at hl 0 rfl) ?_
    refine lv_iload_n hx hb dL_law_427 rfl (lv_at hl 3 rfl) ?_
    refine lv_iconst (v := nI 2) hx hb dL_law_428 (by decide) ?_
    refine m_iadd (a := i) (b := 2) hx hb dL_law_429 ?_
    refine m_sld hx hb hX1 (by omega) hL dL_law_430 ?_
    refine lv_aload_n hx hb dL_law_431 rfl (lv_at hl 0 rfl) ?_
    refine lv_iload_n hx hb dL_law_432 rfl (lv_at hl 3 rfl) ?_
    refine lv_iconst (v := nI 3) hx hb dL_law_433 (by decide) ?_
    refine m_iadd (a := i) (b := 3) hx hb dL_law_434 ?_
    refine m_sld hx hb hX1 (by omega) hL dL_law_435 ?_
    refine lv_if_eq (tgt := 443) hx hb dL_law_436 (by decide) (fun _ => ?_) (fun h => absurd (c409) h)
    refine lv_iconst (v := nI 0) hx hb dL_law_443 (by decide) ?_
    obtain ⟨th, dg, bw, lm, lf, rt, ou, rs, lb, rb, ob, bL, bR, hSM, hIM, hVM⟩ := id hRM1
    refine mc_i0 (va_runV (As := [.int (xs (i + 1)), .int (xs (i + 2)), .int (nI 0)]) (rest := [.int r]) ⟨hx, hb, hml, hown, hts⟩ (c_M0_turn l G b0 H1 hSM hIM (xs (i + 1)) (xs (i + 2)) (by decide)) (cwV 3 hts gL_law_M0_turn rfl rfl rfl (by decide +kernel) ⟨Nat.le_of_ble_eq_true rfl, Nat.le_of_ble_eq_true rfl⟩) (mp_V hK hSM.w.ob rfl) rfl rfl hl.1 rfl (lv_room (Nat.le_of_ble_eq_true rfl)) dL_law_444 ⟨Nat.le_of_ble_eq_true rfl, Nat.le_of_ble_eq_true rfl⟩) hLc (fun r2 H2 locs hP2 hLc => ?_)
    obtain ⟨hrr, V2, hA, hB⟩ := M_turn (V := V) (f := fun i => if 0 = 1 then -1 - valX sz bl i else -valX sz bl i) (fm := fun i => if 0 = 1 then -1 - valM dg bw i else -valM dg bw i) hVX hVM (fun i hi => by rw [hVX i (by omega), hVM i (by omega)]) hP hP2
    refine lv_icmp_eq (tgt := 683) hx hb dL_law_447 (by decide) (fun c447 => ?_) (fun c447 => ?_)
    · skip
      exact K V2 dv dc wr wf tp td tx wn H2 (LI.fin hD hX hA hB hT) _ _ hLc (lv_sub hl [0, 1, 2, 3] rfl)
    · skip
      exact absurd hrr c447
  · skip
    refine lv_iconst (v := nI 1) hx hb dL_law_412 (by decide) ?_
    refine lv_goto (tgt := 417) hx hb dL_law_413 (by decide) ?_
    obtain ⟨sz, bl, f1, f2, fw, hSX, hIX, hVX⟩ := id hRX
    refine mc_i0 (va_runV (As := [.int (xs (i + 1)), .int (xs (i + 2)), .int (nI 1)]) (rest := []) ⟨hx, hb, hml, hown, hts⟩ (c_X1_turn l G b0 H hSX hIX (xs (i + 1)) (xs (i + 2)) (by decide)) (cwV 3 hts gL_law_X1_turn rfl rfl rfl (by decide +kernel) ⟨Nat.le_of_ble_eq_true rfl, Nat.le_of_ble_eq_true rfl⟩) (mp_V hK hSX.w.ob rfl) rfl rfl hl.1 rfl (lv_room (Nat.le_of_ble_eq_true rfl)) dL_law_417 ⟨Nat.le_of_ble_eq_true rfl, Nat.le_of_ble_eq_true rfl⟩) hLc (fun r H1 locs hP hLc => ?_)
    obtain ⟨_, _, _, _, _, hRX1⟩ : ∃ (V1 : Nat → Int) (d1 : Nat → Nat) (d2 : Nat) (d3 : Nat → Nat) (d4 : Nat), RX G b0 oX ax H V1 d1 d2 d3 d4 H1 := by rcases hP with ⟨_, _, _, _, _, _, ⟨_, _, h9⟩ | ⟨_, _, h9⟩⟩ | ⟨_, _, h9⟩ <;> exact ⟨_, _, _, _, _, h9⟩
    have hRM1 := LI.mid hD hRM hRX1
    have hX1 := LI.scr1 hD hX hRX1
    refine lv_aload_n hx hb dL_law_420 rfl (lv_at hl 2 rfl) ?_
    refine lv_aload_n hx hb dL_law_421 rfl (lv_at hl 0 rfl) ?_
    refine lv_iload_n hx hb dL_law_422 rfl (lv_at hl 3 rfl) ?_
    refine lv_iconst (v := nI 1) hx hb dL_law_423 (by decide) ?_
    refine m_iadd (a := i) (b := 1) hx hb dL_law_424 ?_
    refine m_sld hx hb hX1 (by omega) hL dL_law_425 ?_
    refine lv_aload_n hx hb dL_law_426 rfl (lv_at hl 0 rfl) ?_
    refine lv_iload_n hx hb dL_law_427 rfl (lv_at hl 3 rfl) ?_
    refine lv_iconst (v := nI 2) hx hb dL_law_428 (by decide) ?_
    refine m_iadd (a := i) (b := 2) hx hb dL_law_429 ?_
    refine m_sld hx hb hX1 (by omega) hL dL_law_430 ?_
    refine lv_aload_n hx hb dL_law_431 rfl (lv_at hl 0 rfl) ?_
    refine lv_iload_n hx hb dL_law_432 rfl (lv_at hl 3 rfl) ?_
    refine lv_iconst (v := nI 3) hx hb dL_law_433 (by decide) ?_
    refine m_iadd (a := i) (b := 3) hx hb dL_law_434 ?_
    refine m_sld hx hb hX1 (by omega) hL dL_law_435 ?_
    refine lv_if_eq (tgt := 443) hx hb dL_law_436 (by decide) (fun h => absurd h (c409)) (fun _ => ?_)
    refine lv_iconst (v := nI 1) hx hb dL_law_439 (by decide) ?_
    refine lv_goto (tgt := 444) hx hb dL_law_440 (by decide) ?_
    obtain ⟨th, dg, bw, lm, lf, rt, ou, rs, lb, rb, ob, bL, bR, hSM, hIM, hVM⟩ := id hRM1
    refine mc_i0 (va_runV (As := [.int (xs (i + 1)), .int (xs (i + 2)), .int (nI 1)]) (rest := [.int r]) ⟨hx, hb, hml, hown, hts⟩ (c_M0_turn l G b0 H1 hSM hIM (xs (i + 1)) (xs (i + 2)) (by decide)) (cwV 3 hts gL_law_M0_turn rfl rfl rfl (by decide +kernel) ⟨Nat.le_of_ble_eq_true rfl, Nat.le_of_ble_eq_true rfl⟩) (mp_V hK hSM.w.ob rfl) rfl rfl hl.1 rfl (lv_room (Nat.le_of_ble_eq_true rfl)) dL_law_444 ⟨Nat.le_of_ble_eq_true rfl, Nat.le_of_ble_eq_true rfl⟩) hLc (fun r2 H2 locs hP2 hLc => ?_)
    obtain ⟨hrr, V2, hA, hB⟩ := M_turn (V := V) (f := fun i => if 1 = 1 then -1 - valX sz bl i else -valX sz bl i) (fm := fun i => if 1 = 1 then -1 - valM dg bw i else -valM dg bw i) hVX hVM (fun i hi => by rw [hVX i (by omega), hVM i (by omega)]) hP hP2
    refine lv_icmp_eq (tgt := 683) hx hb dL_law_447 (by decide) (fun c447 => ?_) (fun c447 => ?_)
    · skip
      exact K V2 dv dc wr wf tp td tx wn H2 (LI.fin hD hX hA hB hT) _ _ hLc (lv_sub hl [0, 1, 2, 3] rfl)
    · skip
      exact absurd hrr c447
set_option maxRecDepth 100000 in
set_option maxHeartbeats 4000000 in
theorem law_compare {p : Program} {l : Launch} {e : Env} {s : State} {m : MethodId} {below : List Frame} {meth : Method} {c : Code} {G : gG} {b b0 L : Nat} {xs : Nat → Int32} {oX oM : Nat} {ax am : Nat → Nat} {V : Nat → Int} {dv : Nat → Nat} {dc : Nat} {wr : Nat → Nat} {wf : Nat} {tp : Nat → Nat} {td : Nat} {tx : Nat → Nat} {wn : Nat} {H : Heap} {i : Nat} (hL : L ≤ 2560) (C0 : lw_At p s m meth c b L xs) (hK : KK G s) (hD : DJ b b0 oX ax oM am) (hLI : LI G s b b0 L xs oX ax oM am V dv dc wr wf tp td tx wn H) (hi : i + 5 ≤ L) (K : ∀ (V : Nat → Int) (dv : Nat → Nat) (dc : Nat) (wr : Nat → Nat) (wf : Nat) (tp : Nat → Nat) (td : Nat) (tx : Nat → Nat) (wn : Nat) (H : Heap), LI G s b b0 L xs oX ax oM am V dv dc wr wf tp td tx wn H → ∀ (locs : List Loc) (ls : Array Slot), lcs b0 locs → lv_has ls 4 [(0, .ref b), (1, .ref oX), (2, .ref oM), (3, .int (nI i))] → W p l e room_1 s m #[Value.ref b] below meth c H locs 600000 7302250 (lw_Z below #[Value.ref b] s) (F0 m 683 ls [])) : ∀ (locs : List Loc) (ls : Array Slot), lcs b0 locs → lv_has ls 4 [(0, .ref b), (1, .ref oX), (2, .ref oM), (3, .int (nI i))] → W p l e room_1 s m #[Value.ref b] below meth c H locs 600000 7302250 (lw_Z below #[Value.ref b] s) (F0 m 452 ls []) := by
  obtain ⟨hx, hb, hr, hml, hown, hts, -, hbl, hlocks, hgv⟩ := id C0
  obtain ⟨hRX, hRM, hT, hX⟩ := id hLI
  intro locs ls hLc hl
  refine lv_aload_n hx hb dL_law_452 rfl (lv_at hl 1 rfl) ?_
  refine lv_aload_n hx hb dL_law_453 rfl (lv_at hl 0 rfl) ?_
  refine lv_iload_n hx hb dL_law_454 rfl (lv_at hl 3 rfl) ?_
  refine lv_iconst (v := nI 1) hx hb dL_law_455 (by decide) ?_
  refine m_iadd (a := i) (b := 1) hx hb dL_law_456 ?_
  refine m_sld hx hb hX (by omega) hL dL_law_457 ?_
  refine lv_aload_n hx hb dL_law_458 rfl (lv_at hl 0 rfl) ?_
  refine lv_iload_n hx hb dL_law_459 rfl (lv_at hl 3 rfl) ?_
  refine lv_iconst (v := nI 2) hx hb dL_law_460 (by decide) ?_
  refine m_iadd (a := i) (b := 2) hx hb dL_law_461 ?_
  refine m_sld hx hb hX (by omega) hL dL_law_462 ?_
  obtain ⟨sz, bl, f1, f2, fw, hSX, hIX, hVX⟩ := id hRX
  refine mc_i0 (va_runV (As := [.int (xs (i + 1)), .int (xs (i + 2))]) (rest := []) ⟨hx, hb, hml, hown, hts⟩ (c_X1_compare l G b0 H hSX hIX (xs (i + 1)) (xs (i + 2))) (cwV 2 hts gL_law_X1_compare rfl rfl rfl (by decide +kernel) ⟨Nat.le_of_ble_eq_true rfl, Nat.le_of_ble_eq_true rfl⟩) (mp_V hK hSX.w.ob rfl) rfl rfl hl.1 rfl (lv_room (Nat.le_of_ble_eq_true rfl)) dL_law_463 ⟨Nat.le_of_ble_eq_true rfl, Nat.le_of_ble_eq_true rfl⟩) hLc (fun r H1 locs hP hLc => ?_)
  obtain ⟨hP, rfl⟩ := hP
  have hRM1 := hRM
  have hX1 := hX
  refine lv_aload_n hx hb dL_law_466 rfl (lv_at hl 2 rfl) ?_
  refine lv_aload_n hx hb dL_law_467 rfl (lv_at hl 0 rfl) ?_
  refine lv_iload_n hx hb dL_law_468 rfl (lv_at hl 3 rfl) ?_
  refine lv_iconst (v := nI 1) hx hb dL_law_469 (by decide) ?_
  refine m_iadd (a := i) (b := 1) hx hb dL_law_470 ?_
  refine m_sld hx hb hX1 (by omega) hL dL_law_471 ?_
  refine lv_aload_n hx hb dL_law_472 rfl (lv_at hl 0 rfl) ?_
  refine lv_iload_n hx hb dL_law_473 rfl (lv_at hl 3 rfl) ?_
  refine lv_iconst (v := nI 2) hx hb dL_law_474 (by decide) ?_
  refine m_iadd (a := i) (b := 2) hx hb dL_law_475 ?_
  refine m_sld hx hb hX1 (by omega) hL dL_law_476 ?_
  obtain ⟨th, dg, bw, lm, lf, rt, ou, rs, lb, rb, ob, bL, bR, hSM, hIM, hVM⟩ := id hRM1
  refine mc_i0 (va_runV (As := [.int (xs (i + 1)), .int (xs (i + 2))]) (rest := [.int r]) ⟨hx, hb, hml, hown, hts⟩ (c_M0_compare l G b0 H hSM hIM (xs (i + 1)) (xs (i + 2))) (cwV 2 hts gL_law_M0_compare rfl rfl rfl (by decide +kernel) ⟨Nat.le_of_ble_eq_true rfl, Nat.le_of_ble_eq_true rfl⟩) (mp_V hK hSM.w.ob rfl) rfl rfl hl.1 rfl (lv_room (Nat.le_of_ble_eq_true rfl)) dL_law_477 ⟨Nat.le_of_ble_eq_true rfl, Nat.le_of_ble_eq_true rfl⟩) hLc (fun r2 H2 locs hP2 hLc => ?_)
  obtain ⟨hP2, hB⟩ := hP2
  have hrr := M_compare (V := V) hVX hVM hP hP2
  refine lv_icmp_eq (tgt := 683) hx hb dL_law_480 (by decide) (fun c480 => ?_) (fun c480 => ?_)
  · skip
    exact K V dv dc wr wf tp td tx wn H2 (LI.fin hD hX hRX (hB.val hVM) hT) _ _ hLc (lv_sub hl [0, 1, 2, 3] rfl)
  · skip
    exact absurd hrr c480
set_option maxRecDepth 100000 in
set_option maxHeartbeats 4000000 in
theorem law_bits {p : Program} {l : Launch} {e : Env} {s : State} {m : MethodId} {below : List Frame} {meth : Method} {c : Code} {G : gG} {b b0 L : Nat} {xs : Nat → Int32} {oX oM : Nat} {ax am : Nat → Nat} {V : Nat → Int} {dv : Nat → Nat} {dc : Nat} {wr : Nat → Nat} {wf : Nat} {tp : Nat → Nat} {td : Nat} {tx : Nat → Nat} {wn : Nat} {H : Heap} {i : Nat} (hL : L ≤ 2560) (C0 : lw_At p s m meth c b L xs) (hK : KK G s) (hD : DJ b b0 oX ax oM am) (hLI : LI G s b b0 L xs oX ax oM am V dv dc wr wf tp td tx wn H) (hi : i + 5 ≤ L) (K : ∀ (V : Nat → Int) (dv : Nat → Nat) (dc : Nat) (wr : Nat → Nat) (wf : Nat) (tp : Nat → Nat) (td : Nat) (tx : Nat → Nat) (wn : Nat) (H : Heap), LI G s b b0 L xs oX ax oM am V dv dc wr wf tp td tx wn H → ∀ (locs : List Loc) (ls : Array Slot), lcs b0 locs → lv_has ls 4 [(0, .ref b), (1, .ref oX), (2, .ref oM), (3, .int (nI i))] → W p l e room_1 s m #[Value.ref b] below meth c H locs 600000 7302250 (lw_Z below #[Value.ref b] s) (F0 m 683 ls [])) : ∀ (locs : List Loc) (ls : Array Slot), lcs b0 locs → lv_has ls 4 [(0, .ref b), (1, .ref oX), (2, .ref oM), (3, .int (nI i))] → W p l e room_1 s m #[Value.ref b] below meth c H locs 600000 7302250 (lw_Z below #[Value.ref b] s) (F0 m 485 ls []) := by
  obtain ⟨hx, hb, hr, hml, hown, hts, -, hbl, hlocks, hgv⟩ := id C0
  obtain ⟨hRX, hRM, hT, hX⟩ := id hLI
  intro locs ls hLc hl
  refine lv_aload_n hx hb dL_law_485 rfl (lv_at hl 1 rfl) ?_
  refine lv_aload_n hx hb dL_law_486 rfl (lv_at hl 0 rfl) ?_
  refine lv_iload_n hx hb dL_law_487 rfl (lv_at hl 3 rfl) ?_
  refine lv_iconst (v := nI 1) hx hb dL_law_488 (by decide) ?_
  refine m_iadd (a := i) (b := 1) hx hb dL_law_489 ?_
  refine m_sld hx hb hX (by omega) hL dL_law_490 ?_
  obtain ⟨sz, bl, f1, f2, fw, hSX, hIX, hVX⟩ := id hRX
  refine mc_i0 (va_runV (As := [.int (xs (i + 1))]) (rest := []) ⟨hx, hb, hml, hown, hts⟩ (c_X1_bits l G b0 H hSX hIX (xs (i + 1))) (cwV 1 hts gL_law_X1_bits rfl rfl rfl (by decide +kernel) ⟨Nat.le_of_ble_eq_true rfl, Nat.le_of_ble_eq_true rfl⟩) (mp_V hK hSX.w.ob rfl) rfl rfl hl.1 rfl (lv_room (Nat.le_of_ble_eq_true rfl)) dL_law_491 ⟨Nat.le_of_ble_eq_true rfl, Nat.le_of_ble_eq_true rfl⟩) hLc (fun r H1 locs hP hLc => ?_)
  obtain ⟨hP, rfl⟩ := hP
  have hRM1 := hRM
  have hX1 := hX
  refine lv_aload_n hx hb dL_law_494 rfl (lv_at hl 2 rfl) ?_
  refine lv_aload_n hx hb dL_law_495 rfl (lv_at hl 0 rfl) ?_
  refine lv_iload_n hx hb dL_law_496 rfl (lv_at hl 3 rfl) ?_
  refine lv_iconst (v := nI 1) hx hb dL_law_497 (by decide) ?_
  refine m_iadd (a := i) (b := 1) hx hb dL_law_498 ?_
  refine m_sld hx hb hX1 (by omega) hL dL_law_499 ?_
  obtain ⟨th, dg, bw, lm, lf, rt, ou, rs, lb, rb, ob, bL, bR, hSM, hIM, hVM⟩ := id hRM1
  refine mc_i0 (va_runV (As := [.int (xs (i + 1))]) (rest := [.int r]) ⟨hx, hb, hml, hown, hts⟩ (c_M0_bits l G b0 H hSM hIM (xs (i + 1))) (cwV 1 hts gL_law_M0_bits rfl rfl rfl (by decide +kernel) ⟨Nat.le_of_ble_eq_true rfl, Nat.le_of_ble_eq_true rfl⟩) (mp_V hK hSM.w.ob rfl) rfl rfl hl.1 rfl (lv_room (Nat.le_of_ble_eq_true rfl)) dL_law_500 ⟨Nat.le_of_ble_eq_true rfl, Nat.le_of_ble_eq_true rfl⟩) hLc (fun r2 H2 locs hP2 hLc => ?_)
  obtain ⟨hP2, hB⟩ := hP2
  have hrr := M_bits (V := V) hVX hVM hP hP2
  refine lv_icmp_eq (tgt := 683) hx hb dL_law_503 (by decide) (fun c503 => ?_) (fun c503 => ?_)
  · skip
    exact K V dv dc wr wf tp td tx wn H2 (LI.fin hD hX hRX (hB.val hVM) hT) _ _ hLc (lv_sub hl [0, 1, 2, 3] rfl)
  · skip
    exact absurd hrr c503
set_option maxRecDepth 100000 in
set_option maxHeartbeats 4000000 in
theorem law_fits {p : Program} {l : Launch} {e : Env} {s : State} {m : MethodId} {below : List Frame} {meth : Method} {c : Code} {G : gG} {b b0 L : Nat} {xs : Nat → Int32} {oX oM : Nat} {ax am : Nat → Nat} {V : Nat → Int} {dv : Nat → Nat} {dc : Nat} {wr : Nat → Nat} {wf : Nat} {tp : Nat → Nat} {td : Nat} {tx : Nat → Nat} {wn : Nat} {H : Heap} {i : Nat} (hL : L ≤ 2560) (C0 : lw_At p s m meth c b L xs) (hK : KK G s) (hD : DJ b b0 oX ax oM am) (hLI : LI G s b b0 L xs oX ax oM am V dv dc wr wf tp td tx wn H) (hi : i + 5 ≤ L) (K : ∀ (V : Nat → Int) (dv : Nat → Nat) (dc : Nat) (wr : Nat → Nat) (wf : Nat) (tp : Nat → Nat) (td : Nat) (tx : Nat → Nat) (wn : Nat) (H : Heap), LI G s b b0 L xs oX ax oM am V dv dc wr wf tp td tx wn H → ∀ (locs : List Loc) (ls : Array Slot), lcs b0 locs → lv_has ls 4 [(0, .ref b), (1, .ref oX), (2, .ref oM), (3, .int (nI i))] → W p l e room_1 s m #[Value.ref b] below meth c H locs 600000 7302250 (lw_Z below #[Value.ref b] s) (F0 m 683 ls [])) : ∀ (locs : List Loc) (ls : Array Slot), lcs b0 locs → lv_has ls 4 [(0, .ref b), (1, .ref oX), (2, .ref oM), (3, .int (nI i))] → W p l e room_1 s m #[Value.ref b] below meth c H locs 600000 7302250 (lw_Z below #[Value.ref b] s) (F0 m 508 ls []) := by
  obtain ⟨hx, hb, hr, hml, hown, hts, -, hbl, hlocks, hgv⟩ := id C0
  obtain ⟨hRX, hRM, hT, hX⟩ := id hLI
  intro locs ls hLc hl
  refine lv_aload_n hx hb dL_law_508 rfl (lv_at hl 1 rfl) ?_
  refine lv_aload_n hx hb dL_law_509 rfl (lv_at hl 0 rfl) ?_
  refine lv_iload_n hx hb dL_law_510 rfl (lv_at hl 3 rfl) ?_
  refine lv_iconst (v := nI 1) hx hb dL_law_511 (by decide) ?_
  refine m_iadd (a := i) (b := 1) hx hb dL_law_512 ?_
  refine m_sld hx hb hX (by omega) hL dL_law_513 ?_
  refine lv_aload_n hx hb dL_law_514 rfl (lv_at hl 0 rfl) ?_
  refine lv_iload_n hx hb dL_law_515 rfl (lv_at hl 3 rfl) ?_
  refine lv_iconst (v := nI 2) hx hb dL_law_516 (by decide) ?_
  refine m_iadd (a := i) (b := 2) hx hb dL_law_517 ?_
  refine m_sld hx hb hX (by omega) hL dL_law_518 ?_
  refine lv_aload_n hx hb dL_law_519 rfl (lv_at hl 0 rfl) ?_
  refine lv_iload_n hx hb dL_law_520 rfl (lv_at hl 3 rfl) ?_
  refine lv_iconst (v := nI 3) hx hb dL_law_521 (by decide) ?_
  refine m_iadd (a := i) (b := 3) hx hb dL_law_522 ?_
  refine m_sld hx hb hX (by omega) hL dL_law_523 ?_
  refine lv_if_eq (tgt := 531) hx hb dL_law_524 (by decide) (fun c524 => ?_) (fun c524 => ?_)
  · skip
    refine lv_iconst (v := nI 0) hx hb dL_law_531 (by decide) ?_
    obtain ⟨sz, bl, f1, f2, fw, hSX, hIX, hVX⟩ := id hRX
    refine mc_i0 (va_runV (As := [.int (xs (i + 1)), .int (xs (i + 2)), .int (nI 0)]) (rest := []) ⟨hx, hb, hml, hown, hts⟩ (c_X1_fits l G b0 H hSX hIX (xs (i + 1)) (xs (i + 2)) (by decide)) (cwV 3 hts gL_law_X1_fits rfl rfl rfl (by decide +kernel) ⟨Nat.le_of_ble_eq_true rfl, Nat.le_of_ble_eq_true rfl⟩) (mp_V hK hSX.w.ob rfl) rfl rfl hl.1 rfl (lv_room (Nat.le_of_ble_eq_true rfl)) dL_law_532 ⟨Nat.le_of_ble_eq_true rfl, Nat.le_of_ble_eq_true rfl⟩) hLc (fun r H1 locs hP hLc => ?_)
    obtain ⟨hP, rfl⟩ := hP
    have hRM1 := hRM
    have hX1 := hX
    refine lv_aload_n hx hb dL_law_535 rfl (lv_at hl 2 rfl) ?_
    refine lv_aload_n hx hb dL_law_536 rfl (lv_at hl 0 rfl) ?_
    refine lv_iload_n hx hb dL_law_537 rfl (lv_at hl 3 rfl) ?_
    refine lv_iconst (v := nI 1) hx hb dL_law_538 (by decide) ?_
    refine m_iadd (a := i) (b := 1) hx hb dL_law_539 ?_
    refine m_sld hx hb hX1 (by omega) hL dL_law_540 ?_
    refine lv_aload_n hx hb dL_law_541 rfl (lv_at hl 0 rfl) ?_
    refine lv_iload_n hx hb dL_law_542 rfl (lv_at hl 3 rfl) ?_
    refine lv_iconst (v := nI 2) hx hb dL_law_543 (by decide) ?_
    refine m_iadd (a := i) (b := 2) hx hb dL_law_544 ?_
    refine m_sld hx hb hX1 (by omega) hL dL_law_545 ?_
    refine lv_aload_n hx hb dL_law_546 rfl (lv_at hl 0 rfl) ?_
    refine lv_iload_n hx hb dL_law_547 rfl (lv_at hl 3 rfl) ?_
    refine lv_iconst (v := nI 3) hx hb dL_law_548 (by decide) ?_
    refine m_iadd (a := i) (b := 3) hx hb dL_law_549 ?_
    refine m_sld hx hb hX1 (by omega) hL dL_law_550 ?_
    refine lv_if_eq (tgt := 558) hx hb dL_law_551 (by decide) (fun _ => ?_) (fun h => absurd (c524) h)
    refine lv_iconst (v := nI 0) hx hb dL_law_558 (by decide) ?_
    obtain ⟨th, dg, bw, lm, lf, rt, ou, rs, lb, rb, ob, bL, bR, hSM, hIM, hVM⟩ := id hRM1
    refine mc_i0 (va_runV (As := [.int (xs (i + 1)), .int (xs (i + 2)), .int (nI 0)]) (rest := [.int r]) ⟨hx, hb, hml, hown, hts⟩ (c_M0_fits l G b0 H hSM hIM (xs (i + 1)) (xs (i + 2)) (by decide)) (cwV 3 hts gL_law_M0_fits rfl rfl rfl (by decide +kernel) ⟨Nat.le_of_ble_eq_true rfl, Nat.le_of_ble_eq_true rfl⟩) (mp_V hK hSM.w.ob rfl) rfl rfl hl.1 rfl (lv_room (Nat.le_of_ble_eq_true rfl)) dL_law_559 ⟨Nat.le_of_ble_eq_true rfl, Nat.le_of_ble_eq_true rfl⟩) hLc (fun r2 H2 locs hP2 hLc => ?_)
    obtain ⟨hP2, hB⟩ := hP2
    have hrr := M_fits (V := V) hVX hVM hP hP2
    refine lv_icmp_eq (tgt := 683) hx hb dL_law_562 (by decide) (fun c562 => ?_) (fun c562 => ?_)
    · skip
      exact K V dv dc wr wf tp td tx wn H2 (LI.fin hD hX hRX (hB.val hVM) hT) _ _ hLc (lv_sub hl [0, 1, 2, 3] rfl)
    · skip
      exact absurd hrr c562
  · skip
    refine lv_iconst (v := nI 1) hx hb dL_law_527 (by decide) ?_
    refine lv_goto (tgt := 532) hx hb dL_law_528 (by decide) ?_
    obtain ⟨sz, bl, f1, f2, fw, hSX, hIX, hVX⟩ := id hRX
    refine mc_i0 (va_runV (As := [.int (xs (i + 1)), .int (xs (i + 2)), .int (nI 1)]) (rest := []) ⟨hx, hb, hml, hown, hts⟩ (c_X1_fits l G b0 H hSX hIX (xs (i + 1)) (xs (i + 2)) (by decide)) (cwV 3 hts gL_law_X1_fits rfl rfl rfl (by decide +kernel) ⟨Nat.le_of_ble_eq_true rfl, Nat.le_of_ble_eq_true rfl⟩) (mp_V hK hSX.w.ob rfl) rfl rfl hl.1 rfl (lv_room (Nat.le_of_ble_eq_true rfl)) dL_law_532 ⟨Nat.le_of_ble_eq_true rfl, Nat.le_of_ble_eq_true rfl⟩) hLc (fun r H1 locs hP hLc => ?_)
    obtain ⟨hP, rfl⟩ := hP
    have hRM1 := hRM
    have hX1 := hX
    refine lv_aload_n hx hb dL_law_535 rfl (lv_at hl 2 rfl) ?_
    refine lv_aload_n hx hb dL_law_536 rfl (lv_at hl 0 rfl) ?_
    refine lv_iload_n hx hb dL_law_537 rfl (lv_at hl 3 rfl) ?_
    refine lv_iconst (v := nI 1) hx hb dL_law_538 (by decide) ?_
    refine m_iadd (a := i) (b := 1) hx hb dL_law_539 ?_
    refine m_sld hx hb hX1 (by omega) hL dL_law_540 ?_
    refine lv_aload_n hx hb dL_law_541 rfl (lv_at hl 0 rfl) ?_
    refine lv_iload_n hx hb dL_law_542 rfl (lv_at hl 3 rfl) ?_
    refine lv_iconst (v := nI 2) hx hb dL_law_543 (by decide) ?_
    refine m_iadd (a := i) (b := 2) hx hb dL_law_544 ?_
    refine m_sld hx hb hX1 (by omega) hL dL_law_545 ?_
    refine lv_aload_n hx hb dL_law_546 rfl (lv_at hl 0 rfl) ?_
    refine lv_iload_n hx hb dL_law_547 rfl (lv_at hl 3 rfl) ?_
    refine lv_iconst (v := nI 3) hx hb dL_law_548 (by decide) ?_
    refine m_iadd (a := i) (b := 3) hx hb dL_law_549 ?_
    refine m_sld hx hb hX1 (by omega) hL dL_law_550 ?_
    refine lv_if_eq (tgt := 558) hx hb dL_law_551 (by decide) (fun h => absurd h (c524)) (fun _ => ?_)
    refine lv_iconst (v := nI 1) hx hb dL_law_554 (by decide) ?_
    refine lv_goto (tgt := 559) hx hb dL_law_555 (by decide) ?_
    obtain ⟨th, dg, bw, lm, lf, rt, ou, rs, lb, rb, ob, bL, bR, hSM, hIM, hVM⟩ := id hRM1
    refine mc_i0 (va_runV (As := [.int (xs (i + 1)), .int (xs (i + 2)), .int (nI 1)]) (rest := [.int r]) ⟨hx, hb, hml, hown, hts⟩ (c_M0_fits l G b0 H hSM hIM (xs (i + 1)) (xs (i + 2)) (by decide)) (cwV 3 hts gL_law_M0_fits rfl rfl rfl (by decide +kernel) ⟨Nat.le_of_ble_eq_true rfl, Nat.le_of_ble_eq_true rfl⟩) (mp_V hK hSM.w.ob rfl) rfl rfl hl.1 rfl (lv_room (Nat.le_of_ble_eq_true rfl)) dL_law_559 ⟨Nat.le_of_ble_eq_true rfl, Nat.le_of_ble_eq_true rfl⟩) hLc (fun r2 H2 locs hP2 hLc => ?_)
    obtain ⟨hP2, hB⟩ := hP2
    have hrr := M_fits (V := V) hVX hVM hP hP2
    refine lv_icmp_eq (tgt := 683) hx hb dL_law_562 (by decide) (fun c562 => ?_) (fun c562 => ?_)
    · skip
      exact K V dv dc wr wf tp td tx wn H2 (LI.fin hD hX hRX (hB.val hVM) hT) _ _ hLc (lv_sub hl [0, 1, 2, 3] rfl)
    · skip
      exact absurd hrr c562
set_option maxRecDepth 100000 in
set_option maxHeartbeats 4000000 in
theorem law_cut {p : Program} {l : Launch} {e : Env} {s : State} {m : MethodId} {below : List Frame} {meth : Method} {c : Code} {G : gG} {b b0 L : Nat} {xs : Nat → Int32} {oX oM : Nat} {ax am : Nat → Nat} {V : Nat → Int} {dv : Nat → Nat} {dc : Nat} {wr : Nat → Nat} {wf : Nat} {tp : Nat → Nat} {td : Nat} {tx : Nat → Nat} {wn : Nat} {H : Heap} {i : Nat} (hL : L ≤ 2560) (C0 : lw_At p s m meth c b L xs) (hK : KK G s) (hD : DJ b b0 oX ax oM am) (hLI : LI G s b b0 L xs oX ax oM am V dv dc wr wf tp td tx wn H) (hi : i + 5 ≤ L) (K : ∀ (V : Nat → Int) (dv : Nat → Nat) (dc : Nat) (wr : Nat → Nat) (wf : Nat) (tp : Nat → Nat) (td : Nat) (tx : Nat → Nat) (wn : Nat) (H : Heap), LI G s b b0 L xs oX ax oM am V dv dc wr wf tp td tx wn H → ∀ (locs : List Loc) (ls : Array Slot), lcs b0 locs → lv_has ls 4 [(0, .ref b), (1, .ref oX), (2, .ref oM), (3, .int (nI i))] → W p l e room_1 s m #[Value.ref b] below meth c H locs 600000 7302250 (lw_Z below #[Value.ref b] s) (F0 m 683 ls [])) : ∀ (locs : List Loc) (ls : Array Slot), lcs b0 locs → lv_has ls 4 [(0, .ref b), (1, .ref oX), (2, .ref oM), (3, .int (nI i))] → W p l e room_1 s m #[Value.ref b] below meth c H locs 600000 7302250 (lw_Z below #[Value.ref b] s) (F0 m 567 ls []) := by
  obtain ⟨hx, hb, hr, hml, hown, hts, -, hbl, hlocks, hgv⟩ := id C0
  obtain ⟨hRX, hRM, hT, hX⟩ := id hLI
  intro locs ls hLc hl
  refine lv_aload_n hx hb dL_law_567 rfl (lv_at hl 1 rfl) ?_
  refine lv_aload_n hx hb dL_law_568 rfl (lv_at hl 0 rfl) ?_
  refine lv_iload_n hx hb dL_law_569 rfl (lv_at hl 3 rfl) ?_
  refine lv_iconst (v := nI 1) hx hb dL_law_570 (by decide) ?_
  refine m_iadd (a := i) (b := 1) hx hb dL_law_571 ?_
  refine m_sld hx hb hX (by omega) hL dL_law_572 ?_
  refine lv_aload_n hx hb dL_law_573 rfl (lv_at hl 0 rfl) ?_
  refine lv_iload_n hx hb dL_law_574 rfl (lv_at hl 3 rfl) ?_
  refine lv_iconst (v := nI 2) hx hb dL_law_575 (by decide) ?_
  refine m_iadd (a := i) (b := 2) hx hb dL_law_576 ?_
  refine m_sld hx hb hX (by omega) hL dL_law_577 ?_
  refine lv_aload_n hx hb dL_law_578 rfl (lv_at hl 0 rfl) ?_
  refine lv_iload_n hx hb dL_law_579 rfl (lv_at hl 3 rfl) ?_
  refine lv_iconst (v := nI 3) hx hb dL_law_580 (by decide) ?_
  refine m_iadd (a := i) (b := 3) hx hb dL_law_581 ?_
  refine m_sld hx hb hX (by omega) hL dL_law_582 ?_
  refine lv_if_eq (tgt := 590) hx hb dL_law_583 (by decide) (fun c583 => ?_) (fun c583 => ?_)
  · skip
    refine lv_iconst (v := nI 0) hx hb dL_law_590 (by decide) ?_
    obtain ⟨sz, bl, f1, f2, fw, hSX, hIX, hVX⟩ := id hRX
    refine mc_l0 (va_runV (As := [.int (xs (i + 1)), .int (xs (i + 2)), .int (nI 0)]) (rest := []) ⟨hx, hb, hml, hown, hts⟩ (c_X1_cut l G b0 H hSX hIX (xs (i + 1)) (xs (i + 2)) (by decide)) (cwV 3 hts gL_law_X1_cut rfl rfl rfl (by decide +kernel) ⟨Nat.le_of_ble_eq_true rfl, Nat.le_of_ble_eq_true rfl⟩) (mp_V hK hSX.w.ob rfl) rfl rfl hl.1 rfl (lv_room (Nat.le_of_ble_eq_true rfl)) dL_law_591 ⟨Nat.le_of_ble_eq_true rfl, Nat.le_of_ble_eq_true rfl⟩) hLc (fun r H1 locs hP hLc => ?_)
    obtain ⟨hP, rfl⟩ := hP
    have hRM1 := hRM
    have hX1 := hX
    refine lv_aload_n hx hb dL_law_594 rfl (lv_at hl 2 rfl) ?_
    refine lv_aload_n hx hb dL_law_595 rfl (lv_at hl 0 rfl) ?_
    refine lv_iload_n hx hb dL_law_596 rfl (lv_at hl 3 rfl) ?_
    refine lv_iconst (v := nI 1) hx hb dL_law_597 (by decide) ?_
    refine m_iadd (a := i) (b := 1) hx hb dL_law_598 ?_
    refine m_sld hx hb hX1 (by omega) hL dL_law_599 ?_
    refine lv_aload_n hx hb dL_law_600 rfl (lv_at hl 0 rfl) ?_
    refine lv_iload_n hx hb dL_law_601 rfl (lv_at hl 3 rfl) ?_
    refine lv_iconst (v := nI 2) hx hb dL_law_602 (by decide) ?_
    refine m_iadd (a := i) (b := 2) hx hb dL_law_603 ?_
    refine m_sld hx hb hX1 (by omega) hL dL_law_604 ?_
    refine lv_aload_n hx hb dL_law_605 rfl (lv_at hl 0 rfl) ?_
    refine lv_iload_n hx hb dL_law_606 rfl (lv_at hl 3 rfl) ?_
    refine lv_iconst (v := nI 3) hx hb dL_law_607 (by decide) ?_
    refine m_iadd (a := i) (b := 3) hx hb dL_law_608 ?_
    refine m_sld hx hb hX1 (by omega) hL dL_law_609 ?_
    refine lv_if_eq (tgt := 617) hx hb dL_law_610 (by decide) (fun _ => ?_) (fun h => absurd (c583) h)
    refine lv_iconst (v := nI 0) hx hb dL_law_617 (by decide) ?_
    obtain ⟨th, dg, bw, lm, lf, rt, ou, rs, lb, rb, ob, bL, bR, hSM, hIM, hVM⟩ := id hRM1
    refine mc_l0 (va_runV (As := [.int (xs (i + 1)), .int (xs (i + 2)), .int (nI 0)]) (rest := [.long r]) ⟨hx, hb, hml, hown, hts⟩ (c_M0_cut l G b0 H hSM hIM (xs (i + 1)) (xs (i + 2)) (by decide)) (cwV 3 hts gL_law_M0_cut rfl rfl rfl (by decide +kernel) ⟨Nat.le_of_ble_eq_true rfl, Nat.le_of_ble_eq_true rfl⟩) (mp_V hK hSM.w.ob rfl) rfl rfl hl.1 rfl (lv_room (Nat.le_of_ble_eq_true rfl)) dL_law_618 ⟨Nat.le_of_ble_eq_true rfl, Nat.le_of_ble_eq_true rfl⟩) hLc (fun r2 H2 locs hP2 hLc => ?_)
    obtain ⟨hP2, hB⟩ := hP2
    have hrr := M_cut (V := V) hVX hVM hP hP2
    refine m_lr_eq (tgt := 683) hx hb dL_law_621 dL_law_622 (by decide) (fun c621 => ?_) (fun c621 => ?_)
    · skip
      exact K V dv dc wr wf tp td tx wn H2 (LI.fin hD hX hRX (hB.val hVM) hT) _ _ hLc (lv_sub hl [0, 1, 2, 3] rfl)
    · skip
      exact absurd hrr c621
  · skip
    refine lv_iconst (v := nI 1) hx hb dL_law_586 (by decide) ?_
    refine lv_goto (tgt := 591) hx hb dL_law_587 (by decide) ?_
    obtain ⟨sz, bl, f1, f2, fw, hSX, hIX, hVX⟩ := id hRX
    refine mc_l0 (va_runV (As := [.int (xs (i + 1)), .int (xs (i + 2)), .int (nI 1)]) (rest := []) ⟨hx, hb, hml, hown, hts⟩ (c_X1_cut l G b0 H hSX hIX (xs (i + 1)) (xs (i + 2)) (by decide)) (cwV 3 hts gL_law_X1_cut rfl rfl rfl (by decide +kernel) ⟨Nat.le_of_ble_eq_true rfl, Nat.le_of_ble_eq_true rfl⟩) (mp_V hK hSX.w.ob rfl) rfl rfl hl.1 rfl (lv_room (Nat.le_of_ble_eq_true rfl)) dL_law_591 ⟨Nat.le_of_ble_eq_true rfl, Nat.le_of_ble_eq_true rfl⟩) hLc (fun r H1 locs hP hLc => ?_)
    obtain ⟨hP, rfl⟩ := hP
    have hRM1 := hRM
    have hX1 := hX
    refine lv_aload_n hx hb dL_law_594 rfl (lv_at hl 2 rfl) ?_
    refine lv_aload_n hx hb dL_law_595 rfl (lv_at hl 0 rfl) ?_
    refine lv_iload_n hx hb dL_law_596 rfl (lv_at hl 3 rfl) ?_
    refine lv_iconst (v := nI 1) hx hb dL_law_597 (by decide) ?_
    refine m_iadd (a := i) (b := 1) hx hb dL_law_598 ?_
    refine m_sld hx hb hX1 (by omega) hL dL_law_599 ?_
    refine lv_aload_n hx hb dL_law_600 rfl (lv_at hl 0 rfl) ?_
    refine lv_iload_n hx hb dL_law_601 rfl (lv_at hl 3 rfl) ?_
    refine lv_iconst (v := nI 2) hx hb dL_law_602 (by decide) ?_
    refine m_iadd (a := i) (b := 2) hx hb dL_law_603 ?_
    refine m_sld hx hb hX1 (by omega) hL dL_law_604 ?_
    refine lv_aload_n hx hb dL_law_605 rfl (lv_at hl 0 rfl) ?_
    refine lv_iload_n hx hb dL_law_606 rfl (lv_at hl 3 rfl) ?_
    refine lv_iconst (v := nI 3) hx hb dL_law_607 (by decide) ?_
    refine m_iadd (a := i) (b := 3) hx hb dL_law_608 ?_
    refine m_sld hx hb hX1 (by omega) hL dL_law_609 ?_
    refine lv_if_eq (tgt := 617) hx hb dL_law_610 (by decide) (fun h => absurd h (c583)) (fun _ => ?_)
    refine lv_iconst (v := nI 1) hx hb dL_law_613 (by decide) ?_
    refine lv_goto (tgt := 618) hx hb dL_law_614 (by decide) ?_
    obtain ⟨th, dg, bw, lm, lf, rt, ou, rs, lb, rb, ob, bL, bR, hSM, hIM, hVM⟩ := id hRM1
    refine mc_l0 (va_runV (As := [.int (xs (i + 1)), .int (xs (i + 2)), .int (nI 1)]) (rest := [.long r]) ⟨hx, hb, hml, hown, hts⟩ (c_M0_cut l G b0 H hSM hIM (xs (i + 1)) (xs (i + 2)) (by decide)) (cwV 3 hts gL_law_M0_cut rfl rfl rfl (by decide +kernel) ⟨Nat.le_of_ble_eq_true rfl, Nat.le_of_ble_eq_true rfl⟩) (mp_V hK hSM.w.ob rfl) rfl rfl hl.1 rfl (lv_room (Nat.le_of_ble_eq_true rfl)) dL_law_618 ⟨Nat.le_of_ble_eq_true rfl, Nat.le_of_ble_eq_true rfl⟩) hLc (fun r2 H2 locs hP2 hLc => ?_)
    obtain ⟨hP2, hB⟩ := hP2
    have hrr := M_cut (V := V) hVX hVM hP hP2
    refine m_lr_eq (tgt := 683) hx hb dL_law_621 dL_law_622 (by decide) (fun c621 => ?_) (fun c621 => ?_)
    · skip
      exact K V dv dc wr wf tp td tx wn H2 (LI.fin hD hX hRX (hB.val hVM) hT) _ _ hLc (lv_sub hl [0, 1, 2, 3] rfl)
    · skip
      exact absurd hrr c621
set_option maxRecDepth 100000 in
set_option maxHeartbeats 4000000 in
theorem law_write {p : Program} {l : Launch} {e : Env} {s : State} {m : MethodId} {below : List Frame} {meth : Method} {c : Code} {G : gG} {b b0 L : Nat} {xs : Nat → Int32} {oX oM : Nat} {ax am : Nat → Nat} {V : Nat → Int} {dv : Nat → Nat} {dc : Nat} {wr : Nat → Nat} {wf : Nat} {tp : Nat → Nat} {td : Nat} {tx : Nat → Nat} {wn : Nat} {H : Heap} {i : Nat} (hL : L ≤ 2560) (C0 : lw_At p s m meth c b L xs) (hK : KK G s) (hD : DJ b b0 oX ax oM am) (hLI : LI G s b b0 L xs oX ax oM am V dv dc wr wf tp td tx wn H) (hi : i + 5 ≤ L) (K : ∀ (V : Nat → Int) (dv : Nat → Nat) (dc : Nat) (wr : Nat → Nat) (wf : Nat) (tp : Nat → Nat) (td : Nat) (tx : Nat → Nat) (wn : Nat) (H : Heap), LI G s b b0 L xs oX ax oM am V dv dc wr wf tp td tx wn H → ∀ (locs : List Loc) (ls : Array Slot), lcs b0 locs → lv_has ls 4 [(0, .ref b), (1, .ref oX), (2, .ref oM), (3, .int (nI i))] → W p l e room_1 s m #[Value.ref b] below meth c H locs 600000 7302250 (lw_Z below #[Value.ref b] s) (F0 m 683 ls [])) : ∀ (locs : List Loc) (ls : Array Slot), lcs b0 locs → lv_has ls 4 [(0, .ref b), (1, .ref oX), (2, .ref oM), (3, .int (nI i))] → W p l e room_1 s m #[Value.ref b] below meth c H locs 600000 7302250 (lw_Z below #[Value.ref b] s) (F0 m 627 ls []) := by
  obtain ⟨hx, hb, hr, hml, hown, hts, -, hbl, hlocks, hgv⟩ := id C0
  obtain ⟨hRX, hRM, hT, hX⟩ := id hLI
  intro locs ls hLc hl
  refine lv_aload_n hx hb dL_law_627 rfl (lv_at hl 1 rfl) ?_
  refine lv_aload_n hx hb dL_law_628 rfl (lv_at hl 0 rfl) ?_
  refine lv_iload_n hx hb dL_law_629 rfl (lv_at hl 3 rfl) ?_
  refine lv_iconst (v := nI 1) hx hb dL_law_630 (by decide) ?_
  refine m_iadd (a := i) (b := 1) hx hb dL_law_631 ?_
  refine m_sld hx hb hX (by omega) hL dL_law_632 ?_
  refine lv_aload_n hx hb dL_law_633 rfl (lv_at hl 0 rfl) ?_
  refine lv_iload_n hx hb dL_law_634 rfl (lv_at hl 3 rfl) ?_
  refine lv_iconst (v := nI 2) hx hb dL_law_635 (by decide) ?_
  refine m_iadd (a := i) (b := 2) hx hb dL_law_636 ?_
  refine m_sld hx hb hX (by omega) hL dL_law_637 ?_
  obtain ⟨sz, bl, f1, f2, fw, hSX, hIX, hVX⟩ := id hRX
  refine mc_i0 (va_runV (As := [.int (xs (i + 1)), .int (xs (i + 2))]) (rest := []) ⟨hx, hb, hml, hown, hts⟩ (c_X1_write l G b0 H hSX hIX (xs (i + 1)) (xs (i + 2))) (cwV 2 hts gL_law_X1_write rfl rfl rfl (by decide +kernel) ⟨Nat.le_of_ble_eq_true rfl, Nat.le_of_ble_eq_true rfl⟩) (mp_V hK hSX.w.ob rfl) rfl rfl hl.1 rfl (lv_room (Nat.le_of_ble_eq_true rfl)) dL_law_638 ⟨Nat.le_of_ble_eq_true rfl, Nat.le_of_ble_eq_true rfl⟩) hLc (fun r H1 locs hP hLc => ?_)
  obtain ⟨_, _, _, _, _, hRX1⟩ : ∃ (V1 : Nat → Int) (d1 : Nat → Nat) (d2 : Nat) (d3 : Nat → Nat) (d4 : Nat), RX G b0 oX ax H V1 d1 d2 d3 d4 H1 := by rcases hP with ⟨_, _, _, _, _, _, _, _, _, _, _, _, _, _, _, h9⟩ | ⟨_, _, h9⟩ <;> exact ⟨_, _, _, _, _, h9⟩
  have hRM1 := LI.mid hD hRM hRX1
  have hX1 := LI.scr1 hD hX hRX1
  refine lv_aload_n hx hb dL_law_641 rfl (lv_at hl 2 rfl) ?_
  refine lv_aload_n hx hb dL_law_642 rfl (lv_at hl 0 rfl) ?_
  refine lv_iload_n hx hb dL_law_643 rfl (lv_at hl 3 rfl) ?_
  refine lv_iconst (v := nI 1) hx hb dL_law_644 (by decide) ?_
  refine m_iadd (a := i) (b := 1) hx hb dL_law_645 ?_
  refine m_sld hx hb hX1 (by omega) hL dL_law_646 ?_
  refine lv_aload_n hx hb dL_law_647 rfl (lv_at hl 0 rfl) ?_
  refine lv_iload_n hx hb dL_law_648 rfl (lv_at hl 3 rfl) ?_
  refine lv_iconst (v := nI 2) hx hb dL_law_649 (by decide) ?_
  refine m_iadd (a := i) (b := 2) hx hb dL_law_650 ?_
  refine m_sld hx hb hX1 (by omega) hL dL_law_651 ?_
  obtain ⟨th, dg, bw, lm, lf, rt, ou, rs, lb, rb, ob, bL, bR, hSM, hIM, hVM⟩ := id hRM1
  refine mc_i0 (va_runV (As := [.int (xs (i + 1)), .int (xs (i + 2))]) (rest := [.int r]) ⟨hx, hb, hml, hown, hts⟩ (c_M0_write l G b0 H1 hSM hIM (xs (i + 1)) (xs (i + 2))) (cwV 2 hts gL_law_M0_write rfl rfl rfl (by decide +kernel) ⟨Nat.le_of_ble_eq_true rfl, Nat.le_of_ble_eq_true rfl⟩) (mp_V hK hSM.w.ob rfl) rfl rfl hl.1 rfl (lv_room (Nat.le_of_ble_eq_true rfl)) dL_law_652 ⟨Nat.le_of_ble_eq_true rfl, Nat.le_of_ble_eq_true rfl⟩) hLc (fun r2 H2 locs hP2 hLc => ?_)
  obtain ⟨hrr, wr2, wf2, tx2, wn2, hA, hB, hT2⟩ := M_write (V := V) hT hVX hVM hP hP2
  refine lv_icmp_eq (tgt := 683) hx hb dL_law_655 (by decide) (fun c655 => ?_) (fun c655 => ?_)
  · skip
    exact K V dv dc wr2 wf2 tp td tx2 wn2 H2 (LI.fin hD hX hA hB hT2) _ _ hLc (lv_sub hl [0, 1, 2, 3] rfl)
  · skip
    exact absurd hrr c655
set_option maxRecDepth 100000 in
set_option maxHeartbeats 4000000 in
theorem law_byteOf {p : Program} {l : Launch} {e : Env} {s : State} {m : MethodId} {below : List Frame} {meth : Method} {c : Code} {G : gG} {b b0 L : Nat} {xs : Nat → Int32} {oX oM : Nat} {ax am : Nat → Nat} {V : Nat → Int} {dv : Nat → Nat} {dc : Nat} {wr : Nat → Nat} {wf : Nat} {tp : Nat → Nat} {td : Nat} {tx : Nat → Nat} {wn : Nat} {H : Heap} {i : Nat} (hL : L ≤ 2560) (C0 : lw_At p s m meth c b L xs) (hK : KK G s) (hD : DJ b b0 oX ax oM am) (hLI : LI G s b b0 L xs oX ax oM am V dv dc wr wf tp td tx wn H) (hi : i + 5 ≤ L) (K : ∀ (V : Nat → Int) (dv : Nat → Nat) (dc : Nat) (wr : Nat → Nat) (wf : Nat) (tp : Nat → Nat) (td : Nat) (tx : Nat → Nat) (wn : Nat) (H : Heap), LI G s b b0 L xs oX ax oM am V dv dc wr wf tp td tx wn H → ∀ (locs : List Loc) (ls : Array Slot), lcs b0 locs → lv_has ls 4 [(0, .ref b), (1, .ref oX), (2, .ref oM), (3, .int (nI i))] → W p l e room_1 s m #[Value.ref b] below meth c H locs 600000 7302250 (lw_Z below #[Value.ref b] s) (F0 m 683 ls [])) : ∀ (locs : List Loc) (ls : Array Slot), lcs b0 locs → lv_has ls 4 [(0, .ref b), (1, .ref oX), (2, .ref oM), (3, .int (nI i))] → W p l e room_1 s m #[Value.ref b] below meth c H locs 600000 7302250 (lw_Z below #[Value.ref b] s) (F0 m 660 ls []) := by
  obtain ⟨hx, hb, hr, hml, hown, hts, -, hbl, hlocks, hgv⟩ := id C0
  obtain ⟨hRX, hRM, hT, hX⟩ := id hLI
  intro locs ls hLc hl
  refine lv_aload_n hx hb dL_law_660 rfl (lv_at hl 1 rfl) ?_
  refine lv_aload_n hx hb dL_law_661 rfl (lv_at hl 0 rfl) ?_
  refine lv_iload_n hx hb dL_law_662 rfl (lv_at hl 3 rfl) ?_
  refine lv_iconst (v := nI 1) hx hb dL_law_663 (by decide) ?_
  refine m_iadd (a := i) (b := 1) hx hb dL_law_664 ?_
  refine m_sld hx hb hX (by omega) hL dL_law_665 ?_
  obtain ⟨sz, bl, f1, f2, fw, hSX, hIX, hVX⟩ := id hRX
  refine mc_i0 (va_runV (As := [.int (xs (i + 1))]) (rest := []) ⟨hx, hb, hml, hown, hts⟩ (c_X1_byteOf l G b0 H hSX (by have := hT.2.2.1; omega) (xs (i + 1))) (cwV 1 hts gL_law_X1_byteOf rfl rfl rfl (by decide +kernel) ⟨Nat.le_of_ble_eq_true rfl, Nat.le_of_ble_eq_true rfl⟩) (mp_V hK hSX.w.ob rfl) rfl rfl hl.1 rfl (lv_room (Nat.le_of_ble_eq_true rfl)) dL_law_666 ⟨Nat.le_of_ble_eq_true rfl, Nat.le_of_ble_eq_true rfl⟩) hLc (fun r H1 locs hP hLc => ?_)
  obtain ⟨hP, rfl⟩ := hP
  have hRM1 := hRM
  have hX1 := hX
  refine lv_aload_n hx hb dL_law_669 rfl (lv_at hl 2 rfl) ?_
  refine lv_aload_n hx hb dL_law_670 rfl (lv_at hl 0 rfl) ?_
  refine lv_iload_n hx hb dL_law_671 rfl (lv_at hl 3 rfl) ?_
  refine lv_iconst (v := nI 1) hx hb dL_law_672 (by decide) ?_
  refine m_iadd (a := i) (b := 1) hx hb dL_law_673 ?_
  refine m_sld hx hb hX1 (by omega) hL dL_law_674 ?_
  obtain ⟨th, dg, bw, lm, lf, rt, ou, rs, lb, rb, ob, bL, bR, hSM, hIM, hVM⟩ := id hRM1
  refine mc_i0 (va_runV (As := [.int (xs (i + 1))]) (rest := [.int r]) ⟨hx, hb, hml, hown, hts⟩ (c_M0_byteOf l G b0 H hSM hIM hT.2.1 (xs (i + 1))) (cwV 1 hts gL_law_M0_byteOf rfl rfl rfl (by decide +kernel) ⟨Nat.le_of_ble_eq_true rfl, Nat.le_of_ble_eq_true rfl⟩) (mp_V hK hSM.w.ob rfl) rfl rfl hl.1 rfl (lv_room (Nat.le_of_ble_eq_true rfl)) dL_law_675 ⟨Nat.le_of_ble_eq_true rfl, Nat.le_of_ble_eq_true rfl⟩) hLc (fun r2 H2 locs hP2 hLc => ?_)
  obtain ⟨hP2, hB⟩ := hP2
  have hrr := L_byteOf hT hP hP2
  refine lv_icmp_eq (tgt := 683) hx hb dL_law_678 (by decide) (fun c678 => ?_) (fun c678 => ?_)
  · skip
    exact K V dv dc wr wf tp td tx wn H2 (LI.fin hD hX hRX (hB.val hVM) hT) _ _ hLc (lv_sub hl [0, 1, 2, 3] rfl)
  · skip
    exact absurd hrr c678
set_option maxRecDepth 100000 in
set_option maxHeartbeats 4000000 in
theorem law_loop {p : Program} {l : Launch} {e : Env} {s : State} {m : MethodId} {below : List Frame} {meth : Method} {c : Code} {G : gG} {b b0 L : Nat} {xs : Nat → Int32} {oX oM : Nat} {ax am : Nat → Nat} (hL : L ≤ 2560) (C0 : lw_At p s m meth c b L xs) (hK : KK G s) (hD : DJ b b0 oX ax oM am) (hb0 : s.heap.size ≤ b0) : ∀ (q i : Nat) (V : Nat → Int) (dv : Nat → Nat) (dc : Nat) (wr : Nat → Nat) (wf : Nat) (tp : Nat → Nat) (td : Nat) (tx : Nat → Nat) (wn : Nat) (H : Heap), i ≤ 2560 → L ≤ i + 5 * q + 4 → LI G s b b0 L xs oX ax oM am V dv dc wr wf tp td tx wn H → ∀ (locs : List Loc) (ls : Array Slot), lcs b0 locs → lv_has ls 4 [(0, .ref b), (1, .ref oX), (2, .ref oM), (3, .int (nI i))] → W p l e room_1 s m #[Value.ref b] below meth c H locs 600000 7302250 (lw_Z below #[Value.ref b] s) (F0 m 18 ls []) := by
  obtain ⟨hx, hb, hr, hml, hown, hts, -, hbl, hlocks, hgv⟩ := id C0
  intro q
  induction q with
  | zero =>
    intro i V dv dc wr wf tp td tx wn H hi2 hq hLI locs ls hLc hl
    obtain ⟨-, -, -, hX⟩ := id hLI
    refine lv_iload_n hx hb dL_law_18 rfl (lv_at hl 3 rfl) ?_
    refine lv_aload_n hx hb dL_law_19 rfl (lv_at hl 0 rfl) ?_
    refine m_slen hx hb hX dL_law_20 ?_
    refine lv_iconst (v := nI 5) hx hb dL_law_21 (by decide) ?_
    refine lv_isub hx hb dL_law_22 ?_
    refine lv_icmp_gt (tgt := 689) hx hb dL_law_23 (by decide) (fun c23 => ?_) (fun c23 => ?_)
    · skip
      refine lv_iconst (v := 1) hx hb dL_law_689 (by decide) ?_
      refine va_forget (fun q hq => Nat.le_trans hb0 (hLc q hq)) ?_
      exact lw_ret hx hb hr hlocks dL_law_690
    · skip
      have hi5 : ¬ L < i + 5 := fun h9 => c23 ((gt5 hi2 hL).mpr h9)
      exact absurd hq (by omega)
  | succ q ih =>
    intro i V dv dc wr wf tp td tx wn H hi2 hq hLI locs ls hLc hl
    obtain ⟨-, -, -, hX⟩ := id hLI
    refine lv_iload_n hx hb dL_law_18 rfl (lv_at hl 3 rfl) ?_
    refine lv_aload_n hx hb dL_law_19 rfl (lv_at hl 0 rfl) ?_
    refine m_slen hx hb hX dL_law_20 ?_
    refine lv_iconst (v := nI 5) hx hb dL_law_21 (by decide) ?_
    refine lv_isub hx hb dL_law_22 ?_
    refine lv_icmp_gt (tgt := 689) hx hb dL_law_23 (by decide) (fun c23 => ?_) (fun c23 => ?_)
    · skip
      refine lv_iconst (v := 1) hx hb dL_law_689 (by decide) ?_
      refine va_forget (fun q hq => Nat.le_trans hb0 (hLc q hq)) ?_
      exact lw_ret hx hb hr hlocks dL_law_690
    · skip
      have hi5 : ¬ L < i + 5 := fun h9 => c23 ((gt5 hi2 hL).mpr h9)
      refine lv_aload_n hx hb dL_law_26 rfl (lv_at hl 0 rfl) ?_
      refine lv_iload_n hx hb dL_law_27 rfl (lv_at hl 3 rfl) ?_
      refine m_sld hx hb hX (by omega) hL dL_law_28 ?_
      refine lv_bipush (v := nI 15) hx hb dL_law_29 (by decide) ?_
      refine lv_iand hx hb dL_law_31 ?_
      obtain ⟨k, hk, hke⟩ := low4 (xs i)
      rw [hke]
      have K : ∀ (V : Nat → Int) (dv : Nat → Nat) (dc : Nat) (wr : Nat → Nat) (wf : Nat) (tp : Nat → Nat) (td : Nat) (tx : Nat → Nat) (wn : Nat) (H : Heap), LI G s b b0 L xs oX ax oM am V dv dc wr wf tp td tx wn H → ∀ (locs : List Loc) (ls : Array Slot), lcs b0 locs → lv_has ls 4 [(0, .ref b), (1, .ref oX), (2, .ref oM), (3, .int (nI i))] → W p l e room_1 s m #[Value.ref b] below meth c H locs 600000 7302250 (lw_Z below #[Value.ref b] s) (F0 m 683 ls []) := by
        intro V dv dc wr wf tp td tx wn H hLI locs ls hLc hl
        refine lv_iinc (v := nI (i + 5)) (lv' := [(3, .int (nI (i + 5))), (0, .ref b), (1, .ref oX), (2, .ref oM)]) hx hb dL_law_683 hl (k := 3) rfl (nI_add i 5) (by decide) rfl (fun ls hl => ?_)
        refine lv_goto (tgt := 18) hx hb dL_law_686 (by decide) ?_
        exact ih (i + 5) V dv dc wr wf tp td tx wn H (by omega) (by omega) hLI _ _ hLc (lv_sub hl [1, 2, 3, 0] rfl)
      rcases (show k = 0 ∨ k = 1 ∨ k = 2 ∨ k = 3 ∨ k = 4 ∨ k = 5 ∨ k = 6 ∨ k = 7 ∨ k = 8 ∨ k = 9 ∨ k = 10 ∨ k = 11 ∨ k = 12 ∨ k = 13 ∨ k = 14 ∨ k = 15 by omega) with rfl | rfl | rfl | rfl | rfl | rfl | rfl | rfl | rfl | rfl | rfl | rfl | rfl | rfl | rfl | rfl
      · skip
        refine lv_tableIn (tgt := 96) (off := 64) hx hb dL_law_32 (by decide) (by decide) (by decide) (by decide) ?_
        exact law_set hL C0 hK hD hLI (by omega) K _ _ hLc (lv_sub hl [0, 1, 2, 3] rfl)
      · skip
        refine lv_tableIn (tgt := 185) (off := 153) hx hb dL_law_32 (by decide) (by decide) (by decide) (by decide) ?_
        exact law_digits hL C0 hK hD hLI (by omega) K _ _ hLc (lv_sub hl [0, 1, 2, 3] rfl)
      · skip
        refine lv_tableIn (tgt := 238) (off := 206) hx hb dL_law_32 (by decide) (by decide) (by decide) (by decide) ?_
        exact law_read hL C0 hK hD hLI (by omega) K _ _ hLc (lv_sub hl [0, 1, 2, 3] rfl)
      · skip
        refine lv_tableIn (tgt := 271) (off := 239) hx hb dL_law_32 (by decide) (by decide) (by decide) (by decide) ?_
        exact law_work hL C0 hK hD hLI (by omega) K _ _ hLc (lv_sub hl [0, 1, 2, 3] rfl)
      · skip
        refine lv_tableIn (tgt := 324) (off := 292) hx hb dL_law_32 (by decide) (by decide) (by decide) (by decide) ?_
        exact law_shift hL C0 hK hD hLI (by omega) K _ _ hLc (lv_sub hl [0, 1, 2, 3] rfl)
      · skip
        refine lv_tableIn (tgt := 393) (off := 361) hx hb dL_law_32 (by decide) (by decide) (by decide) (by decide) ?_
        exact law_turn hL C0 hK hD hLI (by omega) K _ _ hLc (lv_sub hl [0, 1, 2, 3] rfl)
      · skip
        refine lv_tableIn (tgt := 452) (off := 420) hx hb dL_law_32 (by decide) (by decide) (by decide) (by decide) ?_
        exact law_compare hL C0 hK hD hLI (by omega) K _ _ hLc (lv_sub hl [0, 1, 2, 3] rfl)
      · skip
        refine lv_tableIn (tgt := 485) (off := 453) hx hb dL_law_32 (by decide) (by decide) (by decide) (by decide) ?_
        exact law_bits hL C0 hK hD hLI (by omega) K _ _ hLc (lv_sub hl [0, 1, 2, 3] rfl)
      · skip
        refine lv_tableIn (tgt := 508) (off := 476) hx hb dL_law_32 (by decide) (by decide) (by decide) (by decide) ?_
        exact law_fits hL C0 hK hD hLI (by omega) K _ _ hLc (lv_sub hl [0, 1, 2, 3] rfl)
      · skip
        refine lv_tableIn (tgt := 567) (off := 535) hx hb dL_law_32 (by decide) (by decide) (by decide) (by decide) ?_
        exact law_cut hL C0 hK hD hLI (by omega) K _ _ hLc (lv_sub hl [0, 1, 2, 3] rfl)
      · skip
        refine lv_tableIn (tgt := 627) (off := 595) hx hb dL_law_32 (by decide) (by decide) (by decide) (by decide) ?_
        exact law_write hL C0 hK hD hLI (by omega) K _ _ hLc (lv_sub hl [0, 1, 2, 3] rfl)
      · skip
        refine lv_tableIn (tgt := 660) (off := 628) hx hb dL_law_32 (by decide) (by decide) (by decide) (by decide) ?_
        exact law_byteOf hL C0 hK hD hLI (by omega) K _ _ hLc (lv_sub hl [0, 1, 2, 3] rfl)
      · skip
        refine lv_tableOut (tgt := 683) hx hb dL_law_32 (by decide) (by decide) ?_
        exact K V dv dc wr wf tp td tx wn H hLI _ _ hLc (lv_sub hl [0, 1, 2, 3] rfl)
      · skip
        refine lv_tableOut (tgt := 683) hx hb dL_law_32 (by decide) (by decide) ?_
        exact K V dv dc wr wf tp td tx wn H hLI _ _ hLc (lv_sub hl [0, 1, 2, 3] rfl)
      · skip
        refine lv_tableOut (tgt := 683) hx hb dL_law_32 (by decide) (by decide) ?_
        exact K V dv dc wr wf tp td tx wn H hLI _ _ hLc (lv_sub hl [0, 1, 2, 3] rfl)
      · skip
        refine lv_tableOut (tgt := 683) hx hb dL_law_32 (by decide) (by decide) ?_
        exact K V dv dc wr wf tp td tx wn H hLI _ _ hLc (lv_sub hl [0, 1, 2, 3] rfl)
