set_option maxRecDepth 100000 in
set_option maxHeartbeats 4000000 in
theorem toBits_lf_14 {p : Program} {l : Launch} {e : Env} {s : State} {m : MethodId} {args : Array Value} {below : List Frame} {meth : Method} {c : Code} {G : gG} {b0 : Nat} {H : Heap} {o : Nat} {ad : Nat → Nat} {th : Nat} {dg : Nat → Nat} {bw : Nat → Nat} {lm : Nat → Nat} {lf : Nat → Nat} {rt : Nat → Nat} {ou : Nat → Nat} {rs : Nat → Nat} {lb : Nat} {rb : Nat} {ob : Nat} {bL : Nat → Nat} {bR : Nat → Nat} {td : Nat} {tp : Nat → Nat} {wn : Nat} {tx : Nat → Nat} {sb : Nat} (hF : FxM p s m args meth c G cM0_toBits 7 none RM0 wsM0_toBits) (hlf : dlm lf 330) (hL : dl lf 330 < 2 ^ 512) (hs : sb ≤ 1) (hz : sb = 1 → dl lf 330 ≠ 0) : ∀ (q : Nat) (i c1 : Nat) (r g : Nat → Nat) (Hc : Heap), i + q = 514 → c1 ≤ 1 → dlm r 330 → dl r 330 = dl lf 330 / 2 ^ i → (sb = 1 → (2 ^ 514 - dl lf 330) / 2 ^ i = (2 ^ 514 - 1 - dl lf 330) / 2 ^ i + c1) → (∀ k, k < i → g k = tcN 514 (sg sb (dl lf 330)) / 2 ^ k % 2) → SM G b0 o ad H th dg bw lm lf rt ou r lb rb ob g bR td tp wn tx Hc → ∀ (locs : List Loc) (ls : Array Slot), lcs b0 locs → lv_has ls 7 [(0, .ref o), (1, .ref (ad 3)), (2, .int (nI sb)), (3, .ref (ad 7)), (4, .int (nI c1)), (5, .int (nI i))] → W p l e ({ frames := 1, cells := 0, slots := 0, locals := 24 } : Room) s m args below meth c Hc locs 0 0 (MQ below (QcV (fun H1 => ∃ r g : Nat → Nat, (∀ k, k < 514 → g k = tcN 514 (sg sb (dl lf 330)) / 2 ^ k % 2) ∧ SM G b0 o ad H th dg bw lm lf rt ou r lb rb ob g bR td tp wn tx H1)) args s 0 0 (fre b0)) (F0 m 14 ls []) := by
  obtain ⟨hx, hb, hr, hml, hown, hts, hlocks, hK⟩ := id hF
  intro q
  induction q with
  | zero =>
    intro i c1 r g Hc hi hc1 hrr hv hcy hg hS locs ls hLc hl
    have hi514 : i = 514 := by omega
    subst hi514
    refine lv_iload hx hb dM0_toBits_14 (lv_at hl 5 rfl) ?_
    refine lv_sipush (v := nI 514) hx hb dM0_toBits_16 (by decide) ?_
    refine m_icmp_ge (tgt := 69) hx hb (by decide) (by decide) dM0_toBits_19 (by decide) (fun _ => ?_) (fun h => absurd h (by decide))
    exact m_vret hx hb hr hlocks hLc dM0_toBits_69 (⟨r, g, hg, hS⟩)
  | succ q ih =>
    intro i c1 r g Hc hi hc1 hrr hv hcy hg hS locs ls hLc hl
    refine lv_iload hx hb dM0_toBits_14 (lv_at hl 5 rfl) ?_
    refine lv_sipush (v := nI 514) hx hb dM0_toBits_16 (by decide) ?_
    refine lv_icmp_ge (tgt := 69) hx hb dM0_toBits_19 (by decide) (fun h => absurd h (nI_ge (by omega) (by omega))) (fun _ => ?_)
    refine lv_aload_n hx hb dM0_toBits_22 rfl (lv_at hl 0 rfl) ?_
    refine va_get (D := G.1) (ci := 1) (v := .ref (ad 6)) (C := RM0) (T := TM0) (N := 17) hx hb hts hwsM0_toBits hown hK hS.w.ob 0 rfl rfl 7 (by decide) (hts (.fieldLink RM0 29 "ExactNumbersModel" "rest" "[I") (by decide +kernel)) (fun _ h9 => h9) rfl dM0_toBits_23 ?_
    refine lv_iconst (v := nI 2) hx hb dM0_toBits_26 (by decide) ?_
    refine mc_i0 (va_runS (As := [.ref (ad 6), .int (nI 2)]) (rest := []) ⟨hx, hb, hml, hown, hts⟩ (c_M0_shrink l G b0 Hc (hS.w.get 6 (by decide)) hrr (hS.w.b 6 (by decide)) (by decide) (by decide)) (va_cwS 2 hts gM0_toBits_M0_shrink rfl rfl rfl (by decide +kernel) ⟨Nat.le_of_ble_eq_true rfl, Nat.le_of_ble_eq_true rfl⟩) (mp_S hK) rfl rfl hl.1 rfl (lv_room (Nat.le_of_ble_eq_true rfl)) dM0_toBits_27 ⟨Nat.le_of_ble_eq_true rfl, Nat.le_of_ble_eq_true rfl⟩) hLc (fun r H1 locs hP hLc => ?_)
    obtain ⟨r3, z, rfl, hz2, hr3, hv3, rfl⟩ := hP
    have hS := hS.p_rs r3
    generalize hput Hc (ad 6) (aN G 330 r3) = Hc at hS ⊢
    rw [hv] at hv3
    obtain ⟨hv4, hz3⟩ := shr_bit hv3 hz2
    refine lv_istore (lv' := [(6, .int (nI z)), (0, .ref o), (1, .ref (ad 3)), (2, .int (nI sb)), (3, .ref (ad 7)), (4, .int (nI c1)), (5, .int (nI i))]) hx hb dM0_toBits_30 hl (by decide) rfl (fun ls hl => ?_)
    refine lv_iload_n hx hb dM0_toBits_32 rfl (lv_at hl 3 rfl) ?_
    refine m_if_eq (tgt := 57) hx hb (by omega) dM0_toBits_33 (by decide) (fun c33 => ?_) (fun c33 => ?_)
    · skip
      refine lv_aload_n hx hb dM0_toBits_57 rfl (lv_at hl 4 rfl) ?_
      refine lv_iload hx hb dM0_toBits_58 (lv_at hl 6 rfl) ?_
      refine lv_iload hx hb dM0_toBits_60 (lv_at hl 0 rfl) ?_
      refine m_nast (n := 514) (f := g) (b0 := b0) hx hb hK (hS.w.get 7 (by decide)) (by omega) (by decide) (hS.w.b 7 (by decide)) hLc dM0_toBits_62 (fun locs hLc => ?_)
      have hS := hS.p_bL (fup g i z)
      generalize hput Hc (ad 7) (aN G 514 (fup g i z)) = Hc at hS ⊢
      refine lv_iinc (v := nI (i + 1)) (lv' := [(5, .int (nI (i + 1))), (6, .int (nI z)), (0, .ref o), (1, .ref (ad 3)), (2, .int (nI sb)), (3, .ref (ad 7)), (4, .int (nI c1))]) hx hb dM0_toBits_63 hl (k := 6) rfl (nI_add i 1) (by decide) rfl (fun ls hl => ?_)
      refine lv_goto (tgt := 14) hx hb dM0_toBits_66 (by decide) ?_
      exact ih (i + 1) c1 r3 _ _ (by omega) hc1 hr3 hv4 (fun e => absurd e (by omega)) (fup_eq hg (by rw [tc_514 hs hL hz, if_neg (by omega)]; exact hz3)) hS _ _ hLc (lv_sub hl [2, 3, 4, 5, 6, 0] rfl)
    · skip
      have hs1 : sb = 1 := by omega
      refine lv_iconst (v := nI 1) hx hb dM0_toBits_36 (by decide) ?_
      refine lv_iload hx hb dM0_toBits_37 (lv_at hl 0 rfl) ?_
      refine m_isub (a := 1) (b := z) hx hb (by omega) dM0_toBits_39 ?_
      refine lv_iload hx hb dM0_toBits_40 (lv_at hl 5 rfl) ?_
      refine m_iadd (a := 1 - z) (b := c1) hx hb dM0_toBits_42 ?_
      refine lv_istore (lv' := [(6, .int (nI ((1 - z) + c1))), (0, .ref o), (1, .ref (ad 3)), (2, .int (nI sb)), (3, .ref (ad 7)), (4, .int (nI c1)), (5, .int (nI i))]) hx hb dM0_toBits_43 hl (by decide) rfl (fun ls hl => ?_)
      refine lv_iload hx hb dM0_toBits_45 (lv_at hl 0 rfl) ?_
      refine lv_iconst (v := nI 1) hx hb dM0_toBits_47 (by decide) ?_
      refine lv_ishr hx hb dM0_toBits_48 ?_
      rw [ishr1 (by omega)]
      refine lv_istore (lv' := [(4, .int (nI ((1 - z + c1) / 2))), (6, .int (nI ((1 - z) + c1))), (0, .ref o), (1, .ref (ad 3)), (2, .int (nI sb)), (3, .ref (ad 7)), (5, .int (nI i))]) hx hb dM0_toBits_49 hl (by decide) rfl (fun ls hl => ?_)
      refine lv_iload hx hb dM0_toBits_51 (lv_at hl 1 rfl) ?_
      refine lv_iconst (v := nI 1) hx hb dM0_toBits_53 (by decide) ?_
      refine lv_iand hx hb dM0_toBits_54 ?_
      rw [iand1 (by omega)]
      refine lv_istore (lv' := [(6, .int (nI ((1 - z + c1) % 2))), (4, .int (nI ((1 - z + c1) / 2))), (0, .ref o), (1, .ref (ad 3)), (2, .int (nI sb)), (3, .ref (ad 7)), (5, .int (nI i))]) hx hb dM0_toBits_55 hl (by decide) rfl (fun ls hl => ?_)
      refine lv_aload_n hx hb dM0_toBits_57 rfl (lv_at hl 5 rfl) ?_
      refine lv_iload hx hb dM0_toBits_58 (lv_at hl 6 rfl) ?_
      refine lv_iload hx hb dM0_toBits_60 (lv_at hl 0 rfl) ?_
      refine m_nast (n := 514) (f := g) (b0 := b0) hx hb hK (hS.w.get 7 (by decide)) (by omega) (by decide) (hS.w.b 7 (by decide)) hLc dM0_toBits_62 (fun locs hLc => ?_)
      have hS := hS.p_bL (fup g i ((1 - z + c1) % 2))
      generalize hput Hc (ad 7) (aN G 514 (fup g i ((1 - z + c1) % 2))) = Hc at hS ⊢
      refine lv_iinc (v := nI (i + 1)) (lv' := [(5, .int (nI (i + 1))), (6, .int (nI ((1 - z + c1) % 2))), (4, .int (nI ((1 - z + c1) / 2))), (0, .ref o), (1, .ref (ad 3)), (2, .int (nI sb)), (3, .ref (ad 7))]) hx hb dM0_toBits_63 hl (k := 6) rfl (nI_add i 1) (by decide) rfl (fun ls hl => ?_)
      refine lv_goto (tgt := 14) hx hb dM0_toBits_66 (by decide) ?_
      have ht1 : z + (1 - z) = 1 := by omega
      obtain ⟨ht2, ht3⟩ := tcb_step (hcy hs1)
      rw [cpl_b (Nat.lt_trans hL p514l) (show i < 514 by omega), ← hz3] at ht2 ht3
      exact ih (i + 1) _ r3 _ _ (by omega) (by omega) hr3 hv4 (fun _ => ht2) (fup_eq hg (by rw [tc_514 hs hL hz, if_pos hs1]; exact ht3.symm)) hS _ _ hLc (lv_sub hl [3, 4, 5, 6, 2, 0] rfl)
set_option maxRecDepth 100000 in
set_option maxHeartbeats 4000000 in
theorem c_M0_toBits_lf (l : Launch) (G : gG) (b0 : Nat) (H : Heap) {o : Nat} {ad : Nat → Nat} {th : Nat} {dg : Nat → Nat} {bw : Nat → Nat} {lm : Nat → Nat} {lf : Nat → Nat} {rt : Nat → Nat} {ou : Nat → Nat} {rs : Nat → Nat} {lb : Nat} {rb : Nat} {ob : Nat} {bL : Nat → Nat} {bR : Nat → Nat} {td : Nat} {tp : Nat → Nat} {wn : Nat} {tx : Nat → Nat} (hS : SM G b0 o ad H th dg bw lm lf rt ou rs lb rb ob bL bR td tp wn tx H) (hlf : dlm lf 330) (hL : dl lf 330 < 2 ^ 512) {sb : Nat} (hs : sb ≤ 1) (hz : sb = 1 → dl lf 330 ≠ 0) : Met l yM0_toBits wsM0_toBits ({ frames := 1, cells := 0, slots := 0, locals := 24 } : Room) (PcH G H [.ref o, .ref (ad 3), .int (nI sb), .ref (ad 7)]) (QcV (fun H1 => ∃ r g : Nat → Nat, (∀ k, k < 514 → g k = tcN 514 (sg sb (dl lf 330)) / 2 ^ k % 2) ∧ SM G b0 o ad H th dg bw lm lf rt ou r lb rb ob g bR td tp wn tx H1)) 0 0 (fre b0) := by
  refine m_enter (cc := cM0_toBits) (maxL := 7) (ret := none) (own := RM0) (by decide) rfl rfl (Nat.le_of_ble_eq_true rfl) ?_
  intro p e s m below meth c ls hF hnm hH hl
  have hl : lv_has ls 7 [(0, .ref o), (1, .ref (ad 3)), (2, .int (nI sb)), (3, .ref (ad 7))] := hl
  have hLc : lcs b0 [] := lcs_nil b0
  obtain ⟨hx, hb, hr, hml, hown, hts, hlocks, hK⟩ := id hF
  refine lv_aload_n hx hb dM0_toBits_0 rfl (lv_at hl 1 rfl) ?_
  refine lv_aload_n hx hb dM0_toBits_1 rfl (lv_at hl 0 rfl) ?_
  refine va_get (D := G.1) (ci := 1) (v := .ref (ad 6)) (C := RM0) (T := TM0) (N := 17) hx hb hts hwsM0_toBits hown hK hS.w.ob 0 rfl rfl 7 (by decide) (hts (.fieldLink RM0 29 "ExactNumbersModel" "rest" "[I") (by decide +kernel)) (fun _ h9 => h9) rfl dM0_toBits_2 ?_
  refine mc_v0 (va_runS (As := [.ref (ad 3), .ref (ad 6)]) (rest := []) ⟨hx, hb, hml, hown, hts⟩ (c_M0_copy l G b0 H (hS.w.get 3 (by decide)) (hS.w.get 6 (by decide)) (hS.w.ne (i := 3) (j := 6) (by decide) (by decide) (by decide)) (hS.w.b 6 (by decide))) (va_cwS 2 hts gM0_toBits_M0_copy rfl rfl rfl (by decide +kernel) ⟨Nat.le_of_ble_eq_true rfl, Nat.le_of_ble_eq_true rfl⟩) (mp_S hK) rfl rfl hl.1 rfl (lv_room (Nat.le_of_ble_eq_true rfl)) dM0_toBits_5 ⟨Nat.le_of_ble_eq_true rfl, Nat.le_of_ble_eq_true rfl⟩) hLc (fun H1 locs hP hLc => ?_)
  subst hP
  have hS := hS.p_rs lf
  generalize hput H (ad 6) (aN G 330 lf) = Hc at hS ⊢
  refine lv_iconst (v := nI 1) hx hb dM0_toBits_8 (by decide) ?_
  refine lv_istore (lv' := [(4, .int (nI 1)), (0, .ref o), (1, .ref (ad 3)), (2, .int (nI sb)), (3, .ref (ad 7))]) hx hb dM0_toBits_9 hl (by decide) rfl (fun ls hl => ?_)
  refine lv_iconst (v := nI 0) hx hb dM0_toBits_11 (by decide) ?_
  refine lv_istore (lv' := [(5, .int (nI 0)), (4, .int (nI 1)), (0, .ref o), (1, .ref (ad 3)), (2, .int (nI sb)), (3, .ref (ad 7))]) hx hb dM0_toBits_12 hl (by decide) rfl (fun ls hl => ?_)
  exact toBits_lf_14 (rs := rs) (bL := bL) hF hlf hL hs hz 514 0 1 lf bL _ (by omega) (by decide) hlf (by rw [Nat.pow_zero, Nat.div_one]) (fun _ => by rw [Nat.pow_zero, Nat.div_one, Nat.div_one]; have := p514; omega) (fun k hk => absurd hk (by omega)) hS _ _ hLc (lv_sub hl [2, 3, 4, 5, 1, 0] rfl)

set_option maxRecDepth 100000 in
set_option maxHeartbeats 4000000 in
theorem toBits_rt_14 {p : Program} {l : Launch} {e : Env} {s : State} {m : MethodId} {args : Array Value} {below : List Frame} {meth : Method} {c : Code} {G : gG} {b0 : Nat} {H : Heap} {o : Nat} {ad : Nat → Nat} {th : Nat} {dg : Nat → Nat} {bw : Nat → Nat} {lm : Nat → Nat} {lf : Nat → Nat} {rt : Nat → Nat} {ou : Nat → Nat} {rs : Nat → Nat} {lb : Nat} {rb : Nat} {ob : Nat} {bL : Nat → Nat} {bR : Nat → Nat} {td : Nat} {tp : Nat → Nat} {wn : Nat} {tx : Nat → Nat} {sb : Nat} (hF : FxM p s m args meth c G cM0_toBits 7 none RM0 wsM0_toBits) (hlf : dlm rt 330) (hL : dl rt 330 < 2 ^ 512) (hs : sb ≤ 1) (hz : sb = 1 → dl rt 330 ≠ 0) : ∀ (q : Nat) (i c1 : Nat) (r g : Nat → Nat) (Hc : Heap), i + q = 514 → c1 ≤ 1 → dlm r 330 → dl r 330 = dl rt 330 / 2 ^ i → (sb = 1 → (2 ^ 514 - dl rt 330) / 2 ^ i = (2 ^ 514 - 1 - dl rt 330) / 2 ^ i + c1) → (∀ k, k < i → g k = tcN 514 (sg sb (dl rt 330)) / 2 ^ k % 2) → SM G b0 o ad H th dg bw lm lf rt ou r lb rb ob bL g td tp wn tx Hc → ∀ (locs : List Loc) (ls : Array Slot), lcs b0 locs → lv_has ls 7 [(0, .ref o), (1, .ref (ad 4)), (2, .int (nI sb)), (3, .ref (ad 8)), (4, .int (nI c1)), (5, .int (nI i))] → W p l e ({ frames := 1, cells := 0, slots := 0, locals := 24 } : Room) s m args below meth c Hc locs 0 0 (MQ below (QcV (fun H1 => ∃ r g : Nat → Nat, (∀ k, k < 514 → g k = tcN 514 (sg sb (dl rt 330)) / 2 ^ k % 2) ∧ SM G b0 o ad H th dg bw lm lf rt ou r lb rb ob bL g td tp wn tx H1)) args s 0 0 (fre b0)) (F0 m 14 ls []) := by
  obtain ⟨hx, hb, hr, hml, hown, hts, hlocks, hK⟩ := id hF
  intro q
  induction q with
  | zero =>
    intro i c1 r g Hc hi hc1 hrr hv hcy hg hS locs ls hLc hl
    have hi514 : i = 514 := by omega
    subst hi514
    refine lv_iload hx hb dM0_toBits_14 (lv_at hl 5 rfl) ?_
    refine lv_sipush (v := nI 514) hx hb dM0_toBits_16 (by decide) ?_
    refine m_icmp_ge (tgt := 69) hx hb (by decide) (by decide) dM0_toBits_19 (by decide) (fun _ => ?_) (fun h => absurd h (by decide))
    exact m_vret hx hb hr hlocks hLc dM0_toBits_69 (⟨r, g, hg, hS⟩)
  | succ q ih =>
    intro i c1 r g Hc hi hc1 hrr hv hcy hg hS locs ls hLc hl
    refine lv_iload hx hb dM0_toBits_14 (lv_at hl 5 rfl) ?_
    refine lv_sipush (v := nI 514) hx hb dM0_toBits_16 (by decide) ?_
    refine lv_icmp_ge (tgt := 69) hx hb dM0_toBits_19 (by decide) (fun h => absurd h (nI_ge (by omega) (by omega))) (fun _ => ?_)
    refine lv_aload_n hx hb dM0_toBits_22 rfl (lv_at hl 0 rfl) ?_
    refine va_get (D := G.1) (ci := 1) (v := .ref (ad 6)) (C := RM0) (T := TM0) (N := 17) hx hb hts hwsM0_toBits hown hK hS.w.ob 0 rfl rfl 7 (by decide) (hts (.fieldLink RM0 29 "ExactNumbersModel" "rest" "[I") (by decide +kernel)) (fun _ h9 => h9) rfl dM0_toBits_23 ?_
    refine lv_iconst (v := nI 2) hx hb dM0_toBits_26 (by decide) ?_
    refine mc_i0 (va_runS (As := [.ref (ad 6), .int (nI 2)]) (rest := []) ⟨hx, hb, hml, hown, hts⟩ (c_M0_shrink l G b0 Hc (hS.w.get 6 (by decide)) hrr (hS.w.b 6 (by decide)) (by decide) (by decide)) (va_cwS 2 hts gM0_toBits_M0_shrink rfl rfl rfl (by decide +kernel) ⟨Nat.le_of_ble_eq_true rfl, Nat.le_of_ble_eq_true rfl⟩) (mp_S hK) rfl rfl hl.1 rfl (lv_room (Nat.le_of_ble_eq_true rfl)) dM0_toBits_27 ⟨Nat.le_of_ble_eq_true rfl, Nat.le_of_ble_eq_true rfl⟩) hLc (fun r H1 locs hP hLc => ?_)
    obtain ⟨r3, z, rfl, hz2, hr3, hv3, rfl⟩ := hP
    have hS := hS.p_rs r3
    generalize hput Hc (ad 6) (aN G 330 r3) = Hc at hS ⊢
    rw [hv] at hv3
    obtain ⟨hv4, hz3⟩ := shr_bit hv3 hz2
    refine lv_istore (lv' := [(6, .int (nI z)), (0, .ref o), (1, .ref (ad 4)), (2, .int (nI sb)), (3, .ref (ad 8)), (4, .int (nI c1)), (5, .int (nI i))]) hx hb dM0_toBits_30 hl (by decide) rfl (fun ls hl => ?_)
    refine lv_iload_n hx hb dM0_toBits_32 rfl (lv_at hl 3 rfl) ?_
    refine m_if_eq (tgt := 57) hx hb (by omega) dM0_toBits_33 (by decide) (fun c33 => ?_) (fun c33 => ?_)
    · skip
      refine lv_aload_n hx hb dM0_toBits_57 rfl (lv_at hl 4 rfl) ?_
      refine lv_iload hx hb dM0_toBits_58 (lv_at hl 6 rfl) ?_
      refine lv_iload hx hb dM0_toBits_60 (lv_at hl 0 rfl) ?_
      refine m_nast (n := 514) (f := g) (b0 := b0) hx hb hK (hS.w.get 8 (by decide)) (by omega) (by decide) (hS.w.b 8 (by decide)) hLc dM0_toBits_62 (fun locs hLc => ?_)
      have hS := hS.p_bR (fup g i z)
      generalize hput Hc (ad 8) (aN G 514 (fup g i z)) = Hc at hS ⊢
      refine lv_iinc (v := nI (i + 1)) (lv' := [(5, .int (nI (i + 1))), (6, .int (nI z)), (0, .ref o), (1, .ref (ad 4)), (2, .int (nI sb)), (3, .ref (ad 8)), (4, .int (nI c1))]) hx hb dM0_toBits_63 hl (k := 6) rfl (nI_add i 1) (by decide) rfl (fun ls hl => ?_)
      refine lv_goto (tgt := 14) hx hb dM0_toBits_66 (by decide) ?_
      exact ih (i + 1) c1 r3 _ _ (by omega) hc1 hr3 hv4 (fun e => absurd e (by omega)) (fup_eq hg (by rw [tc_514 hs hL hz, if_neg (by omega)]; exact hz3)) hS _ _ hLc (lv_sub hl [2, 3, 4, 5, 6, 0] rfl)
    · skip
      have hs1 : sb = 1 := by omega
      refine lv_iconst (v := nI 1) hx hb dM0_toBits_36 (by decide) ?_
      refine lv_iload hx hb dM0_toBits_37 (lv_at hl 0 rfl) ?_
      refine m_isub (a := 1) (b := z) hx hb (by omega) dM0_toBits_39 ?_
      refine lv_iload hx hb dM0_toBits_40 (lv_at hl 5 rfl) ?_
      refine m_iadd (a := 1 - z) (b := c1) hx hb dM0_toBits_42 ?_
      refine lv_istore (lv' := [(6, .int (nI ((1 - z) + c1))), (0, .ref o), (1, .ref (ad 4)), (2, .int (nI sb)), (3, .ref (ad 8)), (4, .int (nI c1)), (5, .int (nI i))]) hx hb dM0_toBits_43 hl (by decide) rfl (fun ls hl => ?_)
      refine lv_iload hx hb dM0_toBits_45 (lv_at hl 0 rfl) ?_
      refine lv_iconst (v := nI 1) hx hb dM0_toBits_47 (by decide) ?_
      refine lv_ishr hx hb dM0_toBits_48 ?_
      rw [ishr1 (by omega)]
      refine lv_istore (lv' := [(4, .int (nI ((1 - z + c1) / 2))), (6, .int (nI ((1 - z) + c1))), (0, .ref o), (1, .ref (ad 4)), (2, .int (nI sb)), (3, .ref (ad 8)), (5, .int (nI i))]) hx hb dM0_toBits_49 hl (by decide) rfl (fun ls hl => ?_)
      refine lv_iload hx hb dM0_toBits_51 (lv_at hl 1 rfl) ?_
      refine lv_iconst (v := nI 1) hx hb dM0_toBits_53 (by decide) ?_
      refine lv_iand hx hb dM0_toBits_54 ?_
      rw [iand1 (by omega)]
      refine lv_istore (lv' := [(6, .int (nI ((1 - z + c1) % 2))), (4, .int (nI ((1 - z + c1) / 2))), (0, .ref o), (1, .ref (ad 4)), (2, .int (nI sb)), (3, .ref (ad 8)), (5, .int (nI i))]) hx hb dM0_toBits_55 hl (by decide) rfl (fun ls hl => ?_)
      refine lv_aload_n hx hb dM0_toBits_57 rfl (lv_at hl 5 rfl) ?_
      refine lv_iload hx hb dM0_toBits_58 (lv_at hl 6 rfl) ?_
      refine lv_iload hx hb dM0_toBits_60 (lv_at hl 0 rfl) ?_
      refine m_nast (n := 514) (f := g) (b0 := b0) hx hb hK (hS.w.get 8 (by decide)) (by omega) (by decide) (hS.w.b 8 (by decide)) hLc dM0_toBits_62 (fun locs hLc => ?_)
      have hS := hS.p_bR (fup g i ((1 - z + c1) % 2))
      generalize hput Hc (ad 8) (aN G 514 (fup g i ((1 - z + c1) % 2))) = Hc at hS ⊢
      refine lv_iinc (v := nI (i + 1)) (lv' := [(5, .int (nI (i + 1))), (6, .int (nI ((1 - z + c1) % 2))), (4, .int (nI ((1 - z + c1) / 2))), (0, .ref o), (1, .ref (ad 4)), (2, .int (nI sb)), (3, .ref (ad 8))]) hx hb dM0_toBits_63 hl (k := 6) rfl (nI_add i 1) (by decide) rfl (fun ls hl => ?_)
      refine lv_goto (tgt := 14) hx hb dM0_toBits_66 (by decide) ?_
      have ht1 : z + (1 - z) = 1 := by omega
      obtain ⟨ht2, ht3⟩ := tcb_step (hcy hs1)
      rw [cpl_b (Nat.lt_trans hL p514l) (show i < 514 by omega), ← hz3] at ht2 ht3
      exact ih (i + 1) _ r3 _ _ (by omega) (by omega) hr3 hv4 (fun _ => ht2) (fup_eq hg (by rw [tc_514 hs hL hz, if_pos hs1]; exact ht3.symm)) hS _ _ hLc (lv_sub hl [3, 4, 5, 6, 2, 0] rfl)
set_option maxRecDepth 100000 in
set_option maxHeartbeats 4000000 in
theorem c_M0_toBits_rt (l : Launch) (G : gG) (b0 : Nat) (H : Heap) {o : Nat} {ad : Nat → Nat} {th : Nat} {dg : Nat → Nat} {bw : Nat → Nat} {lm : Nat → Nat} {lf : Nat → Nat} {rt : Nat → Nat} {ou : Nat → Nat} {rs : Nat → Nat} {lb : Nat} {rb : Nat} {ob : Nat} {bL : Nat → Nat} {bR : Nat → Nat} {td : Nat} {tp : Nat → Nat} {wn : Nat} {tx : Nat → Nat} (hS : SM G b0 o ad H th dg bw lm lf rt ou rs lb rb ob bL bR td tp wn tx H) (hlf : dlm rt 330) (hL : dl rt 330 < 2 ^ 512) {sb : Nat} (hs : sb ≤ 1) (hz : sb = 1 → dl rt 330 ≠ 0) : Met l yM0_toBits wsM0_toBits ({ frames := 1, cells := 0, slots := 0, locals := 24 } : Room) (PcH G H [.ref o, .ref (ad 4), .int (nI sb), .ref (ad 8)]) (QcV (fun H1 => ∃ r g : Nat → Nat, (∀ k, k < 514 → g k = tcN 514 (sg sb (dl rt 330)) / 2 ^ k % 2) ∧ SM G b0 o ad H th dg bw lm lf rt ou r lb rb ob bL g td tp wn tx H1)) 0 0 (fre b0) := by
  refine m_enter (cc := cM0_toBits) (maxL := 7) (ret := none) (own := RM0) (by decide) rfl rfl (Nat.le_of_ble_eq_true rfl) ?_
  intro p e s m below meth c ls hF hnm hH hl
  have hl : lv_has ls 7 [(0, .ref o), (1, .ref (ad 4)), (2, .int (nI sb)), (3, .ref (ad 8))] := hl
  have hLc : lcs b0 [] := lcs_nil b0
  obtain ⟨hx, hb, hr, hml, hown, hts, hlocks, hK⟩ := id hF
  refine lv_aload_n hx hb dM0_toBits_0 rfl (lv_at hl 1 rfl) ?_
  refine lv_aload_n hx hb dM0_toBits_1 rfl (lv_at hl 0 rfl) ?_
  refine va_get (D := G.1) (ci := 1) (v := .ref (ad 6)) (C := RM0) (T := TM0) (N := 17) hx hb hts hwsM0_toBits hown hK hS.w.ob 0 rfl rfl 7 (by decide) (hts (.fieldLink RM0 29 "ExactNumbersModel" "rest" "[I") (by decide +kernel)) (fun _ h9 => h9) rfl dM0_toBits_2 ?_
  refine mc_v0 (va_runS (As := [.ref (ad 4), .ref (ad 6)]) (rest := []) ⟨hx, hb, hml, hown, hts⟩ (c_M0_copy l G b0 H (hS.w.get 4 (by decide)) (hS.w.get 6 (by decide)) (hS.w.ne (i := 4) (j := 6) (by decide) (by decide) (by decide)) (hS.w.b 6 (by decide))) (va_cwS 2 hts gM0_toBits_M0_copy rfl rfl rfl (by decide +kernel) ⟨Nat.le_of_ble_eq_true rfl, Nat.le_of_ble_eq_true rfl⟩) (mp_S hK) rfl rfl hl.1 rfl (lv_room (Nat.le_of_ble_eq_true rfl)) dM0_toBits_5 ⟨Nat.le_of_ble_eq_true rfl, Nat.le_of_ble_eq_true rfl⟩) hLc (fun H1 locs hP hLc => ?_)
  subst hP
  have hS := hS.p_rs rt
  generalize hput H (ad 6) (aN G 330 rt) = Hc at hS ⊢
  refine lv_iconst (v := nI 1) hx hb dM0_toBits_8 (by decide) ?_
  refine lv_istore (lv' := [(4, .int (nI 1)), (0, .ref o), (1, .ref (ad 4)), (2, .int (nI sb)), (3, .ref (ad 8))]) hx hb dM0_toBits_9 hl (by decide) rfl (fun ls hl => ?_)
  refine lv_iconst (v := nI 0) hx hb dM0_toBits_11 (by decide) ?_
  refine lv_istore (lv' := [(5, .int (nI 0)), (4, .int (nI 1)), (0, .ref o), (1, .ref (ad 4)), (2, .int (nI sb)), (3, .ref (ad 8))]) hx hb dM0_toBits_12 hl (by decide) rfl (fun ls hl => ?_)
  exact toBits_rt_14 (rs := rs) (bR := bR) hF hlf hL hs hz 514 0 1 rt bR _ (by omega) (by decide) hlf (by rw [Nat.pow_zero, Nat.div_one]) (fun _ => by rw [Nat.pow_zero, Nat.div_one, Nat.div_one]; have := p514; omega) (fun k hk => absurd hk (by omega)) hS _ _ hLc (lv_sub hl [2, 3, 4, 5, 1, 0] rfl)

set_option maxRecDepth 100000 in
set_option maxHeartbeats 4000000 in
theorem fromBits_29 {p : Program} {l : Launch} {e : Env} {s : State} {m : MethodId} {args : Array Value} {below : List Frame} {meth : Method} {c : Code} {G : gG} {b0 : Nat} {H : Heap} {o : Nat} {ad : Nat → Nat} {th : Nat} {dg : Nat → Nat} {bw : Nat → Nat} {lm : Nat → Nat} {lf : Nat → Nat} {rt : Nat → Nat} {ou : Nat → Nat} {rs : Nat → Nat} {lb : Nat} {rb : Nat} {ob : Nat} {bL : Nat → Nat} {bR : Nat → Nat} {td : Nat} {tp : Nat → Nat} {wn : Nat} {tx : Nat → Nat} {cb sb w : Nat} (hF : FxM p s m args meth c G cM0_fromBits 3 none RM0 wsM0_fromBits) (hcb : cb < 2 ^ 514) (hbits : ∀ k, k < 514 → bL k = cb / 2 ^ k % 2) (hsb : sb ≤ 1) (hw : w < 2 ^ 514) (hwb : ∀ k, k < 514 → w / 2 ^ k % 2 = if sb = 0 then bL k else 1 - bL k) (hend : sg sb (if sb = 0 then w else w + 1) = fromN 514 cb) : ∀ (q : Nat) (g : Nat → Nat) (Hc : Heap), q ≤ 514 → dlm g 330 → dl g 330 = w / 2 ^ q → SM G b0 o ad H th dg bw lm lf rt g rs lb rb sb bL bR td tp wn tx Hc → ∀ (locs : List Loc) (ls : Array Slot), lcs b0 locs → lv_has ls 3 [(0, .ref o), (1, .ref (ad 7)), (2, .int (nI q - 1))] → W p l e ({ frames := 1, cells := 0, slots := 0, locals := 25 } : Room) s m args below meth c Hc locs 0 0 (MQ below (QcV (fun H1 => ∃ (g r : Nat → Nat) (b : Nat), dlm g 330 ∧ b ≤ 1 ∧ sg b (dl g 330) = fromN 514 cb ∧ SM G b0 o ad H th dg bw lm lf rt g r lb rb b bL bR td tp wn tx H1)) args s 0 0 (fre b0)) (F0 m 29 ls []) := by
  obtain ⟨hx, hb, hr, hml, hown, hts, hlocks, hK⟩ := id hF
  intro q
  induction q with
  | zero =>
    intro g Hc hq hg hv hS locs ls hLc hl
    rw [Nat.pow_zero, Nat.div_one] at hv
    refine lv_iload_n hx hb dM0_fromBits_29 rfl (lv_at hl 2 rfl) ?_
    refine lv_if_lt (tgt := 65) hx hb dM0_fromBits_30 (by decide) (fun _ => ?_) (fun h => absurd (by decide) h)
    refine lv_aload_n hx hb dM0_fromBits_65 rfl (lv_at hl 0 rfl) ?_
    refine va_get (D := G.1) (ci := 1) (v := .int (nI sb)) (C := RM0) (T := TM0) (N := 17) hx hb hts hwsM0_fromBits hown hK hS.w.ob 0 rfl rfl 10 (by decide) (hts (.fieldLink RM0 75 "ExactNumbersModel" "outBelow" "Z") (by decide +kernel)) (fun _ h9 => h9) rfl dM0_fromBits_66 ?_
    refine m_if_ne (tgt := 73) hx hb (by omega) dM0_fromBits_69 (by decide) (fun c69 => ?_) (fun c69 => ?_)
    · skip
      refine lv_aload_n hx hb dM0_fromBits_73 rfl (lv_at hl 0 rfl) ?_
      refine va_get (D := G.1) (ci := 1) (v := .ref (ad 6)) (C := RM0) (T := TM0) (N := 17) hx hb hts hwsM0_fromBits hown hK hS.w.ob 0 rfl rfl 7 (by decide) (hts (.fieldLink RM0 29 "ExactNumbersModel" "rest" "[I") (by decide +kernel)) (fun _ h9 => h9) rfl dM0_fromBits_74 ?_
      refine mc_v0 (va_runS (As := [.ref (ad 6)]) (rest := []) ⟨hx, hb, hml, hown, hts⟩ (c_M0_clear l G b0 Hc (hS.w.get 6 (by decide)) (hS.w.b 6 (by decide))) (va_cwS 1 hts gM0_fromBits_M0_clear rfl rfl rfl (by decide +kernel) ⟨Nat.le_of_ble_eq_true rfl, Nat.le_of_ble_eq_true rfl⟩) (mp_S hK) rfl rfl hl.1 rfl (lv_room (Nat.le_of_ble_eq_true rfl)) dM0_fromBits_77 ⟨Nat.le_of_ble_eq_true rfl, Nat.le_of_ble_eq_true rfl⟩) hLc (fun H1 locs hP hLc => ?_)
      subst hP
      have hS := hS.p_rs (fun _ => 0)
      generalize hput Hc (ad 6) (aN G 330 (fun _ => 0)) = Hc at hS ⊢
      refine lv_aload_n hx hb dM0_fromBits_80 rfl (lv_at hl 0 rfl) ?_
      refine va_get (D := G.1) (ci := 1) (v := .ref (ad 6)) (C := RM0) (T := TM0) (N := 17) hx hb hts hwsM0_fromBits hown hK hS.w.ob 0 rfl rfl 7 (by decide) (hts (.fieldLink RM0 29 "ExactNumbersModel" "rest" "[I") (by decide +kernel)) (fun _ h9 => h9) rfl dM0_fromBits_81 ?_
      refine lv_iconst (v := nI 0) hx hb dM0_fromBits_84 (by decide) ?_
      refine lv_iconst (v := nI 1) hx hb dM0_fromBits_85 (by decide) ?_
      refine m_nast (n := 330) (f := fun _ => 0) (b0 := b0) hx hb hK (hS.w.get 6 (by decide)) (by omega) (by decide) (hS.w.b 6 (by decide)) hLc dM0_fromBits_86 (fun locs hLc => ?_)
      have hS := hS.p_rs (fup (fun _ => 0) 0 1)
      generalize hput Hc (ad 6) (aN G 330 (fup (fun _ => 0) 0 1)) = Hc at hS ⊢
      refine lv_aload_n hx hb dM0_fromBits_87 rfl (lv_at hl 0 rfl) ?_
      refine va_get (D := G.1) (ci := 1) (v := .ref (ad 5)) (C := RM0) (T := TM0) (N := 17) hx hb hts hwsM0_fromBits hown hK hS.w.ob 0 rfl rfl 6 (by decide) (hts (.fieldLink RM0 26 "ExactNumbersModel" "out" "[I") (by decide +kernel)) (fun _ h9 => h9) rfl dM0_fromBits_88 ?_
      refine lv_aload_n hx hb dM0_fromBits_91 rfl (lv_at hl 0 rfl) ?_
      refine va_get (D := G.1) (ci := 1) (v := .ref (ad 6)) (C := RM0) (T := TM0) (N := 17) hx hb hts hwsM0_fromBits hown hK hS.w.ob 0 rfl rfl 7 (by decide) (hts (.fieldLink RM0 29 "ExactNumbersModel" "rest" "[I") (by decide +kernel)) (fun _ h9 => h9) rfl dM0_fromBits_92 ?_
      refine mc_v0 (va_runS (As := [.ref (ad 5), .ref (ad 6)]) (rest := []) ⟨hx, hb, hml, hown, hts⟩ (c_M0_add l G b0 Hc (hS.w.get 5 (by decide)) (hS.w.get 6 (by decide)) hg (dlm_fup (fun j _ => by decide) (by decide)) (hS.w.ne (i := 6) (j := 5) (by decide) (by decide) (by decide)) (hS.w.b 5 (by decide))) (va_cwS 2 hts gM0_fromBits_M0_add rfl rfl rfl (by decide +kernel) ⟨Nat.le_of_ble_eq_true rfl, Nat.le_of_ble_eq_true rfl⟩) (mp_S hK) rfl rfl hl.1 rfl (lv_room (Nat.le_of_ble_eq_true rfl)) dM0_fromBits_95 ⟨Nat.le_of_ble_eq_true rfl, Nat.le_of_ble_eq_true rfl⟩) hLc (fun H1 locs hP hLc => ?_)
      obtain ⟨g3, c2, hg3, hv3, rfl⟩ := hP
      have hS := hS.p_ou g3
      generalize hput Hc (ad 5) (aN G 330 g3) = Hc at hS ⊢
      have hv3 := grow2 hv3 (by rw [hv, dl_one 329]; have := p514a; omega)
      rw [hv, dl_one 329] at hv3
      exact m_vret hx hb hr hlocks hLc dM0_fromBits_98 (⟨g3, _, sb, hg3, hsb, by rw [if_neg c69] at hend; rw [hv3]; exact hend, hS⟩)
    · skip
      exact m_vret hx hb hr hlocks hLc dM0_fromBits_72 (⟨g, rs, sb, hg, hsb, by rw [if_pos c69] at hend; rw [hv]; exact hend, hS⟩)
  | succ q ih =>
    intro g Hc hq hg hv hS locs ls hLc hl
    rw [nI_pred] at hl
    have hwq := hwb q (by omega)
    have hbq : bL q < 2 := by rw [hbits q (by omega)]; exact Nat.mod_lt _ (by decide)
    refine lv_iload_n hx hb dM0_fromBits_29 rfl (lv_at hl 2 rfl) ?_
    refine lv_if_lt (tgt := 65) hx hb dM0_fromBits_30 (by decide) (fun h => absurd h (nI_pos (by omega))) (fun _ => ?_)
    refine lv_aload_n hx hb dM0_fromBits_33 rfl (lv_at hl 0 rfl) ?_
    refine va_get (D := G.1) (ci := 1) (v := .ref (ad 5)) (C := RM0) (T := TM0) (N := 17) hx hb hts hwsM0_fromBits hown hK hS.w.ob 0 rfl rfl 6 (by decide) (hts (.fieldLink RM0 26 "ExactNumbersModel" "out" "[I") (by decide +kernel)) (fun _ h9 => h9) rfl dM0_fromBits_34 ?_
    refine lv_iconst (v := nI 2) hx hb dM0_fromBits_37 (by decide) ?_
    refine lv_aload_n hx hb dM0_fromBits_38 rfl (lv_at hl 0 rfl) ?_
    refine va_get (D := G.1) (ci := 1) (v := .int (nI sb)) (C := RM0) (T := TM0) (N := 17) hx hb hts hwsM0_fromBits hown hK hS.w.ob 0 rfl rfl 10 (by decide) (hts (.fieldLink RM0 75 "ExactNumbersModel" "outBelow" "Z") (by decide +kernel)) (fun _ h9 => h9) rfl dM0_fromBits_39 ?_
    refine m_if_eq (tgt := 53) hx hb (by omega) dM0_fromBits_42 (by decide) (fun c42 => ?_) (fun c42 => ?_)
    · skip
      rw [if_pos c42] at hwq
      refine lv_aload_n hx hb dM0_fromBits_53 rfl (lv_at hl 1 rfl) ?_
      refine lv_iload_n hx hb dM0_fromBits_54 rfl (lv_at hl 2 rfl) ?_
      refine m_nald (n := 514) (f := bL) hx hb hK (hS.w.get 7 (by decide)) (by omega) (by decide) dM0_fromBits_55 ?_
      refine mc_v0 (va_runS (As := [.ref (ad 5), .int (nI 2), .int (nI (bL q))]) (rest := []) ⟨hx, hb, hml, hown, hts⟩ (c_M0_grow l G b0 Hc (hS.w.get 5 (by decide)) hg (hS.w.b 5 (by decide)) (by decide) (by omega)) (va_cwS 3 hts gM0_fromBits_M0_grow rfl rfl rfl (by decide +kernel) ⟨Nat.le_of_ble_eq_true rfl, Nat.le_of_ble_eq_true rfl⟩) (mp_S hK) rfl rfl hl.1 rfl (lv_room (Nat.le_of_ble_eq_true rfl)) dM0_fromBits_56 ⟨Nat.le_of_ble_eq_true rfl, Nat.le_of_ble_eq_true rfl⟩) hLc (fun H1 locs hP hLc => ?_)
      obtain ⟨g3, c2, hg3, hvg3, rfl⟩ := hP
      have hS := hS.p_ou g3
      generalize hput Hc (ad 5) (aN G 330 g3) = Hc at hS ⊢
      have hv3 : dl g3 330 = w / 2 ^ q := by rw [hv, ← hwq] at hvg3; exact grow_bit (Nat.lt_trans hw (by have := p514a; omega)) hvg3
      refine lv_iinc (v := nI q - 1) (lv' := [(2, .int (nI q - 1)), (0, .ref o), (1, .ref (ad 7))]) hx hb dM0_fromBits_59 hl (k := 2) rfl (nI_decI _) (by decide) rfl (fun ls hl => ?_)
      refine lv_goto (tgt := 29) hx hb dM0_fromBits_62 (by decide) ?_
      exact ih g3 _ (by omega) hg3 hv3 hS _ _ hLc (lv_sub hl [1, 2, 0] rfl)
    · skip
      rw [if_neg c42] at hwq
      refine lv_iconst (v := nI 1) hx hb dM0_fromBits_45 (by decide) ?_
      refine lv_aload_n hx hb dM0_fromBits_46 rfl (lv_at hl 1 rfl) ?_
      refine lv_iload_n hx hb dM0_fromBits_47 rfl (lv_at hl 2 rfl) ?_
      refine m_nald (n := 514) (f := bL) hx hb hK (hS.w.get 7 (by decide)) (by omega) (by decide) dM0_fromBits_48 ?_
      refine m_isub (a := 1) (b := bL q) hx hb (by omega) dM0_fromBits_49 ?_
      refine lv_goto (tgt := 56) hx hb dM0_fromBits_50 (by decide) ?_
      refine mc_v0 (va_runS (As := [.ref (ad 5), .int (nI 2), .int (nI (1 - (bL q)))]) (rest := []) ⟨hx, hb, hml, hown, hts⟩ (c_M0_grow l G b0 Hc (hS.w.get 5 (by decide)) hg (hS.w.b 5 (by decide)) (by decide) (by omega)) (va_cwS 3 hts gM0_fromBits_M0_grow rfl rfl rfl (by decide +kernel) ⟨Nat.le_of_ble_eq_true rfl, Nat.le_of_ble_eq_true rfl⟩) (mp_S hK) rfl rfl hl.1 rfl (lv_room (Nat.le_of_ble_eq_true rfl)) dM0_fromBits_56 ⟨Nat.le_of_ble_eq_true rfl, Nat.le_of_ble_eq_true rfl⟩) hLc (fun H1 locs hP hLc => ?_)
      obtain ⟨g3, c2, hg3, hvg3, rfl⟩ := hP
      have hS := hS.p_ou g3
      generalize hput Hc (ad 5) (aN G 330 g3) = Hc at hS ⊢
      have hv3 : dl g3 330 = w / 2 ^ q := by rw [hv, ← hwq] at hvg3; exact grow_bit (Nat.lt_trans hw (by have := p514a; omega)) hvg3
      refine lv_iinc (v := nI q - 1) (lv' := [(2, .int (nI q - 1)), (0, .ref o), (1, .ref (ad 7))]) hx hb dM0_fromBits_59 hl (k := 2) rfl (nI_decI _) (by decide) rfl (fun ls hl => ?_)
      refine lv_goto (tgt := 29) hx hb dM0_fromBits_62 (by decide) ?_
      exact ih g3 _ (by omega) hg3 hv3 hS _ _ hLc (lv_sub hl [1, 2, 0] rfl)
set_option maxRecDepth 100000 in
set_option maxHeartbeats 4000000 in
theorem c_M0_fromBits (l : Launch) (G : gG) (b0 : Nat) (H : Heap) {o : Nat} {ad : Nat → Nat} {th : Nat} {dg : Nat → Nat} {bw : Nat → Nat} {lm : Nat → Nat} {lf : Nat → Nat} {rt : Nat → Nat} {ou : Nat → Nat} {rs : Nat → Nat} {lb : Nat} {rb : Nat} {ob : Nat} {bL : Nat → Nat} {bR : Nat → Nat} {td : Nat} {tp : Nat → Nat} {wn : Nat} {tx : Nat → Nat} (hS : SM G b0 o ad H th dg bw lm lf rt ou rs lb rb ob bL bR td tp wn tx H) {cb : Nat} (hcb : cb < 2 ^ 514) (hbits : ∀ k, k < 514 → bL k = cb / 2 ^ k % 2) : Met l yM0_fromBits wsM0_fromBits ({ frames := 1, cells := 0, slots := 0, locals := 25 } : Room) (PcH G H [.ref o, .ref (ad 7)]) (QcV (fun H1 => ∃ (g r : Nat → Nat) (b : Nat), dlm g 330 ∧ b ≤ 1 ∧ sg b (dl g 330) = fromN 514 cb ∧ SM G b0 o ad H th dg bw lm lf rt g r lb rb b bL bR td tp wn tx H1)) 0 0 (fre b0) := by
  refine m_enter (cc := cM0_fromBits) (maxL := 3) (ret := none) (own := RM0) (by decide) rfl rfl (Nat.le_of_ble_eq_true rfl) ?_
  intro p e s m below meth c ls hF hnm hH hl
  have hl : lv_has ls 3 [(0, .ref o), (1, .ref (ad 7))] := hl
  have hLc : lcs b0 [] := lcs_nil b0
  obtain ⟨hx, hb, hr, hml, hown, hts, hlocks, hK⟩ := id hF
  refine lv_aload_n hx hb dM0_fromBits_0 rfl (lv_at hl 0 rfl) ?_
  refine lv_aload_n hx hb dM0_fromBits_1 rfl (lv_at hl 1 rfl) ?_
  refine lv_sipush (v := nI 513) hx hb dM0_fromBits_2 (by decide) ?_
  refine m_nald (n := 514) (f := bL) hx hb hK (hS.w.get 7 (by decide)) (by omega) (by decide) dM0_fromBits_5 ?_
  refine lv_iconst (v := nI 1) hx hb dM0_fromBits_6 (by decide) ?_
  refine m_icmp_ne (tgt := 14) hx hb (by rw [hbits 513 (by decide)]; exact Nat.lt_trans (Nat.mod_lt _ (by decide)) (by decide)) (by decide) dM0_fromBits_7 (by decide) (fun c7 => ?_) (fun c7 => ?_)
  · skip
    refine lv_iconst (v := nI 0) hx hb dM0_fromBits_14 (by decide) ?_
    refine m_put (C := RM0) (T := TM0) (N := 17) (ci := 1) (ty := .boolean) (b0 := b0) hx hb hts hwsM0_fromBits tyM0 tyM0_ok nmM0 hown hK hS.w.ob rfl 10 (by decide) (hts (.fieldLink RM0 75 "ExactNumbersModel" "outBelow" "Z") (by decide +kernel)) rfl (by decide +kernel) (nar_z (by decide)) (fit_z (by decide)) (Nat.le_of_ble_eq_true rfl) hS.w.bo hLc dM0_fromBits_15 (fun Hc2 locs hO hsz hq hLc => ?_)
    have hS := hS.f_ob hO hsz hq
    clear hO hsz hq
    obtain ⟨Hc, rfl⟩ : ∃ Hz, Hz = Hc2 := ⟨_, rfl⟩
    refine lv_aload_n hx hb dM0_fromBits_18 rfl (lv_at hl 0 rfl) ?_
    refine va_get (D := G.1) (ci := 1) (v := .ref (ad 5)) (C := RM0) (T := TM0) (N := 17) hx hb hts hwsM0_fromBits hown hK hS.w.ob 0 rfl rfl 6 (by decide) (hts (.fieldLink RM0 26 "ExactNumbersModel" "out" "[I") (by decide +kernel)) (fun _ h9 => h9) rfl dM0_fromBits_19 ?_
    refine mc_v0 (va_runS (As := [.ref (ad 5)]) (rest := []) ⟨hx, hb, hml, hown, hts⟩ (c_M0_clear l G b0 Hc (hS.w.get 5 (by decide)) (hS.w.b 5 (by decide))) (va_cwS 1 hts gM0_fromBits_M0_clear rfl rfl rfl (by decide +kernel) ⟨Nat.le_of_ble_eq_true rfl, Nat.le_of_ble_eq_true rfl⟩) (mp_S hK) rfl rfl hl.1 rfl (lv_room (Nat.le_of_ble_eq_true rfl)) dM0_fromBits_22 ⟨Nat.le_of_ble_eq_true rfl, Nat.le_of_ble_eq_true rfl⟩) hLc (fun H1 locs hP hLc => ?_)
    subst hP
    have hS := hS.p_ou (fun _ => 0)
    generalize hput Hc (ad 5) (aN G 330 (fun _ => 0)) = Hc at hS ⊢
    refine lv_sipush (v := 513) hx hb dM0_fromBits_25 (by decide) ?_
    refine lv_istore_n (lv' := [(2, .int 513), (0, .ref o), (1, .ref (ad 7))]) hx hb dM0_fromBits_28 rfl hl (by decide) rfl (fun ls hl => ?_)
    rw [show (513 : Int32) = nI 514 - 1 from by decide] at hl
    rw [hbits 513 (by decide)] at c7
    exact fromBits_29 (ou := ou) (ob := ob) hF (w := cb) (sb := 0) hcb hbits (by decide) hcb (fun k hk => by rw [hbits k hk]; rfl) (by rw [sg_0]; exact fromN_0 hcb c7) 514 _ _ (Nat.le_refl 514) (fun j _ => by decide) (by rw [dl0]; exact (Nat.div_eq_of_lt hcb).symm) hS _ _ hLc (lv_sub hl [1, 2, 0] rfl)
  · skip
    refine lv_iconst (v := nI 1) hx hb dM0_fromBits_10 (by decide) ?_
    refine lv_goto (tgt := 15) hx hb dM0_fromBits_11 (by decide) ?_
    refine m_put (C := RM0) (T := TM0) (N := 17) (ci := 1) (ty := .boolean) (b0 := b0) hx hb hts hwsM0_fromBits tyM0 tyM0_ok nmM0 hown hK hS.w.ob rfl 10 (by decide) (hts (.fieldLink RM0 75 "ExactNumbersModel" "outBelow" "Z") (by decide +kernel)) rfl (by decide +kernel) (nar_z (by decide)) (fit_z (by decide)) (Nat.le_of_ble_eq_true rfl) hS.w.bo hLc dM0_fromBits_15 (fun Hc2 locs hO hsz hq hLc => ?_)
    have hS := hS.f_ob hO hsz hq
    clear hO hsz hq
    obtain ⟨Hc, rfl⟩ : ∃ Hz, Hz = Hc2 := ⟨_, rfl⟩
    refine lv_aload_n hx hb dM0_fromBits_18 rfl (lv_at hl 0 rfl) ?_
    refine va_get (D := G.1) (ci := 1) (v := .ref (ad 5)) (C := RM0) (T := TM0) (N := 17) hx hb hts hwsM0_fromBits hown hK hS.w.ob 0 rfl rfl 6 (by decide) (hts (.fieldLink RM0 26 "ExactNumbersModel" "out" "[I") (by decide +kernel)) (fun _ h9 => h9) rfl dM0_fromBits_19 ?_
    refine mc_v0 (va_runS (As := [.ref (ad 5)]) (rest := []) ⟨hx, hb, hml, hown, hts⟩ (c_M0_clear l G b0 Hc (hS.w.get 5 (by decide)) (hS.w.b 5 (by decide))) (va_cwS 1 hts gM0_fromBits_M0_clear rfl rfl rfl (by decide +kernel) ⟨Nat.le_of_ble_eq_true rfl, Nat.le_of_ble_eq_true rfl⟩) (mp_S hK) rfl rfl hl.1 rfl (lv_room (Nat.le_of_ble_eq_true rfl)) dM0_fromBits_22 ⟨Nat.le_of_ble_eq_true rfl, Nat.le_of_ble_eq_true rfl⟩) hLc (fun H1 locs hP hLc => ?_)
    subst hP
    have hS := hS.p_ou (fun _ => 0)
    generalize hput Hc (ad 5) (aN G 330 (fun _ => 0)) = Hc at hS ⊢
    refine lv_sipush (v := 513) hx hb dM0_fromBits_25 (by decide) ?_
    refine lv_istore_n (lv' := [(2, .int 513), (0, .ref o), (1, .ref (ad 7))]) hx hb dM0_fromBits_28 rfl hl (by decide) rfl (fun ls hl => ?_)
    rw [show (513 : Int32) = nI 514 - 1 from by decide] at hl
    rw [hbits 513 (by decide)] at c7
    exact fromBits_29 (ou := ou) (ob := ob) hF (w := 2 ^ 514 - 1 - cb) (sb := 1) hcb hbits (by decide) (by have := p514; have := p10_; omega) (fun k hk => by rw [cpl_b hcb hk, hbits k hk]; rfl) (fromN_1 hcb c7) 514 _ _ (Nat.le_refl 514) (fun j _ => by decide) (by rw [dl0]; exact (Nat.div_eq_of_lt (by have := p514; have := p10_; omega)).symm) hS _ _ hLc (lv_sub hl [1, 2, 0] rfl)

set_option maxRecDepth 100000 in
set_option maxHeartbeats 4000000 in
theorem bitwise_34 {p : Program} {l : Launch} {e : Env} {s : State} {m : MethodId} {args : Array Value} {below : List Frame} {meth : Method} {c : Code} {G : gG} {b0 : Nat} {H : Heap} {o : Nat} {ad : Nat → Nat} {th : Nat} {dg : Nat → Nat} {bw : Nat → Nat} {lm : Nat → Nat} {lf : Nat → Nat} {rt : Nat → Nat} {ou : Nat → Nat} {rs : Nat → Nat} {lb : Nat} {rb : Nat} {ob : Nat} {bL : Nat → Nat} {bR : Nat → Nat} {td : Nat} {tp : Nat → Nat} {wn : Nat} {tx : Nat → Nat} {op : Nat} {gr r : Nat → Nat} (hF : FxM p s m args meth c G cM0_bitwise 5 none RM0 wsM0_bitwise) (hlf : dlm lf 330) (hrt : dlm rt 330) (hlb : lb ≤ 1) (hrb : rb ≤ 1) (hL : dl lf 330 < 2 ^ 512) (hR : dl rt 330 < 2 ^ 512) (hzl : lb = 1 → dl lf 330 ≠ 0) (hzr : rb = 1 → dl rt 330 ≠ 0) (hop5 : 5 ≤ op) (hop8 : op ≤ 8) (hgr : ∀ k, k < 514 → gr k = tcN 514 (sg rb (dl rt 330)) / 2 ^ k % 2) : ∀ (q : Nat) (i : Nat) (gl : Nat → Nat) (Hc : Heap), i + q = 514 → (∀ k, k < i → gl k = bop op (tcN 514 (sg lb (dl lf 330))) (tcN 514 (sg rb (dl rt 330))) / 2 ^ k % 2) → (∀ k, i ≤ k → k < 514 → gl k = tcN 514 (sg lb (dl lf 330)) / 2 ^ k % 2) → SM G b0 o ad H th dg bw lm lf rt ou r lb rb ob gl gr td tp wn tx Hc → ∀ (locs : List Loc) (ls : Array Slot), lcs b0 locs → lv_has ls 5 [(0, .ref o), (1, .int (nI op)), (2, .int (nI i))] → W p l e ({ frames := 2, cells := 0, slots := 0, locals := 50 } : Room) s m args below meth c Hc locs 0 0 (MQ below (QcV (fun H1 => ∃ (g r gl gr : Nat → Nat) (b : Nat), dlm g 330 ∧ b ≤ 1 ∧ sg b (dl g 330) = btI 544 op (sg lb (dl lf 330)) (sg rb (dl rt 330)) ∧ SM G b0 o ad H th dg bw lm lf rt g r lb rb b gl gr td tp wn tx H1)) args s 0 0 (fre b0)) (F0 m 34 ls []) := by
  obtain ⟨hx, hb, hr, hml, hown, hts, hlocks, hK⟩ := id hF
  intro q
  induction q with
  | zero =>
    intro i gl Hc hi hg1 hg2 hS locs ls hLc hl
    have hi514 : i = 514 := by omega
    subst hi514
    have hcb : bop op (tcN 514 (sg lb (dl lf 330))) (tcN 514 (sg rb (dl rt 330))) < 2 ^ 514 := bop_lt (tc_lt hlb hL hzl) (tc_lt hrb hR hzr)
    refine lv_iload_n hx hb dM0_bitwise_34 rfl (lv_at hl 2 rfl) ?_
    refine lv_sipush (v := nI 514) hx hb dM0_bitwise_35 (by decide) ?_
    refine m_icmp_ge (tgt := 112) hx hb (by decide) (by decide) dM0_bitwise_38 (by decide) (fun _ => ?_) (fun h => absurd h (by decide))
    refine lv_aload_n hx hb dM0_bitwise_112 rfl (lv_at hl 0 rfl) ?_
    refine lv_aload_n hx hb dM0_bitwise_113 rfl (lv_at hl 0 rfl) ?_
    refine va_get (D := G.1) (ci := 1) (v := .ref (ad 7)) (C := RM0) (T := TM0) (N := 17) hx hb hts hwsM0_bitwise hown hK hS.w.ob 0 rfl rfl 11 (by decide) (hts (.fieldLink RM0 32 "ExactNumbersModel" "bitsLeft" "[I") (by decide +kernel)) (fun _ h9 => h9) rfl dM0_bitwise_114 ?_
    refine mc_v0 (va_runV (As := [.ref (ad 7)]) (rest := []) ⟨hx, hb, hml, hown, hts⟩ (c_M0_fromBits l G b0 Hc hS.rf hcb hg1) (cwV 1 hts gM0_bitwise_M0_fromBits rfl rfl rfl (by decide +kernel) ⟨Nat.le_of_ble_eq_true rfl, Nat.le_of_ble_eq_true rfl⟩) (mp_V hK hS.w.ob rfl) rfl rfl hl.1 rfl (lv_room (Nat.le_of_ble_eq_true rfl)) dM0_bitwise_117 ⟨Nat.le_of_ble_eq_true rfl, Nat.le_of_ble_eq_true rfl⟩) hLc (fun H1 locs hP hLc => ?_)
    obtain ⟨g, r2, b, hg, hb1, hv, hP⟩ := hP
    have hS : SM G b0 o ad H th dg bw lm lf rt g r2 lb rb b gl gr td tp wn tx H1 := WO.trans hS hP
    generalize H1 = Hc at hS ⊢
    exact m_vret hx hb hr hlocks hLc dM0_bitwise_120 (⟨g, r2, gl, gr, b, hg, hb1, hv.trans (bt_eq hlb hL hzl hrb hR hzr), hS⟩)
  | succ q ih =>
    intro i gl Hc hi hg1 hg2 hS locs ls hLc hl
    have hx1 : gl i < 2 := by rw [hg2 i (Nat.le_refl i) (by omega)]; exact Nat.mod_lt _ (by decide)
    have hy1 : gr i < 2 := by rw [hgr i (by omega)]; exact Nat.mod_lt _ (by decide)
    have hbi : bop op (gl i) (gr i) = bop op (tcN 514 (sg lb (dl lf 330))) (tcN 514 (sg rb (dl rt 330))) / 2 ^ i % 2 := by rw [bop_b, hg2 i (Nat.le_refl i) (by omega), hgr i (by omega)]
    refine lv_iload_n hx hb dM0_bitwise_34 rfl (lv_at hl 2 rfl) ?_
    refine lv_sipush (v := nI 514) hx hb dM0_bitwise_35 (by decide) ?_
    refine lv_icmp_ge (tgt := 112) hx hb dM0_bitwise_38 (by decide) (fun h => absurd h (nI_ge (by omega) (by omega))) (fun _ => ?_)
    refine lv_aload_n hx hb dM0_bitwise_41 rfl (lv_at hl 0 rfl) ?_
    refine va_get (D := G.1) (ci := 1) (v := .ref (ad 7)) (C := RM0) (T := TM0) (N := 17) hx hb hts hwsM0_bitwise hown hK hS.w.ob 0 rfl rfl 11 (by decide) (hts (.fieldLink RM0 32 "ExactNumbersModel" "bitsLeft" "[I") (by decide +kernel)) (fun _ h9 => h9) rfl dM0_bitwise_42 ?_
    refine lv_iload_n hx hb dM0_bitwise_45 rfl (lv_at hl 2 rfl) ?_
    refine m_nald (n := 514) (f := gl) hx hb hK (hS.w.get 7 (by decide)) (by omega) (by decide) dM0_bitwise_46 ?_
    refine lv_istore_n (lv' := [(3, .int (nI (gl i))), (0, .ref o), (1, .int (nI op)), (2, .int (nI i))]) hx hb dM0_bitwise_47 rfl hl (by decide) rfl (fun ls hl => ?_)
    refine lv_aload_n hx hb dM0_bitwise_48 rfl (lv_at hl 1 rfl) ?_
    refine va_get (D := G.1) (ci := 1) (v := .ref (ad 8)) (C := RM0) (T := TM0) (N := 17) hx hb hts hwsM0_bitwise hown hK hS.w.ob 0 rfl rfl 12 (by decide) (hts (.fieldLink RM0 35 "ExactNumbersModel" "bitsRight" "[I") (by decide +kernel)) (fun _ h9 => h9) rfl dM0_bitwise_49 ?_
    refine lv_iload_n hx hb dM0_bitwise_52 rfl (lv_at hl 3 rfl) ?_
    refine m_nald (n := 514) (f := gr) hx hb hK (hS.w.get 8 (by decide)) (by omega) (by decide) dM0_bitwise_53 ?_
    refine lv_istore (lv' := [(4, .int (nI (gr i))), (3, .int (nI (gl i))), (0, .ref o), (1, .int (nI op)), (2, .int (nI i))]) hx hb dM0_bitwise_54 hl (by decide) rfl (fun ls hl => ?_)
    refine lv_aload_n hx hb dM0_bitwise_56 rfl (lv_at hl 2 rfl) ?_
    refine va_get (D := G.1) (ci := 1) (v := .ref (ad 7)) (C := RM0) (T := TM0) (N := 17) hx hb hts hwsM0_bitwise hown hK hS.w.ob 0 rfl rfl 11 (by decide) (hts (.fieldLink RM0 32 "ExactNumbersModel" "bitsLeft" "[I") (by decide +kernel)) (fun _ h9 => h9) rfl dM0_bitwise_57 ?_
    refine lv_iload_n hx hb dM0_bitwise_60 rfl (lv_at hl 4 rfl) ?_
    refine lv_iload_n hx hb dM0_bitwise_61 rfl (lv_at hl 3 rfl) ?_
    refine lv_iconst (v := nI 5) hx hb dM0_bitwise_62 (by decide) ?_
    refine m_icmp_ne (tgt := 73) hx hb (by omega) (by omega) dM0_bitwise_63 (by decide) (fun c63 => ?_) (fun c63 => ?_)
    · skip
      refine lv_iload_n hx hb dM0_bitwise_73 rfl (lv_at hl 3 rfl) ?_
      refine lv_bipush (v := nI 6) hx hb dM0_bitwise_74 (by decide) ?_
      refine m_icmp_ne (tgt := 86) hx hb (by omega) (by omega) dM0_bitwise_76 (by decide) (fun c76 => ?_) (fun c76 => ?_)
      · skip
        refine lv_iload_n hx hb dM0_bitwise_86 rfl (lv_at hl 3 rfl) ?_
        refine lv_bipush (v := nI 7) hx hb dM0_bitwise_87 (by decide) ?_
        refine m_icmp_ne (tgt := 99) hx hb (by omega) (by omega) dM0_bitwise_89 (by decide) (fun c89 => ?_) (fun c89 => ?_)
        · skip
          refine lv_iload_n hx hb dM0_bitwise_99 rfl (lv_at hl 1 rfl) ?_
          refine lv_iconst (v := nI 1) hx hb dM0_bitwise_100 (by decide) ?_
          refine lv_iload hx hb dM0_bitwise_101 (lv_at hl 0 rfl) ?_
          refine m_isub (a := 1) (b := gr i) hx hb (by omega) dM0_bitwise_103 ?_
          refine lv_iand hx hb dM0_bitwise_104 ?_
          rw [bw8 (show op = 8 by omega) (by omega) (by omega)]
          refine m_nast (n := 514) (f := gl) (b0 := b0) hx hb hK (hS.w.get 7 (by decide)) (by omega) (by decide) (hS.w.b 7 (by decide)) hLc dM0_bitwise_105 (fun locs hLc => ?_)
          have hS := hS.p_bL (fup gl i (bop op (gl i) (gr i)))
          generalize hput Hc (ad 7) (aN G 514 (fup gl i (bop op (gl i) (gr i)))) = Hc at hS ⊢
          refine lv_iinc (v := nI (i + 1)) (lv' := [(2, .int (nI (i + 1))), (4, .int (nI (gr i))), (3, .int (nI (gl i))), (0, .ref o), (1, .int (nI op))]) hx hb dM0_bitwise_106 hl (k := 4) rfl (nI_add i 1) (by decide) rfl (fun ls hl => ?_)
          refine lv_goto (tgt := 34) hx hb dM0_bitwise_109 (by decide) ?_
          exact ih (i + 1) _ _ (by omega) (fup_eq hg1 hbi) (fun k h1 h2 => by rw [fup_n _ _ (by omega)]; exact hg2 k (by omega) h2) hS _ _ hLc (lv_sub hl [3, 4, 0] rfl)
        · skip
          refine lv_iload_n hx hb dM0_bitwise_92 rfl (lv_at hl 1 rfl) ?_
          refine lv_iload hx hb dM0_bitwise_93 (lv_at hl 0 rfl) ?_
          refine lv_ixor hx hb dM0_bitwise_95 ?_
          rw [bw7 c89 (by omega) (by omega)]
          refine lv_goto (tgt := 105) hx hb dM0_bitwise_96 (by decide) ?_
          refine m_nast (n := 514) (f := gl) (b0 := b0) hx hb hK (hS.w.get 7 (by decide)) (by omega) (by decide) (hS.w.b 7 (by decide)) hLc dM0_bitwise_105 (fun locs hLc => ?_)
          have hS := hS.p_bL (fup gl i (bop op (gl i) (gr i)))
          generalize hput Hc (ad 7) (aN G 514 (fup gl i (bop op (gl i) (gr i)))) = Hc at hS ⊢
          refine lv_iinc (v := nI (i + 1)) (lv' := [(2, .int (nI (i + 1))), (4, .int (nI (gr i))), (3, .int (nI (gl i))), (0, .ref o), (1, .int (nI op))]) hx hb dM0_bitwise_106 hl (k := 4) rfl (nI_add i 1) (by decide) rfl (fun ls hl => ?_)
          refine lv_goto (tgt := 34) hx hb dM0_bitwise_109 (by decide) ?_
          exact ih (i + 1) _ _ (by omega) (fup_eq hg1 hbi) (fun k h1 h2 => by rw [fup_n _ _ (by omega)]; exact hg2 k (by omega) h2) hS _ _ hLc (lv_sub hl [3, 4, 0] rfl)
      · skip
        refine lv_iload_n hx hb dM0_bitwise_79 rfl (lv_at hl 1 rfl) ?_
        refine lv_iload hx hb dM0_bitwise_80 (lv_at hl 0 rfl) ?_
        refine lv_ior hx hb dM0_bitwise_82 ?_
        rw [bw6 c76 (by omega) (by omega)]
        refine lv_goto (tgt := 105) hx hb dM0_bitwise_83 (by decide) ?_
        refine m_nast (n := 514) (f := gl) (b0 := b0) hx hb hK (hS.w.get 7 (by decide)) (by omega) (by decide) (hS.w.b 7 (by decide)) hLc dM0_bitwise_105 (fun locs hLc => ?_)
        have hS := hS.p_bL (fup gl i (bop op (gl i) (gr i)))
        generalize hput Hc (ad 7) (aN G 514 (fup gl i (bop op (gl i) (gr i)))) = Hc at hS ⊢
        refine lv_iinc (v := nI (i + 1)) (lv' := [(2, .int (nI (i + 1))), (4, .int (nI (gr i))), (3, .int (nI (gl i))), (0, .ref o), (1, .int (nI op))]) hx hb dM0_bitwise_106 hl (k := 4) rfl (nI_add i 1) (by decide) rfl (fun ls hl => ?_)
        refine lv_goto (tgt := 34) hx hb dM0_bitwise_109 (by decide) ?_
        exact ih (i + 1) _ _ (by omega) (fup_eq hg1 hbi) (fun k h1 h2 => by rw [fup_n _ _ (by omega)]; exact hg2 k (by omega) h2) hS _ _ hLc (lv_sub hl [3, 4, 0] rfl)
    · skip
      refine lv_iload_n hx hb dM0_bitwise_66 rfl (lv_at hl 1 rfl) ?_
      refine lv_iload hx hb dM0_bitwise_67 (lv_at hl 0 rfl) ?_
      refine lv_iand hx hb dM0_bitwise_69 ?_
      rw [bw5 c63 (by omega) (by omega)]
      refine lv_goto (tgt := 105) hx hb dM0_bitwise_70 (by decide) ?_
      refine m_nast (n := 514) (f := gl) (b0 := b0) hx hb hK (hS.w.get 7 (by decide)) (by omega) (by decide) (hS.w.b 7 (by decide)) hLc dM0_bitwise_105 (fun locs hLc => ?_)
      have hS := hS.p_bL (fup gl i (bop op (gl i) (gr i)))
      generalize hput Hc (ad 7) (aN G 514 (fup gl i (bop op (gl i) (gr i)))) = Hc at hS ⊢
      refine lv_iinc (v := nI (i + 1)) (lv' := [(2, .int (nI (i + 1))), (4, .int (nI (gr i))), (3, .int (nI (gl i))), (0, .ref o), (1, .int (nI op))]) hx hb dM0_bitwise_106 hl (k := 4) rfl (nI_add i 1) (by decide) rfl (fun ls hl => ?_)
      refine lv_goto (tgt := 34) hx hb dM0_bitwise_109 (by decide) ?_
      exact ih (i + 1) _ _ (by omega) (fup_eq hg1 hbi) (fun k h1 h2 => by rw [fup_n _ _ (by omega)]; exact hg2 k (by omega) h2) hS _ _ hLc (lv_sub hl [3, 4, 0] rfl)
set_option maxRecDepth 100000 in
set_option maxHeartbeats 4000000 in
theorem c_M0_bitwise (l : Launch) (G : gG) (b0 : Nat) (H : Heap) {o : Nat} {ad : Nat → Nat} {th : Nat} {dg : Nat → Nat} {bw : Nat → Nat} {lm : Nat → Nat} {lf : Nat → Nat} {rt : Nat → Nat} {ou : Nat → Nat} {rs : Nat → Nat} {lb : Nat} {rb : Nat} {ob : Nat} {bL : Nat → Nat} {bR : Nat → Nat} {td : Nat} {tp : Nat → Nat} {wn : Nat} {tx : Nat → Nat} (hS : SM G b0 o ad H th dg bw lm lf rt ou rs lb rb ob bL bR td tp wn tx H) (hlf : dlm lf 330) (hrt : dlm rt 330) (hlb : lb ≤ 1) (hrb : rb ≤ 1) (hL : dl lf 330 < 2 ^ 512) (hR : dl rt 330 < 2 ^ 512) (hzl : lb = 1 → dl lf 330 ≠ 0) (hzr : rb = 1 → dl rt 330 ≠ 0) {op : Nat} (hop5 : 5 ≤ op) (hop8 : op ≤ 8) : Met l yM0_bitwise wsM0_bitwise ({ frames := 2, cells := 0, slots := 0, locals := 50 } : Room) (PcH G H [.ref o, .int (nI op)]) (QcV (fun H1 => ∃ (g r gl gr : Nat → Nat) (b : Nat), dlm g 330 ∧ b ≤ 1 ∧ sg b (dl g 330) = btI 544 op (sg lb (dl lf 330)) (sg rb (dl rt 330)) ∧ SM G b0 o ad H th dg bw lm lf rt g r lb rb b gl gr td tp wn tx H1)) 0 0 (fre b0) := by
  refine m_enter (cc := cM0_bitwise) (maxL := 5) (ret := none) (own := RM0) (by decide) rfl rfl (Nat.le_of_ble_eq_true rfl) ?_
  intro p e s m below meth c ls hF hnm hH hl
  have hl : lv_has ls 5 [(0, .ref o), (1, .int (nI op))] := hl
  have hLc : lcs b0 [] := lcs_nil b0
  obtain ⟨hx, hb, hr, hml, hown, hts, hlocks, hK⟩ := id hF
  refine lv_aload_n hx hb dM0_bitwise_0 rfl (lv_at hl 0 rfl) ?_
  refine lv_aload_n hx hb dM0_bitwise_1 rfl (lv_at hl 0 rfl) ?_
  refine va_get (D := G.1) (ci := 1) (v := .ref (ad 3)) (C := RM0) (T := TM0) (N := 17) hx hb hts hwsM0_bitwise hown hK hS.w.ob 0 rfl rfl 4 (by decide) (hts (.fieldLink RM0 20 "ExactNumbersModel" "left" "[I") (by decide +kernel)) (fun _ h9 => h9) rfl dM0_bitwise_2 ?_
  refine lv_aload_n hx hb dM0_bitwise_5 rfl (lv_at hl 0 rfl) ?_
  refine va_get (D := G.1) (ci := 1) (v := .int (nI lb)) (C := RM0) (T := TM0) (N := 17) hx hb hts hwsM0_bitwise hown hK hS.w.ob 0 rfl rfl 8 (by decide) (hts (.fieldLink RM0 64 "ExactNumbersModel" "leftBelow" "Z") (by decide +kernel)) (fun _ h9 => h9) rfl dM0_bitwise_6 ?_
  refine lv_aload_n hx hb dM0_bitwise_9 rfl (lv_at hl 0 rfl) ?_
  refine va_get (D := G.1) (ci := 1) (v := .ref (ad 7)) (C := RM0) (T := TM0) (N := 17) hx hb hts hwsM0_bitwise hown hK hS.w.ob 0 rfl rfl 11 (by decide) (hts (.fieldLink RM0 32 "ExactNumbersModel" "bitsLeft" "[I") (by decide +kernel)) (fun _ h9 => h9) rfl dM0_bitwise_10 ?_
  refine mc_v0 (va_runV (As := [.ref (ad 3), .int (nI lb), .ref (ad 7)]) (rest := []) ⟨hx, hb, hml, hown, hts⟩ (c_M0_toBits_lf l G b0 H hS.rf hlf hL hlb hzl) (cwV 3 hts gM0_bitwise_M0_toBits rfl rfl rfl (by decide +kernel) ⟨Nat.le_of_ble_eq_true rfl, Nat.le_of_ble_eq_true rfl⟩) (mp_V hK hS.w.ob rfl) rfl rfl hl.1 rfl (lv_room (Nat.le_of_ble_eq_true rfl)) dM0_bitwise_13 ⟨Nat.le_of_ble_eq_true rfl, Nat.le_of_ble_eq_true rfl⟩) hLc (fun H1 locs hP hLc => ?_)
  obtain ⟨r1, gl, hgl, hP⟩ := hP
  have hS : SM G b0 o ad H th dg bw lm lf rt ou r1 lb rb ob gl bR td tp wn tx H1 := WO.trans hS hP
  generalize H1 = Hc at hS ⊢
  refine lv_aload_n hx hb dM0_bitwise_16 rfl (lv_at hl 0 rfl) ?_
  refine lv_aload_n hx hb dM0_bitwise_17 rfl (lv_at hl 0 rfl) ?_
  refine va_get (D := G.1) (ci := 1) (v := .ref (ad 4)) (C := RM0) (T := TM0) (N := 17) hx hb hts hwsM0_bitwise hown hK hS.w.ob 0 rfl rfl 5 (by decide) (hts (.fieldLink RM0 23 "ExactNumbersModel" "right" "[I") (by decide +kernel)) (fun _ h9 => h9) rfl dM0_bitwise_18 ?_
  refine lv_aload_n hx hb dM0_bitwise_21 rfl (lv_at hl 0 rfl) ?_
  refine va_get (D := G.1) (ci := 1) (v := .int (nI rb)) (C := RM0) (T := TM0) (N := 17) hx hb hts hwsM0_bitwise hown hK hS.w.ob 0 rfl rfl 9 (by decide) (hts (.fieldLink RM0 68 "ExactNumbersModel" "rightBelow" "Z") (by decide +kernel)) (fun _ h9 => h9) rfl dM0_bitwise_22 ?_
  refine lv_aload_n hx hb dM0_bitwise_25 rfl (lv_at hl 0 rfl) ?_
  refine va_get (D := G.1) (ci := 1) (v := .ref (ad 8)) (C := RM0) (T := TM0) (N := 17) hx hb hts hwsM0_bitwise hown hK hS.w.ob 0 rfl rfl 12 (by decide) (hts (.fieldLink RM0 35 "ExactNumbersModel" "bitsRight" "[I") (by decide +kernel)) (fun _ h9 => h9) rfl dM0_bitwise_26 ?_
  refine mc_v0 (va_runV (As := [.ref (ad 4), .int (nI rb), .ref (ad 8)]) (rest := []) ⟨hx, hb, hml, hown, hts⟩ (c_M0_toBits_rt l G b0 Hc hS.rf hrt hR hrb hzr) (cwV 3 hts gM0_bitwise_M0_toBits rfl rfl rfl (by decide +kernel) ⟨Nat.le_of_ble_eq_true rfl, Nat.le_of_ble_eq_true rfl⟩) (mp_V hK hS.w.ob rfl) rfl rfl hl.1 rfl (lv_room (Nat.le_of_ble_eq_true rfl)) dM0_bitwise_29 ⟨Nat.le_of_ble_eq_true rfl, Nat.le_of_ble_eq_true rfl⟩) hLc (fun H1 locs hP hLc => ?_)
  obtain ⟨r2, gr, hgr, hP⟩ := hP
  have hS : SM G b0 o ad H th dg bw lm lf rt ou r2 lb rb ob gl gr td tp wn tx H1 := WO.trans hS hP
  generalize H1 = Hc at hS ⊢
  refine lv_iconst (v := nI 0) hx hb dM0_bitwise_32 (by decide) ?_
  refine lv_istore_n (lv' := [(2, .int (nI 0)), (0, .ref o), (1, .int (nI op))]) hx hb dM0_bitwise_33 rfl hl (by decide) rfl (fun ls hl => ?_)
  exact bitwise_34 (bL := bL) (bR := bR) (rs := rs) hF hlf hrt hlb hrb hL hR hzl hzr hop5 hop8 hgr 514 0 gl _ (by omega) (fun k hk => absurd hk (by omega)) (fun k _ hk => hgl k hk) hS _ _ hLc (lv_sub hl [1, 2, 0] rfl)
