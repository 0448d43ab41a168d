set_option maxRecDepth 100000 in
set_option maxHeartbeats 4000000 in
theorem load_lf_6 {p : Program} {l : Launch} {e : Env} {s : State} {m : MethodId} {args : Array Value} {below : List Frame} {meth : Method} {c : Code} {G : gG} {b0 : Nat} {H : Heap} {o : Nat} {ad : Nat → Nat} {th : Nat} {dg : Nat → Nat} {bw : Nat → Nat} {lm : Nat → Nat} {lf : Nat → Nat} {rt : Nat → Nat} {ou : Nat → Nat} {rs : Nat → Nat} {lb : Nat} {rb : Nat} {ob : Nat} {bL : Nat → Nat} {bR : Nat → Nat} {td : Nat} {tp : Nat → Nat} {wn : Nat} {tx : Nat → Nat} {k : Nat} (hF : FxM p s m args meth c G cM0_load 4 none RM0 wsM0_load) (hI : IM dg bw lm) (hk : k ≤ 63) : ∀ (q : Nat) (i : Nat) (g : Nat → Nat) (Hc : Heap), i + q = 160 → (∀ j, j < i → g j = dg (160 * k + j)) → (∀ j, i ≤ j → g j = 0) → SM G b0 o ad H th dg bw lm g rt ou rs lb rb ob bL bR td tp wn tx Hc → ∀ (locs : List Loc) (ls : Array Slot), lcs b0 locs → lv_has ls 4 [(0, .ref o), (1, .int (nI k)), (2, .ref (ad 3)), (3, .int (nI i))] → W p l e ({ frames := 1, cells := 0, slots := 0, locals := 21 } : Room) s m args below meth c Hc locs 0 0 (MQ below (QcV (fun H1 => ∃ g : Nat → Nat, dlm g 330 ∧ dl g 330 = dl (shf dg (160 * k)) 160 ∧ SM G b0 o ad H th dg bw lm g rt ou rs lb rb ob bL bR td tp wn tx H1)) args s 0 0 (fre b0)) (F0 m 6 ls []) := by
  obtain ⟨hx, hb, hr, hml, hown, hts, hlocks, hK⟩ := id hF
  intro q
  induction q with
  | zero =>
    intro i g Hc hi hg1 hg2 hS locs ls hLc hl
    have hi160 : i = 160 := by omega
    subst hi160
    refine lv_iload_n hx hb dM0_load_6 rfl (lv_at hl 3 rfl) ?_
    refine lv_sipush (v := nI 160) hx hb dM0_load_7 (by decide) ?_
    refine m_icmp_ge (tgt := 34) hx hb (by decide) (by decide) dM0_load_10 (by decide) (fun _ => ?_) (fun h => absurd h (by decide))
    exact m_vret hx hb hr hlocks hLc dM0_load_34 (⟨g, fun j hj => if h : j < 160 then (by rw [hg1 j h]; exact hI.d (show k < 64 by omega) j h) else (by rw [hg2 j (by omega)]; decide), (dl_ext (by decide) (fun j h1 h2 => hg2 j h1)).trans (dl_congr hg1), hS⟩)
  | succ q ih =>
    intro i g Hc hi hg1 hg2 hS locs ls hLc hl
    refine lv_iload_n hx hb dM0_load_6 rfl (lv_at hl 3 rfl) ?_
    refine lv_sipush (v := nI 160) hx hb dM0_load_7 (by decide) ?_
    refine lv_icmp_ge (tgt := 34) hx hb dM0_load_10 (by decide) (fun h => absurd h (nI_ge (by omega) (by omega))) (fun _ => ?_)
    refine lv_aload_n hx hb dM0_load_13 rfl (lv_at hl 2 rfl) ?_
    refine lv_iload_n hx hb dM0_load_14 rfl (lv_at hl 3 rfl) ?_
    refine lv_aload_n hx hb dM0_load_15 rfl (lv_at hl 0 rfl) ?_
    refine va_get (D := G.1) (ci := 1) (v := .ref (ad 0)) (C := RM0) (T := TM0) (N := 17) hx hb hts hwsM0_load hown hK hS.w.ob 0 rfl rfl 1 (by decide) (hts (.fieldLink RM0 7 "ExactNumbersModel" "digit" "[I") (by decide +kernel)) (fun _ h9 => h9) rfl dM0_load_16 ?_
    refine lv_sipush (v := nI 160) hx hb dM0_load_19 (by decide) ?_
    refine lv_iload_n hx hb dM0_load_22 rfl (lv_at hl 1 rfl) ?_
    refine m_imul (a := 160) (b := k) hx hb dM0_load_23 ?_
    refine lv_iload_n hx hb dM0_load_24 rfl (lv_at hl 3 rfl) ?_
    refine m_iadd (a := 160 * k) (b := i) hx hb dM0_load_25 ?_
    refine m_nald (n := 10240) (f := dg) hx hb hK (hS.w.get 0 (by decide)) (by omega) (by decide) dM0_load_26 ?_
    refine m_nast (n := 330) (f := g) (b0 := b0) hx hb hK (hS.w.get 3 (by decide)) (by omega) (by decide) (hS.w.b 3 (by decide)) hLc dM0_load_27 (fun locs hLc => ?_)
    have hS := hS.p_lf (fup g i (dg ((160 * k) + i)))
    generalize hput Hc (ad 3) (aN G 330 (fup g i (dg ((160 * k) + i)))) = Hc at hS ⊢
    refine lv_iinc (v := nI (i + 1)) (lv' := [(3, .int (nI (i + 1))), (0, .ref o), (1, .int (nI k)), (2, .ref (ad 3))]) hx hb dM0_load_28 hl (k := 3) rfl (nI_add i 1) (by decide) rfl (fun ls hl => ?_)
    refine lv_goto (tgt := 6) hx hb dM0_load_31 (by decide) ?_
    exact ih (i + 1) _ _ (by omega) (fup_eq hg1 rfl) (fun j hj => by rw [fup_n _ _ (by omega)]; exact hg2 j (by omega)) hS _ _ hLc (lv_sub hl [1, 2, 3, 0] rfl)
set_option maxRecDepth 100000 in
set_option maxHeartbeats 4000000 in
theorem c_M0_load_lf (l : Launch) (G : gG) (b0 : Nat) (H : Heap) {o : Nat} {ad : Nat → Nat} {th : Nat} {dg : Nat → Nat} {bw : Nat → Nat} {lm : Nat → Nat} {lf : Nat → Nat} {rt : Nat → Nat} {ou : Nat → Nat} {rs : Nat → Nat} {lb : Nat} {rb : Nat} {ob : Nat} {bL : Nat → Nat} {bR : Nat → Nat} {td : Nat} {tp : Nat → Nat} {wn : Nat} {tx : Nat → Nat} (hS : SM G b0 o ad H th dg bw lm lf rt ou rs lb rb ob bL bR td tp wn tx H) (hI : IM dg bw lm) {k : Nat} (hk : k ≤ 63) : Met l yM0_load wsM0_load ({ frames := 1, cells := 0, slots := 0, locals := 21 } : Room) (PcH G H [.ref o, .int (nI k), .ref (ad 3)]) (QcV (fun H1 => ∃ g : Nat → Nat, dlm g 330 ∧ dl g 330 = dl (shf dg (160 * k)) 160 ∧ SM G b0 o ad H th dg bw lm g rt ou rs lb rb ob bL bR td tp wn tx H1)) 0 0 (fre b0) := by
  refine m_enter (cc := cM0_load) (maxL := 4) (ret := none) (own := RM0) (by decide) rfl rfl (Nat.le_of_ble_eq_true rfl) ?_
  intro p e s m below meth c ls hF hnm hH hl
  have hl : lv_has ls 4 [(0, .ref o), (1, .int (nI k)), (2, .ref (ad 3))] := hl
  have hLc : lcs b0 [] := lcs_nil b0
  obtain ⟨hx, hb, hr, hml, hown, hts, hlocks, hK⟩ := id hF
  refine lv_aload_n hx hb dM0_load_0 rfl (lv_at hl 2 rfl) ?_
  refine mc_v0 (va_runS (As := [.ref (ad 3)]) (rest := []) ⟨hx, hb, hml, hown, hts⟩ (c_M0_clear l G b0 H (hS.w.get 3 (by decide)) (hS.w.b 3 (by decide))) (va_cwS 1 hts gM0_load_M0_clear rfl rfl rfl (by decide +kernel) ⟨Nat.le_of_ble_eq_true rfl, Nat.le_of_ble_eq_true rfl⟩) (mp_S hK) rfl rfl hl.1 rfl (lv_room (Nat.le_of_ble_eq_true rfl)) dM0_load_1 ⟨Nat.le_of_ble_eq_true rfl, Nat.le_of_ble_eq_true rfl⟩) hLc (fun H1 locs hP hLc => ?_)
  subst hP
  have hS := hS.p_lf (fun _ => 0)
  generalize hput H (ad 3) (aN G 330 (fun _ => 0)) = Hc at hS ⊢
  refine lv_iconst (v := nI 0) hx hb dM0_load_4 (by decide) ?_
  refine lv_istore_n (lv' := [(3, .int (nI 0)), (0, .ref o), (1, .int (nI k)), (2, .ref (ad 3))]) hx hb dM0_load_5 rfl hl (by decide) rfl (fun ls hl => ?_)
  exact load_lf_6 (lf := lf) hF hI hk 160 0 _ _ (by omega) (fun j hj => absurd hj (by omega)) (fun j _ => rfl) hS _ _ hLc (lv_sub hl [1, 2, 3, 0] rfl)

set_option maxRecDepth 100000 in
set_option maxHeartbeats 4000000 in
theorem load_rt_6 {p : Program} {l : Launch} {e : Env} {s : State} {m : MethodId} {args : Array Value} {below : List Frame} {meth : Method} {c : Code} {G : gG} {b0 : Nat} {H : Heap} {o : Nat} {ad : Nat → Nat} {th : Nat} {dg : Nat → Nat} {bw : Nat → Nat} {lm : Nat → Nat} {lf : Nat → Nat} {rt : Nat → Nat} {ou : Nat → Nat} {rs : Nat → Nat} {lb : Nat} {rb : Nat} {ob : Nat} {bL : Nat → Nat} {bR : Nat → Nat} {td : Nat} {tp : Nat → Nat} {wn : Nat} {tx : Nat → Nat} {k : Nat} (hF : FxM p s m args meth c G cM0_load 4 none RM0 wsM0_load) (hI : IM dg bw lm) (hk : k ≤ 63) : ∀ (q : Nat) (i : Nat) (g : Nat → Nat) (Hc : Heap), i + q = 160 → (∀ j, j < i → g j = dg (160 * k + j)) → (∀ j, i ≤ j → g j = 0) → SM G b0 o ad H th dg bw lm lf g ou rs lb rb ob bL bR td tp wn tx Hc → ∀ (locs : List Loc) (ls : Array Slot), lcs b0 locs → lv_has ls 4 [(0, .ref o), (1, .int (nI k)), (2, .ref (ad 4)), (3, .int (nI i))] → W p l e ({ frames := 1, cells := 0, slots := 0, locals := 21 } : Room) s m args below meth c Hc locs 0 0 (MQ below (QcV (fun H1 => ∃ g : Nat → Nat, dlm g 330 ∧ dl g 330 = dl (shf dg (160 * k)) 160 ∧ SM G b0 o ad H th dg bw lm lf g ou rs lb rb ob bL bR td tp wn tx H1)) args s 0 0 (fre b0)) (F0 m 6 ls []) := by
  obtain ⟨hx, hb, hr, hml, hown, hts, hlocks, hK⟩ := id hF
  intro q
  induction q with
  | zero =>
    intro i g Hc hi hg1 hg2 hS locs ls hLc hl
    have hi160 : i = 160 := by omega
    subst hi160
    refine lv_iload_n hx hb dM0_load_6 rfl (lv_at hl 3 rfl) ?_
    refine lv_sipush (v := nI 160) hx hb dM0_load_7 (by decide) ?_
    refine m_icmp_ge (tgt := 34) hx hb (by decide) (by decide) dM0_load_10 (by decide) (fun _ => ?_) (fun h => absurd h (by decide))
    exact m_vret hx hb hr hlocks hLc dM0_load_34 (⟨g, fun j hj => if h : j < 160 then (by rw [hg1 j h]; exact hI.d (show k < 64 by omega) j h) else (by rw [hg2 j (by omega)]; decide), (dl_ext (by decide) (fun j h1 h2 => hg2 j h1)).trans (dl_congr hg1), hS⟩)
  | succ q ih =>
    intro i g Hc hi hg1 hg2 hS locs ls hLc hl
    refine lv_iload_n hx hb dM0_load_6 rfl (lv_at hl 3 rfl) ?_
    refine lv_sipush (v := nI 160) hx hb dM0_load_7 (by decide) ?_
    refine lv_icmp_ge (tgt := 34) hx hb dM0_load_10 (by decide) (fun h => absurd h (nI_ge (by omega) (by omega))) (fun _ => ?_)
    refine lv_aload_n hx hb dM0_load_13 rfl (lv_at hl 2 rfl) ?_
    refine lv_iload_n hx hb dM0_load_14 rfl (lv_at hl 3 rfl) ?_
    refine lv_aload_n hx hb dM0_load_15 rfl (lv_at hl 0 rfl) ?_
    refine va_get (D := G.1) (ci := 1) (v := .ref (ad 0)) (C := RM0) (T := TM0) (N := 17) hx hb hts hwsM0_load hown hK hS.w.ob 0 rfl rfl 1 (by decide) (hts (.fieldLink RM0 7 "ExactNumbersModel" "digit" "[I") (by decide +kernel)) (fun _ h9 => h9) rfl dM0_load_16 ?_
    refine lv_sipush (v := nI 160) hx hb dM0_load_19 (by decide) ?_
    refine lv_iload_n hx hb dM0_load_22 rfl (lv_at hl 1 rfl) ?_
    refine m_imul (a := 160) (b := k) hx hb dM0_load_23 ?_
    refine lv_iload_n hx hb dM0_load_24 rfl (lv_at hl 3 rfl) ?_
    refine m_iadd (a := 160 * k) (b := i) hx hb dM0_load_25 ?_
    refine m_nald (n := 10240) (f := dg) hx hb hK (hS.w.get 0 (by decide)) (by omega) (by decide) dM0_load_26 ?_
    refine m_nast (n := 330) (f := g) (b0 := b0) hx hb hK (hS.w.get 4 (by decide)) (by omega) (by decide) (hS.w.b 4 (by decide)) hLc dM0_load_27 (fun locs hLc => ?_)
    have hS := hS.p_rt (fup g i (dg ((160 * k) + i)))
    generalize hput Hc (ad 4) (aN G 330 (fup g i (dg ((160 * k) + i)))) = Hc at hS ⊢
    refine lv_iinc (v := nI (i + 1)) (lv' := [(3, .int (nI (i + 1))), (0, .ref o), (1, .int (nI k)), (2, .ref (ad 4))]) hx hb dM0_load_28 hl (k := 3) rfl (nI_add i 1) (by decide) rfl (fun ls hl => ?_)
    refine lv_goto (tgt := 6) hx hb dM0_load_31 (by decide) ?_
    exact ih (i + 1) _ _ (by omega) (fup_eq hg1 rfl) (fun j hj => by rw [fup_n _ _ (by omega)]; exact hg2 j (by omega)) hS _ _ hLc (lv_sub hl [1, 2, 3, 0] rfl)
set_option maxRecDepth 100000 in
set_option maxHeartbeats 4000000 in
theorem c_M0_load_rt (l : Launch) (G : gG) (b0 : Nat) (H : Heap) {o : Nat} {ad : Nat → Nat} {th : Nat} {dg : Nat → Nat} {bw : Nat → Nat} {lm : Nat → Nat} {lf : Nat → Nat} {rt : Nat → Nat} {ou : Nat → Nat} {rs : Nat → Nat} {lb : Nat} {rb : Nat} {ob : Nat} {bL : Nat → Nat} {bR : Nat → Nat} {td : Nat} {tp : Nat → Nat} {wn : Nat} {tx : Nat → Nat} (hS : SM G b0 o ad H th dg bw lm lf rt ou rs lb rb ob bL bR td tp wn tx H) (hI : IM dg bw lm) {k : Nat} (hk : k ≤ 63) : Met l yM0_load wsM0_load ({ frames := 1, cells := 0, slots := 0, locals := 21 } : Room) (PcH G H [.ref o, .int (nI k), .ref (ad 4)]) (QcV (fun H1 => ∃ g : Nat → Nat, dlm g 330 ∧ dl g 330 = dl (shf dg (160 * k)) 160 ∧ SM G b0 o ad H th dg bw lm lf g ou rs lb rb ob bL bR td tp wn tx H1)) 0 0 (fre b0) := by
  refine m_enter (cc := cM0_load) (maxL := 4) (ret := none) (own := RM0) (by decide) rfl rfl (Nat.le_of_ble_eq_true rfl) ?_
  intro p e s m below meth c ls hF hnm hH hl
  have hl : lv_has ls 4 [(0, .ref o), (1, .int (nI k)), (2, .ref (ad 4))] := hl
  have hLc : lcs b0 [] := lcs_nil b0
  obtain ⟨hx, hb, hr, hml, hown, hts, hlocks, hK⟩ := id hF
  refine lv_aload_n hx hb dM0_load_0 rfl (lv_at hl 2 rfl) ?_
  refine mc_v0 (va_runS (As := [.ref (ad 4)]) (rest := []) ⟨hx, hb, hml, hown, hts⟩ (c_M0_clear l G b0 H (hS.w.get 4 (by decide)) (hS.w.b 4 (by decide))) (va_cwS 1 hts gM0_load_M0_clear rfl rfl rfl (by decide +kernel) ⟨Nat.le_of_ble_eq_true rfl, Nat.le_of_ble_eq_true rfl⟩) (mp_S hK) rfl rfl hl.1 rfl (lv_room (Nat.le_of_ble_eq_true rfl)) dM0_load_1 ⟨Nat.le_of_ble_eq_true rfl, Nat.le_of_ble_eq_true rfl⟩) hLc (fun H1 locs hP hLc => ?_)
  subst hP
  have hS := hS.p_rt (fun _ => 0)
  generalize hput H (ad 4) (aN G 330 (fun _ => 0)) = Hc at hS ⊢
  refine lv_iconst (v := nI 0) hx hb dM0_load_4 (by decide) ?_
  refine lv_istore_n (lv' := [(3, .int (nI 0)), (0, .ref o), (1, .int (nI k)), (2, .ref (ad 4))]) hx hb dM0_load_5 rfl hl (by decide) rfl (fun ls hl => ?_)
  exact load_rt_6 (rt := rt) hF hI hk 160 0 _ _ (by omega) (fun j hj => absurd hj (by omega)) (fun j _ => rfl) hS _ _ hLc (lv_sub hl [1, 2, 3, 0] rfl)

set_option maxRecDepth 100000 in
set_option maxHeartbeats 4000000 in
theorem load_ou_6 {p : Program} {l : Launch} {e : Env} {s : State} {m : MethodId} {args : Array Value} {below : List Frame} {meth : Method} {c : Code} {G : gG} {b0 : Nat} {H : Heap} {o : Nat} {ad : Nat → Nat} {th : Nat} {dg : Nat → Nat} {bw : Nat → Nat} {lm : Nat → Nat} {lf : Nat → Nat} {rt : Nat → Nat} {ou : Nat → Nat} {rs : Nat → Nat} {lb : Nat} {rb : Nat} {ob : Nat} {bL : Nat → Nat} {bR : Nat → Nat} {td : Nat} {tp : Nat → Nat} {wn : Nat} {tx : Nat → Nat} {k : Nat} (hF : FxM p s m args meth c G cM0_load 4 none RM0 wsM0_load) (hI : IM dg bw lm) (hk : k ≤ 63) : ∀ (q : Nat) (i : Nat) (g : Nat → Nat) (Hc : Heap), i + q = 160 → (∀ j, j < i → g j = dg (160 * k + j)) → (∀ j, i ≤ j → g j = 0) → SM G b0 o ad H th dg bw lm lf rt g rs lb rb ob bL bR td tp wn tx Hc → ∀ (locs : List Loc) (ls : Array Slot), lcs b0 locs → lv_has ls 4 [(0, .ref o), (1, .int (nI k)), (2, .ref (ad 5)), (3, .int (nI i))] → W p l e ({ frames := 1, cells := 0, slots := 0, locals := 21 } : Room) s m args below meth c Hc locs 0 0 (MQ below (QcV (fun H1 => ∃ g : Nat → Nat, dlm g 330 ∧ dl g 330 = dl (shf dg (160 * k)) 160 ∧ SM G b0 o ad H th dg bw lm lf rt g rs lb rb ob bL bR td tp wn tx H1)) args s 0 0 (fre b0)) (F0 m 6 ls []) := by
  obtain ⟨hx, hb, hr, hml, hown, hts, hlocks, hK⟩ := id hF
  intro q
  induction q with
  | zero =>
    intro i g Hc hi hg1 hg2 hS locs ls hLc hl
    have hi160 : i = 160 := by omega
    subst hi160
    refine lv_iload_n hx hb dM0_load_6 rfl (lv_at hl 3 rfl) ?_
    refine lv_sipush (v := nI 160) hx hb dM0_load_7 (by decide) ?_
    refine m_icmp_ge (tgt := 34) hx hb (by decide) (by decide) dM0_load_10 (by decide) (fun _ => ?_) (fun h => absurd h (by decide))
    exact m_vret hx hb hr hlocks hLc dM0_load_34 (⟨g, fun j hj => if h : j < 160 then (by rw [hg1 j h]; exact hI.d (show k < 64 by omega) j h) else (by rw [hg2 j (by omega)]; decide), (dl_ext (by decide) (fun j h1 h2 => hg2 j h1)).trans (dl_congr hg1), hS⟩)
  | succ q ih =>
    intro i g Hc hi hg1 hg2 hS locs ls hLc hl
    refine lv_iload_n hx hb dM0_load_6 rfl (lv_at hl 3 rfl) ?_
    refine lv_sipush (v := nI 160) hx hb dM0_load_7 (by decide) ?_
    refine lv_icmp_ge (tgt := 34) hx hb dM0_load_10 (by decide) (fun h => absurd h (nI_ge (by omega) (by omega))) (fun _ => ?_)
    refine lv_aload_n hx hb dM0_load_13 rfl (lv_at hl 2 rfl) ?_
    refine lv_iload_n hx hb dM0_load_14 rfl (lv_at hl 3 rfl) ?_
    refine lv_aload_n hx hb dM0_load_15 rfl (lv_at hl 0 rfl) ?_
    refine va_get (D := G.1) (ci := 1) (v := .ref (ad 0)) (C := RM0) (T := TM0) (N := 17) hx hb hts hwsM0_load hown hK hS.w.ob 0 rfl rfl 1 (by decide) (hts (.fieldLink RM0 7 "ExactNumbersModel" "digit" "[I") (by decide +kernel)) (fun _ h9 => h9) rfl dM0_load_16 ?_
    refine lv_sipush (v := nI 160) hx hb dM0_load_19 (by decide) ?_
    refine lv_iload_n hx hb dM0_load_22 rfl (lv_at hl 1 rfl) ?_
    refine m_imul (a := 160) (b := k) hx hb dM0_load_23 ?_
    refine lv_iload_n hx hb dM0_load_24 rfl (lv_at hl 3 rfl) ?_
    refine m_iadd (a := 160 * k) (b := i) hx hb dM0_load_25 ?_
    refine m_nald (n := 10240) (f := dg) hx hb hK (hS.w.get 0 (by decide)) (by omega) (by decide) dM0_load_26 ?_
    refine m_nast (n := 330) (f := g) (b0 := b0) hx hb hK (hS.w.get 5 (by decide)) (by omega) (by decide) (hS.w.b 5 (by decide)) hLc dM0_load_27 (fun locs hLc => ?_)
    have hS := hS.p_ou (fup g i (dg ((160 * k) + i)))
    generalize hput Hc (ad 5) (aN G 330 (fup g i (dg ((160 * k) + i)))) = Hc at hS ⊢
    refine lv_iinc (v := nI (i + 1)) (lv' := [(3, .int (nI (i + 1))), (0, .ref o), (1, .int (nI k)), (2, .ref (ad 5))]) hx hb dM0_load_28 hl (k := 3) rfl (nI_add i 1) (by decide) rfl (fun ls hl => ?_)
    refine lv_goto (tgt := 6) hx hb dM0_load_31 (by decide) ?_
    exact ih (i + 1) _ _ (by omega) (fup_eq hg1 rfl) (fun j hj => by rw [fup_n _ _ (by omega)]; exact hg2 j (by omega)) hS _ _ hLc (lv_sub hl [1, 2, 3, 0] rfl)
set_option maxRecDepth 100000 in
set_option maxHeartbeats 4000000 in
theorem c_M0_load_ou (l : Launch) (G : gG) (b0 : Nat) (H : Heap) {o : Nat} {ad : Nat → Nat} {th : Nat} {dg : Nat → Nat} {bw : Nat → Nat} {lm : Nat → Nat} {lf : Nat → Nat} {rt : Nat → Nat} {ou : Nat → Nat} {rs : Nat → Nat} {lb : Nat} {rb : Nat} {ob : Nat} {bL : Nat → Nat} {bR : Nat → Nat} {td : Nat} {tp : Nat → Nat} {wn : Nat} {tx : Nat → Nat} (hS : SM G b0 o ad H th dg bw lm lf rt ou rs lb rb ob bL bR td tp wn tx H) (hI : IM dg bw lm) {k : Nat} (hk : k ≤ 63) : Met l yM0_load wsM0_load ({ frames := 1, cells := 0, slots := 0, locals := 21 } : Room) (PcH G H [.ref o, .int (nI k), .ref (ad 5)]) (QcV (fun H1 => ∃ g : Nat → Nat, dlm g 330 ∧ dl g 330 = dl (shf dg (160 * k)) 160 ∧ SM G b0 o ad H th dg bw lm lf rt g rs lb rb ob bL bR td tp wn tx H1)) 0 0 (fre b0) := by
  refine m_enter (cc := cM0_load) (maxL := 4) (ret := none) (own := RM0) (by decide) rfl rfl (Nat.le_of_ble_eq_true rfl) ?_
  intro p e s m below meth c ls hF hnm hH hl
  have hl : lv_has ls 4 [(0, .ref o), (1, .int (nI k)), (2, .ref (ad 5))] := hl
  have hLc : lcs b0 [] := lcs_nil b0
  obtain ⟨hx, hb, hr, hml, hown, hts, hlocks, hK⟩ := id hF
  refine lv_aload_n hx hb dM0_load_0 rfl (lv_at hl 2 rfl) ?_
  refine mc_v0 (va_runS (As := [.ref (ad 5)]) (rest := []) ⟨hx, hb, hml, hown, hts⟩ (c_M0_clear l G b0 H (hS.w.get 5 (by decide)) (hS.w.b 5 (by decide))) (va_cwS 1 hts gM0_load_M0_clear rfl rfl rfl (by decide +kernel) ⟨Nat.le_of_ble_eq_true rfl, Nat.le_of_ble_eq_true rfl⟩) (mp_S hK) rfl rfl hl.1 rfl (lv_room (Nat.le_of_ble_eq_true rfl)) dM0_load_1 ⟨Nat.le_of_ble_eq_true rfl, Nat.le_of_ble_eq_true rfl⟩) hLc (fun H1 locs hP hLc => ?_)
  subst hP
  have hS := hS.p_ou (fun _ => 0)
  generalize hput H (ad 5) (aN G 330 (fun _ => 0)) = Hc at hS ⊢
  refine lv_iconst (v := nI 0) hx hb dM0_load_4 (by decide) ?_
  refine lv_istore_n (lv' := [(3, .int (nI 0)), (0, .ref o), (1, .int (nI k)), (2, .ref (ad 5))]) hx hb dM0_load_5 rfl hl (by decide) rfl (fun ls hl => ?_)
  exact load_ou_6 (ou := ou) hF hI hk 160 0 _ _ (by omega) (fun j hj => absurd hj (by omega)) (fun j _ => rfl) hS _ _ hLc (lv_sub hl [1, 2, 3, 0] rfl)

set_option maxRecDepth 100000 in
set_option maxHeartbeats 4000000 in
theorem c_M0_loadBoth (l : Launch) (G : gG) (b0 : Nat) (H : Heap) {o : Nat} {ad : Nat → Nat} {th : Nat} {dg : Nat → Nat} {bw : Nat → Nat} {lm : Nat → Nat} {lf : Nat → Nat} {rt : Nat → Nat} {ou : Nat → Nat} {rs : Nat → Nat} {lb : Nat} {rb : Nat} {ob : Nat} {bL : Nat → Nat} {bR : Nat → Nat} {td : Nat} {tp : Nat → Nat} {wn : Nat} {tx : Nat → Nat} (hS : SM G b0 o ad H th dg bw lm lf rt ou rs lb rb ob bL bR td tp wn tx H) (hI : IM dg bw lm) {i j : Nat} (hi : i ≤ 63) (hj : j ≤ 63) : Met l yM0_loadBoth wsM0_loadBoth ({ frames := 2, cells := 0, slots := 0, locals := 44 } : Room) (PcH G H [.ref o, .int (nI i), .int (nI j)]) (QcV (fun H1 => ∃ g h : Nat → Nat, dlm g 330 ∧ dl g 330 = dl (shf dg (160 * i)) 160 ∧ dlm h 330 ∧ dl h 330 = dl (shf dg (160 * j)) 160 ∧ SM G b0 o ad H th dg bw lm g h ou rs (bw i) (bw j) ob bL bR td tp wn tx H1)) 0 0 (fre b0) := by
  refine m_enter (cc := cM0_loadBoth) (maxL := 3) (ret := none) (own := RM0) (by decide) rfl rfl (Nat.le_of_ble_eq_true rfl) ?_
  intro p e s m below meth c ls hF hnm hH hl
  have hl : lv_has ls 3 [(0, .ref o), (1, .int (nI i)), (2, .int (nI j))] := hl
  have hLc : lcs b0 [] := lcs_nil b0
  obtain ⟨hx, hb, hr, hml, hown, hts, hlocks, hK⟩ := id hF
  refine lv_aload_n hx hb dM0_loadBoth_0 rfl (lv_at hl 0 rfl) ?_
  refine lv_iload_n hx hb dM0_loadBoth_1 rfl (lv_at hl 1 rfl) ?_
  refine lv_aload_n hx hb dM0_loadBoth_2 rfl (lv_at hl 0 rfl) ?_
  refine va_get (D := G.1) (ci := 1) (v := .ref (ad 3)) (C := RM0) (T := TM0) (N := 17) hx hb hts hwsM0_loadBoth hown hK hS.w.ob 0 rfl rfl 4 (by decide) (hts (.fieldLink RM0 20 "ExactNumbersModel" "left" "[I") (by decide +kernel)) (fun _ h9 => h9) rfl dM0_loadBoth_3 ?_
  refine mc_v0 (va_runV (As := [.int (nI i), .ref (ad 3)]) (rest := []) ⟨hx, hb, hml, hown, hts⟩ (c_M0_load_lf l G b0 H hS.rf hI hi) (cwV 2 hts gM0_loadBoth_M0_load rfl rfl rfl (by decide +kernel) ⟨Nat.le_of_ble_eq_true rfl, Nat.le_of_ble_eq_true rfl⟩) (mp_V hK hS.w.ob rfl) rfl rfl hl.1 rfl (lv_room (Nat.le_of_ble_eq_true rfl)) dM0_loadBoth_6 ⟨Nat.le_of_ble_eq_true rfl, Nat.le_of_ble_eq_true rfl⟩) hLc (fun H1 locs hP hLc => ?_)
  obtain ⟨g, hg, hvg, hP⟩ := hP
  have hS : SM G b0 o ad H th dg bw lm g rt ou rs lb rb ob bL bR td tp wn tx H1 := WO.trans hS hP
  generalize H1 = Hc at hS ⊢
  refine lv_aload_n hx hb dM0_loadBoth_9 rfl (lv_at hl 0 rfl) ?_
  refine lv_iload_n hx hb dM0_loadBoth_10 rfl (lv_at hl 2 rfl) ?_
  refine lv_aload_n hx hb dM0_loadBoth_11 rfl (lv_at hl 0 rfl) ?_
  refine va_get (D := G.1) (ci := 1) (v := .ref (ad 4)) (C := RM0) (T := TM0) (N := 17) hx hb hts hwsM0_loadBoth hown hK hS.w.ob 0 rfl rfl 5 (by decide) (hts (.fieldLink RM0 23 "ExactNumbersModel" "right" "[I") (by decide +kernel)) (fun _ h9 => h9) rfl dM0_loadBoth_12 ?_
  refine mc_v0 (va_runV (As := [.int (nI j), .ref (ad 4)]) (rest := []) ⟨hx, hb, hml, hown, hts⟩ (c_M0_load_rt l G b0 Hc hS.rf hI hj) (cwV 2 hts gM0_loadBoth_M0_load rfl rfl rfl (by decide +kernel) ⟨Nat.le_of_ble_eq_true rfl, Nat.le_of_ble_eq_true rfl⟩) (mp_V hK hS.w.ob rfl) rfl rfl hl.1 rfl (lv_room (Nat.le_of_ble_eq_true rfl)) dM0_loadBoth_15 ⟨Nat.le_of_ble_eq_true rfl, Nat.le_of_ble_eq_true rfl⟩) hLc (fun H1 locs hP hLc => ?_)
  obtain ⟨h, hh, hvh, hP⟩ := hP
  have hS : SM G b0 o ad H th dg bw lm g h ou rs lb rb ob bL bR td tp wn tx H1 := WO.trans hS hP
  generalize H1 = Hc at hS ⊢
  refine lv_aload_n hx hb dM0_loadBoth_18 rfl (lv_at hl 0 rfl) ?_
  refine lv_aload_n hx hb dM0_loadBoth_19 rfl (lv_at hl 0 rfl) ?_
  refine va_get (D := G.1) (ci := 1) (v := .ref (ad 1)) (C := RM0) (T := TM0) (N := 17) hx hb hts hwsM0_loadBoth hown hK hS.w.ob 0 rfl rfl 2 (by decide) (hts (.fieldLink RM0 13 "ExactNumbersModel" "below" "[Z") (by decide +kernel)) (fun _ h9 => h9) rfl dM0_loadBoth_20 ?_
  refine lv_iload_n hx hb dM0_loadBoth_23 rfl (lv_at hl 1 rfl) ?_
  refine m_zald (n := 64) (f := bw) hx hb hK (hS.w.get 1 (by decide)) (by omega) (by decide) dM0_loadBoth_24 ?_
  refine m_put (C := RM0) (T := TM0) (N := 17) (ci := 1) (ty := .boolean) (b0 := b0) hx hb hts hwsM0_loadBoth tyM0 tyM0_ok nmM0 hown hK hS.w.ob rfl 8 (by decide) (hts (.fieldLink RM0 64 "ExactNumbersModel" "leftBelow" "Z") (by decide +kernel)) rfl (by decide +kernel) (nar_z (Nat.lt_succ_of_le (hI.b (show i < 64 by omega)))) (fit_z (Nat.lt_succ_of_le (hI.b (show i < 64 by omega)))) (Nat.le_of_ble_eq_true rfl) hS.w.bo hLc dM0_loadBoth_25 (fun Hc2 locs hO hsz hq hLc => ?_)
  have hS := hS.f_lb hO hsz hq
  clear hO hsz hq
  obtain ⟨Hc, rfl⟩ : ∃ Hz, Hz = Hc2 := ⟨_, rfl⟩
  refine lv_aload_n hx hb dM0_loadBoth_28 rfl (lv_at hl 0 rfl) ?_
  refine lv_aload_n hx hb dM0_loadBoth_29 rfl (lv_at hl 0 rfl) ?_
  refine va_get (D := G.1) (ci := 1) (v := .ref (ad 1)) (C := RM0) (T := TM0) (N := 17) hx hb hts hwsM0_loadBoth hown hK hS.w.ob 0 rfl rfl 2 (by decide) (hts (.fieldLink RM0 13 "ExactNumbersModel" "below" "[Z") (by decide +kernel)) (fun _ h9 => h9) rfl dM0_loadBoth_30 ?_
  refine lv_iload_n hx hb dM0_loadBoth_33 rfl (lv_at hl 2 rfl) ?_
  refine m_zald (n := 64) (f := bw) hx hb hK (hS.w.get 1 (by decide)) (by omega) (by decide) dM0_loadBoth_34 ?_
  refine m_put (C := RM0) (T := TM0) (N := 17) (ci := 1) (ty := .boolean) (b0 := b0) hx hb hts hwsM0_loadBoth tyM0 tyM0_ok nmM0 hown hK hS.w.ob rfl 9 (by decide) (hts (.fieldLink RM0 68 "ExactNumbersModel" "rightBelow" "Z") (by decide +kernel)) rfl (by decide +kernel) (nar_z (Nat.lt_succ_of_le (hI.b (show j < 64 by omega)))) (fit_z (Nat.lt_succ_of_le (hI.b (show j < 64 by omega)))) (Nat.le_of_ble_eq_true rfl) hS.w.bo hLc dM0_loadBoth_35 (fun Hc2 locs hO hsz hq hLc => ?_)
  have hS := hS.f_rb hO hsz hq
  clear hO hsz hq
  obtain ⟨Hc, rfl⟩ : ∃ Hz, Hz = Hc2 := ⟨_, rfl⟩
  exact m_vret hx hb hr hlocks hLc dM0_loadBoth_38 (⟨g, h, hg, hvg, hh, hvh, hS⟩)

set_option maxRecDepth 100000 in
set_option maxHeartbeats 4000000 in
theorem keep_18 {p : Program} {l : Launch} {e : Env} {s : State} {m : MethodId} {args : Array Value} {below : List Frame} {meth : Method} {c : Code} {G : gG} {b0 : Nat} {H : Heap} {o : Nat} {ad : Nat → Nat} {th : Nat} {dg : Nat → Nat} {bw : Nat → Nat} {lm : Nat → Nat} {lf : Nat → Nat} {rt : Nat → Nat} {ou : Nat → Nat} {rs : Nat → Nat} {lb : Nat} {rb : Nat} {ob : Nat} {bL : Nat → Nat} {bR : Nat → Nat} {td : Nat} {tp : Nat → Nat} {wn : Nat} {tx : Nat → Nat} {k : Nat} (hF : FxM p s m args meth c G cM0_keep 3 (some .int) RM0 wsM0_keep) (hI : IM dg bw lm) (hou : dlm ou 330) (hob : ob ≤ 1) (hk : k ≤ 63) (hlt : dl ou 330 < 2 ^ 512) : ∀ (q : Nat) (i : Nat) (D : Nat → Nat) (Hc : Heap), i + q = 160 → (∀ j, j < i → D (160 * k + j) = ou j) → (∀ j, j < 160 * k ∨ 160 * k + 160 ≤ j → D j = dg j) → SM G b0 o ad H th D bw lm lf rt ou rs lb rb ob bL bR td tp wn tx Hc → ∀ (locs : List Loc) (ls : Array Slot), lcs b0 locs → lv_has ls 3 [(0, .ref o), (1, .int (nI k)), (2, .int (nI i))] → W p l e ({ frames := 1, cells := 0, slots := 0, locals := 22 } : Room) s m args below meth c Hc locs 0 0 (MQ below (QcI (fun r H1 => KM G b0 o ad H (valM dg bw) tp td tx wn k (sg ob (dl ou 330)) r H1)) args s 0 0 (fre b0)) (F0 m 18 ls []) := by
  obtain ⟨hx, hb, hr, hml, hown, hts, hlocks, hK⟩ := id hF
  intro q
  induction q with
  | zero =>
    intro i D Hc hi hD1 hD2 hS locs ls hLc hl
    have hi160 : i = 160 := by omega
    subst hi160
    refine lv_iload_n hx hb dM0_keep_18 rfl (lv_at hl 2 rfl) ?_
    refine lv_sipush (v := nI 160) hx hb dM0_keep_19 (by decide) ?_
    refine m_icmp_ge (tgt := 49) hx hb (by decide) (by decide) dM0_keep_22 (by decide) (fun _ => ?_) (fun h => absurd h (by decide))
    refine lv_aload_n hx hb dM0_keep_49 rfl (lv_at hl 0 rfl) ?_
    refine va_get (D := G.1) (ci := 1) (v := .ref (ad 1)) (C := RM0) (T := TM0) (N := 17) hx hb hts hwsM0_keep hown hK hS.w.ob 0 rfl rfl 2 (by decide) (hts (.fieldLink RM0 13 "ExactNumbersModel" "below" "[Z") (by decide +kernel)) (fun _ h9 => h9) rfl dM0_keep_50 ?_
    refine lv_iload_n hx hb dM0_keep_53 rfl (lv_at hl 1 rfl) ?_
    refine lv_aload_n hx hb dM0_keep_54 rfl (lv_at hl 0 rfl) ?_
    refine va_get (D := G.1) (ci := 1) (v := .int (nI ob)) (C := RM0) (T := TM0) (N := 17) hx hb hts hwsM0_keep hown hK hS.w.ob 0 rfl rfl 10 (by decide) (hts (.fieldLink RM0 75 "ExactNumbersModel" "outBelow" "Z") (by decide +kernel)) (fun _ h9 => h9) rfl dM0_keep_55 ?_
    refine m_if_eq (tgt := 75) hx hb (by omega) dM0_keep_58 (by decide) (fun c58 => ?_) (fun c58 => ?_)
    · skip
      refine lv_iconst (v := nI 0) hx hb dM0_keep_75 (by decide) ?_
      refine m_zast (n := 64) (f := bw) (b0 := b0) hx hb hK (hS.w.get 1 (by decide)) (by omega) (by decide) (by decide) (hS.w.b 1 (by decide)) hLc dM0_keep_76 (fun locs hLc => ?_)
      have hS := hS.p_bw (fup bw k 0)
      generalize hput Hc (ad 1) (aZ G 64 (fup bw k 0)) = Hc at hS ⊢
      refine lv_iconst (v := nI 0) hx hb dM0_keep_77 (by decide) ?_
      exact m_iret hx hb hr hlocks hLc dM0_keep_78 (Or.inl ⟨by rw [sg_abs]; exact hlt, rfl, _, _, _, _, _, _, _, _, _, _, _, _, _, hS, kept_M hI (by omega) hou hlt hob hD1 hD2 (Or.inr ⟨by first | exact Or.inr hzz | exact Or.inl (by omega), rfl⟩)⟩)
    · skip
      refine lv_aload_n hx hb dM0_keep_61 rfl (lv_at hl 0 rfl) ?_
      refine va_get (D := G.1) (ci := 1) (v := .ref (ad 5)) (C := RM0) (T := TM0) (N := 17) hx hb hts hwsM0_keep hown hK hS.w.ob 0 rfl rfl 6 (by decide) (hts (.fieldLink RM0 26 "ExactNumbersModel" "out" "[I") (by decide +kernel)) (fun _ h9 => h9) rfl dM0_keep_62 ?_
      refine mc_i0 (va_runS (As := [.ref (ad 5)]) (rest := [.int (nI k), .ref (ad 1)]) ⟨hx, hb, hml, hown, hts⟩ (c_M0_isZero l G b0 Hc (hS.w.get 5 (by decide)) hou) (va_cwS 1 hts gM0_keep_M0_isZero rfl rfl rfl (by decide +kernel) ⟨Nat.le_of_ble_eq_true rfl, Nat.le_of_ble_eq_true rfl⟩) (mp_S hK) rfl rfl hl.1 rfl (lv_room (Nat.le_of_ble_eq_true rfl)) dM0_keep_65 ⟨Nat.le_of_ble_eq_true rfl, Nat.le_of_ble_eq_true rfl⟩) hLc (fun r H1 locs hP hLc => ?_)
      obtain ⟨hP, rfl⟩ := hP
      rcases hP with ⟨rfl, hzz⟩ | ⟨rfl, hzz⟩
      · skip
        refine m_if_ne (tgt := 75) hx hb (by decide) dM0_keep_68 (by decide) (fun _ => ?_) (fun h => absurd h (by decide))
        refine lv_iconst (v := nI 0) hx hb dM0_keep_75 (by decide) ?_
        refine m_zast (n := 64) (f := bw) (b0 := b0) hx hb hK (hS.w.get 1 (by decide)) (by omega) (by decide) (by decide) (hS.w.b 1 (by decide)) hLc dM0_keep_76 (fun locs hLc => ?_)
        have hS := hS.p_bw (fup bw k 0)
        generalize hput Hc (ad 1) (aZ G 64 (fup bw k 0)) = Hc at hS ⊢
        refine lv_iconst (v := nI 0) hx hb dM0_keep_77 (by decide) ?_
        exact m_iret hx hb hr hlocks hLc dM0_keep_78 (Or.inl ⟨by rw [sg_abs]; exact hlt, rfl, _, _, _, _, _, _, _, _, _, _, _, _, _, hS, kept_M hI (by omega) hou hlt hob hD1 hD2 (Or.inr ⟨by first | exact Or.inr hzz | exact Or.inl (by omega), rfl⟩)⟩)
      · skip
        refine m_if_ne (tgt := 75) hx hb (by decide) dM0_keep_68 (by decide) (fun h => absurd h (by decide)) (fun _ => ?_)
        refine lv_iconst (v := nI 1) hx hb dM0_keep_71 (by decide) ?_
        refine lv_goto (tgt := 76) hx hb dM0_keep_72 (by decide) ?_
        refine m_zast (n := 64) (f := bw) (b0 := b0) hx hb hK (hS.w.get 1 (by decide)) (by omega) (by decide) (by decide) (hS.w.b 1 (by decide)) hLc dM0_keep_76 (fun locs hLc => ?_)
        have hS := hS.p_bw (fup bw k 1)
        generalize hput Hc (ad 1) (aZ G 64 (fup bw k 1)) = Hc at hS ⊢
        refine lv_iconst (v := nI 0) hx hb dM0_keep_77 (by decide) ?_
        exact m_iret hx hb hr hlocks hLc dM0_keep_78 (Or.inl ⟨by rw [sg_abs]; exact hlt, rfl, _, _, _, _, _, _, _, _, _, _, _, _, _, hS, kept_M hI (by omega) hou hlt hob hD1 hD2 (Or.inl ⟨by omega, hzz, rfl⟩)⟩)
  | succ q ih =>
    intro i D Hc hi hD1 hD2 hS locs ls hLc hl
    refine lv_iload_n hx hb dM0_keep_18 rfl (lv_at hl 2 rfl) ?_
    refine lv_sipush (v := nI 160) hx hb dM0_keep_19 (by decide) ?_
    refine lv_icmp_ge (tgt := 49) hx hb dM0_keep_22 (by decide) (fun h => absurd h (nI_ge (by omega) (by omega))) (fun _ => ?_)
    refine lv_aload_n hx hb dM0_keep_25 rfl (lv_at hl 0 rfl) ?_
    refine va_get (D := G.1) (ci := 1) (v := .ref (ad 0)) (C := RM0) (T := TM0) (N := 17) hx hb hts hwsM0_keep hown hK hS.w.ob 0 rfl rfl 1 (by decide) (hts (.fieldLink RM0 7 "ExactNumbersModel" "digit" "[I") (by decide +kernel)) (fun _ h9 => h9) rfl dM0_keep_26 ?_
    refine lv_sipush (v := nI 160) hx hb dM0_keep_29 (by decide) ?_
    refine lv_iload_n hx hb dM0_keep_32 rfl (lv_at hl 1 rfl) ?_
    refine m_imul (a := 160) (b := k) hx hb dM0_keep_33 ?_
    refine lv_iload_n hx hb dM0_keep_34 rfl (lv_at hl 2 rfl) ?_
    refine m_iadd (a := 160 * k) (b := i) hx hb dM0_keep_35 ?_
    refine lv_aload_n hx hb dM0_keep_36 rfl (lv_at hl 0 rfl) ?_
    refine va_get (D := G.1) (ci := 1) (v := .ref (ad 5)) (C := RM0) (T := TM0) (N := 17) hx hb hts hwsM0_keep hown hK hS.w.ob 0 rfl rfl 6 (by decide) (hts (.fieldLink RM0 26 "ExactNumbersModel" "out" "[I") (by decide +kernel)) (fun _ h9 => h9) rfl dM0_keep_37 ?_
    refine lv_iload_n hx hb dM0_keep_40 rfl (lv_at hl 2 rfl) ?_
    refine m_nald (n := 330) (f := ou) hx hb hK (hS.w.get 5 (by decide)) (by omega) (by decide) dM0_keep_41 ?_
    refine m_nast (n := 10240) (f := D) (b0 := b0) hx hb hK (hS.w.get 0 (by decide)) (by omega) (by decide) (hS.w.b 0 (by decide)) hLc dM0_keep_42 (fun locs hLc => ?_)
    have hS := hS.p_dg (fup D ((160 * k) + i) (ou i))
    generalize hput Hc (ad 0) (aN G 10240 (fup D ((160 * k) + i) (ou i))) = Hc at hS ⊢
    refine lv_iinc (v := nI (i + 1)) (lv' := [(2, .int (nI (i + 1))), (0, .ref o), (1, .int (nI k))]) hx hb dM0_keep_43 hl (k := 2) rfl (nI_add i 1) (by decide) rfl (fun ls hl => ?_)
    refine lv_goto (tgt := 18) hx hb dM0_keep_46 (by decide) ?_
    exact ih (i + 1) _ _ (by omega) (fun j hj => if e : j = i then (by rw [e, fup_s]) else (by rw [fup_n _ _ (by omega)]; exact hD1 j (by omega))) (fun j hj => by rw [fup_n _ _ (by omega)]; exact hD2 j hj) hS _ _ hLc (lv_sub hl [1, 2, 0] rfl)
set_option maxRecDepth 100000 in
set_option maxHeartbeats 4000000 in
theorem c_M0_keep (l : Launch) (G : gG) (b0 : Nat) (H : Heap) {o : Nat} {ad : Nat → Nat} {th : Nat} {dg : Nat → Nat} {bw : Nat → Nat} {lm : Nat → Nat} {lf : Nat → Nat} {rt : Nat → Nat} {ou : Nat → Nat} {rs : Nat → Nat} {lb : Nat} {rb : Nat} {ob : Nat} {bL : Nat → Nat} {bR : Nat → Nat} {td : Nat} {tp : Nat → Nat} {wn : Nat} {tx : Nat → Nat} (hS : SM G b0 o ad H th dg bw lm lf rt ou rs lb rb ob bL bR td tp wn tx H) (hI : IM dg bw lm) (hou : dlm ou 330) (hob : ob ≤ 1) {k : Nat} (hk : k ≤ 63) : Met l yM0_keep wsM0_keep ({ frames := 1, cells := 0, slots := 0, locals := 22 } : Room) (PcH G H [.ref o, .int (nI k)]) (QcI (fun r H1 => KM G b0 o ad H (valM dg bw) tp td tx wn k (sg ob (dl ou 330)) r H1)) 0 0 (fre b0) := by
  refine m_enter (cc := cM0_keep) (maxL := 3) (ret := (some .int)) (own := RM0) (by decide) rfl rfl (Nat.le_of_ble_eq_true rfl) ?_
  intro p e s m below meth c ls hF hnm hH hl
  have hl : lv_has ls 3 [(0, .ref o), (1, .int (nI k))] := hl
  have hLc : lcs b0 [] := lcs_nil b0
  obtain ⟨hx, hb, hr, hml, hown, hts, hlocks, hK⟩ := id hF
  refine lv_aload_n hx hb dM0_keep_0 rfl (lv_at hl 0 rfl) ?_
  refine va_get (D := G.1) (ci := 1) (v := .ref (ad 5)) (C := RM0) (T := TM0) (N := 17) hx hb hts hwsM0_keep hown hK hS.w.ob 0 rfl rfl 6 (by decide) (hts (.fieldLink RM0 26 "ExactNumbersModel" "out" "[I") (by decide +kernel)) (fun _ h9 => h9) rfl dM0_keep_1 ?_
  refine lv_aload_n hx hb dM0_keep_4 rfl (lv_at hl 0 rfl) ?_
  refine va_get (D := G.1) (ci := 1) (v := .ref (ad 2)) (C := RM0) (T := TM0) (N := 17) hx hb hts hwsM0_keep hown hK hS.w.ob 0 rfl rfl 3 (by decide) (hts (.fieldLink RM0 17 "ExactNumbersModel" "limit" "[I") (by decide +kernel)) (fun _ h9 => h9) rfl dM0_keep_5 ?_
  refine mc_i0 (va_runS (As := [.ref (ad 5), .ref (ad 2)]) (rest := []) ⟨hx, hb, hml, hown, hts⟩ (c_M0_order l G b0 H (hS.w.get 5 (by decide)) (hS.w.get 2 (by decide)) hou hI.l) (va_cwS 2 hts gM0_keep_M0_order rfl rfl rfl (by decide +kernel) ⟨Nat.le_of_ble_eq_true rfl, Nat.le_of_ble_eq_true rfl⟩) (mp_S hK) rfl rfl hl.1 rfl (lv_room (Nat.le_of_ble_eq_true rfl)) dM0_keep_8 ⟨Nat.le_of_ble_eq_true rfl, Nat.le_of_ble_eq_true rfl⟩) hLc (fun r H1 locs hP hLc => ?_)
  obtain ⟨hP, rfl⟩ := hP
  rcases hP with ⟨hor, rfl⟩ | ⟨hor, rfl⟩ | ⟨hor, rfl⟩
  · skip
    refine lv_if_lt (tgt := 16) hx hb dM0_keep_11 (by decide) (fun _ => ?_) (fun h => absurd (by decide) h)
    refine lv_iconst (v := nI 0) hx hb dM0_keep_16 (by decide) ?_
    refine lv_istore_n (lv' := [(2, .int (nI 0)), (0, .ref o), (1, .int (nI k))]) hx hb dM0_keep_17 rfl hl (by decide) rfl (fun ls hl => ?_)
    exact keep_18 hF hI hou hob hk (by have := hI.lv; omega) 160 0 dg _ (by omega) (fun j hj => absurd hj (by omega)) (fun j _ => rfl) hS _ _ hLc (lv_sub hl [1, 2, 0] rfl)
  · skip
    refine lv_if_lt (tgt := 16) hx hb dM0_keep_11 (by decide) (fun h => absurd h (by decide)) (fun _ => ?_)
    refine lv_iconst (v := nI 1) hx hb dM0_keep_14 (by decide) ?_
    exact m_iret hx hb hr hlocks hLc dM0_keep_15 (Or.inr ⟨by rw [sg_abs]; have := hI.lv; omega, rfl, hS.r hI⟩)
  · skip
    refine lv_if_lt (tgt := 16) hx hb dM0_keep_11 (by decide) (fun h => absurd h (by decide)) (fun _ => ?_)
    refine lv_iconst (v := nI 1) hx hb dM0_keep_14 (by decide) ?_
    exact m_iret hx hb hr hlocks hLc dM0_keep_15 (Or.inr ⟨by rw [sg_abs]; have := hI.lv; omega, rfl, hS.r hI⟩)

set_option maxRecDepth 100000 in
set_option maxHeartbeats 4000000 in
theorem rset_60 {p : Program} {l : Launch} {e : Env} {s : State} {m : MethodId} {args : Array Value} {below : List Frame} {meth : Method} {c : Code} {G : gG} {b0 : Nat} {H : Heap} {o : Nat} {ad : Nat → Nat} {th : Nat} {dg : Nat → Nat} {bw : Nat → Nat} {lm : Nat → Nat} {lf : Nat → Nat} {rt : Nat → Nat} {ou : Nat → Nat} {rs : Nat → Nat} {lb : Nat} {rb : Nat} {ob : Nat} {bL : Nat → Nat} {bR : Nat → Nat} {td : Nat} {tp : Nat → Nat} {wn : Nat} {tx : Nat → Nat} {k u g w sb : Nat} {x : Int32} (hF : FxM p s m args meth c G cM0_set 8 (some .int) RM0 wsM0_set) (hI : IM dg bw lm) (hk : k ≤ 63) (hxk : x = nI k) (hw : w < 18446744073709551616) (hsb : sb ≤ 1) (hsv : sg sb w = setv u g) : ∀ (q : Nat) (g2 : Nat → Nat) (Hc : Heap), q ≤ 64 → dlm g2 330 → dl g2 330 = w / 2 ^ q → SM G b0 o ad H 0 dg bw lm lf rt g2 rs lb rb sb bL bR td tp wn tx Hc → ∀ (locs : List Loc) (ls : Array Slot), lcs b0 locs → lv_has ls 8 [(0, .ref o), (1, .int (nI k)), (2, .long (lN u)), (4, .int (nI g)), (5, .long (lN w)), (7, .int (nI q - 1))] → W p l e ({ frames := 2, cells := 0, slots := 0, locals := 44 } : Room) s m args below meth c Hc locs 0 0 (MQ below (QcI (fun r H1 => (∃ k, k ≤ 63 ∧ x = nI k ∧ KM G b0 o ad H (valM dg bw) tp td tx wn k (setv u g) r H1) ∨ (noslot x ∧ r = nI 3 ∧ RM G b0 o ad H (valM dg bw) tp td tx wn H1))) args s 0 0 (fre b0)) (F0 m 60 ls []) := by
  obtain ⟨hx, hb, hr, hml, hown, hts, hlocks, hK⟩ := id hF
  intro q
  induction q with
  | zero =>
    intro g2 Hc hq hg hv hS locs ls hLc hl
    rw [Nat.pow_zero, Nat.div_one] at hv
    refine lv_iload hx hb dM0_set_60 (lv_at hl 5 rfl) ?_
    refine lv_if_lt (tgt := 87) hx hb dM0_set_62 (by decide) (fun _ => ?_) (fun h => absurd (by decide) h)
    refine lv_aload_n hx hb dM0_set_87 rfl (lv_at hl 0 rfl) ?_
    refine lv_iload_n hx hb dM0_set_88 rfl (lv_at hl 1 rfl) ?_
    refine mc_i0 (va_runV (As := [.int (nI k)]) (rest := []) ⟨hx, hb, hml, hown, hts⟩ (c_M0_keep l G b0 Hc hS.rf hI hg hsb hk) (cwV 1 hts gM0_set_M0_keep rfl rfl rfl (by decide +kernel) ⟨Nat.le_of_ble_eq_true rfl, Nat.le_of_ble_eq_true rfl⟩) (mp_V hK hS.w.ob rfl) rfl rfl hl.1 rfl (lv_room (Nat.le_of_ble_eq_true rfl)) dM0_set_89 ⟨Nat.le_of_ble_eq_true rfl, Nat.le_of_ble_eq_true rfl⟩) hLc (fun r H1 locs hP hLc => ?_)
    exact m_iret hx hb hr hlocks hLc dM0_set_92 (Or.inl ⟨k, hk, hxk, (KM.trans hS hP).val (by rw [hv]; exact hsv)⟩)
  | succ q ih =>
    intro g2 Hc hq hg hv hS locs ls hLc hl
    rw [nI_pred] at hl
    have hwq : w / 2 ^ q ≤ w := Nat.div_le_self _ _
    have hm : w / 2 ^ q % 2 < 2 := Nat.mod_lt _ (by decide)
    refine lv_iload hx hb dM0_set_60 (lv_at hl 5 rfl) ?_
    refine lv_if_lt (tgt := 87) hx hb dM0_set_62 (by decide) (fun h => absurd h (nI_pos (by omega))) (fun _ => ?_)
    refine lv_aload_n hx hb dM0_set_65 rfl (lv_at hl 0 rfl) ?_
    refine va_get (D := G.1) (ci := 1) (v := .ref (ad 5)) (C := RM0) (T := TM0) (N := 17) hx hb hts hwsM0_set hown hK hS.w.ob 0 rfl rfl 6 (by decide) (hts (.fieldLink RM0 26 "ExactNumbersModel" "out" "[I") (by decide +kernel)) (fun _ h9 => h9) rfl dM0_set_66 ?_
    refine lv_iconst (v := nI 2) hx hb dM0_set_69 (by decide) ?_
    refine lv_lload hx hb dM0_set_70 (lv_at hl 4 rfl) ?_
    refine lv_iload hx hb dM0_set_72 (lv_at hl 5 rfl) ?_
    refine m_lushr hx hb (by omega) (by omega) dM0_set_74 ?_
    refine lv_lconst (v := lN 1) hx hb dM0_set_75 (by decide) ?_
    refine m_land hx hb (by omega) (by decide) dM0_set_76 ?_
    rw [Nat.and_one_is_mod]
    refine m_l2i hx hb dM0_set_77 ?_
    refine mc_v0 (va_runS (As := [.ref (ad 5), .int (nI 2), .int (nI (w / 2 ^ q % 2))]) (rest := []) ⟨hx, hb, hml, hown, hts⟩ (c_M0_grow l G b0 Hc (hS.w.get 5 (by decide)) hg (hS.w.b 5 (by decide)) (by decide) (by omega)) (va_cwS 3 hts gM0_set_M0_grow rfl rfl rfl (by decide +kernel) ⟨Nat.le_of_ble_eq_true rfl, Nat.le_of_ble_eq_true rfl⟩) (mp_S hK) rfl rfl hl.1 rfl (lv_room (Nat.le_of_ble_eq_true rfl)) dM0_set_78 ⟨Nat.le_of_ble_eq_true rfl, Nat.le_of_ble_eq_true rfl⟩) hLc (fun H1 locs hP hLc => ?_)
    obtain ⟨g3, c2, hg3, hvg3, rfl⟩ := hP
    have hS := hS.p_ou g3
    generalize hput Hc (ad 5) (aN G 330 g3) = Hc at hS ⊢
    have hv3 : dl g3 330 = w / 2 ^ q := by rw [hv] at hvg3; exact grow_bit (Nat.lt_trans hw p64_) hvg3
    refine lv_iinc (v := nI q - 1) (lv' := [(7, .int (nI q - 1)), (0, .ref o), (1, .int (nI k)), (2, .long (lN u)), (4, .int (nI g)), (5, .long (lN w))]) hx hb dM0_set_81 hl (k := 5) rfl (nI_decI _) (by decide) rfl (fun ls hl => ?_)
    refine lv_goto (tgt := 60) hx hb dM0_set_84 (by decide) ?_
    exact ih g3 _ (by omega) hg3 hv3 hS _ _ hLc (lv_sub hl [1, 2, 3, 4, 5, 0] rfl)
set_option maxRecDepth 100000 in
set_option maxHeartbeats 4000000 in
theorem c_M0_set (l : Launch) (G : gG) (b0 : Nat) (H : Heap) {o : Nat} {ad : Nat → Nat} {th : Nat} {dg : Nat → Nat} {bw : Nat → Nat} {lm : Nat → Nat} {lf : Nat → Nat} {rt : Nat → Nat} {ou : Nat → Nat} {rs : Nat → Nat} {lb : Nat} {rb : Nat} {ob : Nat} {bL : Nat → Nat} {bR : Nat → Nat} {td : Nat} {tp : Nat → Nat} {wn : Nat} {tx : Nat → Nat} (hS : SM G b0 o ad H th dg bw lm lf rt ou rs lb rb ob bL bR td tp wn tx H) (hI : IM dg bw lm) (x : Int32) {u g : Nat} (hu : u < 18446744073709551616) (hg1 : g ≤ 1) : Met l yM0_set wsM0_set ({ frames := 2, cells := 0, slots := 0, locals := 44 } : Room) (PcH G H [.ref o, .int x, .long (lN u), .int (nI g)]) (QcI (fun r H1 => (∃ k, k ≤ 63 ∧ x = nI k ∧ KM G b0 o ad H (valM dg bw) tp td tx wn k (setv u g) r H1) ∨ (noslot x ∧ r = nI 3 ∧ RM G b0 o ad H (valM dg bw) tp td tx wn H1))) 0 0 (fre b0) := by
  refine m_enter (cc := cM0_set) (maxL := 8) (ret := (some .int)) (own := RM0) (by decide) rfl rfl (Nat.le_of_ble_eq_true rfl) ?_
  intro p e s m below meth c ls hF hnm hH hl
  have hl : lv_has ls 8 [(0, .ref o), (1, .int x), (2, .long (lN u)), (4, .int (nI g))] := hl
  have hLc : lcs b0 [] := lcs_nil b0
  obtain ⟨hx, hb, hr, hml, hown, hts, hlocks, hK⟩ := id hF
  refine lv_aload_n hx hb dM0_set_0 rfl (lv_at hl 0 rfl) ?_
  refine lv_iconst (v := nI 0) hx hb dM0_set_1 (by decide) ?_
  refine m_put (C := RM0) (T := TM0) (N := 17) (ci := 1) (ty := .int) (b0 := b0) hx hb hts hwsM0_set tyM0 tyM0_ok nmM0 hown hK hS.w.ob rfl 0 (by decide) (hts (.fieldLink RM0 48 "ExactNumbersModel" "thrown" "I") (by decide +kernel)) rfl (by decide +kernel) (rfl) (rfl) (Nat.le_of_ble_eq_true rfl) hS.w.bo hLc dM0_set_2 (fun Hc2 locs hO hsz hq hLc => ?_)
  have hS := hS.f_th hO hsz hq
  clear hO hsz hq
  obtain ⟨Hc, rfl⟩ : ∃ Hz, Hz = Hc2 := ⟨_, rfl⟩
  refine lv_iload_n hx hb dM0_set_5 rfl (lv_at hl 1 rfl) ?_
  refine mc_i0 (va_runS (As := [.int x]) (rest := []) ⟨hx, hb, hml, hown, hts⟩ (c_M0_isSlot l G b0 Hc (x)) (va_cwS 1 hts gM0_set_M0_isSlot rfl rfl rfl (by decide +kernel) ⟨Nat.le_of_ble_eq_true rfl, Nat.le_of_ble_eq_true rfl⟩) (mp_S hK) rfl rfl hl.1 rfl (lv_room (Nat.le_of_ble_eq_true rfl)) dM0_set_6 ⟨Nat.le_of_ble_eq_true rfl, Nat.le_of_ble_eq_true rfl⟩) hLc (fun r H1 locs hP hLc => ?_)
  obtain ⟨hP, rfl⟩ := hP
  rcases hP with ⟨k, _h0, hk, rfl, rfl⟩ | ⟨hno, rfl⟩
  · skip
    refine m_if_ne (tgt := 14) hx hb (by decide) dM0_set_9 (by decide) (fun _ => ?_) (fun h => absurd h (by decide))
    refine lv_aload_n hx hb dM0_set_14 rfl (lv_at hl 0 rfl) ?_
    refine lv_iload hx hb dM0_set_15 (lv_at hl 3 rfl) ?_
    refine m_if_eq (tgt := 30) hx hb (by omega) dM0_set_17 (by decide) (fun c17 => ?_) (fun c17 => ?_)
    · skip
      refine lv_iconst (v := nI 0) hx hb dM0_set_30 (by decide) ?_
      refine m_put (C := RM0) (T := TM0) (N := 17) (ci := 1) (ty := .boolean) (b0 := b0) hx hb hts hwsM0_set tyM0 tyM0_ok nmM0 hown hK hS.w.ob rfl 10 (by decide) (hts (.fieldLink RM0 75 "ExactNumbersModel" "outBelow" "Z") (by decide +kernel)) rfl (by decide +kernel) (nar_z (by decide)) (fit_z (by decide)) (Nat.le_of_ble_eq_true rfl) hS.w.bo hLc dM0_set_31 (fun Hc2 locs hO hsz hq hLc => ?_)
      have hS := hS.f_ob hO hsz hq
      clear hO hsz hq
      obtain ⟨Hc, rfl⟩ : ∃ Hz, Hz = Hc2 := ⟨_, rfl⟩
      refine lv_aload_n hx hb dM0_set_34 rfl (lv_at hl 0 rfl) ?_
      refine va_get (D := G.1) (ci := 1) (v := .ref (ad 5)) (C := RM0) (T := TM0) (N := 17) hx hb hts hwsM0_set hown hK hS.w.ob 0 rfl rfl 6 (by decide) (hts (.fieldLink RM0 26 "ExactNumbersModel" "out" "[I") (by decide +kernel)) (fun _ h9 => h9) rfl dM0_set_35 ?_
      refine mc_v0 (va_runS (As := [.ref (ad 5)]) (rest := []) ⟨hx, hb, hml, hown, hts⟩ (c_M0_clear l G b0 Hc (hS.w.get 5 (by decide)) (hS.w.b 5 (by decide))) (va_cwS 1 hts gM0_set_M0_clear rfl rfl rfl (by decide +kernel) ⟨Nat.le_of_ble_eq_true rfl, Nat.le_of_ble_eq_true rfl⟩) (mp_S hK) rfl rfl hl.1 rfl (lv_room (Nat.le_of_ble_eq_true rfl)) dM0_set_38 ⟨Nat.le_of_ble_eq_true rfl, Nat.le_of_ble_eq_true rfl⟩) hLc (fun H1 locs hP hLc => ?_)
      subst hP
      have hS := hS.p_ou (fun _ => 0)
      generalize hput Hc (ad 5) (aN G 330 (fun _ => 0)) = Hc at hS ⊢
      refine lv_aload_n hx hb dM0_set_41 rfl (lv_at hl 0 rfl) ?_
      refine va_get (D := G.1) (ci := 1) (v := .int (nI 0)) (C := RM0) (T := TM0) (N := 17) hx hb hts hwsM0_set hown hK hS.w.ob 0 rfl rfl 10 (by decide) (hts (.fieldLink RM0 75 "ExactNumbersModel" "outBelow" "Z") (by decide +kernel)) (fun _ h9 => h9) rfl dM0_set_42 ?_
      refine m_if_eq (tgt := 53) hx hb (by decide) dM0_set_45 (by decide) (fun _ => ?_) (fun h => absurd h (by decide))
      refine lv_lload_n hx hb dM0_set_53 rfl (lv_at hl 2 rfl) ?_
      refine lv_lstore (lv' := [(5, .long (lN u)), (0, .ref o), (1, .int (nI k)), (2, .long (lN u)), (4, .int (nI g))]) hx hb dM0_set_54 hl (by decide) rfl (fun ls hl => ?_)
      refine lv_bipush (v := 63) hx hb dM0_set_56 (by decide) ?_
      refine lv_istore (lv' := [(7, .int 63), (5, .long (lN u)), (0, .ref o), (1, .int (nI k)), (2, .long (lN u)), (4, .int (nI g))]) hx hb dM0_set_58 hl (by decide) rfl (fun ls hl => ?_)
      rw [show (63 : Int32) = nI 64 - 1 from by decide] at hl
      exact rset_60 (th := th) (ou := ou) (ob := ob) hF hI hk rfl (w := u) (by omega) (by decide) (setv_pos (by omega)) 64 _ _ (Nat.le_refl 64) (fun j _ => by decide) (by rw [dl0]; exact (Nat.div_eq_of_lt (by omega)).symm) hS _ _ hLc (lv_sub hl [2, 3, 4, 5, 1, 0] rfl)
    · skip
      have hge : g = 1 := by omega
      refine lv_lload_n hx hb dM0_set_20 rfl (lv_at hl 2 rfl) ?_
      refine lv_lconst (v := lN 0) hx hb dM0_set_21 (by decide) ?_
      refine m_lr_ge (tgt := 30) hx hb dM0_set_22 dM0_set_23 (by decide) (fun c22 => ?_) (fun c22 => ?_)
      · skip
        have c22 := (ge0_lN hu).mp c22
        refine lv_iconst (v := nI 0) hx hb dM0_set_30 (by decide) ?_
        refine m_put (C := RM0) (T := TM0) (N := 17) (ci := 1) (ty := .boolean) (b0 := b0) hx hb hts hwsM0_set tyM0 tyM0_ok nmM0 hown hK hS.w.ob rfl 10 (by decide) (hts (.fieldLink RM0 75 "ExactNumbersModel" "outBelow" "Z") (by decide +kernel)) rfl (by decide +kernel) (nar_z (by decide)) (fit_z (by decide)) (Nat.le_of_ble_eq_true rfl) hS.w.bo hLc dM0_set_31 (fun Hc2 locs hO hsz hq hLc => ?_)
        have hS := hS.f_ob hO hsz hq
        clear hO hsz hq
        obtain ⟨Hc, rfl⟩ : ∃ Hz, Hz = Hc2 := ⟨_, rfl⟩
        refine lv_aload_n hx hb dM0_set_34 rfl (lv_at hl 0 rfl) ?_
        refine va_get (D := G.1) (ci := 1) (v := .ref (ad 5)) (C := RM0) (T := TM0) (N := 17) hx hb hts hwsM0_set hown hK hS.w.ob 0 rfl rfl 6 (by decide) (hts (.fieldLink RM0 26 "ExactNumbersModel" "out" "[I") (by decide +kernel)) (fun _ h9 => h9) rfl dM0_set_35 ?_
        refine mc_v0 (va_runS (As := [.ref (ad 5)]) (rest := []) ⟨hx, hb, hml, hown, hts⟩ (c_M0_clear l G b0 Hc (hS.w.get 5 (by decide)) (hS.w.b 5 (by decide))) (va_cwS 1 hts gM0_set_M0_clear rfl rfl rfl (by decide +kernel) ⟨Nat.le_of_ble_eq_true rfl, Nat.le_of_ble_eq_true rfl⟩) (mp_S hK) rfl rfl hl.1 rfl (lv_room (Nat.le_of_ble_eq_true rfl)) dM0_set_38 ⟨Nat.le_of_ble_eq_true rfl, Nat.le_of_ble_eq_true rfl⟩) hLc (fun H1 locs hP hLc => ?_)
        subst hP
        have hS := hS.p_ou (fun _ => 0)
        generalize hput Hc (ad 5) (aN G 330 (fun _ => 0)) = Hc at hS ⊢
        refine lv_aload_n hx hb dM0_set_41 rfl (lv_at hl 0 rfl) ?_
        refine va_get (D := G.1) (ci := 1) (v := .int (nI 0)) (C := RM0) (T := TM0) (N := 17) hx hb hts hwsM0_set hown hK hS.w.ob 0 rfl rfl 10 (by decide) (hts (.fieldLink RM0 75 "ExactNumbersModel" "outBelow" "Z") (by decide +kernel)) (fun _ h9 => h9) rfl dM0_set_42 ?_
        refine m_if_eq (tgt := 53) hx hb (by decide) dM0_set_45 (by decide) (fun _ => ?_) (fun h => absurd h (by decide))
        refine lv_lload_n hx hb dM0_set_53 rfl (lv_at hl 2 rfl) ?_
        refine lv_lstore (lv' := [(5, .long (lN u)), (0, .ref o), (1, .int (nI k)), (2, .long (lN u)), (4, .int (nI g))]) hx hb dM0_set_54 hl (by decide) rfl (fun ls hl => ?_)
        refine lv_bipush (v := 63) hx hb dM0_set_56 (by decide) ?_
        refine lv_istore (lv' := [(7, .int 63), (5, .long (lN u)), (0, .ref o), (1, .int (nI k)), (2, .long (lN u)), (4, .int (nI g))]) hx hb dM0_set_58 hl (by decide) rfl (fun ls hl => ?_)
        rw [show (63 : Int32) = nI 64 - 1 from by decide] at hl
        exact rset_60 (th := th) (ou := ou) (ob := ob) hF hI hk rfl (w := u) (by omega) (by decide) (setv_pos (by omega)) 64 _ _ (Nat.le_refl 64) (fun j _ => by decide) (by rw [dl0]; exact (Nat.div_eq_of_lt (by omega)).symm) hS _ _ hLc (lv_sub hl [2, 3, 4, 5, 1, 0] rfl)
      · skip
        have c22 : ¬ (u < 9223372036854775808) := fun z => c22 ((ge0_lN hu).mpr z)
        refine lv_iconst (v := nI 1) hx hb dM0_set_26 (by decide) ?_
        refine lv_goto (tgt := 31) hx hb dM0_set_27 (by decide) ?_
        refine m_put (C := RM0) (T := TM0) (N := 17) (ci := 1) (ty := .boolean) (b0 := b0) hx hb hts hwsM0_set tyM0 tyM0_ok nmM0 hown hK hS.w.ob rfl 10 (by decide) (hts (.fieldLink RM0 75 "ExactNumbersModel" "outBelow" "Z") (by decide +kernel)) rfl (by decide +kernel) (nar_z (by decide)) (fit_z (by decide)) (Nat.le_of_ble_eq_true rfl) hS.w.bo hLc dM0_set_31 (fun Hc2 locs hO hsz hq hLc => ?_)
        have hS := hS.f_ob hO hsz hq
        clear hO hsz hq
        obtain ⟨Hc, rfl⟩ : ∃ Hz, Hz = Hc2 := ⟨_, rfl⟩
        refine lv_aload_n hx hb dM0_set_34 rfl (lv_at hl 0 rfl) ?_
        refine va_get (D := G.1) (ci := 1) (v := .ref (ad 5)) (C := RM0) (T := TM0) (N := 17) hx hb hts hwsM0_set hown hK hS.w.ob 0 rfl rfl 6 (by decide) (hts (.fieldLink RM0 26 "ExactNumbersModel" "out" "[I") (by decide +kernel)) (fun _ h9 => h9) rfl dM0_set_35 ?_
        refine mc_v0 (va_runS (As := [.ref (ad 5)]) (rest := []) ⟨hx, hb, hml, hown, hts⟩ (c_M0_clear l G b0 Hc (hS.w.get 5 (by decide)) (hS.w.b 5 (by decide))) (va_cwS 1 hts gM0_set_M0_clear rfl rfl rfl (by decide +kernel) ⟨Nat.le_of_ble_eq_true rfl, Nat.le_of_ble_eq_true rfl⟩) (mp_S hK) rfl rfl hl.1 rfl (lv_room (Nat.le_of_ble_eq_true rfl)) dM0_set_38 ⟨Nat.le_of_ble_eq_true rfl, Nat.le_of_ble_eq_true rfl⟩) hLc (fun H1 locs hP hLc => ?_)
        subst hP
        have hS := hS.p_ou (fun _ => 0)
        generalize hput Hc (ad 5) (aN G 330 (fun _ => 0)) = Hc at hS ⊢
        refine lv_aload_n hx hb dM0_set_41 rfl (lv_at hl 0 rfl) ?_
        refine va_get (D := G.1) (ci := 1) (v := .int (nI 1)) (C := RM0) (T := TM0) (N := 17) hx hb hts hwsM0_set hown hK hS.w.ob 0 rfl rfl 10 (by decide) (hts (.fieldLink RM0 75 "ExactNumbersModel" "outBelow" "Z") (by decide +kernel)) (fun _ h9 => h9) rfl dM0_set_42 ?_
        refine m_if_eq (tgt := 53) hx hb (by decide) dM0_set_45 (by decide) (fun h => absurd h (by decide)) (fun _ => ?_)
        refine lv_lload_n hx hb dM0_set_48 rfl (lv_at hl 2 rfl) ?_
        refine lv_lneg hx hb dM0_set_49 ?_
        rw [neg_lN (by omega)]
        refine lv_goto (tgt := 54) hx hb dM0_set_50 (by decide) ?_
        refine lv_lstore (lv' := [(5, .long (lN (18446744073709551616 - u))), (0, .ref o), (1, .int (nI k)), (2, .long (lN u)), (4, .int (nI g))]) hx hb dM0_set_54 hl (by decide) rfl (fun ls hl => ?_)
        refine lv_bipush (v := 63) hx hb dM0_set_56 (by decide) ?_
        refine lv_istore (lv' := [(7, .int 63), (5, .long (lN (18446744073709551616 - u))), (0, .ref o), (1, .int (nI k)), (2, .long (lN u)), (4, .int (nI g))]) hx hb dM0_set_58 hl (by decide) rfl (fun ls hl => ?_)
        subst hge
        rw [show (63 : Int32) = nI 64 - 1 from by decide] at hl
        exact rset_60 (th := th) (ou := ou) (ob := ob) hF hI hk rfl (w := 18446744073709551616 - u) (by omega) (by decide) (setv_neg (by omega) hu) 64 _ _ (Nat.le_refl 64) (fun j _ => by decide) (by rw [dl0]; exact (Nat.div_eq_of_lt (by omega)).symm) hS _ _ hLc (lv_sub hl [2, 3, 4, 5, 1, 0] rfl)
  · skip
    refine m_if_ne (tgt := 14) hx hb (by decide) dM0_set_9 (by decide) (fun h => absurd h (by decide)) (fun _ => ?_)
    refine lv_iconst (v := nI 3) hx hb dM0_set_12 (by decide) ?_
    exact m_iret hx hb hr hlocks hLc dM0_set_13 (Or.inr ⟨hno, rfl, hS.r hI⟩)

set_option maxRecDepth 100000 in
set_option maxHeartbeats 4000000 in
theorem c_M0_sum (l : Launch) (G : gG) (b0 : Nat) (H : Heap) {o : Nat} {ad : Nat → Nat} {th : Nat} {dg : Nat → Nat} {bw : Nat → Nat} {lm : Nat → Nat} {lf : Nat → Nat} {rt : Nat → Nat} {ou : Nat → Nat} {rs : Nat → Nat} {lb : Nat} {rb : Nat} {ob : Nat} {bL : Nat → Nat} {bR : Nat → Nat} {td : Nat} {tp : Nat → Nat} {wn : Nat} {tx : Nat → Nat} (hS : SM G b0 o ad H th dg bw lm lf rt ou rs lb rb ob bL bR td tp wn tx H) (hlf : dlm lf 330) (hrt : dlm rt 330) (hlb : lb ≤ 1) (hrb : rb ≤ 1) (hL : dl lf 330 ≤ 2 ^ 512) (hR : dl rt 330 ≤ 2 ^ 512) {t : Nat} (ht1 : t ≤ 1) : Met l yM0_sum wsM0_sum ({ frames := 1, cells := 0, slots := 0, locals := 24 } : Room) (PcH G H [.ref o, .int (nI t)]) (QcV (fun H1 => ∃ (g : Nat → Nat) (b : Nat), dlm g 330 ∧ b ≤ 1 ∧ sg b (dl g 330) = sg lb (dl lf 330) + sg (if rb = t then 0 else 1) (dl rt 330) ∧ SM G b0 o ad H th dg bw lm lf rt g rs lb rb b bL bR td tp wn tx H1)) 0 0 (fre b0) := by
  refine m_enter (cc := cM0_sum) (maxL := 3) (ret := none) (own := RM0) (by decide) rfl rfl (Nat.le_of_ble_eq_true rfl) ?_
  intro p e s m below meth c ls hF hnm hH hl
  have hl : lv_has ls 3 [(0, .ref o), (1, .int (nI t))] := hl
  have hLc : lcs b0 [] := lcs_nil b0
  obtain ⟨hx, hb, hr, hml, hown, hts, hlocks, hK⟩ := id hF
  refine lv_aload_n hx hb dM0_sum_0 rfl (lv_at hl 0 rfl) ?_
  refine va_get (D := G.1) (ci := 1) (v := .int (nI rb)) (C := RM0) (T := TM0) (N := 17) hx hb hts hwsM0_sum hown hK hS.w.ob 0 rfl rfl 9 (by decide) (hts (.fieldLink RM0 68 "ExactNumbersModel" "rightBelow" "Z") (by decide +kernel)) (fun _ h9 => h9) rfl dM0_sum_1 ?_
  refine lv_iload_n hx hb dM0_sum_4 rfl (lv_at hl 1 rfl) ?_
  refine m_icmp_eq (tgt := 12) hx hb (by omega) (by omega) dM0_sum_5 (by decide) (fun c5 => ?_) (fun c5 => ?_)
  · skip
    refine lv_iconst (v := nI 0) hx hb dM0_sum_12 (by decide) ?_
    refine lv_istore_n (lv' := [(2, .int (nI 0)), (0, .ref o), (1, .int (nI t))]) hx hb dM0_sum_13 rfl hl (by decide) rfl (fun ls hl => ?_)
    refine lv_aload_n hx hb dM0_sum_14 rfl (lv_at hl 1 rfl) ?_
    refine va_get (D := G.1) (ci := 1) (v := .ref (ad 3)) (C := RM0) (T := TM0) (N := 17) hx hb hts hwsM0_sum hown hK hS.w.ob 0 rfl rfl 4 (by decide) (hts (.fieldLink RM0 20 "ExactNumbersModel" "left" "[I") (by decide +kernel)) (fun _ h9 => h9) rfl dM0_sum_15 ?_
    refine lv_aload_n hx hb dM0_sum_18 rfl (lv_at hl 1 rfl) ?_
    refine va_get (D := G.1) (ci := 1) (v := .ref (ad 5)) (C := RM0) (T := TM0) (N := 17) hx hb hts hwsM0_sum hown hK hS.w.ob 0 rfl rfl 6 (by decide) (hts (.fieldLink RM0 26 "ExactNumbersModel" "out" "[I") (by decide +kernel)) (fun _ h9 => h9) rfl dM0_sum_19 ?_
    refine mc_v0 (va_runS (As := [.ref (ad 3), .ref (ad 5)]) (rest := []) ⟨hx, hb, hml, hown, hts⟩ (c_M0_copy l G b0 H (hS.w.get 3 (by decide)) (hS.w.get 5 (by decide)) (hS.w.ne (i := 3) (j := 5) (by decide) (by decide) (by decide)) (hS.w.b 5 (by decide))) (va_cwS 2 hts gM0_sum_M0_copy rfl rfl rfl (by decide +kernel) ⟨Nat.le_of_ble_eq_true rfl, Nat.le_of_ble_eq_true rfl⟩) (mp_S hK) rfl rfl hl.1 rfl (lv_room (Nat.le_of_ble_eq_true rfl)) dM0_sum_22 ⟨Nat.le_of_ble_eq_true rfl, Nat.le_of_ble_eq_true rfl⟩) hLc (fun H1 locs hP hLc => ?_)
    subst hP
    have hS := hS.p_ou lf
    generalize hput H (ad 5) (aN G 330 lf) = Hc at hS ⊢
    refine lv_aload_n hx hb dM0_sum_25 rfl (lv_at hl 1 rfl) ?_
    refine lv_aload_n hx hb dM0_sum_26 rfl (lv_at hl 1 rfl) ?_
    refine va_get (D := G.1) (ci := 1) (v := .int (nI lb)) (C := RM0) (T := TM0) (N := 17) hx hb hts hwsM0_sum hown hK hS.w.ob 0 rfl rfl 8 (by decide) (hts (.fieldLink RM0 64 "ExactNumbersModel" "leftBelow" "Z") (by decide +kernel)) (fun _ h9 => h9) rfl dM0_sum_27 ?_
    refine m_put (C := RM0) (T := TM0) (N := 17) (ci := 1) (ty := .boolean) (b0 := b0) hx hb hts hwsM0_sum tyM0 tyM0_ok nmM0 hown hK hS.w.ob rfl 10 (by decide) (hts (.fieldLink RM0 75 "ExactNumbersModel" "outBelow" "Z") (by decide +kernel)) rfl (by decide +kernel) (nar_z (by omega)) (fit_z (by omega)) (Nat.le_of_ble_eq_true rfl) hS.w.bo hLc dM0_sum_30 (fun Hc2 locs hO hsz hq hLc => ?_)
    have hS := hS.f_ob hO hsz hq
    clear hO hsz hq
    obtain ⟨Hc, rfl⟩ : ∃ Hz, Hz = Hc2 := ⟨_, rfl⟩
    refine lv_aload_n hx hb dM0_sum_33 rfl (lv_at hl 1 rfl) ?_
    refine va_get (D := G.1) (ci := 1) (v := .int (nI lb)) (C := RM0) (T := TM0) (N := 17) hx hb hts hwsM0_sum hown hK hS.w.ob 0 rfl rfl 8 (by decide) (hts (.fieldLink RM0 64 "ExactNumbersModel" "leftBelow" "Z") (by decide +kernel)) (fun _ h9 => h9) rfl dM0_sum_34 ?_
    refine lv_iload_n hx hb dM0_sum_37 rfl (lv_at hl 0 rfl) ?_
    refine m_icmp_ne (tgt := 55) hx hb (by omega) (by decide) dM0_sum_38 (by decide) (fun c38 => ?_) (fun c38 => ?_)
    · skip
      refine lv_aload_n hx hb dM0_sum_55 rfl (lv_at hl 1 rfl) ?_
      refine va_get (D := G.1) (ci := 1) (v := .ref (ad 3)) (C := RM0) (T := TM0) (N := 17) hx hb hts hwsM0_sum hown hK hS.w.ob 0 rfl rfl 4 (by decide) (hts (.fieldLink RM0 20 "ExactNumbersModel" "left" "[I") (by decide +kernel)) (fun _ h9 => h9) rfl dM0_sum_56 ?_
      refine lv_aload_n hx hb dM0_sum_59 rfl (lv_at hl 1 rfl) ?_
      refine va_get (D := G.1) (ci := 1) (v := .ref (ad 4)) (C := RM0) (T := TM0) (N := 17) hx hb hts hwsM0_sum hown hK hS.w.ob 0 rfl rfl 5 (by decide) (hts (.fieldLink RM0 23 "ExactNumbersModel" "right" "[I") (by decide +kernel)) (fun _ h9 => h9) rfl dM0_sum_60 ?_
      refine mc_i0 (va_runS (As := [.ref (ad 3), .ref (ad 4)]) (rest := []) ⟨hx, hb, hml, hown, hts⟩ (c_M0_order l G b0 Hc (hS.w.get 3 (by decide)) (hS.w.get 4 (by decide)) hlf hrt) (va_cwS 2 hts gM0_sum_M0_order rfl rfl rfl (by decide +kernel) ⟨Nat.le_of_ble_eq_true rfl, Nat.le_of_ble_eq_true rfl⟩) (mp_S hK) rfl rfl hl.1 rfl (lv_room (Nat.le_of_ble_eq_true rfl)) dM0_sum_63 ⟨Nat.le_of_ble_eq_true rfl, Nat.le_of_ble_eq_true rfl⟩) hLc (fun r H1 locs hP hLc => ?_)
      obtain ⟨hP, rfl⟩ := hP
      rcases hP with ⟨hor, rfl⟩ | ⟨hor, rfl⟩ | ⟨hor, rfl⟩
      · skip
        refine lv_if_lt (tgt := 83) hx hb dM0_sum_66 (by decide) (fun _ => ?_) (fun h => absurd (by decide) h)
        refine lv_aload_n hx hb dM0_sum_83 rfl (lv_at hl 1 rfl) ?_
        refine va_get (D := G.1) (ci := 1) (v := .ref (ad 4)) (C := RM0) (T := TM0) (N := 17) hx hb hts hwsM0_sum hown hK hS.w.ob 0 rfl rfl 5 (by decide) (hts (.fieldLink RM0 23 "ExactNumbersModel" "right" "[I") (by decide +kernel)) (fun _ h9 => h9) rfl dM0_sum_84 ?_
        refine lv_aload_n hx hb dM0_sum_87 rfl (lv_at hl 1 rfl) ?_
        refine va_get (D := G.1) (ci := 1) (v := .ref (ad 5)) (C := RM0) (T := TM0) (N := 17) hx hb hts hwsM0_sum hown hK hS.w.ob 0 rfl rfl 6 (by decide) (hts (.fieldLink RM0 26 "ExactNumbersModel" "out" "[I") (by decide +kernel)) (fun _ h9 => h9) rfl dM0_sum_88 ?_
        refine mc_v0 (va_runS (As := [.ref (ad 4), .ref (ad 5)]) (rest := []) ⟨hx, hb, hml, hown, hts⟩ (c_M0_copy l G b0 Hc (hS.w.get 4 (by decide)) (hS.w.get 5 (by decide)) (hS.w.ne (i := 4) (j := 5) (by decide) (by decide) (by decide)) (hS.w.b 5 (by decide))) (va_cwS 2 hts gM0_sum_M0_copy rfl rfl rfl (by decide +kernel) ⟨Nat.le_of_ble_eq_true rfl, Nat.le_of_ble_eq_true rfl⟩) (mp_S hK) rfl rfl hl.1 rfl (lv_room (Nat.le_of_ble_eq_true rfl)) dM0_sum_91 ⟨Nat.le_of_ble_eq_true rfl, Nat.le_of_ble_eq_true rfl⟩) hLc (fun H1 locs hP hLc => ?_)
        subst hP
        have hS := hS.p_ou rt
        generalize hput Hc (ad 5) (aN G 330 rt) = Hc at hS ⊢
        refine lv_aload_n hx hb dM0_sum_94 rfl (lv_at hl 1 rfl) ?_
        refine va_get (D := G.1) (ci := 1) (v := .ref (ad 5)) (C := RM0) (T := TM0) (N := 17) hx hb hts hwsM0_sum hown hK hS.w.ob 0 rfl rfl 6 (by decide) (hts (.fieldLink RM0 26 "ExactNumbersModel" "out" "[I") (by decide +kernel)) (fun _ h9 => h9) rfl dM0_sum_95 ?_
        refine lv_aload_n hx hb dM0_sum_98 rfl (lv_at hl 1 rfl) ?_
        refine va_get (D := G.1) (ci := 1) (v := .ref (ad 3)) (C := RM0) (T := TM0) (N := 17) hx hb hts hwsM0_sum hown hK hS.w.ob 0 rfl rfl 4 (by decide) (hts (.fieldLink RM0 20 "ExactNumbersModel" "left" "[I") (by decide +kernel)) (fun _ h9 => h9) rfl dM0_sum_99 ?_
        refine mc_v0 (va_runS (As := [.ref (ad 5), .ref (ad 3)]) (rest := []) ⟨hx, hb, hml, hown, hts⟩ (c_M0_subtract l G b0 Hc (hS.w.get 5 (by decide)) (hS.w.get 3 (by decide)) hrt hlf (hS.w.ne (i := 3) (j := 5) (by decide) (by decide) (by decide)) (hS.w.b 5 (by decide))) (va_cwS 2 hts gM0_sum_M0_subtract rfl rfl rfl (by decide +kernel) ⟨Nat.le_of_ble_eq_true rfl, Nat.le_of_ble_eq_true rfl⟩) (mp_S hK) rfl rfl hl.1 rfl (lv_room (Nat.le_of_ble_eq_true rfl)) dM0_sum_102 ⟨Nat.le_of_ble_eq_true rfl, Nat.le_of_ble_eq_true rfl⟩) hLc (fun H1 locs hP hLc => ?_)
        obtain ⟨g, c2, hg, hv, rfl⟩ := hP
        have hS := hS.p_ou g
        generalize hput Hc (ad 5) (aN G 330 g) = Hc at hS ⊢
        have hv := no_borrow hv (dl_lt hg) (by omega)
        refine lv_aload_n hx hb dM0_sum_105 rfl (lv_at hl 1 rfl) ?_
        refine lv_iload_n hx hb dM0_sum_106 rfl (lv_at hl 0 rfl) ?_
        refine m_put (C := RM0) (T := TM0) (N := 17) (ci := 1) (ty := .boolean) (b0 := b0) hx hb hts hwsM0_sum tyM0 tyM0_ok nmM0 hown hK hS.w.ob rfl 10 (by decide) (hts (.fieldLink RM0 75 "ExactNumbersModel" "outBelow" "Z") (by decide +kernel)) rfl (by decide +kernel) (nar_z (by decide)) (fit_z (by decide)) (Nat.le_of_ble_eq_true rfl) hS.w.bo hLc dM0_sum_107 (fun Hc2 locs hO hsz hq hLc => ?_)
        have hS := hS.f_ob hO hsz hq
        clear hO hsz hq
        obtain ⟨Hc, rfl⟩ : ∃ Hz, Hz = Hc2 := ⟨_, rfl⟩
        exact m_vret hx hb hr hlocks hLc dM0_sum_110 (⟨g, 0, hg, by omega, by rw [if_pos c5]; exact sum_diff2 hlb (by decide) c38 hv, hS⟩)
      · skip
        refine lv_if_lt (tgt := 83) hx hb dM0_sum_66 (by decide) (fun h => absurd h (by decide)) (fun _ => ?_)
        refine lv_aload_n hx hb dM0_sum_69 rfl (lv_at hl 1 rfl) ?_
        refine va_get (D := G.1) (ci := 1) (v := .ref (ad 5)) (C := RM0) (T := TM0) (N := 17) hx hb hts hwsM0_sum hown hK hS.w.ob 0 rfl rfl 6 (by decide) (hts (.fieldLink RM0 26 "ExactNumbersModel" "out" "[I") (by decide +kernel)) (fun _ h9 => h9) rfl dM0_sum_70 ?_
        refine lv_aload_n hx hb dM0_sum_73 rfl (lv_at hl 1 rfl) ?_
        refine va_get (D := G.1) (ci := 1) (v := .ref (ad 4)) (C := RM0) (T := TM0) (N := 17) hx hb hts hwsM0_sum hown hK hS.w.ob 0 rfl rfl 5 (by decide) (hts (.fieldLink RM0 23 "ExactNumbersModel" "right" "[I") (by decide +kernel)) (fun _ h9 => h9) rfl dM0_sum_74 ?_
        refine mc_v0 (va_runS (As := [.ref (ad 5), .ref (ad 4)]) (rest := []) ⟨hx, hb, hml, hown, hts⟩ (c_M0_subtract l G b0 Hc (hS.w.get 5 (by decide)) (hS.w.get 4 (by decide)) hlf hrt (hS.w.ne (i := 4) (j := 5) (by decide) (by decide) (by decide)) (hS.w.b 5 (by decide))) (va_cwS 2 hts gM0_sum_M0_subtract rfl rfl rfl (by decide +kernel) ⟨Nat.le_of_ble_eq_true rfl, Nat.le_of_ble_eq_true rfl⟩) (mp_S hK) rfl rfl hl.1 rfl (lv_room (Nat.le_of_ble_eq_true rfl)) dM0_sum_77 ⟨Nat.le_of_ble_eq_true rfl, Nat.le_of_ble_eq_true rfl⟩) hLc (fun H1 locs hP hLc => ?_)
        obtain ⟨g, c2, hg, hv, rfl⟩ := hP
        have hS := hS.p_ou g
        generalize hput Hc (ad 5) (aN G 330 g) = Hc at hS ⊢
        have hv := no_borrow hv (dl_lt hg) (by omega)
        refine lv_goto (tgt := 110) hx hb dM0_sum_80 (by decide) ?_
        exact m_vret hx hb hr hlocks hLc dM0_sum_110 (⟨g, lb, hg, by omega, by rw [if_pos c5]; exact sum_diff1 hlb (by decide) c38 hv, hS⟩)
      · skip
        refine lv_if_lt (tgt := 83) hx hb dM0_sum_66 (by decide) (fun h => absurd h (by decide)) (fun _ => ?_)
        refine lv_aload_n hx hb dM0_sum_69 rfl (lv_at hl 1 rfl) ?_
        refine va_get (D := G.1) (ci := 1) (v := .ref (ad 5)) (C := RM0) (T := TM0) (N := 17) hx hb hts hwsM0_sum hown hK hS.w.ob 0 rfl rfl 6 (by decide) (hts (.fieldLink RM0 26 "ExactNumbersModel" "out" "[I") (by decide +kernel)) (fun _ h9 => h9) rfl dM0_sum_70 ?_
        refine lv_aload_n hx hb dM0_sum_73 rfl (lv_at hl 1 rfl) ?_
        refine va_get (D := G.1) (ci := 1) (v := .ref (ad 4)) (C := RM0) (T := TM0) (N := 17) hx hb hts hwsM0_sum hown hK hS.w.ob 0 rfl rfl 5 (by decide) (hts (.fieldLink RM0 23 "ExactNumbersModel" "right" "[I") (by decide +kernel)) (fun _ h9 => h9) rfl dM0_sum_74 ?_
        refine mc_v0 (va_runS (As := [.ref (ad 5), .ref (ad 4)]) (rest := []) ⟨hx, hb, hml, hown, hts⟩ (c_M0_subtract l G b0 Hc (hS.w.get 5 (by decide)) (hS.w.get 4 (by decide)) hlf hrt (hS.w.ne (i := 4) (j := 5) (by decide) (by decide) (by decide)) (hS.w.b 5 (by decide))) (va_cwS 2 hts gM0_sum_M0_subtract rfl rfl rfl (by decide +kernel) ⟨Nat.le_of_ble_eq_true rfl, Nat.le_of_ble_eq_true rfl⟩) (mp_S hK) rfl rfl hl.1 rfl (lv_room (Nat.le_of_ble_eq_true rfl)) dM0_sum_77 ⟨Nat.le_of_ble_eq_true rfl, Nat.le_of_ble_eq_true rfl⟩) hLc (fun H1 locs hP hLc => ?_)
        obtain ⟨g, c2, hg, hv, rfl⟩ := hP
        have hS := hS.p_ou g
        generalize hput Hc (ad 5) (aN G 330 g) = Hc at hS ⊢
        have hv := no_borrow hv (dl_lt hg) (by omega)
        refine lv_goto (tgt := 110) hx hb dM0_sum_80 (by decide) ?_
        exact m_vret hx hb hr hlocks hLc dM0_sum_110 (⟨g, lb, hg, by omega, by rw [if_pos c5]; exact sum_diff1 hlb (by decide) c38 hv, hS⟩)
    · skip
      refine lv_aload_n hx hb dM0_sum_41 rfl (lv_at hl 1 rfl) ?_
      refine va_get (D := G.1) (ci := 1) (v := .ref (ad 5)) (C := RM0) (T := TM0) (N := 17) hx hb hts hwsM0_sum hown hK hS.w.ob 0 rfl rfl 6 (by decide) (hts (.fieldLink RM0 26 "ExactNumbersModel" "out" "[I") (by decide +kernel)) (fun _ h9 => h9) rfl dM0_sum_42 ?_
      refine lv_aload_n hx hb dM0_sum_45 rfl (lv_at hl 1 rfl) ?_
      refine va_get (D := G.1) (ci := 1) (v := .ref (ad 4)) (C := RM0) (T := TM0) (N := 17) hx hb hts hwsM0_sum hown hK hS.w.ob 0 rfl rfl 5 (by decide) (hts (.fieldLink RM0 23 "ExactNumbersModel" "right" "[I") (by decide +kernel)) (fun _ h9 => h9) rfl dM0_sum_46 ?_
      refine mc_v0 (va_runS (As := [.ref (ad 5), .ref (ad 4)]) (rest := []) ⟨hx, hb, hml, hown, hts⟩ (c_M0_add l G b0 Hc (hS.w.get 5 (by decide)) (hS.w.get 4 (by decide)) hlf hrt (hS.w.ne (i := 4) (j := 5) (by decide) (by decide) (by decide)) (hS.w.b 5 (by decide))) (va_cwS 2 hts gM0_sum_M0_add rfl rfl rfl (by decide +kernel) ⟨Nat.le_of_ble_eq_true rfl, Nat.le_of_ble_eq_true rfl⟩) (mp_S hK) rfl rfl hl.1 rfl (lv_room (Nat.le_of_ble_eq_true rfl)) dM0_sum_49 ⟨Nat.le_of_ble_eq_true rfl, Nat.le_of_ble_eq_true rfl⟩) hLc (fun H1 locs hP hLc => ?_)
      obtain ⟨g, c2, hg, hv, rfl⟩ := hP
      have hS := hS.p_ou g
      generalize hput Hc (ad 5) (aN G 330 g) = Hc at hS ⊢
      have hv := grow2 hv (by omega)
      refine lv_goto (tgt := 110) hx hb dM0_sum_52 (by decide) ?_
      exact m_vret hx hb hr hlocks hLc dM0_sum_110 (⟨g, lb, hg, by omega, by rw [if_pos c5, ← c38]; exact sum_same hv, hS⟩)
  · skip
    refine lv_iconst (v := nI 1) hx hb dM0_sum_8 (by decide) ?_
    refine lv_goto (tgt := 13) hx hb dM0_sum_9 (by decide) ?_
    refine lv_istore_n (lv' := [(2, .int (nI 1)), (0, .ref o), (1, .int (nI t))]) hx hb dM0_sum_13 rfl hl (by decide) rfl (fun ls hl => ?_)
    refine lv_aload_n hx hb dM0_sum_14 rfl (lv_at hl 1 rfl) ?_
    refine va_get (D := G.1) (ci := 1) (v := .ref (ad 3)) (C := RM0) (T := TM0) (N := 17) hx hb hts hwsM0_sum hown hK hS.w.ob 0 rfl rfl 4 (by decide) (hts (.fieldLink RM0 20 "ExactNumbersModel" "left" "[I") (by decide +kernel)) (fun _ h9 => h9) rfl dM0_sum_15 ?_
    refine lv_aload_n hx hb dM0_sum_18 rfl (lv_at hl 1 rfl) ?_
    refine va_get (D := G.1) (ci := 1) (v := .ref (ad 5)) (C := RM0) (T := TM0) (N := 17) hx hb hts hwsM0_sum hown hK hS.w.ob 0 rfl rfl 6 (by decide) (hts (.fieldLink RM0 26 "ExactNumbersModel" "out" "[I") (by decide +kernel)) (fun _ h9 => h9) rfl dM0_sum_19 ?_
    refine mc_v0 (va_runS (As := [.ref (ad 3), .ref (ad 5)]) (rest := []) ⟨hx, hb, hml, hown, hts⟩ (c_M0_copy l G b0 H (hS.w.get 3 (by decide)) (hS.w.get 5 (by decide)) (hS.w.ne (i := 3) (j := 5) (by decide) (by decide) (by decide)) (hS.w.b 5 (by decide))) (va_cwS 2 hts gM0_sum_M0_copy rfl rfl rfl (by decide +kernel) ⟨Nat.le_of_ble_eq_true rfl, Nat.le_of_ble_eq_true rfl⟩) (mp_S hK) rfl rfl hl.1 rfl (lv_room (Nat.le_of_ble_eq_true rfl)) dM0_sum_22 ⟨Nat.le_of_ble_eq_true rfl, Nat.le_of_ble_eq_true rfl⟩) hLc (fun H1 locs hP hLc => ?_)
    subst hP
    have hS := hS.p_ou lf
    generalize hput H (ad 5) (aN G 330 lf) = Hc at hS ⊢
    refine lv_aload_n hx hb dM0_sum_25 rfl (lv_at hl 1 rfl) ?_
    refine lv_aload_n hx hb dM0_sum_26 rfl (lv_at hl 1 rfl) ?_
    refine va_get (D := G.1) (ci := 1) (v := .int (nI lb)) (C := RM0) (T := TM0) (N := 17) hx hb hts hwsM0_sum hown hK hS.w.ob 0 rfl rfl 8 (by decide) (hts (.fieldLink RM0 64 "ExactNumbersModel" "leftBelow" "Z") (by decide +kernel)) (fun _ h9 => h9) rfl dM0_sum_27 ?_
    refine m_put (C := RM0) (T := TM0) (N := 17) (ci := 1) (ty := .boolean) (b0 := b0) hx hb hts hwsM0_sum tyM0 tyM0_ok nmM0 hown hK hS.w.ob rfl 10 (by decide) (hts (.fieldLink RM0 75 "ExactNumbersModel" "outBelow" "Z") (by decide +kernel)) rfl (by decide +kernel) (nar_z (by omega)) (fit_z (by omega)) (Nat.le_of_ble_eq_true rfl) hS.w.bo hLc dM0_sum_30 (fun Hc2 locs hO hsz hq hLc => ?_)
    have hS := hS.f_ob hO hsz hq
    clear hO hsz hq
    obtain ⟨Hc, rfl⟩ : ∃ Hz, Hz = Hc2 := ⟨_, rfl⟩
    refine lv_aload_n hx hb dM0_sum_33 rfl (lv_at hl 1 rfl) ?_
    refine va_get (D := G.1) (ci := 1) (v := .int (nI lb)) (C := RM0) (T := TM0) (N := 17) hx hb hts hwsM0_sum hown hK hS.w.ob 0 rfl rfl 8 (by decide) (hts (.fieldLink RM0 64 "ExactNumbersModel" "leftBelow" "Z") (by decide +kernel)) (fun _ h9 => h9) rfl dM0_sum_34 ?_
    refine lv_iload_n hx hb dM0_sum_37 rfl (lv_at hl 0 rfl) ?_
    refine m_icmp_ne (tgt := 55) hx hb (by omega) (by decide) dM0_sum_38 (by decide) (fun c38 => ?_) (fun c38 => ?_)
    · skip
      refine lv_aload_n hx hb dM0_sum_55 rfl (lv_at hl 1 rfl) ?_
      refine va_get (D := G.1) (ci := 1) (v := .ref (ad 3)) (C := RM0) (T := TM0) (N := 17) hx hb hts hwsM0_sum hown hK hS.w.ob 0 rfl rfl 4 (by decide) (hts (.fieldLink RM0 20 "ExactNumbersModel" "left" "[I") (by decide +kernel)) (fun _ h9 => h9) rfl dM0_sum_56 ?_
      refine lv_aload_n hx hb dM0_sum_59 rfl (lv_at hl 1 rfl) ?_
      refine va_get (D := G.1) (ci := 1) (v := .ref (ad 4)) (C := RM0) (T := TM0) (N := 17) hx hb hts hwsM0_sum hown hK hS.w.ob 0 rfl rfl 5 (by decide) (hts (.fieldLink RM0 23 "ExactNumbersModel" "right" "[I") (by decide +kernel)) (fun _ h9 => h9) rfl dM0_sum_60 ?_
      refine mc_i0 (va_runS (As := [.ref (ad 3), .ref (ad 4)]) (rest := []) ⟨hx, hb, hml, hown, hts⟩ (c_M0_order l G b0 Hc (hS.w.get 3 (by decide)) (hS.w.get 4 (by decide)) hlf hrt) (va_cwS 2 hts gM0_sum_M0_order rfl rfl rfl (by decide +kernel) ⟨Nat.le_of_ble_eq_true rfl, Nat.le_of_ble_eq_true rfl⟩) (mp_S hK) rfl rfl hl.1 rfl (lv_room (Nat.le_of_ble_eq_true rfl)) dM0_sum_63 ⟨Nat.le_of_ble_eq_true rfl, Nat.le_of_ble_eq_true rfl⟩) hLc (fun r H1 locs hP hLc => ?_)
      obtain ⟨hP, rfl⟩ := hP
      rcases hP with ⟨hor, rfl⟩ | ⟨hor, rfl⟩ | ⟨hor, rfl⟩
      · skip
        refine lv_if_lt (tgt := 83) hx hb dM0_sum_66 (by decide) (fun _ => ?_) (fun h => absurd (by decide) h)
        refine lv_aload_n hx hb dM0_sum_83 rfl (lv_at hl 1 rfl) ?_
        refine va_get (D := G.1) (ci := 1) (v := .ref (ad 4)) (C := RM0) (T := TM0) (N := 17) hx hb hts hwsM0_sum hown hK hS.w.ob 0 rfl rfl 5 (by decide) (hts (.fieldLink RM0 23 "ExactNumbersModel" "right" "[I") (by decide +kernel)) (fun _ h9 => h9) rfl dM0_sum_84 ?_
        refine lv_aload_n hx hb dM0_sum_87 rfl (lv_at hl 1 rfl) ?_
        refine va_get (D := G.1) (ci := 1) (v := .ref (ad 5)) (C := RM0) (T := TM0) (N := 17) hx hb hts hwsM0_sum hown hK hS.w.ob 0 rfl rfl 6 (by decide) (hts (.fieldLink RM0 26 "ExactNumbersModel" "out" "[I") (by decide +kernel)) (fun _ h9 => h9) rfl dM0_sum_88 ?_
        refine mc_v0 (va_runS (As := [.ref (ad 4), .ref (ad 5)]) (rest := []) ⟨hx, hb, hml, hown, hts⟩ (c_M0_copy l G b0 Hc (hS.w.get 4 (by decide)) (hS.w.get 5 (by decide)) (hS.w.ne (i := 4) (j := 5) (by decide) (by decide) (by decide)) (hS.w.b 5 (by decide))) (va_cwS 2 hts gM0_sum_M0_copy rfl rfl rfl (by decide +kernel) ⟨Nat.le_of_ble_eq_true rfl, Nat.le_of_ble_eq_true rfl⟩) (mp_S hK) rfl rfl hl.1 rfl (lv_room (Nat.le_of_ble_eq_true rfl)) dM0_sum_91 ⟨Nat.le_of_ble_eq_true rfl, Nat.le_of_ble_eq_true rfl⟩) hLc (fun H1 locs hP hLc => ?_)
        subst hP
        have hS := hS.p_ou rt
        generalize hput Hc (ad 5) (aN G 330 rt) = Hc at hS ⊢
        refine lv_aload_n hx hb dM0_sum_94 rfl (lv_at hl 1 rfl) ?_
        refine va_get (D := G.1) (ci := 1) (v := .ref (ad 5)) (C := RM0) (T := TM0) (N := 17) hx hb hts hwsM0_sum hown hK hS.w.ob 0 rfl rfl 6 (by decide) (hts (.fieldLink RM0 26 "ExactNumbersModel" "out" "[I") (by decide +kernel)) (fun _ h9 => h9) rfl dM0_sum_95 ?_
        refine lv_aload_n hx hb dM0_sum_98 rfl (lv_at hl 1 rfl) ?_
        refine va_get (D := G.1) (ci := 1) (v := .ref (ad 3)) (C := RM0) (T := TM0) (N := 17) hx hb hts hwsM0_sum hown hK hS.w.ob 0 rfl rfl 4 (by decide) (hts (.fieldLink RM0 20 "ExactNumbersModel" "left" "[I") (by decide +kernel)) (fun _ h9 => h9) rfl dM0_sum_99 ?_
        refine mc_v0 (va_runS (As := [.ref (ad 5), .ref (ad 3)]) (rest := []) ⟨hx, hb, hml, hown, hts⟩ (c_M0_subtract l G b0 Hc (hS.w.get 5 (by decide)) (hS.w.get 3 (by decide)) hrt hlf (hS.w.ne (i := 3) (j := 5) (by decide) (by decide) (by decide)) (hS.w.b 5 (by decide))) (va_cwS 2 hts gM0_sum_M0_subtract rfl rfl rfl (by decide +kernel) ⟨Nat.le_of_ble_eq_true rfl, Nat.le_of_ble_eq_true rfl⟩) (mp_S hK) rfl rfl hl.1 rfl (lv_room (Nat.le_of_ble_eq_true rfl)) dM0_sum_102 ⟨Nat.le_of_ble_eq_true rfl, Nat.le_of_ble_eq_true rfl⟩) hLc (fun H1 locs hP hLc => ?_)
        obtain ⟨g, c2, hg, hv, rfl⟩ := hP
        have hS := hS.p_ou g
        generalize hput Hc (ad 5) (aN G 330 g) = Hc at hS ⊢
        have hv := no_borrow hv (dl_lt hg) (by omega)
        refine lv_aload_n hx hb dM0_sum_105 rfl (lv_at hl 1 rfl) ?_
        refine lv_iload_n hx hb dM0_sum_106 rfl (lv_at hl 0 rfl) ?_
        refine m_put (C := RM0) (T := TM0) (N := 17) (ci := 1) (ty := .boolean) (b0 := b0) hx hb hts hwsM0_sum tyM0 tyM0_ok nmM0 hown hK hS.w.ob rfl 10 (by decide) (hts (.fieldLink RM0 75 "ExactNumbersModel" "outBelow" "Z") (by decide +kernel)) rfl (by decide +kernel) (nar_z (by decide)) (fit_z (by decide)) (Nat.le_of_ble_eq_true rfl) hS.w.bo hLc dM0_sum_107 (fun Hc2 locs hO hsz hq hLc => ?_)
        have hS := hS.f_ob hO hsz hq
        clear hO hsz hq
        obtain ⟨Hc, rfl⟩ : ∃ Hz, Hz = Hc2 := ⟨_, rfl⟩
        exact m_vret hx hb hr hlocks hLc dM0_sum_110 (⟨g, 1, hg, by omega, by rw [if_neg c5]; exact sum_diff2 hlb (by decide) c38 hv, hS⟩)
      · skip
        refine lv_if_lt (tgt := 83) hx hb dM0_sum_66 (by decide) (fun h => absurd h (by decide)) (fun _ => ?_)
        refine lv_aload_n hx hb dM0_sum_69 rfl (lv_at hl 1 rfl) ?_
        refine va_get (D := G.1) (ci := 1) (v := .ref (ad 5)) (C := RM0) (T := TM0) (N := 17) hx hb hts hwsM0_sum hown hK hS.w.ob 0 rfl rfl 6 (by decide) (hts (.fieldLink RM0 26 "ExactNumbersModel" "out" "[I") (by decide +kernel)) (fun _ h9 => h9) rfl dM0_sum_70 ?_
        refine lv_aload_n hx hb dM0_sum_73 rfl (lv_at hl 1 rfl) ?_
        refine va_get (D := G.1) (ci := 1) (v := .ref (ad 4)) (C := RM0) (T := TM0) (N := 17) hx hb hts hwsM0_sum hown hK hS.w.ob 0 rfl rfl 5 (by decide) (hts (.fieldLink RM0 23 "ExactNumbersModel" "right" "[I") (by decide +kernel)) (fun _ h9 => h9) rfl dM0_sum_74 ?_
        refine mc_v0 (va_runS (As := [.ref (ad 5), .ref (ad 4)]) (rest := []) ⟨hx, hb, hml, hown, hts⟩ (c_M0_subtract l G b0 Hc (hS.w.get 5 (by decide)) (hS.w.get 4 (by decide)) hlf hrt (hS.w.ne (i := 4) (j := 5) (by decide) (by decide) (by decide)) (hS.w.b 5 (by decide))) (va_cwS 2 hts gM0_sum_M0_subtract rfl rfl rfl (by decide +kernel) ⟨Nat.le_of_ble_eq_true rfl, Nat.le_of_ble_eq_true rfl⟩) (mp_S hK) rfl rfl hl.1 rfl (lv_room (Nat.le_of_ble_eq_true rfl)) dM0_sum_77 ⟨Nat.le_of_ble_eq_true rfl, Nat.le_of_ble_eq_true rfl⟩) hLc (fun H1 locs hP hLc => ?_)
        obtain ⟨g, c2, hg, hv, rfl⟩ := hP
        have hS := hS.p_ou g
        generalize hput Hc (ad 5) (aN G 330 g) = Hc at hS ⊢
        have hv := no_borrow hv (dl_lt hg) (by omega)
        refine lv_goto (tgt := 110) hx hb dM0_sum_80 (by decide) ?_
        exact m_vret hx hb hr hlocks hLc dM0_sum_110 (⟨g, lb, hg, by omega, by rw [if_neg c5]; exact sum_diff1 hlb (by decide) c38 hv, hS⟩)
      · skip
        refine lv_if_lt (tgt := 83) hx hb dM0_sum_66 (by decide) (fun h => absurd h (by decide)) (fun _ => ?_)
        refine lv_aload_n hx hb dM0_sum_69 rfl (lv_at hl 1 rfl) ?_
        refine va_get (D := G.1) (ci := 1) (v := .ref (ad 5)) (C := RM0) (T := TM0) (N := 17) hx hb hts hwsM0_sum hown hK hS.w.ob 0 rfl rfl 6 (by decide) (hts (.fieldLink RM0 26 "ExactNumbersModel" "out" "[I") (by decide +kernel)) (fun _ h9 => h9) rfl dM0_sum_70 ?_
        refine lv_aload_n hx hb dM0_sum_73 rfl (lv_at hl 1 rfl) ?_
        refine va_get (D := G.1) (ci := 1) (v := .ref (ad 4)) (C := RM0) (T := TM0) (N := 17) hx hb hts hwsM0_sum hown hK hS.w.ob 0 rfl rfl 5 (by decide) (hts (.fieldLink RM0 23 "ExactNumbersModel" "right" "[I") (by decide +kernel)) (fun _ h9 => h9) rfl dM0_sum_74 ?_
        refine mc_v0 (va_runS (As := [.ref (ad 5), .ref (ad 4)]) (rest := []) ⟨hx, hb, hml, hown, hts⟩ (c_M0_subtract l G b0 Hc (hS.w.get 5 (by decide)) (hS.w.get 4 (by decide)) hlf hrt (hS.w.ne (i := 4) (j := 5) (by decide) (by decide) (by decide)) (hS.w.b 5 (by decide))) (va_cwS 2 hts gM0_sum_M0_subtract rfl rfl rfl (by decide +kernel) ⟨Nat.le_of_ble_eq_true rfl, Nat.le_of_ble_eq_true rfl⟩) (mp_S hK) rfl rfl hl.1 rfl (lv_room (Nat.le_of_ble_eq_true rfl)) dM0_sum_77 ⟨Nat.le_of_ble_eq_true rfl, Nat.le_of_ble_eq_true rfl⟩) hLc (fun H1 locs hP hLc => ?_)
        obtain ⟨g, c2, hg, hv, rfl⟩ := hP
        have hS := hS.p_ou g
        generalize hput Hc (ad 5) (aN G 330 g) = Hc at hS ⊢
        have hv := no_borrow hv (dl_lt hg) (by omega)
        refine lv_goto (tgt := 110) hx hb dM0_sum_80 (by decide) ?_
        exact m_vret hx hb hr hlocks hLc dM0_sum_110 (⟨g, lb, hg, by omega, by rw [if_neg c5]; exact sum_diff1 hlb (by decide) c38 hv, hS⟩)
    · skip
      refine lv_aload_n hx hb dM0_sum_41 rfl (lv_at hl 1 rfl) ?_
      refine va_get (D := G.1) (ci := 1) (v := .ref (ad 5)) (C := RM0) (T := TM0) (N := 17) hx hb hts hwsM0_sum hown hK hS.w.ob 0 rfl rfl 6 (by decide) (hts (.fieldLink RM0 26 "ExactNumbersModel" "out" "[I") (by decide +kernel)) (fun _ h9 => h9) rfl dM0_sum_42 ?_
      refine lv_aload_n hx hb dM0_sum_45 rfl (lv_at hl 1 rfl) ?_
      refine va_get (D := G.1) (ci := 1) (v := .ref (ad 4)) (C := RM0) (T := TM0) (N := 17) hx hb hts hwsM0_sum hown hK hS.w.ob 0 rfl rfl 5 (by decide) (hts (.fieldLink RM0 23 "ExactNumbersModel" "right" "[I") (by decide +kernel)) (fun _ h9 => h9) rfl dM0_sum_46 ?_
      refine mc_v0 (va_runS (As := [.ref (ad 5), .ref (ad 4)]) (rest := []) ⟨hx, hb, hml, hown, hts⟩ (c_M0_add l G b0 Hc (hS.w.get 5 (by decide)) (hS.w.get 4 (by decide)) hlf hrt (hS.w.ne (i := 4) (j := 5) (by decide) (by decide) (by decide)) (hS.w.b 5 (by decide))) (va_cwS 2 hts gM0_sum_M0_add rfl rfl rfl (by decide +kernel) ⟨Nat.le_of_ble_eq_true rfl, Nat.le_of_ble_eq_true rfl⟩) (mp_S hK) rfl rfl hl.1 rfl (lv_room (Nat.le_of_ble_eq_true rfl)) dM0_sum_49 ⟨Nat.le_of_ble_eq_true rfl, Nat.le_of_ble_eq_true rfl⟩) hLc (fun H1 locs hP hLc => ?_)
      obtain ⟨g, c2, hg, hv, rfl⟩ := hP
      have hS := hS.p_ou g
      generalize hput Hc (ad 5) (aN G 330 g) = Hc at hS ⊢
      have hv := grow2 hv (by omega)
      refine lv_goto (tgt := 110) hx hb dM0_sum_52 (by decide) ?_
      exact m_vret hx hb hr hlocks hLc dM0_sum_110 (⟨g, lb, hg, by omega, by rw [if_neg c5, ← c38]; exact sum_same hv, hS⟩)

set_option maxRecDepth 100000 in
set_option maxHeartbeats 4000000 in
theorem times_27 {p : Program} {l : Launch} {e : Env} {s : State} {m : MethodId} {args : Array Value} {below : List Frame} {meth : Method} {c : Code} {G : gG} {b0 : Nat} {H : Heap} {o : Nat} {ad : Nat → Nat} {th : Nat} {dg : Nat → Nat} {bw : Nat → Nat} {lm : Nat → Nat} {lf : Nat → Nat} {rt : Nat → Nat} {ou : Nat → Nat} {rs : Nat → Nat} {lb : Nat} {rb : Nat} {ob : Nat} {bL : Nat → Nat} {bR : Nat → Nat} {td : Nat} {tp : Nat → Nat} {wn : Nat} {tx : Nat → Nat} {q : Nat} (hF : FxM p s m args meth c G cM0_times 3 none RM0 wsM0_times) (hlf : dlm lf 330) (hrt : dlm rt 330) (hlb : lb ≤ 1) (hrb : rb ≤ 1) (hL : dl lf 330 < 2 ^ 512) (hR : dl rt 330 < 2 ^ 512) (hq : q < 160) (K : ∀ (g : Nat → Nat) (Hc : Heap), dlm g 330 → dl g 330 = dl lf 330 * (dl rt 330 / 10 ^ q) → SM G b0 o ad H th dg bw lm lf rt g rs lb rb ob bL bR td tp wn tx Hc → ∀ (locs : List Loc) (ls : Array Slot), lcs b0 locs → lv_has ls 3 [(0, .ref o), (1, .int (nI q))] → W p l e ({ frames := 1, cells := 0, slots := 0, locals := 25 } : Room) s m args below meth c Hc locs 0 0 (MQ below (QcV (fun H1 => ∃ g : Nat → Nat, dlm g 330 ∧ dl g 330 = dl lf 330 * dl rt 330 ∧ SM G b0 o ad H th dg bw lm lf rt g rs lb rb ((if lb = rb then 0 else 1)) bL bR td tp wn tx H1)) args s 0 0 (fre b0)) (F0 m 54 ls [])) : ∀ (z : Nat) (n : Nat) (g : Nat → Nat) (Hc : Heap), n + z = rt q → dlm g 330 → dl g 330 = dl lf 330 * (10 * (dl rt 330 / 10 ^ (q + 1)) + n) → SM G b0 o ad H th dg bw lm lf rt g rs lb rb ob bL bR td tp wn tx Hc → ∀ (locs : List Loc) (ls : Array Slot), lcs b0 locs → lv_has ls 3 [(0, .ref o), (1, .int (nI q)), (2, .int (nI n))] → W p l e ({ frames := 1, cells := 0, slots := 0, locals := 25 } : Room) s m args below meth c Hc locs 0 0 (MQ below (QcV (fun H1 => ∃ g : Nat → Nat, dlm g 330 ∧ dl g 330 = dl lf 330 * dl rt 330 ∧ SM G b0 o ad H th dg bw lm lf rt g rs lb rb ((if lb = rb then 0 else 1)) bL bR td tp wn tx H1)) args s 0 0 (fre b0)) (F0 m 27 ls []) := by
  obtain ⟨hx, hb, hr, hml, hown, hts, hlocks, hK⟩ := id hF
  intro z
  induction z with
  | zero =>
    intro n g Hc hn hg hv hS locs ls hLc hl
    have hrq := hrt q (by omega)
    refine lv_iload_n hx hb dM0_times_27 rfl (lv_at hl 2 rfl) ?_
    refine lv_aload_n hx hb dM0_times_28 rfl (lv_at hl 0 rfl) ?_
    refine va_get (D := G.1) (ci := 1) (v := .ref (ad 4)) (C := RM0) (T := TM0) (N := 17) hx hb hts hwsM0_times hown hK hS.w.ob 0 rfl rfl 5 (by decide) (hts (.fieldLink RM0 23 "ExactNumbersModel" "right" "[I") (by decide +kernel)) (fun _ h9 => h9) rfl dM0_times_29 ?_
    refine lv_iload_n hx hb dM0_times_32 rfl (lv_at hl 1 rfl) ?_
    refine m_nald (n := 330) (f := rt) hx hb hK (hS.w.get 4 (by decide)) (by omega) (by decide) dM0_times_33 ?_
    refine lv_icmp_ge (tgt := 54) hx hb dM0_times_34 (by decide) (fun _ => ?_) (fun h => absurd (nI_le (by omega) (by omega)) h)
    exact K g _ hg (by rw [hv, dv10 (dl rt 330) q, dl_dig hrt (show q < 330 by omega), show n = rt q by omega]) hS _ _ hLc (lv_sub hl [0, 1] rfl)
  | succ z ih =>
    intro n g Hc hn hg hv hS locs ls hLc hl
    have hrq := hrt q (by omega)
    refine lv_iload_n hx hb dM0_times_27 rfl (lv_at hl 2 rfl) ?_
    refine lv_aload_n hx hb dM0_times_28 rfl (lv_at hl 0 rfl) ?_
    refine va_get (D := G.1) (ci := 1) (v := .ref (ad 4)) (C := RM0) (T := TM0) (N := 17) hx hb hts hwsM0_times hown hK hS.w.ob 0 rfl rfl 5 (by decide) (hts (.fieldLink RM0 23 "ExactNumbersModel" "right" "[I") (by decide +kernel)) (fun _ h9 => h9) rfl dM0_times_29 ?_
    refine lv_iload_n hx hb dM0_times_32 rfl (lv_at hl 1 rfl) ?_
    refine m_nald (n := 330) (f := rt) hx hb hK (hS.w.get 4 (by decide)) (by omega) (by decide) dM0_times_33 ?_
    refine lv_icmp_ge (tgt := 54) hx hb dM0_times_34 (by decide) (fun h => absurd h (nI_ge (by omega) (by omega))) (fun _ => ?_)
    refine lv_aload_n hx hb dM0_times_37 rfl (lv_at hl 0 rfl) ?_
    refine va_get (D := G.1) (ci := 1) (v := .ref (ad 5)) (C := RM0) (T := TM0) (N := 17) hx hb hts hwsM0_times hown hK hS.w.ob 0 rfl rfl 6 (by decide) (hts (.fieldLink RM0 26 "ExactNumbersModel" "out" "[I") (by decide +kernel)) (fun _ h9 => h9) rfl dM0_times_38 ?_
    refine lv_aload_n hx hb dM0_times_41 rfl (lv_at hl 0 rfl) ?_
    refine va_get (D := G.1) (ci := 1) (v := .ref (ad 3)) (C := RM0) (T := TM0) (N := 17) hx hb hts hwsM0_times hown hK hS.w.ob 0 rfl rfl 4 (by decide) (hts (.fieldLink RM0 20 "ExactNumbersModel" "left" "[I") (by decide +kernel)) (fun _ h9 => h9) rfl dM0_times_42 ?_
    refine mc_v0 (va_runS (As := [.ref (ad 5), .ref (ad 3)]) (rest := []) ⟨hx, hb, hml, hown, hts⟩ (c_M0_add l G b0 Hc (hS.w.get 5 (by decide)) (hS.w.get 3 (by decide)) hg hlf (hS.w.ne (i := 3) (j := 5) (by decide) (by decide) (by decide)) (hS.w.b 5 (by decide))) (va_cwS 2 hts gM0_times_M0_add rfl rfl rfl (by decide +kernel) ⟨Nat.le_of_ble_eq_true rfl, Nat.le_of_ble_eq_true rfl⟩) (mp_S hK) rfl rfl hl.1 rfl (lv_room (Nat.le_of_ble_eq_true rfl)) dM0_times_45 ⟨Nat.le_of_ble_eq_true rfl, Nat.le_of_ble_eq_true rfl⟩) hLc (fun H1 locs hP hLc => ?_)
    obtain ⟨g3, c2, hg3, hvg3, rfl⟩ := hP
    have hS := hS.p_ou g3
    generalize hput Hc (ad 5) (aN G 330 g3) = Hc at hS ⊢
    have hv3 : dl g3 330 = dl lf 330 * (10 * (dl rt 330 / 10 ^ (q + 1)) + (n + 1)) := by rw [hv] at hvg3; exact times_step hL hR (by omega) hvg3
    refine lv_iinc (v := nI (n + 1)) (lv' := [(2, .int (nI (n + 1))), (0, .ref o), (1, .int (nI q))]) hx hb dM0_times_48 hl (k := 2) rfl (nI_add n 1) (by decide) rfl (fun ls hl => ?_)
    refine lv_goto (tgt := 27) hx hb dM0_times_51 (by decide) ?_
    exact ih (n + 1) g3 _ (by omega) hg3 hv3 hS _ _ hLc (lv_sub hl [1, 2, 0] rfl)
set_option maxRecDepth 100000 in
set_option maxHeartbeats 4000000 in
theorem times_11 {p : Program} {l : Launch} {e : Env} {s : State} {m : MethodId} {args : Array Value} {below : List Frame} {meth : Method} {c : Code} {G : gG} {b0 : Nat} {H : Heap} {o : Nat} {ad : Nat → Nat} {th : Nat} {dg : Nat → Nat} {bw : Nat → Nat} {lm : Nat → Nat} {lf : Nat → Nat} {rt : Nat → Nat} {ou : Nat → Nat} {rs : Nat → Nat} {lb : Nat} {rb : Nat} {ob : Nat} {bL : Nat → Nat} {bR : Nat → Nat} {td : Nat} {tp : Nat → Nat} {wn : Nat} {tx : Nat → Nat} (hF : FxM p s m args meth c G cM0_times 3 none RM0 wsM0_times) (hlf : dlm lf 330) (hrt : dlm rt 330) (hlb : lb ≤ 1) (hrb : rb ≤ 1) (hL : dl lf 330 < 2 ^ 512) (hR : dl rt 330 < 2 ^ 512) : ∀ (q : Nat) (g : Nat → Nat) (Hc : Heap), q ≤ 160 → dlm g 330 → dl g 330 = dl lf 330 * (dl rt 330 / 10 ^ q) → SM G b0 o ad H th dg bw lm lf rt g rs lb rb ob bL bR td tp wn tx Hc → ∀ (locs : List Loc) (ls : Array Slot), lcs b0 locs → lv_has ls 3 [(0, .ref o), (1, .int (nI q - 1))] → W p l e ({ frames := 1, cells := 0, slots := 0, locals := 25 } : Room) s m args below meth c Hc locs 0 0 (MQ below (QcV (fun H1 => ∃ g : Nat → Nat, dlm g 330 ∧ dl g 330 = dl lf 330 * dl rt 330 ∧ SM G b0 o ad H th dg bw lm lf rt g rs lb rb ((if lb = rb then 0 else 1)) bL bR td tp wn tx H1)) args s 0 0 (fre b0)) (F0 m 11 ls []) := by
  obtain ⟨hx, hb, hr, hml, hown, hts, hlocks, hK⟩ := id hF
  intro q
  induction q with
  | zero =>
    intro g Hc hq hg hv hS locs ls hLc hl
    rw [Nat.pow_zero, Nat.div_one] at hv
    refine lv_iload_n hx hb dM0_times_11 rfl (lv_at hl 1 rfl) ?_
    refine lv_if_lt (tgt := 60) hx hb dM0_times_12 (by decide) (fun _ => ?_) (fun h => absurd (by decide) h)
    refine lv_aload_n hx hb dM0_times_60 rfl (lv_at hl 0 rfl) ?_
    refine lv_aload_n hx hb dM0_times_61 rfl (lv_at hl 0 rfl) ?_
    refine va_get (D := G.1) (ci := 1) (v := .int (nI lb)) (C := RM0) (T := TM0) (N := 17) hx hb hts hwsM0_times hown hK hS.w.ob 0 rfl rfl 8 (by decide) (hts (.fieldLink RM0 64 "ExactNumbersModel" "leftBelow" "Z") (by decide +kernel)) (fun _ h9 => h9) rfl dM0_times_62 ?_
    refine lv_aload_n hx hb dM0_times_65 rfl (lv_at hl 0 rfl) ?_
    refine va_get (D := G.1) (ci := 1) (v := .int (nI rb)) (C := RM0) (T := TM0) (N := 17) hx hb hts hwsM0_times hown hK hS.w.ob 0 rfl rfl 9 (by decide) (hts (.fieldLink RM0 68 "ExactNumbersModel" "rightBelow" "Z") (by decide +kernel)) (fun _ h9 => h9) rfl dM0_times_66 ?_
    refine m_icmp_eq (tgt := 76) hx hb (by omega) (by omega) dM0_times_69 (by decide) (fun c69 => ?_) (fun c69 => ?_)
    · skip
      refine lv_iconst (v := nI 0) hx hb dM0_times_76 (by decide) ?_
      refine m_put (C := RM0) (T := TM0) (N := 17) (ci := 1) (ty := .boolean) (b0 := b0) hx hb hts hwsM0_times tyM0 tyM0_ok nmM0 hown hK hS.w.ob rfl 10 (by decide) (hts (.fieldLink RM0 75 "ExactNumbersModel" "outBelow" "Z") (by decide +kernel)) rfl (by decide +kernel) (nar_z (by decide)) (fit_z (by decide)) (Nat.le_of_ble_eq_true rfl) hS.w.bo hLc dM0_times_77 (fun Hc2 locs hO hsz hq hLc => ?_)
      have hS := hS.f_ob hO hsz hq
      clear hO hsz hq
      obtain ⟨Hc, rfl⟩ : ∃ Hz, Hz = Hc2 := ⟨_, rfl⟩
      exact m_vret hx hb hr hlocks hLc dM0_times_80 (⟨g, hg, hv, by rw [if_pos c69]; exact hS⟩)
    · skip
      refine lv_iconst (v := nI 1) hx hb dM0_times_72 (by decide) ?_
      refine lv_goto (tgt := 77) hx hb dM0_times_73 (by decide) ?_
      refine m_put (C := RM0) (T := TM0) (N := 17) (ci := 1) (ty := .boolean) (b0 := b0) hx hb hts hwsM0_times tyM0 tyM0_ok nmM0 hown hK hS.w.ob rfl 10 (by decide) (hts (.fieldLink RM0 75 "ExactNumbersModel" "outBelow" "Z") (by decide +kernel)) rfl (by decide +kernel) (nar_z (by decide)) (fit_z (by decide)) (Nat.le_of_ble_eq_true rfl) hS.w.bo hLc dM0_times_77 (fun Hc2 locs hO hsz hq hLc => ?_)
      have hS := hS.f_ob hO hsz hq
      clear hO hsz hq
      obtain ⟨Hc, rfl⟩ : ∃ Hz, Hz = Hc2 := ⟨_, rfl⟩
      exact m_vret hx hb hr hlocks hLc dM0_times_80 (⟨g, hg, hv, by rw [if_neg c69]; exact hS⟩)
  | succ q ih =>
    intro g Hc hq hg hv hS locs ls hLc hl
    rw [nI_pred] at hl
    refine lv_iload_n hx hb dM0_times_11 rfl (lv_at hl 1 rfl) ?_
    refine lv_if_lt (tgt := 60) hx hb dM0_times_12 (by decide) (fun h => absurd h (nI_pos (by omega))) (fun _ => ?_)
    refine lv_aload_n hx hb dM0_times_15 rfl (lv_at hl 0 rfl) ?_
    refine va_get (D := G.1) (ci := 1) (v := .ref (ad 5)) (C := RM0) (T := TM0) (N := 17) hx hb hts hwsM0_times hown hK hS.w.ob 0 rfl rfl 6 (by decide) (hts (.fieldLink RM0 26 "ExactNumbersModel" "out" "[I") (by decide +kernel)) (fun _ h9 => h9) rfl dM0_times_16 ?_
    refine lv_bipush (v := nI 10) hx hb dM0_times_19 (by decide) ?_
    refine lv_iconst (v := nI 0) hx hb dM0_times_21 (by decide) ?_
    refine mc_v0 (va_runS (As := [.ref (ad 5), .int (nI 10), .int (nI 0)]) (rest := []) ⟨hx, hb, hml, hown, hts⟩ (c_M0_grow l G b0 Hc (hS.w.get 5 (by decide)) hg (hS.w.b 5 (by decide)) (by decide) (by decide)) (va_cwS 3 hts gM0_times_M0_grow rfl rfl rfl (by decide +kernel) ⟨Nat.le_of_ble_eq_true rfl, Nat.le_of_ble_eq_true rfl⟩) (mp_S hK) rfl rfl hl.1 rfl (lv_room (Nat.le_of_ble_eq_true rfl)) dM0_times_22 ⟨Nat.le_of_ble_eq_true rfl, Nat.le_of_ble_eq_true rfl⟩) hLc (fun H1 locs hP hLc => ?_)
    obtain ⟨g2, c2, hg2, hvg2, rfl⟩ := hP
    have hS := hS.p_ou g2
    generalize hput Hc (ad 5) (aN G 330 g2) = Hc at hS ⊢
    have hv2 : dl g2 330 = dl lf 330 * (10 * (dl rt 330 / 10 ^ (q + 1))) := by rw [hv] at hvg2; exact times_ten hL hR hvg2
    refine lv_iconst (v := nI 0) hx hb dM0_times_25 (by decide) ?_
    refine lv_istore_n (lv' := [(2, .int (nI 0)), (0, .ref o), (1, .int (nI q))]) hx hb dM0_times_26 rfl hl (by decide) rfl (fun ls hl => ?_)
    refine times_27 (ou := ou) (l := l) (e := e) (below := below) hF hlf hrt hlb hrb hL hR (by omega) ?_ (rt q) 0 g2 _ (by omega) hg2 (by rw [Nat.add_zero]; exact hv2) hS _ _ hLc (lv_sub hl [1, 2, 0] rfl)
    intro g Hc hg hv hS locs ls hLc hl
    refine lv_iinc (v := nI q - 1) (lv' := [(1, .int (nI q - 1)), (0, .ref o)]) hx hb dM0_times_54 hl (k := 1) rfl (nI_decI _) (by decide) rfl (fun ls hl => ?_)
    refine lv_goto (tgt := 11) hx hb dM0_times_57 (by decide) ?_
    exact ih g _ (by omega) hg hv hS _ _ hLc (lv_sub hl [1, 0] rfl)
set_option maxRecDepth 100000 in
set_option maxHeartbeats 4000000 in
theorem c_M0_times (l : Launch) (G : gG) (b0 : Nat) (H : Heap) {o : Nat} {ad : Nat → Nat} {th : Nat} {dg : Nat → Nat} {bw : Nat → Nat} {lm : Nat → Nat} {lf : Nat → Nat} {rt : Nat → Nat} {ou : Nat → Nat} {rs : Nat → Nat} {lb : Nat} {rb : Nat} {ob : Nat} {bL : Nat → Nat} {bR : Nat → Nat} {td : Nat} {tp : Nat → Nat} {wn : Nat} {tx : Nat → Nat} (hS : SM G b0 o ad H th dg bw lm lf rt ou rs lb rb ob bL bR td tp wn tx H) (hlf : dlm lf 330) (hrt : dlm rt 330) (hlb : lb ≤ 1) (hrb : rb ≤ 1) (hL : dl lf 330 < 2 ^ 512) (hR : dl rt 330 < 2 ^ 512) : Met l yM0_times wsM0_times ({ frames := 1, cells := 0, slots := 0, locals := 25 } : Room) (PcH G H [.ref o]) (QcV (fun H1 => ∃ g : Nat → Nat, dlm g 330 ∧ dl g 330 = dl lf 330 * dl rt 330 ∧ SM G b0 o ad H th dg bw lm lf rt g rs lb rb ((if lb = rb then 0 else 1)) bL bR td tp wn tx H1)) 0 0 (fre b0) := by
  refine m_enter (cc := cM0_times) (maxL := 3) (ret := none) (own := RM0) (by decide) rfl rfl (Nat.le_of_ble_eq_true rfl) ?_
  intro p e s m below meth c ls hF hnm hH hl
  have hl : lv_has ls 3 [(0, .ref o)] := hl
  have hLc : lcs b0 [] := lcs_nil b0
  obtain ⟨hx, hb, hr, hml, hown, hts, hlocks, hK⟩ := id hF
  refine lv_aload_n hx hb dM0_times_0 rfl (lv_at hl 0 rfl) ?_
  refine va_get (D := G.1) (ci := 1) (v := .ref (ad 5)) (C := RM0) (T := TM0) (N := 17) hx hb hts hwsM0_times hown hK hS.w.ob 0 rfl rfl 6 (by decide) (hts (.fieldLink RM0 26 "ExactNumbersModel" "out" "[I") (by decide +kernel)) (fun _ h9 => h9) rfl dM0_times_1 ?_
  refine mc_v0 (va_runS (As := [.ref (ad 5)]) (rest := []) ⟨hx, hb, hml, hown, hts⟩ (c_M0_clear l G b0 H (hS.w.get 5 (by decide)) (hS.w.b 5 (by decide))) (va_cwS 1 hts gM0_times_M0_clear rfl rfl rfl (by decide +kernel) ⟨Nat.le_of_ble_eq_true rfl, Nat.le_of_ble_eq_true rfl⟩) (mp_S hK) rfl rfl hl.1 rfl (lv_room (Nat.le_of_ble_eq_true rfl)) dM0_times_4 ⟨Nat.le_of_ble_eq_true rfl, Nat.le_of_ble_eq_true rfl⟩) hLc (fun H1 locs hP hLc => ?_)
  subst hP
  have hS := hS.p_ou (fun _ => 0)
  generalize hput H (ad 5) (aN G 330 (fun _ => 0)) = Hc at hS ⊢
  refine lv_sipush (v := 159) hx hb dM0_times_7 (by decide) ?_
  refine lv_istore_n (lv' := [(1, .int 159), (0, .ref o)]) hx hb dM0_times_10 rfl hl (by decide) rfl (fun ls hl => ?_)
  rw [show (159 : Int32) = nI 160 - 1 from by decide] at hl
  exact times_11 (ou := ou) hF hlf hrt hlb hrb hL hR 160 _ _ (Nat.le_refl 160) (fun j _ => by decide) (by rw [dl0, Nat.div_eq_of_lt (Nat.lt_trans hR p160), Nat.mul_zero]) hS _ _ hLc (lv_sub hl [1, 0] rfl)

set_option maxRecDepth 100000 in
set_option maxHeartbeats 4000000 in
theorem divide_47 {p : Program} {l : Launch} {e : Env} {s : State} {m : MethodId} {args : Array Value} {below : List Frame} {meth : Method} {c : Code} {G : gG} {b0 : Nat} {H : Heap} {o : Nat} {ad : Nat → Nat} {th : Nat} {dg : Nat → Nat} {bw : Nat → Nat} {lm : Nat → Nat} {lf : Nat → Nat} {rt : Nat → Nat} {ou : Nat → Nat} {rs : Nat → Nat} {lb : Nat} {rb : Nat} {ob : Nat} {bL : Nat → Nat} {bR : Nat → Nat} {td : Nat} {tp : Nat → Nat} {wn : Nat} {tx : Nat → Nat} {q N R0 : Nat} (hF : FxM p s m args meth c G cM0_divide 2 none RM0 wsM0_divide) (hlf : dlm lf 330) (hrt : dlm rt 330) (hlb : lb ≤ 1) (hrb : rb ≤ 1) (hL : dl lf 330 < 2 ^ 512) (hR : dl rt 330 < 2 ^ 512) (hR0 : 0 < dl rt 330) (hR10 : R0 < 10 * dl rt 330) (hN : N * 10 ≤ dl lf 330) (K : ∀ (g r : Nat → Nat) (Hc : Heap) (n : Nat), dlm g 330 → dlm r 330 → dl g 330 = 10 * N + n → dl r 330 + n * dl rt 330 = R0 → dl r 330 < dl rt 330 → SM G b0 o ad H th dg bw lm lf rt g r lb rb ob bL bR td tp wn tx Hc → ∀ (locs : List Loc) (ls : Array Slot), lcs b0 locs → lv_has ls 2 [(0, .ref o), (1, .int (nI q))] → W p l e ({ frames := 1, cells := 0, slots := 0, locals := 25 } : Room) s m args below meth c Hc locs 0 0 (MQ below (QcV (fun H1 => ∃ g r : Nat → Nat, dlm g 330 ∧ dlm r 330 ∧ dl g 330 = dl lf 330 / dl rt 330 ∧ dl r 330 = dl lf 330 % dl rt 330 ∧ SM G b0 o ad H th dg bw lm lf rt g r lb rb ((if lb = rb then 0 else 1)) bL bR td tp wn tx H1)) args s 0 0 (fre b0)) (F0 m 85 ls [])) : ∀ (z : Nat) (n : Nat) (g r : Nat → Nat) (Hc : Heap), n + z = 9 → dlm g 330 → dlm r 330 → g 0 = n → dl g 330 = 10 * N + n → dl r 330 + n * dl rt 330 = R0 → SM G b0 o ad H th dg bw lm lf rt g r lb rb ob bL bR td tp wn tx Hc → ∀ (locs : List Loc) (ls : Array Slot), lcs b0 locs → lv_has ls 2 [(0, .ref o), (1, .int (nI q))] → W p l e ({ frames := 1, cells := 0, slots := 0, locals := 25 } : Room) s m args below meth c Hc locs 0 0 (MQ below (QcV (fun H1 => ∃ g r : Nat → Nat, dlm g 330 ∧ dlm r 330 ∧ dl g 330 = dl lf 330 / dl rt 330 ∧ dl r 330 = dl lf 330 % dl rt 330 ∧ SM G b0 o ad H th dg bw lm lf rt g r lb rb ((if lb = rb then 0 else 1)) bL bR td tp wn tx H1)) args s 0 0 (fre b0)) (F0 m 47 ls []) := by
  obtain ⟨hx, hb, hr, hml, hown, hts, hlocks, hK⟩ := id hF
  intro z
  induction z with
  | zero =>
    intro n g r Hc hn hg hrr hg0 hv hw hS locs ls hLc hl
    have hn9 : n = 9 := by omega
    rw [hn9] at hw
    refine lv_aload_n hx hb dM0_divide_47 rfl (lv_at hl 0 rfl) ?_
    refine va_get (D := G.1) (ci := 1) (v := .ref (ad 6)) (C := RM0) (T := TM0) (N := 17) hx hb hts hwsM0_divide hown hK hS.w.ob 0 rfl rfl 7 (by decide) (hts (.fieldLink RM0 29 "ExactNumbersModel" "rest" "[I") (by decide +kernel)) (fun _ h9 => h9) rfl dM0_divide_48 ?_
    refine lv_aload_n hx hb dM0_divide_51 rfl (lv_at hl 0 rfl) ?_
    refine va_get (D := G.1) (ci := 1) (v := .ref (ad 4)) (C := RM0) (T := TM0) (N := 17) hx hb hts hwsM0_divide hown hK hS.w.ob 0 rfl rfl 5 (by decide) (hts (.fieldLink RM0 23 "ExactNumbersModel" "right" "[I") (by decide +kernel)) (fun _ h9 => h9) rfl dM0_divide_52 ?_
    refine mc_i0 (va_runS (As := [.ref (ad 6), .ref (ad 4)]) (rest := []) ⟨hx, hb, hml, hown, hts⟩ (c_M0_order l G b0 Hc (hS.w.get 6 (by decide)) (hS.w.get 4 (by decide)) hrr hrt) (va_cwS 2 hts gM0_divide_M0_order rfl rfl rfl (by decide +kernel) ⟨Nat.le_of_ble_eq_true rfl, Nat.le_of_ble_eq_true rfl⟩) (mp_S hK) rfl rfl hl.1 rfl (lv_room (Nat.le_of_ble_eq_true rfl)) dM0_divide_55 ⟨Nat.le_of_ble_eq_true rfl, Nat.le_of_ble_eq_true rfl⟩) hLc (fun r H1 locs hP hLc => ?_)
    obtain ⟨hP, rfl⟩ := hP
    rcases hP with ⟨hor, rfl⟩ | ⟨hor, rfl⟩ | ⟨hor, rfl⟩
    · skip
      refine lv_if_lt (tgt := 85) hx hb dM0_divide_58 (by decide) (fun _ => ?_) (fun h => absurd (by decide) h)
      exact K g r _ n hg hrr hv (by rw [hn9]; exact hw) hor hS _ _ hLc (lv_sub hl [0, 1] rfl)
    · skip
      omega
    · skip
      omega
  | succ z ih =>
    intro n g r Hc hn hg hrr hg0 hv hw hS locs ls hLc hl
    refine lv_aload_n hx hb dM0_divide_47 rfl (lv_at hl 0 rfl) ?_
    refine va_get (D := G.1) (ci := 1) (v := .ref (ad 6)) (C := RM0) (T := TM0) (N := 17) hx hb hts hwsM0_divide hown hK hS.w.ob 0 rfl rfl 7 (by decide) (hts (.fieldLink RM0 29 "ExactNumbersModel" "rest" "[I") (by decide +kernel)) (fun _ h9 => h9) rfl dM0_divide_48 ?_
    refine lv_aload_n hx hb dM0_divide_51 rfl (lv_at hl 0 rfl) ?_
    refine va_get (D := G.1) (ci := 1) (v := .ref (ad 4)) (C := RM0) (T := TM0) (N := 17) hx hb hts hwsM0_divide hown hK hS.w.ob 0 rfl rfl 5 (by decide) (hts (.fieldLink RM0 23 "ExactNumbersModel" "right" "[I") (by decide +kernel)) (fun _ h9 => h9) rfl dM0_divide_52 ?_
    refine mc_i0 (va_runS (As := [.ref (ad 6), .ref (ad 4)]) (rest := []) ⟨hx, hb, hml, hown, hts⟩ (c_M0_order l G b0 Hc (hS.w.get 6 (by decide)) (hS.w.get 4 (by decide)) hrr hrt) (va_cwS 2 hts gM0_divide_M0_order rfl rfl rfl (by decide +kernel) ⟨Nat.le_of_ble_eq_true rfl, Nat.le_of_ble_eq_true rfl⟩) (mp_S hK) rfl rfl hl.1 rfl (lv_room (Nat.le_of_ble_eq_true rfl)) dM0_divide_55 ⟨Nat.le_of_ble_eq_true rfl, Nat.le_of_ble_eq_true rfl⟩) hLc (fun r H1 locs hP hLc => ?_)
    obtain ⟨hP, rfl⟩ := hP
    rcases hP with ⟨hor, rfl⟩ | ⟨hor, rfl⟩ | ⟨hor, rfl⟩
    · skip
      refine lv_if_lt (tgt := 85) hx hb dM0_divide_58 (by decide) (fun _ => ?_) (fun h => absurd (by decide) h)
      exact K g r _ n hg hrr hv hw hor hS _ _ hLc (lv_sub hl [0, 1] rfl)
    · skip
      refine lv_if_lt (tgt := 85) hx hb dM0_divide_58 (by decide) (fun h => absurd h (by decide)) (fun _ => ?_)
      refine lv_aload_n hx hb dM0_divide_61 rfl (lv_at hl 0 rfl) ?_
      refine va_get (D := G.1) (ci := 1) (v := .ref (ad 6)) (C := RM0) (T := TM0) (N := 17) hx hb hts hwsM0_divide hown hK hS.w.ob 0 rfl rfl 7 (by decide) (hts (.fieldLink RM0 29 "ExactNumbersModel" "rest" "[I") (by decide +kernel)) (fun _ h9 => h9) rfl dM0_divide_62 ?_
      refine lv_aload_n hx hb dM0_divide_65 rfl (lv_at hl 0 rfl) ?_
      refine va_get (D := G.1) (ci := 1) (v := .ref (ad 4)) (C := RM0) (T := TM0) (N := 17) hx hb hts hwsM0_divide hown hK hS.w.ob 0 rfl rfl 5 (by decide) (hts (.fieldLink RM0 23 "ExactNumbersModel" "right" "[I") (by decide +kernel)) (fun _ h9 => h9) rfl dM0_divide_66 ?_
      refine mc_v0 (va_runS (As := [.ref (ad 6), .ref (ad 4)]) (rest := []) ⟨hx, hb, hml, hown, hts⟩ (c_M0_subtract l G b0 Hc (hS.w.get 6 (by decide)) (hS.w.get 4 (by decide)) hrr hrt (hS.w.ne (i := 4) (j := 6) (by decide) (by decide) (by decide)) (hS.w.b 6 (by decide))) (va_cwS 2 hts gM0_divide_M0_subtract rfl rfl rfl (by decide +kernel) ⟨Nat.le_of_ble_eq_true rfl, Nat.le_of_ble_eq_true rfl⟩) (mp_S hK) rfl rfl hl.1 rfl (lv_room (Nat.le_of_ble_eq_true rfl)) dM0_divide_69 ⟨Nat.le_of_ble_eq_true rfl, Nat.le_of_ble_eq_true rfl⟩) hLc (fun H1 locs hP hLc => ?_)
      obtain ⟨r3, c2, hr3, hv3, rfl⟩ := hP
      have hS := hS.p_rs r3
      generalize hput Hc (ad 6) (aN G 330 r3) = Hc at hS ⊢
      have hv3 := no_borrow hv3 (dl_lt hr3) (by omega)
      refine lv_aload_n hx hb dM0_divide_72 rfl (lv_at hl 0 rfl) ?_
      refine va_get (D := G.1) (ci := 1) (v := .ref (ad 5)) (C := RM0) (T := TM0) (N := 17) hx hb hts hwsM0_divide hown hK hS.w.ob 0 rfl rfl 6 (by decide) (hts (.fieldLink RM0 26 "ExactNumbersModel" "out" "[I") (by decide +kernel)) (fun _ h9 => h9) rfl dM0_divide_73 ?_
      refine lv_iconst (v := nI 0) hx hb dM0_divide_76 (by decide) ?_
      refine lv_dup2_11 hx hb dM0_divide_77 rfl rfl ?_
      refine m_nald (n := 330) (f := g) hx hb hK (hS.w.get 5 (by decide)) (by omega) (by decide) dM0_divide_78 ?_
      refine lv_iconst (v := nI 1) hx hb dM0_divide_79 (by decide) ?_
      refine m_iadd (a := g 0) (b := 1) hx hb dM0_divide_80 ?_
      refine m_nast (n := 330) (f := g) (b0 := b0) hx hb hK (hS.w.get 5 (by decide)) (by decide) (by decide) (hS.w.b 5 (by decide)) hLc dM0_divide_81 (fun locs hLc => ?_)
      have hS := hS.p_ou (fup g 0 ((g 0) + 1))
      generalize hput Hc (ad 5) (aN G 330 (fup g 0 ((g 0) + 1))) = Hc at hS ⊢
      refine lv_goto (tgt := 47) hx hb dM0_divide_82 (by decide) ?_
      exact ih (n + 1) _ r3 _ (by omega) (dlm_fup hg (by omega)) hr3 (by rw [fup_s]; omega) (inc0 hv) (div_step hv3 hw) hS _ _ hLc (lv_sub hl [0, 1] rfl)
    · skip
      refine lv_if_lt (tgt := 85) hx hb dM0_divide_58 (by decide) (fun h => absurd h (by decide)) (fun _ => ?_)
      refine lv_aload_n hx hb dM0_divide_61 rfl (lv_at hl 0 rfl) ?_
      refine va_get (D := G.1) (ci := 1) (v := .ref (ad 6)) (C := RM0) (T := TM0) (N := 17) hx hb hts hwsM0_divide hown hK hS.w.ob 0 rfl rfl 7 (by decide) (hts (.fieldLink RM0 29 "ExactNumbersModel" "rest" "[I") (by decide +kernel)) (fun _ h9 => h9) rfl dM0_divide_62 ?_
      refine lv_aload_n hx hb dM0_divide_65 rfl (lv_at hl 0 rfl) ?_
      refine va_get (D := G.1) (ci := 1) (v := .ref (ad 4)) (C := RM0) (T := TM0) (N := 17) hx hb hts hwsM0_divide hown hK hS.w.ob 0 rfl rfl 5 (by decide) (hts (.fieldLink RM0 23 "ExactNumbersModel" "right" "[I") (by decide +kernel)) (fun _ h9 => h9) rfl dM0_divide_66 ?_
      refine mc_v0 (va_runS (As := [.ref (ad 6), .ref (ad 4)]) (rest := []) ⟨hx, hb, hml, hown, hts⟩ (c_M0_subtract l G b0 Hc (hS.w.get 6 (by decide)) (hS.w.get 4 (by decide)) hrr hrt (hS.w.ne (i := 4) (j := 6) (by decide) (by decide) (by decide)) (hS.w.b 6 (by decide))) (va_cwS 2 hts gM0_divide_M0_subtract rfl rfl rfl (by decide +kernel) ⟨Nat.le_of_ble_eq_true rfl, Nat.le_of_ble_eq_true rfl⟩) (mp_S hK) rfl rfl hl.1 rfl (lv_room (Nat.le_of_ble_eq_true rfl)) dM0_divide_69 ⟨Nat.le_of_ble_eq_true rfl, Nat.le_of_ble_eq_true rfl⟩) hLc (fun H1 locs hP hLc => ?_)
      obtain ⟨r3, c2, hr3, hv3, rfl⟩ := hP
      have hS := hS.p_rs r3
      generalize hput Hc (ad 6) (aN G 330 r3) = Hc at hS ⊢
      have hv3 := no_borrow hv3 (dl_lt hr3) (by omega)
      refine lv_aload_n hx hb dM0_divide_72 rfl (lv_at hl 0 rfl) ?_
      refine va_get (D := G.1) (ci := 1) (v := .ref (ad 5)) (C := RM0) (T := TM0) (N := 17) hx hb hts hwsM0_divide hown hK hS.w.ob 0 rfl rfl 6 (by decide) (hts (.fieldLink RM0 26 "ExactNumbersModel" "out" "[I") (by decide +kernel)) (fun _ h9 => h9) rfl dM0_divide_73 ?_
      refine lv_iconst (v := nI 0) hx hb dM0_divide_76 (by decide) ?_
      refine lv_dup2_11 hx hb dM0_divide_77 rfl rfl ?_
      refine m_nald (n := 330) (f := g) hx hb hK (hS.w.get 5 (by decide)) (by omega) (by decide) dM0_divide_78 ?_
      refine lv_iconst (v := nI 1) hx hb dM0_divide_79 (by decide) ?_
      refine m_iadd (a := g 0) (b := 1) hx hb dM0_divide_80 ?_
      refine m_nast (n := 330) (f := g) (b0 := b0) hx hb hK (hS.w.get 5 (by decide)) (by decide) (by decide) (hS.w.b 5 (by decide)) hLc dM0_divide_81 (fun locs hLc => ?_)
      have hS := hS.p_ou (fup g 0 ((g 0) + 1))
      generalize hput Hc (ad 5) (aN G 330 (fup g 0 ((g 0) + 1))) = Hc at hS ⊢
      refine lv_goto (tgt := 47) hx hb dM0_divide_82 (by decide) ?_
      exact ih (n + 1) _ r3 _ (by omega) (dlm_fup hg (by omega)) hr3 (by rw [fup_s]; omega) (inc0 hv) (div_step hv3 hw) hS _ _ hLc (lv_sub hl [0, 1] rfl)
set_option maxRecDepth 100000 in
set_option maxHeartbeats 4000000 in
theorem divide_18 {p : Program} {l : Launch} {e : Env} {s : State} {m : MethodId} {args : Array Value} {below : List Frame} {meth : Method} {c : Code} {G : gG} {b0 : Nat} {H : Heap} {o : Nat} {ad : Nat → Nat} {th : Nat} {dg : Nat → Nat} {bw : Nat → Nat} {lm : Nat → Nat} {lf : Nat → Nat} {rt : Nat → Nat} {ou : Nat → Nat} {rs : Nat → Nat} {lb : Nat} {rb : Nat} {ob : Nat} {bL : Nat → Nat} {bR : Nat → Nat} {td : Nat} {tp : Nat → Nat} {wn : Nat} {tx : Nat → Nat} (hF : FxM p s m args meth c G cM0_divide 2 none RM0 wsM0_divide) (hlf : dlm lf 330) (hrt : dlm rt 330) (hlb : lb ≤ 1) (hrb : rb ≤ 1) (hL : dl lf 330 < 2 ^ 512) (hR : dl rt 330 < 2 ^ 512) (hR0 : 0 < dl rt 330) : ∀ (q : Nat) (g r : Nat → Nat) (Hc : Heap), q ≤ 160 → dlm g 330 → dlm r 330 → dl g 330 = (dl lf 330 / 10 ^ q) / dl rt 330 → dl r 330 = (dl lf 330 / 10 ^ q) % dl rt 330 → SM G b0 o ad H th dg bw lm lf rt g r lb rb ob bL bR td tp wn tx Hc → ∀ (locs : List Loc) (ls : Array Slot), lcs b0 locs → lv_has ls 2 [(0, .ref o), (1, .int (nI q - 1))] → W p l e ({ frames := 1, cells := 0, slots := 0, locals := 25 } : Room) s m args below meth c Hc locs 0 0 (MQ below (QcV (fun H1 => ∃ g r : Nat → Nat, dlm g 330 ∧ dlm r 330 ∧ dl g 330 = dl lf 330 / dl rt 330 ∧ dl r 330 = dl lf 330 % dl rt 330 ∧ SM G b0 o ad H th dg bw lm lf rt g r lb rb ((if lb = rb then 0 else 1)) bL bR td tp wn tx H1)) args s 0 0 (fre b0)) (F0 m 18 ls []) := by
  obtain ⟨hx, hb, hr, hml, hown, hts, hlocks, hK⟩ := id hF
  intro q
  induction q with
  | zero =>
    intro g r Hc hq hg hrr hv hw hS locs ls hLc hl
    rw [Nat.pow_zero, Nat.div_one] at hv hw
    refine lv_iload_n hx hb dM0_divide_18 rfl (lv_at hl 1 rfl) ?_
    refine lv_if_lt (tgt := 91) hx hb dM0_divide_19 (by decide) (fun _ => ?_) (fun h => absurd (by decide) h)
    refine lv_aload_n hx hb dM0_divide_91 rfl (lv_at hl 0 rfl) ?_
    refine lv_aload_n hx hb dM0_divide_92 rfl (lv_at hl 0 rfl) ?_
    refine va_get (D := G.1) (ci := 1) (v := .int (nI lb)) (C := RM0) (T := TM0) (N := 17) hx hb hts hwsM0_divide hown hK hS.w.ob 0 rfl rfl 8 (by decide) (hts (.fieldLink RM0 64 "ExactNumbersModel" "leftBelow" "Z") (by decide +kernel)) (fun _ h9 => h9) rfl dM0_divide_93 ?_
    refine lv_aload_n hx hb dM0_divide_96 rfl (lv_at hl 0 rfl) ?_
    refine va_get (D := G.1) (ci := 1) (v := .int (nI rb)) (C := RM0) (T := TM0) (N := 17) hx hb hts hwsM0_divide hown hK hS.w.ob 0 rfl rfl 9 (by decide) (hts (.fieldLink RM0 68 "ExactNumbersModel" "rightBelow" "Z") (by decide +kernel)) (fun _ h9 => h9) rfl dM0_divide_97 ?_
    refine m_icmp_eq (tgt := 107) hx hb (by omega) (by omega) dM0_divide_100 (by decide) (fun c100 => ?_) (fun c100 => ?_)
    · skip
      refine lv_iconst (v := nI 0) hx hb dM0_divide_107 (by decide) ?_
      refine m_put (C := RM0) (T := TM0) (N := 17) (ci := 1) (ty := .boolean) (b0 := b0) hx hb hts hwsM0_divide tyM0 tyM0_ok nmM0 hown hK hS.w.ob rfl 10 (by decide) (hts (.fieldLink RM0 75 "ExactNumbersModel" "outBelow" "Z") (by decide +kernel)) rfl (by decide +kernel) (nar_z (by decide)) (fit_z (by decide)) (Nat.le_of_ble_eq_true rfl) hS.w.bo hLc dM0_divide_108 (fun Hc2 locs hO hsz hq hLc => ?_)
      have hS := hS.f_ob hO hsz hq
      clear hO hsz hq
      obtain ⟨Hc, rfl⟩ : ∃ Hz, Hz = Hc2 := ⟨_, rfl⟩
      exact m_vret hx hb hr hlocks hLc dM0_divide_111 (⟨g, r, hg, hrr, hv, hw, by rw [if_pos c100]; exact hS⟩)
    · skip
      refine lv_iconst (v := nI 1) hx hb dM0_divide_103 (by decide) ?_
      refine lv_goto (tgt := 108) hx hb dM0_divide_104 (by decide) ?_
      refine m_put (C := RM0) (T := TM0) (N := 17) (ci := 1) (ty := .boolean) (b0 := b0) hx hb hts hwsM0_divide tyM0 tyM0_ok nmM0 hown hK hS.w.ob rfl 10 (by decide) (hts (.fieldLink RM0 75 "ExactNumbersModel" "outBelow" "Z") (by decide +kernel)) rfl (by decide +kernel) (nar_z (by decide)) (fit_z (by decide)) (Nat.le_of_ble_eq_true rfl) hS.w.bo hLc dM0_divide_108 (fun Hc2 locs hO hsz hq hLc => ?_)
      have hS := hS.f_ob hO hsz hq
      clear hO hsz hq
      obtain ⟨Hc, rfl⟩ : ∃ Hz, Hz = Hc2 := ⟨_, rfl⟩
      exact m_vret hx hb hr hlocks hLc dM0_divide_111 (⟨g, r, hg, hrr, hv, hw, by rw [if_neg c100]; exact hS⟩)
  | succ q ih =>
    intro g r Hc hq hg hrr hv hw hS locs ls hLc hl
    rw [nI_pred] at hl
    have hlq := hlf q (by omega)
    have hmdl := Nat.mod_lt (dl lf 330 / 10 ^ (q + 1)) hR0
    have hR10 : 10 * ((dl lf 330 / 10 ^ (q + 1)) % dl rt 330) + lf q < 10 * dl rt 330 := by omega
    have hN10 : (dl lf 330 / 10 ^ (q + 1)) / dl rt 330 * 10 ≤ dl lf 330 := n10_le _ _ _
    refine lv_iload_n hx hb dM0_divide_18 rfl (lv_at hl 1 rfl) ?_
    refine lv_if_lt (tgt := 91) hx hb dM0_divide_19 (by decide) (fun h => absurd h (nI_pos (by omega))) (fun _ => ?_)
    refine lv_aload_n hx hb dM0_divide_22 rfl (lv_at hl 0 rfl) ?_
    refine va_get (D := G.1) (ci := 1) (v := .ref (ad 6)) (C := RM0) (T := TM0) (N := 17) hx hb hts hwsM0_divide hown hK hS.w.ob 0 rfl rfl 7 (by decide) (hts (.fieldLink RM0 29 "ExactNumbersModel" "rest" "[I") (by decide +kernel)) (fun _ h9 => h9) rfl dM0_divide_23 ?_
    refine lv_bipush (v := nI 10) hx hb dM0_divide_26 (by decide) ?_
    refine lv_aload_n hx hb dM0_divide_28 rfl (lv_at hl 0 rfl) ?_
    refine va_get (D := G.1) (ci := 1) (v := .ref (ad 3)) (C := RM0) (T := TM0) (N := 17) hx hb hts hwsM0_divide hown hK hS.w.ob 0 rfl rfl 4 (by decide) (hts (.fieldLink RM0 20 "ExactNumbersModel" "left" "[I") (by decide +kernel)) (fun _ h9 => h9) rfl dM0_divide_29 ?_
    refine lv_iload_n hx hb dM0_divide_32 rfl (lv_at hl 1 rfl) ?_
    refine m_nald (n := 330) (f := lf) hx hb hK (hS.w.get 3 (by decide)) (by omega) (by decide) dM0_divide_33 ?_
    refine mc_v0 (va_runS (As := [.ref (ad 6), .int (nI 10), .int (nI (lf q))]) (rest := []) ⟨hx, hb, hml, hown, hts⟩ (c_M0_grow l G b0 Hc (hS.w.get 6 (by decide)) hrr (hS.w.b 6 (by decide)) (by decide) (by omega)) (va_cwS 3 hts gM0_divide_M0_grow rfl rfl rfl (by decide +kernel) ⟨Nat.le_of_ble_eq_true rfl, Nat.le_of_ble_eq_true rfl⟩) (mp_S hK) rfl rfl hl.1 rfl (lv_room (Nat.le_of_ble_eq_true rfl)) dM0_divide_34 ⟨Nat.le_of_ble_eq_true rfl, Nat.le_of_ble_eq_true rfl⟩) hLc (fun H1 locs hP hLc => ?_)
    obtain ⟨r2, c2, hr2, hvr2, rfl⟩ := hP
    have hS := hS.p_rs r2
    generalize hput Hc (ad 6) (aN G 330 r2) = Hc at hS ⊢
    have hw2 : dl r2 330 = 10 * ((dl lf 330 / 10 ^ (q + 1)) % dl rt 330) + lf q := by rw [hw] at hvr2; exact (grow2 hvr2 (by omega)).trans (by rw [Nat.mul_comm])
    refine lv_aload_n hx hb dM0_divide_37 rfl (lv_at hl 0 rfl) ?_
    refine va_get (D := G.1) (ci := 1) (v := .ref (ad 5)) (C := RM0) (T := TM0) (N := 17) hx hb hts hwsM0_divide hown hK hS.w.ob 0 rfl rfl 6 (by decide) (hts (.fieldLink RM0 26 "ExactNumbersModel" "out" "[I") (by decide +kernel)) (fun _ h9 => h9) rfl dM0_divide_38 ?_
    refine lv_bipush (v := nI 10) hx hb dM0_divide_41 (by decide) ?_
    refine lv_iconst (v := nI 0) hx hb dM0_divide_43 (by decide) ?_
    refine mc_v0 (va_runS (As := [.ref (ad 5), .int (nI 10), .int (nI 0)]) (rest := []) ⟨hx, hb, hml, hown, hts⟩ (c_M0_grow l G b0 Hc (hS.w.get 5 (by decide)) hg (hS.w.b 5 (by decide)) (by decide) (by decide)) (va_cwS 3 hts gM0_divide_M0_grow rfl rfl rfl (by decide +kernel) ⟨Nat.le_of_ble_eq_true rfl, Nat.le_of_ble_eq_true rfl⟩) (mp_S hK) rfl rfl hl.1 rfl (lv_room (Nat.le_of_ble_eq_true rfl)) dM0_divide_44 ⟨Nat.le_of_ble_eq_true rfl, Nat.le_of_ble_eq_true rfl⟩) hLc (fun H1 locs hP hLc => ?_)
    obtain ⟨g2, c2, hg2, hvg2, rfl⟩ := hP
    have hS := hS.p_ou g2
    generalize hput Hc (ad 5) (aN G 330 g2) = Hc at hS ⊢
    have hv2 : dl g2 330 = 10 * ((dl lf 330 / 10 ^ (q + 1)) / dl rt 330) := by rw [hv, Nat.add_zero] at hvg2; exact (grow2 hvg2 (by omega)).trans (Nat.mul_comm _ _)
    have hg20 : g2 0 = 0 := by have h9 := dl_dig hg2 (show 0 < 330 by decide); rw [hv2, Nat.pow_zero, Nat.div_one] at h9; omega
    refine divide_47 (ou := ou) (rs := rs) (l := l) (e := e) (below := below) hF hlf hrt hlb hrb hL hR hR0 (N := (dl lf 330 / 10 ^ (q + 1)) / dl rt 330) (R0 := 10 * ((dl lf 330 / 10 ^ (q + 1)) % dl rt 330) + lf q) hR10 hN10 ?_ 9 0 g2 r2 _ (by omega) hg2 hr2 hg20 (by rw [Nat.add_zero]; exact hv2) (by rw [Nat.zero_mul, Nat.add_zero]; exact hw2) hS _ _ hLc (lv_sub hl [0, 1] rfl)
    intro g r Hc n hg hrr hv hw hrl hS locs ls hLc hl
    obtain ⟨hv, hw⟩ := div_done hlf (show q < 330 by omega) hv hw hrl
    refine lv_iinc (v := nI q - 1) (lv' := [(1, .int (nI q - 1)), (0, .ref o)]) hx hb dM0_divide_85 hl (k := 1) rfl (nI_decI _) (by decide) rfl (fun ls hl => ?_)
    refine lv_goto (tgt := 18) hx hb dM0_divide_88 (by decide) ?_
    exact ih g r _ (by omega) hg hrr hv hw hS _ _ hLc (lv_sub hl [1, 0] rfl)
set_option maxRecDepth 100000 in
set_option maxHeartbeats 4000000 in
theorem c_M0_divide (l : Launch) (G : gG) (b0 : Nat) (H : Heap) {o : Nat} {ad : Nat → Nat} {th : Nat} {dg : Nat → Nat} {bw : Nat → Nat} {lm : Nat → Nat} {lf : Nat → Nat} {rt : Nat → Nat} {ou : Nat → Nat} {rs : Nat → Nat} {lb : Nat} {rb : Nat} {ob : Nat} {bL : Nat → Nat} {bR : Nat → Nat} {td : Nat} {tp : Nat → Nat} {wn : Nat} {tx : Nat → Nat} (hS : SM G b0 o ad H th dg bw lm lf rt ou rs lb rb ob bL bR td tp wn tx H) (hlf : dlm lf 330) (hrt : dlm rt 330) (hlb : lb ≤ 1) (hrb : rb ≤ 1) (hL : dl lf 330 < 2 ^ 512) (hR : dl rt 330 < 2 ^ 512) (hR0 : 0 < dl rt 330) : Met l yM0_divide wsM0_divide ({ frames := 1, cells := 0, slots := 0, locals := 25 } : Room) (PcH G H [.ref o]) (QcV (fun H1 => ∃ g r : Nat → Nat, dlm g 330 ∧ dlm r 330 ∧ dl g 330 = dl lf 330 / dl rt 330 ∧ dl r 330 = dl lf 330 % dl rt 330 ∧ SM G b0 o ad H th dg bw lm lf rt g r lb rb ((if lb = rb then 0 else 1)) bL bR td tp wn tx H1)) 0 0 (fre b0) := by
  refine m_enter (cc := cM0_divide) (maxL := 2) (ret := none) (own := RM0) (by decide) rfl rfl (Nat.le_of_ble_eq_true rfl) ?_
  intro p e s m below meth c ls hF hnm hH hl
  have hl : lv_has ls 2 [(0, .ref o)] := hl
  have hLc : lcs b0 [] := lcs_nil b0
  obtain ⟨hx, hb, hr, hml, hown, hts, hlocks, hK⟩ := id hF
  refine lv_aload_n hx hb dM0_divide_0 rfl (lv_at hl 0 rfl) ?_
  refine va_get (D := G.1) (ci := 1) (v := .ref (ad 5)) (C := RM0) (T := TM0) (N := 17) hx hb hts hwsM0_divide hown hK hS.w.ob 0 rfl rfl 6 (by decide) (hts (.fieldLink RM0 26 "ExactNumbersModel" "out" "[I") (by decide +kernel)) (fun _ h9 => h9) rfl dM0_divide_1 ?_
  refine mc_v0 (va_runS (As := [.ref (ad 5)]) (rest := []) ⟨hx, hb, hml, hown, hts⟩ (c_M0_clear l G b0 H (hS.w.get 5 (by decide)) (hS.w.b 5 (by decide))) (va_cwS 1 hts gM0_divide_M0_clear rfl rfl rfl (by decide +kernel) ⟨Nat.le_of_ble_eq_true rfl, Nat.le_of_ble_eq_true rfl⟩) (mp_S hK) rfl rfl hl.1 rfl (lv_room (Nat.le_of_ble_eq_true rfl)) dM0_divide_4 ⟨Nat.le_of_ble_eq_true rfl, Nat.le_of_ble_eq_true rfl⟩) hLc (fun H1 locs hP hLc => ?_)
  subst hP
  have hS := hS.p_ou (fun _ => 0)
  generalize hput H (ad 5) (aN G 330 (fun _ => 0)) = Hc at hS ⊢
  refine lv_aload_n hx hb dM0_divide_7 rfl (lv_at hl 0 rfl) ?_
  refine va_get (D := G.1) (ci := 1) (v := .ref (ad 6)) (C := RM0) (T := TM0) (N := 17) hx hb hts hwsM0_divide hown hK hS.w.ob 0 rfl rfl 7 (by decide) (hts (.fieldLink RM0 29 "ExactNumbersModel" "rest" "[I") (by decide +kernel)) (fun _ h9 => h9) rfl dM0_divide_8 ?_
  refine mc_v0 (va_runS (As := [.ref (ad 6)]) (rest := []) ⟨hx, hb, hml, hown, hts⟩ (c_M0_clear l G b0 Hc (hS.w.get 6 (by decide)) (hS.w.b 6 (by decide))) (va_cwS 1 hts gM0_divide_M0_clear rfl rfl rfl (by decide +kernel) ⟨Nat.le_of_ble_eq_true rfl, Nat.le_of_ble_eq_true rfl⟩) (mp_S hK) rfl rfl hl.1 rfl (lv_room (Nat.le_of_ble_eq_true rfl)) dM0_divide_11 ⟨Nat.le_of_ble_eq_true rfl, Nat.le_of_ble_eq_true rfl⟩) hLc (fun H1 locs hP hLc => ?_)
  subst hP
  have hS := hS.p_rs (fun _ => 0)
  generalize hput Hc (ad 6) (aN G 330 (fun _ => 0)) = Hc at hS ⊢
  refine lv_sipush (v := 159) hx hb dM0_divide_14 (by decide) ?_
  refine lv_istore_n (lv' := [(1, .int 159), (0, .ref o)]) hx hb dM0_divide_17 rfl hl (by decide) rfl (fun ls hl => ?_)
  rw [show (159 : Int32) = nI 160 - 1 from by decide] at hl
  exact divide_18 (ou := ou) (rs := rs) hF hlf hrt hlb hrb hL hR hR0 160 _ _ _ (Nat.le_refl 160) (fun j _ => by decide) (fun j _ => by decide) (by rw [dl0, Nat.div_eq_of_lt (Nat.lt_trans hL p160), Nat.zero_div]) (by rw [dl0, Nat.div_eq_of_lt (Nat.lt_trans hL p160), Nat.zero_mod]) hS _ _ hLc (lv_sub hl [1, 0] rfl)
