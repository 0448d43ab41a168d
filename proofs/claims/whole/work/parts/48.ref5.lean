set_option maxRecDepth 100000 in
set_option maxHeartbeats 4000000 in
theorem shiftl_54 {p : Program} {l : Launch} {e : Env} {s : State} {m : MethodId} {args : Array Value} {below : List Frame} {meth : Method} {c : Code} {G : gG} {b0 : Nat} {H : Heap} {o : Nat} {ad : Nat → Nat} {th : Nat} {dg : Nat → Nat} {bw : Nat → Nat} {lm : Nat → Nat} {lf : Nat → Nat} {rt : Nat → Nat} {ou : Nat → Nat} {rs : Nat → Nat} {lb : Nat} {rb : Nat} {ob : Nat} {bL : Nat → Nat} {bR : Nat → Nat} {td : Nat} {tp : Nat → Nat} {wn : Nat} {tx : Nat → Nat} {k i n g : Nat} {x y z : Int32} (hF : FxM p s m args meth c G cM0_shift 7 (some .int) RM0 wsM0_shift) (hI : IM dg bw lm) (hk : k ≤ 63) (hi : i ≤ 63) (hn : n ≤ 1000) (hxk : x = nI k) (hyi : y = nI i) (hzn : z = nI n) (hg0 : g = 1) : ∀ (q : Nat) (j : Nat) (g2 : Nat → Nat) (Hc : Heap), j + q = n → dlm g2 330 → dl g2 330 = dl (shf dg (160 * i)) 160 * 2 ^ j → dl (shf dg (160 * i)) 160 * 2 ^ j < 2 ^ 512 → SM G b0 o ad H 0 dg bw lm lf rt g2 rs lb rb (bw i) bL bR td tp wn tx Hc → ∀ (locs : List Loc) (ls : Array Slot), lcs b0 locs → lv_has ls 7 [(0, .ref o), (1, .int (nI k)), (2, .int (nI i)), (3, .int (nI n)), (4, .int (nI g)), (5, .int (nI j))] → W p l e ({ frames := 2, cells := 0, slots := 0, locals := 44 } : Room) s m args below meth c Hc locs 0 0 (MQ below (QcI (fun r H1 => (∃ k i n, k ≤ 63 ∧ i ≤ 63 ∧ n ≤ 1000 ∧ x = nI k ∧ y = nI i ∧ z = nI n ∧ KM G b0 o ad H (valM dg bw) tp td tx wn k (if g = 1 then valM dg bw i * ((2 ^ n : Nat) : Int) else valM dg bw i / ((2 ^ n : Nat) : Int)) r H1) ∨ ((noslot x ∨ noslot y ∨ (∀ n, n ≤ 1000 → z ≠ nI n)) ∧ r = nI 3 ∧ RM G b0 o ad H (valM dg bw) tp td tx wn H1))) args s 0 0 (fre b0)) (F0 m 54 ls []) := by
  obtain ⟨hx, hb, hr, hml, hown, hts, hlocks, hK⟩ := id hF
  intro q
  induction q with
  | zero =>
    intro j g2 Hc hj hg hv hlt hS locs ls hLc hl
    have hbi := hI.b (show i < 64 by omega)
    have hzi := hI.z (show i < 64 by omega)
    have hli := hI.lt (show i < 64 by omega)
    have hvi : valM dg bw i = sg (bw i) (dl (shf dg (160 * i)) 160) := rfl
    subst hg0
    have hjn : j = n := by omega
    subst hjn
    refine lv_iload hx hb dM0_shift_54 (lv_at hl 5 rfl) ?_
    refine lv_iload_n hx hb dM0_shift_56 rfl (lv_at hl 3 rfl) ?_
    refine lv_icmp_ge (tgt := 128) hx hb dM0_shift_57 (by decide) (fun _ => ?_) (fun h => absurd (nI_le (Nat.le_refl j) (by omega)) h)
    refine lv_aload_n hx hb dM0_shift_128 rfl (lv_at hl 0 rfl) ?_
    refine lv_iload_n hx hb dM0_shift_129 rfl (lv_at hl 1 rfl) ?_
    refine mc_i0 (va_runV (As := [.int (nI k)]) (rest := []) ⟨hx, hb, hml, hown, hts⟩ (c_M0_keep l G b0 Hc hS.rf hI hg hbi hk) (cwV 1 hts gM0_shift_M0_keep rfl rfl rfl (by decide +kernel) ⟨Nat.le_of_ble_eq_true rfl, Nat.le_of_ble_eq_true rfl⟩) (mp_V hK hS.w.ob rfl) rfl rfl hl.1 rfl (lv_room (Nat.le_of_ble_eq_true rfl)) dM0_shift_130 ⟨Nat.le_of_ble_eq_true rfl, Nat.le_of_ble_eq_true rfl⟩) hLc (fun r H1 locs hP hLc => ?_)
    exact m_iret hx hb hr hlocks hLc dM0_shift_133 (Or.inl ⟨k, i, j, hk, hi, hn, hxk, hyi, hzn, (KM.trans hS hP).val (by rw [if_pos rfl, hvi, hv, sg_mul])⟩)
  | succ q ih =>
    intro j g2 Hc hj hg hv hlt hS locs ls hLc hl
    have hbi := hI.b (show i < 64 by omega)
    have hzi := hI.z (show i < 64 by omega)
    have hli := hI.lt (show i < 64 by omega)
    have hvi : valM dg bw i = sg (bw i) (dl (shf dg (160 * i)) 160) := rfl
    subst hg0
    refine lv_iload hx hb dM0_shift_54 (lv_at hl 5 rfl) ?_
    refine lv_iload_n hx hb dM0_shift_56 rfl (lv_at hl 3 rfl) ?_
    refine lv_icmp_ge (tgt := 128) hx hb dM0_shift_57 (by decide) (fun h => absurd h (nI_ge (by omega) (by omega))) (fun _ => ?_)
    refine lv_iload hx hb dM0_shift_60 (lv_at hl 4 rfl) ?_
    refine m_if_eq (tgt := 90) hx hb (by decide) dM0_shift_62 (by decide) (fun h => absurd h (by decide)) (fun _ => ?_)
    refine lv_aload_n hx hb dM0_shift_65 rfl (lv_at hl 0 rfl) ?_
    refine va_get (D := G.1) (ci := 1) (v := .ref (ad 5)) (C := RM0) (T := TM0) (N := 17) hx hb hts hwsM0_shift hown hK hS.w.ob 0 rfl rfl 6 (by decide) (hts (.fieldLink RM0 26 "ExactNumbersModel" "out" "[I") (by decide +kernel)) (fun _ h9 => h9) rfl dM0_shift_66 ?_
    refine lv_iconst (v := nI 2) hx hb dM0_shift_69 (by decide) ?_
    refine lv_iconst (v := nI 0) hx hb dM0_shift_70 (by decide) ?_
    refine mc_v0 (va_runS (As := [.ref (ad 5), .int (nI 2), .int (nI 0)]) (rest := []) ⟨hx, hb, hml, hown, hts⟩ (c_M0_grow l G b0 Hc (hS.w.get 5 (by decide)) hg (hS.w.b 5 (by decide)) (by decide) (by decide)) (va_cwS 3 hts gM0_shift_M0_grow rfl rfl rfl (by decide +kernel) ⟨Nat.le_of_ble_eq_true rfl, Nat.le_of_ble_eq_true rfl⟩) (mp_S hK) rfl rfl hl.1 rfl (lv_room (Nat.le_of_ble_eq_true rfl)) dM0_shift_71 ⟨Nat.le_of_ble_eq_true rfl, Nat.le_of_ble_eq_true rfl⟩) hLc (fun H1 locs hP hLc => ?_)
    obtain ⟨g3, c2, hg3, hvg3, rfl⟩ := hP
    have hS := hS.p_ou g3
    generalize hput Hc (ad 5) (aN G 330 g3) = Hc at hS ⊢
    have hv3 := shl_step (by rw [hv] at hvg3; exact hvg3) hlt
    refine lv_aload_n hx hb dM0_shift_74 rfl (lv_at hl 0 rfl) ?_
    refine va_get (D := G.1) (ci := 1) (v := .ref (ad 5)) (C := RM0) (T := TM0) (N := 17) hx hb hts hwsM0_shift hown hK hS.w.ob 0 rfl rfl 6 (by decide) (hts (.fieldLink RM0 26 "ExactNumbersModel" "out" "[I") (by decide +kernel)) (fun _ h9 => h9) rfl dM0_shift_75 ?_
    refine lv_aload_n hx hb dM0_shift_78 rfl (lv_at hl 0 rfl) ?_
    refine va_get (D := G.1) (ci := 1) (v := .ref (ad 2)) (C := RM0) (T := TM0) (N := 17) hx hb hts hwsM0_shift hown hK hS.w.ob 0 rfl rfl 3 (by decide) (hts (.fieldLink RM0 17 "ExactNumbersModel" "limit" "[I") (by decide +kernel)) (fun _ h9 => h9) rfl dM0_shift_79 ?_
    refine mc_i0 (va_runS (As := [.ref (ad 5), .ref (ad 2)]) (rest := []) ⟨hx, hb, hml, hown, hts⟩ (c_M0_order l G b0 Hc (hS.w.get 5 (by decide)) (hS.w.get 2 (by decide)) hg3 hI.l) (va_cwS 2 hts gM0_shift_M0_order rfl rfl rfl (by decide +kernel) ⟨Nat.le_of_ble_eq_true rfl, Nat.le_of_ble_eq_true rfl⟩) (mp_S hK) rfl rfl hl.1 rfl (lv_room (Nat.le_of_ble_eq_true rfl)) dM0_shift_82 ⟨Nat.le_of_ble_eq_true rfl, Nat.le_of_ble_eq_true rfl⟩) hLc (fun r H1 locs hP hLc => ?_)
    obtain ⟨hP, rfl⟩ := hP
    rcases hP with ⟨hor, rfl⟩ | ⟨hor, rfl⟩ | ⟨hor, rfl⟩
    · skip
      refine lv_if_lt (tgt := 122) hx hb dM0_shift_85 (by decide) (fun _ => ?_) (fun h => absurd (by decide) h)
      refine lv_iinc (v := nI (j + 1)) (lv' := [(5, .int (nI (j + 1))), (0, .ref o), (1, .int (nI k)), (2, .int (nI i)), (3, .int (nI n)), (4, .int (nI 1))]) hx hb dM0_shift_122 hl (k := 5) rfl (nI_add j 1) (by decide) rfl (fun ls hl => ?_)
      refine lv_goto (tgt := 54) hx hb dM0_shift_125 (by decide) ?_
      exact ih (j + 1) g3 _ (by omega) hg3 hv3 (by have := hI.lv; omega) hS _ _ hLc (lv_sub hl [1, 2, 3, 4, 5, 0] rfl)
    · skip
      refine lv_if_lt (tgt := 122) hx hb dM0_shift_85 (by decide) (fun h => absurd h (by decide)) (fun _ => ?_)
      refine lv_iconst (v := nI 1) hx hb dM0_shift_88 (by decide) ?_
      exact m_iret hx hb hr hlocks hLc dM0_shift_89 (Or.inl ⟨k, i, n, hk, hi, hn, hxk, hyi, hzn, Or.inr ⟨by rw [if_pos rfl, hvi, ← sg_mul, sg_abs]; exact shl_mono (i := j + 1) (by have := hI.lv; omega) (by omega), rfl, hS.r hI⟩⟩)
    · skip
      refine lv_if_lt (tgt := 122) hx hb dM0_shift_85 (by decide) (fun h => absurd h (by decide)) (fun _ => ?_)
      refine lv_iconst (v := nI 1) hx hb dM0_shift_88 (by decide) ?_
      exact m_iret hx hb hr hlocks hLc dM0_shift_89 (Or.inl ⟨k, i, n, hk, hi, hn, hxk, hyi, hzn, Or.inr ⟨by rw [if_pos rfl, hvi, ← sg_mul, sg_abs]; exact shl_mono (i := j + 1) (by have := hI.lv; omega) (by omega), rfl, hS.r hI⟩⟩)
set_option maxRecDepth 100000 in
set_option maxHeartbeats 4000000 in
theorem shiftr_54 {p : Program} {l : Launch} {e : Env} {s : State} {m : MethodId} {args : Array Value} {below : List Frame} {meth : Method} {c : Code} {G : gG} {b0 : Nat} {H : Heap} {o : Nat} {ad : Nat → Nat} {th : Nat} {dg : Nat → Nat} {bw : Nat → Nat} {lm : Nat → Nat} {lf : Nat → Nat} {rt : Nat → Nat} {ou : Nat → Nat} {rs : Nat → Nat} {lb : Nat} {rb : Nat} {ob : Nat} {bL : Nat → Nat} {bR : Nat → Nat} {td : Nat} {tp : Nat → Nat} {wn : Nat} {tx : Nat → Nat} {k i n g : Nat} {x y z : Int32} (hF : FxM p s m args meth c G cM0_shift 7 (some .int) RM0 wsM0_shift) (hI : IM dg bw lm) (hk : k ≤ 63) (hi : i ≤ 63) (hn : n ≤ 1000) (hxk : x = nI k) (hyi : y = nI i) (hzn : z = nI n) (hg0 : g = 0) : ∀ (q : Nat) (j : Nat) (g2 : Nat → Nat) (Hc : Heap), j + q = n → dlm g2 330 → dl g2 330 ≤ 2 ^ 512 → sg (bw i) (dl g2 330) = valM dg bw i / ((2 ^ j : Nat) : Int) → SM G b0 o ad H 0 dg bw lm lf rt g2 rs lb rb (bw i) bL bR td tp wn tx Hc → ∀ (locs : List Loc) (ls : Array Slot), lcs b0 locs → lv_has ls 7 [(0, .ref o), (1, .int (nI k)), (2, .int (nI i)), (3, .int (nI n)), (4, .int (nI g)), (5, .int (nI j))] → W p l e ({ frames := 2, cells := 0, slots := 0, locals := 44 } : Room) s m args below meth c Hc locs 0 0 (MQ below (QcI (fun r H1 => (∃ k i n, k ≤ 63 ∧ i ≤ 63 ∧ n ≤ 1000 ∧ x = nI k ∧ y = nI i ∧ z = nI n ∧ KM G b0 o ad H (valM dg bw) tp td tx wn k (if g = 1 then valM dg bw i * ((2 ^ n : Nat) : Int) else valM dg bw i / ((2 ^ n : Nat) : Int)) r H1) ∨ ((noslot x ∨ noslot y ∨ (∀ n, n ≤ 1000 → z ≠ nI n)) ∧ r = nI 3 ∧ RM G b0 o ad H (valM dg bw) tp td tx wn H1))) args s 0 0 (fre b0)) (F0 m 54 ls []) := by
  obtain ⟨hx, hb, hr, hml, hown, hts, hlocks, hK⟩ := id hF
  intro q
  induction q with
  | zero =>
    intro j g2 Hc hj hg hlt hv hS locs ls hLc hl
    have hbi := hI.b (show i < 64 by omega)
    have hzi := hI.z (show i < 64 by omega)
    have hli := hI.lt (show i < 64 by omega)
    have hvi : valM dg bw i = sg (bw i) (dl (shf dg (160 * i)) 160) := rfl
    subst hg0
    have hjn : j = n := by omega
    subst hjn
    refine lv_iload hx hb dM0_shift_54 (lv_at hl 5 rfl) ?_
    refine lv_iload_n hx hb dM0_shift_56 rfl (lv_at hl 3 rfl) ?_
    refine lv_icmp_ge (tgt := 128) hx hb dM0_shift_57 (by decide) (fun _ => ?_) (fun h => absurd (nI_le (Nat.le_refl j) (by omega)) h)
    refine lv_aload_n hx hb dM0_shift_128 rfl (lv_at hl 0 rfl) ?_
    refine lv_iload_n hx hb dM0_shift_129 rfl (lv_at hl 1 rfl) ?_
    refine mc_i0 (va_runV (As := [.int (nI k)]) (rest := []) ⟨hx, hb, hml, hown, hts⟩ (c_M0_keep l G b0 Hc hS.rf hI hg hbi hk) (cwV 1 hts gM0_shift_M0_keep rfl rfl rfl (by decide +kernel) ⟨Nat.le_of_ble_eq_true rfl, Nat.le_of_ble_eq_true rfl⟩) (mp_V hK hS.w.ob rfl) rfl rfl hl.1 rfl (lv_room (Nat.le_of_ble_eq_true rfl)) dM0_shift_130 ⟨Nat.le_of_ble_eq_true rfl, Nat.le_of_ble_eq_true rfl⟩) hLc (fun r H1 locs hP hLc => ?_)
    exact m_iret hx hb hr hlocks hLc dM0_shift_133 (Or.inl ⟨k, i, j, hk, hi, hn, hxk, hyi, hzn, (KM.trans hS hP).val (by rw [if_neg (by decide), hv])⟩)
  | succ q ih =>
    intro j g2 Hc hj hg hlt hv hS locs ls hLc hl
    have hbi := hI.b (show i < 64 by omega)
    have hzi := hI.z (show i < 64 by omega)
    have hli := hI.lt (show i < 64 by omega)
    have hvi : valM dg bw i = sg (bw i) (dl (shf dg (160 * i)) 160) := rfl
    subst hg0
    refine lv_iload hx hb dM0_shift_54 (lv_at hl 5 rfl) ?_
    refine lv_iload_n hx hb dM0_shift_56 rfl (lv_at hl 3 rfl) ?_
    refine lv_icmp_ge (tgt := 128) hx hb dM0_shift_57 (by decide) (fun h => absurd h (nI_ge (by omega) (by omega))) (fun _ => ?_)
    refine lv_iload hx hb dM0_shift_60 (lv_at hl 4 rfl) ?_
    refine m_if_eq (tgt := 90) hx hb (by decide) dM0_shift_62 (by decide) (fun _ => ?_) (fun h => absurd h (by decide))
    refine lv_aload_n hx hb dM0_shift_90 rfl (lv_at hl 0 rfl) ?_
    refine va_get (D := G.1) (ci := 1) (v := .ref (ad 5)) (C := RM0) (T := TM0) (N := 17) hx hb hts hwsM0_shift hown hK hS.w.ob 0 rfl rfl 6 (by decide) (hts (.fieldLink RM0 26 "ExactNumbersModel" "out" "[I") (by decide +kernel)) (fun _ h9 => h9) rfl dM0_shift_91 ?_
    refine lv_iconst (v := nI 2) hx hb dM0_shift_94 (by decide) ?_
    refine mc_i0 (va_runS (As := [.ref (ad 5), .int (nI 2)]) (rest := []) ⟨hx, hb, hml, hown, hts⟩ (c_M0_shrink l G b0 Hc (hS.w.get 5 (by decide)) hg (hS.w.b 5 (by decide)) (by decide) (by decide)) (va_cwS 2 hts gM0_shift_M0_shrink rfl rfl rfl (by decide +kernel) ⟨Nat.le_of_ble_eq_true rfl, Nat.le_of_ble_eq_true rfl⟩) (mp_S hK) rfl rfl hl.1 rfl (lv_room (Nat.le_of_ble_eq_true rfl)) dM0_shift_95 ⟨Nat.le_of_ble_eq_true rfl, Nat.le_of_ble_eq_true rfl⟩) hLc (fun r H1 locs hP hLc => ?_)
    obtain ⟨g3, z3, rfl, hz2, hg3, hv3, rfl⟩ := hP
    have hS := hS.p_ou g3
    generalize hput Hc (ad 5) (aN G 330 g3) = Hc at hS ⊢
    refine lv_istore (lv' := [(6, .int (nI z3)), (0, .ref o), (1, .int (nI k)), (2, .int (nI i)), (3, .int (nI n)), (4, .int (nI 0)), (5, .int (nI j))]) hx hb dM0_shift_98 hl (by decide) rfl (fun ls hl => ?_)
    refine lv_aload_n hx hb dM0_shift_100 rfl (lv_at hl 1 rfl) ?_
    refine va_get (D := G.1) (ci := 1) (v := .int (nI (bw i))) (C := RM0) (T := TM0) (N := 17) hx hb hts hwsM0_shift hown hK hS.w.ob 0 rfl rfl 10 (by decide) (hts (.fieldLink RM0 75 "ExactNumbersModel" "outBelow" "Z") (by decide +kernel)) (fun _ h9 => h9) rfl dM0_shift_101 ?_
    refine m_if_eq (tgt := 122) hx hb (by omega) dM0_shift_104 (by decide) (fun c104 => ?_) (fun c104 => ?_)
    · skip
      refine lv_iinc (v := nI (j + 1)) (lv' := [(5, .int (nI (j + 1))), (6, .int (nI z3)), (0, .ref o), (1, .int (nI k)), (2, .int (nI i)), (3, .int (nI n)), (4, .int (nI 0))]) hx hb dM0_shift_122 hl (k := 6) rfl (nI_add j 1) (by decide) rfl (fun ls hl => ?_)
      refine lv_goto (tgt := 54) hx hb dM0_shift_125 (by decide) ?_
      rw [c104] at hv
      have hf := shr_s0 hv3 hz2 hv
      exact ih (j + 1) g3 _ (by omega) hg3 (by omega) (by rw [c104, hf, idv_s]) hS _ _ hLc (lv_sub hl [2, 3, 4, 5, 6, 0] rfl)
    · skip
      refine lv_iload hx hb dM0_shift_107 (lv_at hl 0 rfl) ?_
      refine lv_iconst (v := nI 1) hx hb dM0_shift_109 (by decide) ?_
      refine m_icmp_ne (tgt := 122) hx hb (by omega) (by decide) dM0_shift_110 (by decide) (fun c110 => ?_) (fun c110 => ?_)
      · skip
        refine lv_iinc (v := nI (j + 1)) (lv' := [(5, .int (nI (j + 1))), (6, .int (nI z3)), (0, .ref o), (1, .int (nI k)), (2, .int (nI i)), (3, .int (nI n)), (4, .int (nI 0))]) hx hb dM0_shift_122 hl (k := 6) rfl (nI_add j 1) (by decide) rfl (fun ls hl => ?_)
        refine lv_goto (tgt := 54) hx hb dM0_shift_125 (by decide) ?_
        have hb1 : bw i = 1 := by omega
        rw [hb1] at hv
        have hf := shr_s1 hv3 (by omega) hv
        exact ih (j + 1) g3 _ (by omega) hg3 (by omega) (by rw [hb1, hf, idv_s]) hS _ _ hLc (lv_sub hl [2, 3, 4, 5, 6, 0] rfl)
      · skip
        refine lv_aload_n hx hb dM0_shift_113 rfl (lv_at hl 1 rfl) ?_
        refine va_get (D := G.1) (ci := 1) (v := .ref (ad 5)) (C := RM0) (T := TM0) (N := 17) hx hb hts hwsM0_shift hown hK hS.w.ob 0 rfl rfl 6 (by decide) (hts (.fieldLink RM0 26 "ExactNumbersModel" "out" "[I") (by decide +kernel)) (fun _ h9 => h9) rfl dM0_shift_114 ?_
        refine lv_iconst (v := nI 1) hx hb dM0_shift_117 (by decide) ?_
        refine lv_iconst (v := nI 1) hx hb dM0_shift_118 (by decide) ?_
        refine mc_v0 (va_runS (As := [.ref (ad 5), .int (nI 1), .int (nI 1)]) (rest := []) ⟨hx, hb, hml, hown, hts⟩ (c_M0_grow l G b0 Hc (hS.w.get 5 (by decide)) hg3 (hS.w.b 5 (by decide)) (by decide) (by decide)) (va_cwS 3 hts gM0_shift_M0_grow rfl rfl rfl (by decide +kernel) ⟨Nat.le_of_ble_eq_true rfl, Nat.le_of_ble_eq_true rfl⟩) (mp_S hK) rfl rfl hl.1 rfl (lv_room (Nat.le_of_ble_eq_true rfl)) dM0_shift_119 ⟨Nat.le_of_ble_eq_true rfl, Nat.le_of_ble_eq_true rfl⟩) hLc (fun H1 locs hP hLc => ?_)
        obtain ⟨g4, c2, hg4, hvg4, rfl⟩ := hP
        have hS := hS.p_ou g4
        generalize hput Hc (ad 5) (aN G 330 g4) = Hc at hS ⊢
        have hvg4 := grow2 hvg4 (by have := p1k; omega)
        refine lv_iinc (v := nI (j + 1)) (lv' := [(5, .int (nI (j + 1))), (6, .int (nI z3)), (0, .ref o), (1, .int (nI k)), (2, .int (nI i)), (3, .int (nI n)), (4, .int (nI 0))]) hx hb dM0_shift_122 hl (k := 6) rfl (nI_add j 1) (by decide) rfl (fun ls hl => ?_)
        refine lv_goto (tgt := 54) hx hb dM0_shift_125 (by decide) ?_
        have hb1 : bw i = 1 := by omega
        rw [hb1] at hv
        have hf := shr_s2 hv3 c110 hv
        exact ih (j + 1) g4 _ (by omega) hg4 (by have := p1_; omega) (by rw [hb1, hvg4, Nat.mul_one, hf, idv_s]) hS _ _ hLc (lv_sub hl [2, 3, 4, 5, 6, 0] rfl)
set_option maxRecDepth 100000 in
set_option maxHeartbeats 4000000 in
theorem c_M0_shift (l : Launch) (G : gG) (b0 : Nat) (H : Heap) {o : Nat} {ad : Nat → Nat} {th : Nat} {dg : Nat → Nat} {bw : Nat → Nat} {lm : Nat → Nat} {lf : Nat → Nat} {rt : Nat → Nat} {ou : Nat → Nat} {rs : Nat → Nat} {lb : Nat} {rb : Nat} {ob : Nat} {bL : Nat → Nat} {bR : Nat → Nat} {td : Nat} {tp : Nat → Nat} {wn : Nat} {tx : Nat → Nat} (hS : SM G b0 o ad H th dg bw lm lf rt ou rs lb rb ob bL bR td tp wn tx H) (hI : IM dg bw lm) (x y z : Int32) {g : Nat} (hg1 : g ≤ 1) : Met l yM0_shift wsM0_shift ({ frames := 2, cells := 0, slots := 0, locals := 44 } : Room) (PcH G H [.ref o, .int x, .int y, .int z, .int (nI g)]) (QcI (fun r H1 => (∃ k i n, k ≤ 63 ∧ i ≤ 63 ∧ n ≤ 1000 ∧ x = nI k ∧ y = nI i ∧ z = nI n ∧ KM G b0 o ad H (valM dg bw) tp td tx wn k (if g = 1 then valM dg bw i * ((2 ^ n : Nat) : Int) else valM dg bw i / ((2 ^ n : Nat) : Int)) r H1) ∨ ((noslot x ∨ noslot y ∨ (∀ n, n ≤ 1000 → z ≠ nI n)) ∧ r = nI 3 ∧ RM G b0 o ad H (valM dg bw) tp td tx wn H1))) 0 0 (fre b0) := by
  refine m_enter (cc := cM0_shift) (maxL := 7) (ret := (some .int)) (own := RM0) (by decide) rfl rfl (Nat.le_of_ble_eq_true rfl) ?_
  intro p e s m below meth c ls hF hnm hH hl
  have hl : lv_has ls 7 [(0, .ref o), (1, .int x), (2, .int y), (3, .int z), (4, .int (nI g))] := hl
  have hLc : lcs b0 [] := lcs_nil b0
  obtain ⟨hx, hb, hr, hml, hown, hts, hlocks, hK⟩ := id hF
  refine lv_aload_n hx hb dM0_shift_0 rfl (lv_at hl 0 rfl) ?_
  refine lv_iconst (v := nI 0) hx hb dM0_shift_1 (by decide) ?_
  refine m_put (C := RM0) (T := TM0) (N := 17) (ci := 1) (ty := .int) (b0 := b0) hx hb hts hwsM0_shift tyM0 tyM0_ok nmM0 hown hK hS.w.ob rfl 0 (by decide) (hts (.fieldLink RM0 48 "ExactNumbersModel" "thrown" "I") (by decide +kernel)) rfl (by decide +kernel) (rfl) (rfl) (Nat.le_of_ble_eq_true rfl) hS.w.bo hLc dM0_shift_2 (fun Hc2 locs hO hsz hq hLc => ?_)
  have hS := hS.f_th hO hsz hq
  clear hO hsz hq
  obtain ⟨Hc, rfl⟩ : ∃ Hz, Hz = Hc2 := ⟨_, rfl⟩
  refine lv_iload_n hx hb dM0_shift_5 rfl (lv_at hl 1 rfl) ?_
  refine mc_i0 (va_runS (As := [.int x]) (rest := []) ⟨hx, hb, hml, hown, hts⟩ (c_M0_isSlot l G b0 Hc (x)) (va_cwS 1 hts gM0_shift_M0_isSlot rfl rfl rfl (by decide +kernel) ⟨Nat.le_of_ble_eq_true rfl, Nat.le_of_ble_eq_true rfl⟩) (mp_S hK) rfl rfl hl.1 rfl (lv_room (Nat.le_of_ble_eq_true rfl)) dM0_shift_6 ⟨Nat.le_of_ble_eq_true rfl, Nat.le_of_ble_eq_true rfl⟩) hLc (fun r H1 locs hP hLc => ?_)
  obtain ⟨hP, rfl⟩ := hP
  rcases hP with ⟨k, _h0, hk, rfl, rfl⟩ | ⟨hno, rfl⟩
  · skip
    refine m_if_eq (tgt := 30) hx hb (by decide) dM0_shift_9 (by decide) (fun h => absurd h (by decide)) (fun _ => ?_)
    refine lv_iload_n hx hb dM0_shift_12 rfl (lv_at hl 2 rfl) ?_
    refine mc_i0 (va_runS (As := [.int y]) (rest := []) ⟨hx, hb, hml, hown, hts⟩ (c_M0_isSlot l G b0 Hc (y)) (va_cwS 1 hts gM0_shift_M0_isSlot rfl rfl rfl (by decide +kernel) ⟨Nat.le_of_ble_eq_true rfl, Nat.le_of_ble_eq_true rfl⟩) (mp_S hK) rfl rfl hl.1 rfl (lv_room (Nat.le_of_ble_eq_true rfl)) dM0_shift_13 ⟨Nat.le_of_ble_eq_true rfl, Nat.le_of_ble_eq_true rfl⟩) hLc (fun r H1 locs hP hLc => ?_)
    obtain ⟨hP, rfl⟩ := hP
    rcases hP with ⟨i, _h0, hi, rfl, rfl⟩ | ⟨hno, rfl⟩
    · skip
      refine m_if_eq (tgt := 30) hx hb (by decide) dM0_shift_16 (by decide) (fun h => absurd h (by decide)) (fun _ => ?_)
      refine lv_iload_n hx hb dM0_shift_19 rfl (lv_at hl 3 rfl) ?_
      refine lv_if_lt (tgt := 30) hx hb dM0_shift_20 (by decide) (fun c20 => ?_) (fun c20 => ?_)
      · skip
        have hnz : ∀ n, n ≤ 1000 → z ≠ nI n := fun n hn e => nI_pos (show n < 2 ^ 31 by omega) (e ▸ c20)
        refine lv_iconst (v := nI 3) hx hb dM0_shift_30 (by decide) ?_
        exact m_iret hx hb hr hlocks hLc dM0_shift_31 (Or.inr ⟨by first | exact Or.inl hno | exact Or.inr (Or.inl hno) | exact Or.inr (Or.inr hnz), rfl, hS.r hI⟩)
      · skip
        obtain ⟨n, hn31, rfl⟩ := nI_of c20
        refine lv_iload_n hx hb dM0_shift_23 rfl (lv_at hl 3 rfl) ?_
        refine lv_sipush (v := nI 1000) hx hb dM0_shift_24 (by decide) ?_
        refine m_icmp_le (tgt := 32) hx hb (by omega) (by decide) dM0_shift_27 (by decide) (fun c27 => ?_) (fun c27 => ?_)
        · skip
          refine lv_aload_n hx hb dM0_shift_32 rfl (lv_at hl 0 rfl) ?_
          refine lv_iload_n hx hb dM0_shift_33 rfl (lv_at hl 2 rfl) ?_
          refine lv_aload_n hx hb dM0_shift_34 rfl (lv_at hl 0 rfl) ?_
          refine va_get (D := G.1) (ci := 1) (v := .ref (ad 5)) (C := RM0) (T := TM0) (N := 17) hx hb hts hwsM0_shift hown hK hS.w.ob 0 rfl rfl 6 (by decide) (hts (.fieldLink RM0 26 "ExactNumbersModel" "out" "[I") (by decide +kernel)) (fun _ h9 => h9) rfl dM0_shift_35 ?_
          refine mc_v0 (va_runV (As := [.int (nI i), .ref (ad 5)]) (rest := []) ⟨hx, hb, hml, hown, hts⟩ (c_M0_load_ou l G b0 Hc hS.rf hI hi) (cwV 2 hts gM0_shift_M0_load rfl rfl rfl (by decide +kernel) ⟨Nat.le_of_ble_eq_true rfl, Nat.le_of_ble_eq_true rfl⟩) (mp_V hK hS.w.ob rfl) rfl rfl hl.1 rfl (lv_room (Nat.le_of_ble_eq_true rfl)) dM0_shift_38 ⟨Nat.le_of_ble_eq_true rfl, Nat.le_of_ble_eq_true rfl⟩) hLc (fun H1 locs hP hLc => ?_)
          obtain ⟨g3, hg3, hvg3, hP⟩ := hP
          have hS : SM G b0 o ad H 0 dg bw lm lf rt g3 rs lb rb ob bL bR td tp wn tx H1 := WO.trans hS hP
          generalize H1 = Hc at hS ⊢
          refine lv_aload_n hx hb dM0_shift_41 rfl (lv_at hl 0 rfl) ?_
          refine lv_aload_n hx hb dM0_shift_42 rfl (lv_at hl 0 rfl) ?_
          refine va_get (D := G.1) (ci := 1) (v := .ref (ad 1)) (C := RM0) (T := TM0) (N := 17) hx hb hts hwsM0_shift hown hK hS.w.ob 0 rfl rfl 2 (by decide) (hts (.fieldLink RM0 13 "ExactNumbersModel" "below" "[Z") (by decide +kernel)) (fun _ h9 => h9) rfl dM0_shift_43 ?_
          refine lv_iload_n hx hb dM0_shift_46 rfl (lv_at hl 2 rfl) ?_
          refine m_zald (n := 64) (f := bw) hx hb hK (hS.w.get 1 (by decide)) (by omega) (by decide) dM0_shift_47 ?_
          refine m_put (C := RM0) (T := TM0) (N := 17) (ci := 1) (ty := .boolean) (b0 := b0) hx hb hts hwsM0_shift tyM0 tyM0_ok nmM0 hown hK hS.w.ob rfl 10 (by decide) (hts (.fieldLink RM0 75 "ExactNumbersModel" "outBelow" "Z") (by decide +kernel)) rfl (by decide +kernel) (nar_z (Nat.lt_succ_of_le (hI.b (show i < 64 by omega)))) (fit_z (Nat.lt_succ_of_le (hI.b (show i < 64 by omega)))) (Nat.le_of_ble_eq_true rfl) hS.w.bo hLc dM0_shift_48 (fun Hc2 locs hO hsz hq hLc => ?_)
          have hS := hS.f_ob hO hsz hq
          clear hO hsz hq
          obtain ⟨Hc, rfl⟩ : ∃ Hz, Hz = Hc2 := ⟨_, rfl⟩
          refine lv_iconst (v := nI 0) hx hb dM0_shift_51 (by decide) ?_
          refine lv_istore (lv' := [(5, .int (nI 0)), (0, .ref o), (1, .int (nI k)), (2, .int (nI i)), (3, .int (nI n)), (4, .int (nI g))]) hx hb dM0_shift_52 hl (by decide) rfl (fun ls hl => ?_)
          have hbi := hI.b (show i < 64 by omega)
          have hzi := hI.z (show i < 64 by omega)
          have hli := hI.lt (show i < 64 by omega)
          have hvi : valM dg bw i = sg (bw i) (dl (shf dg (160 * i)) 160) := rfl
          rcases (show g = 0 ∨ g = 1 by omega) with hg0 | hg0
          · exact shiftr_54 (th := th) (ou := ou) (ob := ob) hF hI hk hi (by omega) rfl rfl rfl hg0 n 0 g3 _ (by omega) hg3 (by rw [hvg3]; exact Nat.le_of_lt hli) (by rw [hvg3, Nat.pow_zero, hvi, show ((1 : Nat) : Int) = 1 from rfl, Int.ediv_one]) hS _ _ hLc (lv_sub hl [1, 2, 3, 4, 5, 0] rfl)
          · exact shiftl_54 (th := th) (ou := ou) (ob := ob) hF hI hk hi (by omega) rfl rfl rfl hg0 n 0 g3 _ (by omega) hg3 (by rw [hvg3, Nat.pow_zero, Nat.mul_one]) (by rw [Nat.pow_zero, Nat.mul_one]; exact hli) hS _ _ hLc (lv_sub hl [1, 2, 3, 4, 5, 0] rfl)
        · skip
          have hnz : ∀ n2, n2 ≤ 1000 → nI n ≠ nI n2 := fun n2 hn2 e => by have := (nI_eq hn31 (show n2 < 2 ^ 31 by omega)).mp e; omega
          refine lv_iconst (v := nI 3) hx hb dM0_shift_30 (by decide) ?_
          exact m_iret hx hb hr hlocks hLc dM0_shift_31 (Or.inr ⟨by first | exact Or.inl hno | exact Or.inr (Or.inl hno) | exact Or.inr (Or.inr hnz), rfl, hS.r hI⟩)
    · skip
      refine m_if_eq (tgt := 30) hx hb (by decide) dM0_shift_16 (by decide) (fun _ => ?_) (fun h => absurd h (by decide))
      refine lv_iconst (v := nI 3) hx hb dM0_shift_30 (by decide) ?_
      exact m_iret hx hb hr hlocks hLc dM0_shift_31 (Or.inr ⟨by first | exact Or.inl hno | exact Or.inr (Or.inl hno) | exact Or.inr (Or.inr hnz), rfl, hS.r hI⟩)
  · skip
    refine m_if_eq (tgt := 30) hx hb (by decide) dM0_shift_9 (by decide) (fun _ => ?_) (fun h => absurd h (by decide))
    refine lv_iconst (v := nI 3) hx hb dM0_shift_30 (by decide) ?_
    exact m_iret hx hb hr hlocks hLc dM0_shift_31 (Or.inr ⟨by first | exact Or.inl hno | exact Or.inr (Or.inl hno) | exact Or.inr (Or.inr hnz), rfl, hS.r hI⟩)

set_option maxRecDepth 100000 in
set_option maxHeartbeats 4000000 in
theorem cut0_111 {p : Program} {l : Launch} {e : Env} {s : State} {m : MethodId} {args : Array Value} {below : List Frame} {meth : Method} {c : Code} {G : gG} {b0 : Nat} {H : Heap} {o : Nat} {ad : Nat → Nat} {th : Nat} {dg : Nat → Nat} {bw : Nat → Nat} {lm : Nat → Nat} {lf : Nat → Nat} {rt : Nat → Nat} {ou : Nat → Nat} {rs : Nat → Nat} {lb : Nat} {rb : Nat} {ob : Nat} {bL : Nat → Nat} {bR : Nat → Nat} {td : Nat} {tp : Nat → Nat} {wn : Nat} {tx : Nat → Nat} {i w g T V : Nat} {x y : Int32} {Hc : Heap} (hF : FxM p s m args meth c G cM0_cut 7 (some .long) RM0 wsM0_cut) (hI : IM dg bw lm) (hi : i ≤ 63) (hw1 : 1 ≤ w) (hw64 : w ≤ 64) (hxi : x = nI i) (hyw : y = nI w) (hg0 : g = 0) (hVl : V < 2 ^ 64) (hV : V = T * 2 ^ (64 - w) % 2 ^ 64) (hT : cutN T w g = cutN (tcN 64 (valM dg bw i)) w g) (hS : SM G b0 o ad H 0 dg bw lm lf rt ou rs lb rb ob bL bR td tp wn tx Hc) : ∀ (q : Nat) (d : Nat), w + d + q = 64 → ∀ (locs : List Loc) (ls : Array Slot), lcs b0 locs → lv_has ls 7 [(0, .ref o), (1, .int (nI i)), (2, .int (nI w)), (3, .int (nI g)), (4, .long (lN (V / 2 ^ d))), (6, .int (nI (w + d)))] → W p l e ({ frames := 1, cells := 0, slots := 0, locals := 20 } : Room) s m args below meth c Hc locs 0 0 (MQ below (QcL (fun r H1 => ((∃ i w, i ≤ 63 ∧ 1 ≤ w ∧ w ≤ 64 ∧ x = nI i ∧ y = nI w ∧ r = lN (cutN (tcN 64 (valM dg bw i)) w g)) ∨ ((noslot x ∨ (∀ w, 1 ≤ w → w ≤ 64 → w < 2 ^ 31 → y ≠ nI w)) ∧ r = lN 0)) ∧ RM G b0 o ad H (valM dg bw) tp td tx wn H1)) args s 0 0 (fre b0)) (F0 m 111 ls []) := by
  obtain ⟨hx, hb, hr, hml, hown, hts, hlocks, hK⟩ := id hF
  intro q
  induction q with
  | zero =>
    intro d hd locs ls hLc hl
    subst hg0
    refine lv_iload hx hb dM0_cut_111 (lv_at hl 5 rfl) ?_
    refine lv_bipush (v := nI 64) hx hb dM0_cut_113 (by decide) ?_
    refine lv_icmp_ge (tgt := 141) hx hb dM0_cut_115 (by decide) (fun _ => ?_) (fun h => absurd (nI_le (by omega) (by omega)) h)
    refine lv_lload hx hb dM0_cut_141 (lv_at hl 4 rfl) ?_
    exact m_lret hx hb hr hlocks hLc dM0_cut_143 (⟨Or.inl ⟨i, w, hi, hw1, hw64, hxi, hyw, by rw [← hT, hV, show 64 - w = d by omega, cut_u (show d + w = 64 by omega)]⟩, hS.r hI⟩)
  | succ q ih =>
    intro d hd locs ls hLc hl
    subst hg0
    refine lv_iload hx hb dM0_cut_111 (lv_at hl 5 rfl) ?_
    refine lv_bipush (v := nI 64) hx hb dM0_cut_113 (by decide) ?_
    refine lv_icmp_ge (tgt := 141) hx hb dM0_cut_115 (by decide) (fun h => absurd h (nI_ge (by omega) (by omega))) (fun _ => ?_)
    refine lv_iload_n hx hb dM0_cut_118 rfl (lv_at hl 3 rfl) ?_
    refine m_if_eq (tgt := 129) hx hb (by decide) dM0_cut_119 (by decide) (fun _ => ?_) (fun h => absurd h (by decide))
    refine lv_lload hx hb dM0_cut_129 (lv_at hl 4 rfl) ?_
    refine lv_iconst (v := nI 1) hx hb dM0_cut_131 (by decide) ?_
    refine m_lushr hx hb (Nat.lt_of_le_of_lt (Nat.div_le_self _ _) hVl) (by decide) dM0_cut_132 ?_
    rw [Nat.div_div_eq_div_mul, ← Nat.pow_add]
    refine lv_lstore (lv' := [(4, .long (lN (V / 2 ^ (d + 1)))), (0, .ref o), (1, .int (nI i)), (2, .int (nI w)), (3, .int (nI 0)), (6, .int (nI (w + d)))]) hx hb dM0_cut_133 hl (by decide) rfl (fun ls hl => ?_)
    refine lv_iinc (v := nI (w + d + 1)) (lv' := [(6, .int (nI (w + d + 1))), (4, .long (lN (V / 2 ^ (d + 1)))), (0, .ref o), (1, .int (nI i)), (2, .int (nI w)), (3, .int (nI 0))]) hx hb dM0_cut_135 hl (k := 5) rfl (nI_add (w + d) 1) (by decide) rfl (fun ls hl => ?_)
    refine lv_goto (tgt := 111) hx hb dM0_cut_138 (by decide) ?_
    exact ih (d + 1) (by omega) _ _ hLc (lv_sub hl [2, 3, 4, 5, 1, 0] rfl)
set_option maxRecDepth 100000 in
set_option maxHeartbeats 4000000 in
theorem cut1_111 {p : Program} {l : Launch} {e : Env} {s : State} {m : MethodId} {args : Array Value} {below : List Frame} {meth : Method} {c : Code} {G : gG} {b0 : Nat} {H : Heap} {o : Nat} {ad : Nat → Nat} {th : Nat} {dg : Nat → Nat} {bw : Nat → Nat} {lm : Nat → Nat} {lf : Nat → Nat} {rt : Nat → Nat} {ou : Nat → Nat} {rs : Nat → Nat} {lb : Nat} {rb : Nat} {ob : Nat} {bL : Nat → Nat} {bR : Nat → Nat} {td : Nat} {tp : Nat → Nat} {wn : Nat} {tx : Nat → Nat} {i w g T V : Nat} {x y : Int32} {Hc : Heap} (hF : FxM p s m args meth c G cM0_cut 7 (some .long) RM0 wsM0_cut) (hI : IM dg bw lm) (hi : i ≤ 63) (hw1 : 1 ≤ w) (hw64 : w ≤ 64) (hxi : x = nI i) (hyw : y = nI w) (hg0 : g = 1) (hVl : V < 2 ^ 64) (hV : V = T * 2 ^ (64 - w) % 2 ^ 64) (hT : cutN T w g = cutN (tcN 64 (valM dg bw i)) w g) (hS : SM G b0 o ad H 0 dg bw lm lf rt ou rs lb rb ob bL bR td tp wn tx Hc) : ∀ (q : Nat) (d : Nat), w + d + q = 64 → ∀ (locs : List Loc) (ls : Array Slot), lcs b0 locs → lv_has ls 7 [(0, .ref o), (1, .int (nI i)), (2, .int (nI w)), (3, .int (nI g)), (4, .long (lN (sar V d))), (6, .int (nI (w + d)))] → W p l e ({ frames := 1, cells := 0, slots := 0, locals := 20 } : Room) s m args below meth c Hc locs 0 0 (MQ below (QcL (fun r H1 => ((∃ i w, i ≤ 63 ∧ 1 ≤ w ∧ w ≤ 64 ∧ x = nI i ∧ y = nI w ∧ r = lN (cutN (tcN 64 (valM dg bw i)) w g)) ∨ ((noslot x ∨ (∀ w, 1 ≤ w → w ≤ 64 → w < 2 ^ 31 → y ≠ nI w)) ∧ r = lN 0)) ∧ RM G b0 o ad H (valM dg bw) tp td tx wn H1)) args s 0 0 (fre b0)) (F0 m 111 ls []) := by
  obtain ⟨hx, hb, hr, hml, hown, hts, hlocks, hK⟩ := id hF
  intro q
  induction q with
  | zero =>
    intro d hd locs ls hLc hl
    subst hg0
    refine lv_iload hx hb dM0_cut_111 (lv_at hl 5 rfl) ?_
    refine lv_bipush (v := nI 64) hx hb dM0_cut_113 (by decide) ?_
    refine lv_icmp_ge (tgt := 141) hx hb dM0_cut_115 (by decide) (fun _ => ?_) (fun h => absurd (nI_le (by omega) (by omega)) h)
    refine lv_lload hx hb dM0_cut_141 (lv_at hl 4 rfl) ?_
    exact m_lret hx hb hr hlocks hLc dM0_cut_143 (⟨Or.inl ⟨i, w, hi, hw1, hw64, hxi, hyw, by rw [← hT, hV, show 64 - w = d by omega, cut_s (show d + w = 64 by omega) hw1]⟩, hS.r hI⟩)
  | succ q ih =>
    intro d hd locs ls hLc hl
    subst hg0
    refine lv_iload hx hb dM0_cut_111 (lv_at hl 5 rfl) ?_
    refine lv_bipush (v := nI 64) hx hb dM0_cut_113 (by decide) ?_
    refine lv_icmp_ge (tgt := 141) hx hb dM0_cut_115 (by decide) (fun h => absurd h (nI_ge (by omega) (by omega))) (fun _ => ?_)
    refine lv_iload_n hx hb dM0_cut_118 rfl (lv_at hl 3 rfl) ?_
    refine m_if_eq (tgt := 129) hx hb (by decide) dM0_cut_119 (by decide) (fun h => absurd h (by decide)) (fun _ => ?_)
    refine lv_lload hx hb dM0_cut_122 (lv_at hl 4 rfl) ?_
    refine lv_iconst (v := nI 1) hx hb dM0_cut_124 (by decide) ?_
    refine lv_lshr hx hb dM0_cut_125 (lshr_N (sar_lt hVl) (by decide)) ?_
    rw [sar_s hVl]
    refine lv_goto (tgt := 133) hx hb dM0_cut_126 (by decide) ?_
    refine lv_lstore (lv' := [(4, .long (lN (sar V (d + 1)))), (0, .ref o), (1, .int (nI i)), (2, .int (nI w)), (3, .int (nI 1)), (6, .int (nI (w + d)))]) hx hb dM0_cut_133 hl (by decide) rfl (fun ls hl => ?_)
    refine lv_iinc (v := nI (w + d + 1)) (lv' := [(6, .int (nI (w + d + 1))), (4, .long (lN (sar V (d + 1)))), (0, .ref o), (1, .int (nI i)), (2, .int (nI w)), (3, .int (nI 1))]) hx hb dM0_cut_135 hl (k := 5) rfl (nI_add (w + d) 1) (by decide) rfl (fun ls hl => ?_)
    refine lv_goto (tgt := 111) hx hb dM0_cut_138 (by decide) ?_
    exact ih (d + 1) (by omega) _ _ hLc (lv_sub hl [2, 3, 4, 5, 1, 0] rfl)
set_option maxRecDepth 100000 in
set_option maxHeartbeats 4000000 in
theorem cut_89 {p : Program} {l : Launch} {e : Env} {s : State} {m : MethodId} {args : Array Value} {below : List Frame} {meth : Method} {c : Code} {G : gG} {b0 : Nat} {H : Heap} {o : Nat} {ad : Nat → Nat} {th : Nat} {dg : Nat → Nat} {bw : Nat → Nat} {lm : Nat → Nat} {lf : Nat → Nat} {rt : Nat → Nat} {ou : Nat → Nat} {rs : Nat → Nat} {lb : Nat} {rb : Nat} {ob : Nat} {bL : Nat → Nat} {bR : Nat → Nat} {td : Nat} {tp : Nat → Nat} {wn : Nat} {tx : Nat → Nat} {i w g T : Nat} {x y : Int32} {Hc : Heap} (hF : FxM p s m args meth c G cM0_cut 7 (some .long) RM0 wsM0_cut) (hI : IM dg bw lm) (hi : i ≤ 63) (hw1 : 1 ≤ w) (hw64 : w ≤ 64) (hxi : x = nI i) (hyw : y = nI w) (hg1 : g ≤ 1) (hT : cutN T w g = cutN (tcN 64 (valM dg bw i)) w g) (hS : SM G b0 o ad H 0 dg bw lm lf rt ou rs lb rb ob bL bR td tp wn tx Hc) : ∀ (q : Nat) (d : Nat), w + d + q = 64 → ∀ (locs : List Loc) (ls : Array Slot), lcs b0 locs → lv_has ls 7 [(0, .ref o), (1, .int (nI i)), (2, .int (nI w)), (3, .int (nI g)), (4, .long (lN (T * 2 ^ d))), (6, .int (nI (w + d)))] → W p l e ({ frames := 1, cells := 0, slots := 0, locals := 20 } : Room) s m args below meth c Hc locs 0 0 (MQ below (QcL (fun r H1 => ((∃ i w, i ≤ 63 ∧ 1 ≤ w ∧ w ≤ 64 ∧ x = nI i ∧ y = nI w ∧ r = lN (cutN (tcN 64 (valM dg bw i)) w g)) ∨ ((noslot x ∨ (∀ w, 1 ≤ w → w ≤ 64 → w < 2 ^ 31 → y ≠ nI w)) ∧ r = lN 0)) ∧ RM G b0 o ad H (valM dg bw) tp td tx wn H1)) args s 0 0 (fre b0)) (F0 m 89 ls []) := by
  obtain ⟨hx, hb, hr, hml, hown, hts, hlocks, hK⟩ := id hF
  intro q
  induction q with
  | zero =>
    intro d hd locs ls hLc hl
    refine lv_iload hx hb dM0_cut_89 (lv_at hl 5 rfl) ?_
    refine lv_bipush (v := nI 64) hx hb dM0_cut_91 (by decide) ?_
    refine lv_icmp_ge (tgt := 108) hx hb dM0_cut_93 (by decide) (fun _ => ?_) (fun h => absurd (nI_le (by omega) (by omega)) h)
    refine lv_iload_n hx hb dM0_cut_108 rfl (lv_at hl 2 rfl) ?_
    refine lv_istore (lv' := [(6, .int (nI w)), (0, .ref o), (1, .int (nI i)), (2, .int (nI w)), (3, .int (nI g)), (4, .long (lN (T * 2 ^ d)))]) hx hb dM0_cut_109 hl (by decide) rfl (fun ls hl => ?_)
    have hV9 : T * 2 ^ d % 2 ^ 64 < 2 ^ 64 := Nat.mod_lt _ (by decide)
    rw [lN_md (T * 2 ^ d), show 18446744073709551616 = 2 ^ 64 from rfl] at hl
    rcases (show g = 0 ∨ g = 1 by omega) with hg0 | hg0
    · rw [← Nat.div_one (T * 2 ^ d % 2 ^ 64), ← Nat.pow_zero 2] at hl
      exact cut0_111 (th := th) (T := T) hF hI hi hw1 hw64 hxi hyw hg0 hV9 (by rw [show 64 - w = d by omega]) hT hS (64 - w) 0 (by omega) _ _ hLc (lv_sub hl [1, 2, 3, 4, 5, 0] rfl)
    · rw [← sar_0 hV9] at hl
      exact cut1_111 (th := th) (T := T) hF hI hi hw1 hw64 hxi hyw hg0 hV9 (by rw [show 64 - w = d by omega]) hT hS (64 - w) 0 (by omega) _ _ hLc (lv_sub hl [1, 2, 3, 4, 5, 0] rfl)
  | succ q ih =>
    intro d hd locs ls hLc hl
    refine lv_iload hx hb dM0_cut_89 (lv_at hl 5 rfl) ?_
    refine lv_bipush (v := nI 64) hx hb dM0_cut_91 (by decide) ?_
    refine lv_icmp_ge (tgt := 108) hx hb dM0_cut_93 (by decide) (fun h => absurd h (nI_ge (by omega) (by omega))) (fun _ => ?_)
    refine lv_lload hx hb dM0_cut_96 (lv_at hl 4 rfl) ?_
    refine lv_iconst (v := nI 1) hx hb dM0_cut_98 (by decide) ?_
    refine m_lshl hx hb (by decide) dM0_cut_99 ?_
    rw [Nat.mul_assoc, ← Nat.pow_add]
    refine lv_lstore (lv' := [(4, .long (lN (T * 2 ^ (d + 1)))), (0, .ref o), (1, .int (nI i)), (2, .int (nI w)), (3, .int (nI g)), (6, .int (nI (w + d)))]) hx hb dM0_cut_100 hl (by decide) rfl (fun ls hl => ?_)
    refine lv_iinc (v := nI (w + d + 1)) (lv' := [(6, .int (nI (w + d + 1))), (4, .long (lN (T * 2 ^ (d + 1)))), (0, .ref o), (1, .int (nI i)), (2, .int (nI w)), (3, .int (nI g))]) hx hb dM0_cut_102 hl (k := 5) rfl (nI_add (w + d) 1) (by decide) rfl (fun ls hl => ?_)
    refine lv_goto (tgt := 89) hx hb dM0_cut_105 (by decide) ?_
    exact ih (d + 1) (by omega) _ _ hLc (lv_sub hl [2, 3, 4, 5, 1, 0] rfl)
set_option maxRecDepth 100000 in
set_option maxHeartbeats 4000000 in
theorem cut_33 {p : Program} {l : Launch} {e : Env} {s : State} {m : MethodId} {args : Array Value} {below : List Frame} {meth : Method} {c : Code} {G : gG} {b0 : Nat} {H : Heap} {o : Nat} {ad : Nat → Nat} {th : Nat} {dg : Nat → Nat} {bw : Nat → Nat} {lm : Nat → Nat} {lf : Nat → Nat} {rt : Nat → Nat} {ou : Nat → Nat} {rs : Nat → Nat} {lb : Nat} {rb : Nat} {ob : Nat} {bL : Nat → Nat} {bR : Nat → Nat} {td : Nat} {tp : Nat → Nat} {wn : Nat} {tx : Nat → Nat} {i w g : Nat} {x y : Int32} {Hc : Heap} (hF : FxM p s m args meth c G cM0_cut 7 (some .long) RM0 wsM0_cut) (hI : IM dg bw lm) (hi : i ≤ 63) (hw1 : 1 ≤ w) (hw64 : w ≤ 64) (hxi : x = nI i) (hyw : y = nI w) (hg1 : g ≤ 1) (hS : SM G b0 o ad H 0 dg bw lm lf rt ou rs lb rb ob bL bR td tp wn tx Hc) : ∀ (q : Nat) , q ≤ 160 → ∀ (locs : List Loc) (ls : Array Slot), lcs b0 locs → lv_has ls 7 [(0, .ref o), (1, .int (nI i)), (2, .int (nI w)), (3, .int (nI g)), (4, .long (lN (dl (shf dg (160 * i)) 160 / 10 ^ q))), (6, .int (nI q - 1))] → W p l e ({ frames := 1, cells := 0, slots := 0, locals := 20 } : Room) s m args below meth c Hc locs 0 0 (MQ below (QcL (fun r H1 => ((∃ i w, i ≤ 63 ∧ 1 ≤ w ∧ w ≤ 64 ∧ x = nI i ∧ y = nI w ∧ r = lN (cutN (tcN 64 (valM dg bw i)) w g)) ∨ ((noslot x ∨ (∀ w, 1 ≤ w → w ≤ 64 → w < 2 ^ 31 → y ≠ nI w)) ∧ r = lN 0)) ∧ RM G b0 o ad H (valM dg bw) tp td tx wn H1)) args s 0 0 (fre b0)) (F0 m 33 ls []) := by
  obtain ⟨hx, hb, hr, hml, hown, hts, hlocks, hK⟩ := id hF
  intro q
  induction q with
  | zero =>
    intro hq locs ls hLc hl
    have hbi := hI.b (show i < 64 by omega)
    have hzi := hI.z (show i < 64 by omega)
    have hli := hI.lt (show i < 64 by omega)
    have hvi : valM dg bw i = sg (bw i) (dl (shf dg (160 * i)) 160) := rfl
    rw [Nat.pow_zero, Nat.div_one] at hl
    refine lv_iload hx hb dM0_cut_33 (lv_at hl 5 rfl) ?_
    refine lv_if_lt (tgt := 67) hx hb dM0_cut_35 (by decide) (fun _ => ?_) (fun h => absurd (by decide) h)
    refine lv_aload_n hx hb dM0_cut_67 rfl (lv_at hl 0 rfl) ?_
    refine va_get (D := G.1) (ci := 1) (v := .ref (ad 1)) (C := RM0) (T := TM0) (N := 17) hx hb hts hwsM0_cut hown hK hS.w.ob 0 rfl rfl 2 (by decide) (hts (.fieldLink RM0 13 "ExactNumbersModel" "below" "[Z") (by decide +kernel)) (fun _ h9 => h9) rfl dM0_cut_68 ?_
    refine lv_iload_n hx hb dM0_cut_71 rfl (lv_at hl 1 rfl) ?_
    refine m_zald (n := 64) (f := bw) hx hb hK (hS.w.get 1 (by decide)) (by omega) (by decide) dM0_cut_72 ?_
    refine m_if_eq (tgt := 82) hx hb (by omega) dM0_cut_73 (by decide) (fun c73 => ?_) (fun c73 => ?_)
    · skip
      have hb0 : bw i = 0 := c73
      refine lv_lload hx hb dM0_cut_82 (lv_at hl 4 rfl) ?_
      refine lv_lstore (lv' := [(4, .long (lN (dl (shf dg (160 * i)) 160))), (0, .ref o), (1, .int (nI i)), (2, .int (nI w)), (3, .int (nI g)), (6, .int (nI 0 - 1))]) hx hb dM0_cut_84 hl (by decide) rfl (fun ls hl => ?_)
      refine lv_iload_n hx hb dM0_cut_86 rfl (lv_at hl 3 rfl) ?_
      refine lv_istore (lv' := [(6, .int (nI w)), (4, .long (lN (dl (shf dg (160 * i)) 160))), (0, .ref o), (1, .int (nI i)), (2, .int (nI w)), (3, .int (nI g))]) hx hb dM0_cut_87 hl (by decide) rfl (fun ls hl => ?_)
      have hl : lv_has ls 7 [(6, .int (nI w)), (4, .long (lN ((dl (shf dg (160 * i)) 160) * 2 ^ 0))), (0, .ref o), (1, .int (nI i)), (2, .int (nI w)), (3, .int (nI g))] := by rw [Nat.pow_zero, Nat.mul_one]; exact hl
      exact cut_89 (th := th) (T := dl (shf dg (160 * i)) 160) hF hI hi hw1 hw64 hxi hyw hg1 (by rw [hvi, hb0]; exact cut_T0 hw64) hS (64 - w) 0 (by omega) _ _ hLc (lv_sub hl [2, 3, 4, 5, 1, 0] rfl)
    · skip
      have hb1 : bw i = 1 := by omega
      refine lv_lload hx hb dM0_cut_76 (lv_at hl 4 rfl) ?_
      refine lv_lneg hx hb dM0_cut_78 ?_
      rw [neg_lNm]
      refine lv_goto (tgt := 84) hx hb dM0_cut_79 (by decide) ?_
      refine lv_lstore (lv' := [(4, .long (lN (18446744073709551616 - dl (shf dg (160 * i)) 160 % 18446744073709551616))), (0, .ref o), (1, .int (nI i)), (2, .int (nI w)), (3, .int (nI g)), (6, .int (nI 0 - 1))]) hx hb dM0_cut_84 hl (by decide) rfl (fun ls hl => ?_)
      refine lv_iload_n hx hb dM0_cut_86 rfl (lv_at hl 3 rfl) ?_
      refine lv_istore (lv' := [(6, .int (nI w)), (4, .long (lN (18446744073709551616 - dl (shf dg (160 * i)) 160 % 18446744073709551616))), (0, .ref o), (1, .int (nI i)), (2, .int (nI w)), (3, .int (nI g))]) hx hb dM0_cut_87 hl (by decide) rfl (fun ls hl => ?_)
      have hl : lv_has ls 7 [(6, .int (nI w)), (4, .long (lN ((18446744073709551616 - dl (shf dg (160 * i)) 160 % 18446744073709551616) * 2 ^ 0))), (0, .ref o), (1, .int (nI i)), (2, .int (nI w)), (3, .int (nI g))] := by rw [Nat.pow_zero, Nat.mul_one]; exact hl
      exact cut_89 (th := th) (T := 18446744073709551616 - dl (shf dg (160 * i)) 160 % 18446744073709551616) hF hI hi hw1 hw64 hxi hyw hg1 (by rw [hvi, hb1]; exact cutN_neg hw64) hS (64 - w) 0 (by omega) _ _ hLc (lv_sub hl [2, 3, 4, 5, 1, 0] rfl)
  | succ q ih =>
    intro hq locs ls hLc hl
    rw [nI_pred] at hl
    have hdq : dg (160 * i + q) < 10 := hI.d (show i < 64 by omega) q (by omega)
    refine lv_iload hx hb dM0_cut_33 (lv_at hl 5 rfl) ?_
    refine lv_if_lt (tgt := 67) hx hb dM0_cut_35 (by decide) (fun h => absurd h (nI_pos (by omega))) (fun _ => ?_)
    refine lv_ldc2 (v := lN 10) hx hb hown (hts (.constantLong RM0 137 (lN 10)) (by decide +kernel)) dM0_cut_38 ?_
    refine lv_lload hx hb dM0_cut_41 (lv_at hl 4 rfl) ?_
    refine m_lmul hx hb dM0_cut_43 ?_
    refine lv_aload_n hx hb dM0_cut_44 rfl (lv_at hl 0 rfl) ?_
    refine va_get (D := G.1) (ci := 1) (v := .ref (ad 0)) (C := RM0) (T := TM0) (N := 17) hx hb hts hwsM0_cut hown hK hS.w.ob 0 rfl rfl 1 (by decide) (hts (.fieldLink RM0 7 "ExactNumbersModel" "digit" "[I") (by decide +kernel)) (fun _ h9 => h9) rfl dM0_cut_45 ?_
    refine lv_sipush (v := nI 160) hx hb dM0_cut_48 (by decide) ?_
    refine lv_iload_n hx hb dM0_cut_51 rfl (lv_at hl 1 rfl) ?_
    refine m_imul (a := 160) (b := i) hx hb dM0_cut_52 ?_
    refine lv_iload hx hb dM0_cut_53 (lv_at hl 5 rfl) ?_
    refine m_iadd (a := 160 * i) (b := q) hx hb dM0_cut_55 ?_
    refine m_nald (n := 10240) (f := dg) hx hb hK (hS.w.get 0 (by decide)) (by omega) (by decide) dM0_cut_56 ?_
    refine m_i2l hx hb (by omega) dM0_cut_57 ?_
    refine m_ladd hx hb dM0_cut_58 ?_
    rw [cut_dig hI hi (by omega)]
    refine lv_lstore (lv' := [(4, .long (lN (dl (shf dg (160 * i)) 160 / 10 ^ q))), (0, .ref o), (1, .int (nI i)), (2, .int (nI w)), (3, .int (nI g)), (6, .int (nI q))]) hx hb dM0_cut_59 hl (by decide) rfl (fun ls hl => ?_)
    refine lv_iinc (v := nI q - 1) (lv' := [(6, .int (nI q - 1)), (4, .long (lN (dl (shf dg (160 * i)) 160 / 10 ^ q))), (0, .ref o), (1, .int (nI i)), (2, .int (nI w)), (3, .int (nI g))]) hx hb dM0_cut_61 hl (k := 5) rfl (nI_decI _) (by decide) rfl (fun ls hl => ?_)
    refine lv_goto (tgt := 33) hx hb dM0_cut_64 (by decide) ?_
    exact ih (by omega) _ _ hLc (lv_sub hl [2, 3, 4, 5, 1, 0] rfl)
set_option maxRecDepth 100000 in
set_option maxHeartbeats 4000000 in
theorem c_M0_cut (l : Launch) (G : gG) (b0 : Nat) (H : Heap) {o : Nat} {ad : Nat → Nat} {th : Nat} {dg : Nat → Nat} {bw : Nat → Nat} {lm : Nat → Nat} {lf : Nat → Nat} {rt : Nat → Nat} {ou : Nat → Nat} {rs : Nat → Nat} {lb : Nat} {rb : Nat} {ob : Nat} {bL : Nat → Nat} {bR : Nat → Nat} {td : Nat} {tp : Nat → Nat} {wn : Nat} {tx : Nat → Nat} (hS : SM G b0 o ad H th dg bw lm lf rt ou rs lb rb ob bL bR td tp wn tx H) (hI : IM dg bw lm) (x y : Int32) {g : Nat} (hg1 : g ≤ 1) : Met l yM0_cut wsM0_cut ({ frames := 1, cells := 0, slots := 0, locals := 20 } : Room) (PcH G H [.ref o, .int x, .int y, .int (nI g)]) (QcL (fun r H1 => ((∃ i w, i ≤ 63 ∧ 1 ≤ w ∧ w ≤ 64 ∧ x = nI i ∧ y = nI w ∧ r = lN (cutN (tcN 64 (valM dg bw i)) w g)) ∨ ((noslot x ∨ (∀ w, 1 ≤ w → w ≤ 64 → w < 2 ^ 31 → y ≠ nI w)) ∧ r = lN 0)) ∧ RM G b0 o ad H (valM dg bw) tp td tx wn H1)) 0 0 (fre b0) := by
  refine m_enter (cc := cM0_cut) (maxL := 7) (ret := (some .long)) (own := RM0) (by decide) rfl rfl (Nat.le_of_ble_eq_true rfl) ?_
  intro p e s m below meth c ls hF hnm hH hl
  have hl : lv_has ls 7 [(0, .ref o), (1, .int x), (2, .int y), (3, .int (nI g))] := hl
  have hLc : lcs b0 [] := lcs_nil b0
  obtain ⟨hx, hb, hr, hml, hown, hts, hlocks, hK⟩ := id hF
  refine lv_aload_n hx hb dM0_cut_0 rfl (lv_at hl 0 rfl) ?_
  refine lv_iconst (v := nI 0) hx hb dM0_cut_1 (by decide) ?_
  refine m_put (C := RM0) (T := TM0) (N := 17) (ci := 1) (ty := .int) (b0 := b0) hx hb hts hwsM0_cut tyM0 tyM0_ok nmM0 hown hK hS.w.ob rfl 0 (by decide) (hts (.fieldLink RM0 48 "ExactNumbersModel" "thrown" "I") (by decide +kernel)) rfl (by decide +kernel) (rfl) (rfl) (Nat.le_of_ble_eq_true rfl) hS.w.bo hLc dM0_cut_2 (fun Hc2 locs hO hsz hq hLc => ?_)
  have hS := hS.f_th hO hsz hq
  clear hO hsz hq
  obtain ⟨Hc, rfl⟩ : ∃ Hz, Hz = Hc2 := ⟨_, rfl⟩
  refine lv_iload_n hx hb dM0_cut_5 rfl (lv_at hl 1 rfl) ?_
  refine mc_i0 (va_runS (As := [.int x]) (rest := []) ⟨hx, hb, hml, hown, hts⟩ (c_M0_isSlot l G b0 Hc (x)) (va_cwS 1 hts gM0_cut_M0_isSlot rfl rfl rfl (by decide +kernel) ⟨Nat.le_of_ble_eq_true rfl, Nat.le_of_ble_eq_true rfl⟩) (mp_S hK) rfl rfl hl.1 rfl (lv_room (Nat.le_of_ble_eq_true rfl)) dM0_cut_6 ⟨Nat.le_of_ble_eq_true rfl, Nat.le_of_ble_eq_true rfl⟩) hLc (fun r H1 locs hP hLc => ?_)
  obtain ⟨hP, rfl⟩ := hP
  rcases hP with ⟨i, _h0, hi, rfl, rfl⟩ | ⟨hno, rfl⟩
  · skip
    refine m_if_eq (tgt := 23) hx hb (by decide) dM0_cut_9 (by decide) (fun h => absurd h (by decide)) (fun _ => ?_)
    refine lv_iload_n hx hb dM0_cut_12 rfl (lv_at hl 2 rfl) ?_
    refine lv_iconst (v := nI 1) hx hb dM0_cut_13 (by decide) ?_
    refine lv_icmp_lt (tgt := 23) hx hb dM0_cut_14 (by decide) (fun c14 => ?_) (fun c14 => ?_)
    · skip
      have hnw : ∀ w, 1 ≤ w → w ≤ 64 → w < 2 ^ 31 → y ≠ nI w := lt_no (by decide) c14
      refine lv_lconst (v := lN 0) hx hb dM0_cut_23 (by decide) ?_
      exact m_lret hx hb hr hlocks hLc dM0_cut_24 (⟨Or.inr ⟨by first | exact Or.inl hno | exact Or.inr hnw, rfl⟩, hS.r hI⟩)
    · skip
      obtain ⟨w, hwlo, hw31, rfl⟩ := ge_of (by decide) c14
      refine lv_iload_n hx hb dM0_cut_17 rfl (lv_at hl 2 rfl) ?_
      refine lv_bipush (v := nI 64) hx hb dM0_cut_18 (by decide) ?_
      refine m_icmp_le (tgt := 25) hx hb (by omega) (by decide) dM0_cut_20 (by decide) (fun c20 => ?_) (fun c20 => ?_)
      · skip
        refine lv_lconst (v := lN 0) hx hb dM0_cut_25 (by decide) ?_
        refine lv_lstore (lv' := [(4, .long (lN 0)), (0, .ref o), (1, .int (nI i)), (2, .int (nI w)), (3, .int (nI g))]) hx hb dM0_cut_26 hl (by decide) rfl (fun ls hl => ?_)
        refine lv_sipush (v := 159) hx hb dM0_cut_28 (by decide) ?_
        refine lv_istore (lv' := [(6, .int 159), (4, .long (lN 0)), (0, .ref o), (1, .int (nI i)), (2, .int (nI w)), (3, .int (nI g))]) hx hb dM0_cut_31 hl (by decide) rfl (fun ls hl => ?_)
        rw [show (159 : Int32) = nI 160 - 1 from by decide] at hl
        have hl : lv_has ls 7 [(6, .int (nI 160 - 1)), (4, .long (lN (dl (shf dg (160 * i)) 160 / 10 ^ 160))), (0, .ref o), (1, .int (nI i)), (2, .int (nI w)), (3, .int (nI g))] := by rw [Nat.div_eq_of_lt (Nat.lt_trans (hI.lt (show i < 64 by omega)) p160)]; exact hl
        exact cut_33 (th := th) hF hI hi hwlo (by omega) rfl rfl hg1 hS 160 (Nat.le_refl 160) _ _ hLc (lv_sub hl [2, 3, 4, 5, 1, 0] rfl)
      · skip
        have hnw : ∀ w2, 1 ≤ w2 → w2 ≤ 64 → w2 < 2 ^ 31 → nI w ≠ nI w2 := gt_no hw31 (by omega)
        refine lv_lconst (v := lN 0) hx hb dM0_cut_23 (by decide) ?_
        exact m_lret hx hb hr hlocks hLc dM0_cut_24 (⟨Or.inr ⟨by first | exact Or.inl hno | exact Or.inr hnw, rfl⟩, hS.r hI⟩)
  · skip
    refine m_if_eq (tgt := 23) hx hb (by decide) dM0_cut_9 (by decide) (fun _ => ?_) (fun h => absurd h (by decide))
    refine lv_lconst (v := lN 0) hx hb dM0_cut_23 (by decide) ?_
    exact m_lret hx hb hr hlocks hLc dM0_cut_24 (⟨Or.inr ⟨by first | exact Or.inl hno | exact Or.inr hnw, rfl⟩, hS.r hI⟩)

set_option maxRecDepth 100000 in
set_option maxHeartbeats 4000000 in
theorem rwrite_37 {p : Program} {l : Launch} {e : Env} {s : State} {m : MethodId} {args : Array Value} {below : List Frame} {meth : Method} {c : Code} {G : gG} {b0 : Nat} {H : Heap} {o : Nat} {ad : Nat → Nat} {th : Nat} {dg : Nat → Nat} {bw : Nat → Nat} {lm : Nat → Nat} {lf : Nat → Nat} {rt : Nat → Nat} {ou : Nat → Nat} {rs : Nat → Nat} {lb : Nat} {rb : Nat} {ob : Nat} {bL : Nat → Nat} {bR : Nat → Nat} {td : Nat} {tp : Nat → Nat} {wn : Nat} {tx : Nat → Nat} {i b : Nat} {x y : Int32} (hF : FxM p s m args meth c G cM0_write 5 (some .int) RM0 wsM0_write) (hI : IM dg bw lm) (hi : i ≤ 63) (hb2 : 2 ≤ b) (hb36 : b ≤ 36) (hxi : x = nI i) (hyb : y = nI b) : ∀ (q : Nat) (n : Nat) (g t2 : Nat → Nat) (Hc : Heap), n + q = 512 → dlm g 330 → dl g 330 = dl (shf dg (160 * i)) 160 / b ^ n → (n ≤ 1 ∨ b ^ (n - 1) ≤ dl (shf dg (160 * i)) 160) → (∀ e, e < n → t2 e = chd (dl (shf dg (160 * i)) 160 / b ^ e % b)) → SM G b0 o ad H 0 dg bw lm g rt ou rs lb rb ob bL bR td tp wn t2 Hc → ∀ (locs : List Loc) (ls : Array Slot), lcs b0 locs → lv_has ls 5 [(0, .ref o), (1, .int (nI i)), (2, .int (nI b)), (3, .int (nI n))] → W p l e ({ frames := 2, cells := 0, slots := 0, locals := 44 } : Room) s m args below meth c Hc locs 0 0 (MQ below (QcI (fun r H1 => (∃ i b n len, i ≤ 63 ∧ 2 ≤ b ∧ b ≤ 36 ∧ x = nI i ∧ y = nI b ∧ isND n b (valM dg bw i).natAbs ∧ len = n + (if valM dg bw i < 0 then 1 else 0) ∧ len ≤ 513 ∧ r = nI len ∧ ∃ tx2 : Nat → Nat, (∀ e, e < len → tx2 e = tch b (valM dg bw i) n e) ∧ RM G b0 o ad H (valM dg bw) tp td tx2 len H1) ∨ ((noslot x ∨ (∀ b, 2 ≤ b → b ≤ 36 → b < 2 ^ 31 → y ≠ nI b)) ∧ r = -3 ∧ RM G b0 o ad H (valM dg bw) tp td tx wn H1))) args s 0 0 (fre b0)) (F0 m 37 ls []) := by
  obtain ⟨hx, hb, hr, hml, hown, hts, hlocks, hK⟩ := id hF
  intro q
  induction q with
  | zero =>
    intro n g t2 Hc hn hg hv hm ht hS locs ls hLc hl
    have hbi := hI.b (show i < 64 by omega)
    have hzi := hI.z (show i < 64 by omega)
    have hli := hI.lt (show i < 64 by omega)
    have hvi : valM dg bw i = sg (bw i) (dl (shf dg (160 * i)) 160) := rfl
    have habs : (valM dg bw i).natAbs = dl (shf dg (160 * i)) 160 := sg_abs _ _
    have hn0 : n ≠ 0 := by omega
    refine lv_iload_n hx hb dM0_write_37 rfl (lv_at hl 3 rfl) ?_
    refine lv_if_eq (tgt := 51) hx hb dM0_write_38 (by decide) (fun h => absurd h (nI_nez (by omega) (by omega))) (fun _ => ?_)
    refine lv_aload_n hx hb dM0_write_41 rfl (lv_at hl 0 rfl) ?_
    refine va_get (D := G.1) (ci := 1) (v := .ref (ad 3)) (C := RM0) (T := TM0) (N := 17) hx hb hts hwsM0_write hown hK hS.w.ob 0 rfl rfl 4 (by decide) (hts (.fieldLink RM0 20 "ExactNumbersModel" "left" "[I") (by decide +kernel)) (fun _ h9 => h9) rfl dM0_write_42 ?_
    refine mc_i0 (va_runS (As := [.ref (ad 3)]) (rest := []) ⟨hx, hb, hml, hown, hts⟩ (c_M0_isZero l G b0 Hc (hS.w.get 3 (by decide)) hg) (va_cwS 1 hts gM0_write_M0_isZero rfl rfl rfl (by decide +kernel) ⟨Nat.le_of_ble_eq_true rfl, Nat.le_of_ble_eq_true rfl⟩) (mp_S hK) rfl rfl hl.1 rfl (lv_room (Nat.le_of_ble_eq_true rfl)) dM0_write_45 ⟨Nat.le_of_ble_eq_true rfl, Nat.le_of_ble_eq_true rfl⟩) hLc (fun r H1 locs hP hLc => ?_)
    obtain ⟨hP, rfl⟩ := hP
    rcases hP with ⟨rfl, hzz⟩ | ⟨rfl, hzz⟩
    · skip
      refine m_if_ne (tgt := 96) hx hb (by decide) dM0_write_48 (by decide) (fun _ => ?_) (fun h => absurd h (by decide))
      refine lv_aload_n hx hb dM0_write_96 rfl (lv_at hl 0 rfl) ?_
      refine va_get (D := G.1) (ci := 1) (v := .ref (ad 1)) (C := RM0) (T := TM0) (N := 17) hx hb hts hwsM0_write hown hK hS.w.ob 0 rfl rfl 2 (by decide) (hts (.fieldLink RM0 13 "ExactNumbersModel" "below" "[Z") (by decide +kernel)) (fun _ h9 => h9) rfl dM0_write_97 ?_
      refine lv_iload_n hx hb dM0_write_100 rfl (lv_at hl 1 rfl) ?_
      refine m_zald (n := 64) (f := bw) hx hb hK (hS.w.get 1 (by decide)) (by omega) (by decide) dM0_write_101 ?_
      refine m_if_eq (tgt := 116) hx hb (by omega) dM0_write_102 (by decide) (fun c102 => ?_) (fun c102 => ?_)
      · skip
        have hpos : ¬ valM dg bw i < 0 := by rw [hvi, c102, sg_0]; omega
        refine lv_aload_n hx hb dM0_write_116 rfl (lv_at hl 0 rfl) ?_
        refine lv_iload_n hx hb dM0_write_117 rfl (lv_at hl 3 rfl) ?_
        refine m_put (C := RM0) (T := TM0) (N := 17) (ci := 1) (ty := .int) (b0 := b0) hx hb hts hwsM0_write tyM0 tyM0_ok nmM0 hown hK hS.w.ob rfl 15 (by decide) (hts (.fieldLink RM0 139 "ExactNumbersModel" "written" "I") (by decide +kernel)) rfl (by decide +kernel) (rfl) (rfl) (Nat.le_of_ble_eq_true rfl) hS.w.bo hLc dM0_write_118 (fun Hc2 locs hO hsz hq hLc => ?_)
        have hS := hS.f_wn hO hsz hq
        clear hO hsz hq
        obtain ⟨Hc, rfl⟩ : ∃ Hz, Hz = Hc2 := ⟨_, rfl⟩
        refine lv_iload_n hx hb dM0_write_121 rfl (lv_at hl 3 rfl) ?_
        exact m_iret hx hb hr hlocks hLc dM0_write_122 (Or.inl ⟨i, b, n, n, hi, hb2, hb36, hxi, hyb, by rw [habs]; exact nd_of2 hn0 (by rw [← hv]; exact hzz) hb2 hm, by rw [if_neg hpos, Nat.add_zero], by omega, rfl, _, fun e he => by unfold tch; rw [habs, if_pos he]; exact ht e he, hS.r hI⟩)
      · skip
        have hneg : valM dg bw i < 0 := by have := hzi (by omega); rw [hvi, show bw i = 1 by omega, sg_1]; omega
        refine lv_aload_n hx hb dM0_write_105 rfl (lv_at hl 0 rfl) ?_
        refine va_get (D := G.1) (ci := 1) (v := .ref (ad 10)) (C := RM0) (T := TM0) (N := 17) hx hb hts hwsM0_write hown hK hS.w.ob 0 rfl rfl 16 (by decide) (hts (.fieldLink RM0 41 "ExactNumbersModel" "text" "[I") (by decide +kernel)) (fun _ h9 => h9) rfl dM0_write_106 ?_
        refine lv_iload_n hx hb dM0_write_109 rfl (lv_at hl 3 rfl) ?_
        refine lv_bipush (v := nI 45) hx hb dM0_write_110 (by decide) ?_
        refine m_nast (n := 520) (f := t2) (b0 := b0) hx hb hK (hS.w.get 10 (by decide)) (by omega) (by decide) (hS.w.b 10 (by decide)) hLc dM0_write_112 (fun locs hLc => ?_)
        have hS := hS.p_tx (fup t2 n 45)
        generalize hput Hc (ad 10) (aN G 520 (fup t2 n 45)) = Hc at hS ⊢
        refine lv_iinc (v := nI (n + 1)) (lv' := [(3, .int (nI (n + 1))), (0, .ref o), (1, .int (nI i)), (2, .int (nI b))]) hx hb dM0_write_113 hl (k := 3) rfl (nI_add n 1) (by decide) rfl (fun ls hl => ?_)
        refine lv_aload_n hx hb dM0_write_116 rfl (lv_at hl 1 rfl) ?_
        refine lv_iload_n hx hb dM0_write_117 rfl (lv_at hl 0 rfl) ?_
        refine m_put (C := RM0) (T := TM0) (N := 17) (ci := 1) (ty := .int) (b0 := b0) hx hb hts hwsM0_write tyM0 tyM0_ok nmM0 hown hK hS.w.ob rfl 15 (by decide) (hts (.fieldLink RM0 139 "ExactNumbersModel" "written" "I") (by decide +kernel)) rfl (by decide +kernel) (rfl) (rfl) (Nat.le_of_ble_eq_true rfl) hS.w.bo hLc dM0_write_118 (fun Hc2 locs hO hsz hq hLc => ?_)
        have hS := hS.f_wn hO hsz hq
        clear hO hsz hq
        obtain ⟨Hc, rfl⟩ : ∃ Hz, Hz = Hc2 := ⟨_, rfl⟩
        refine lv_iload_n hx hb dM0_write_121 rfl (lv_at hl 0 rfl) ?_
        exact m_iret hx hb hr hlocks hLc dM0_write_122 (Or.inl ⟨i, b, n, n + 1, hi, hb2, hb36, hxi, hyb, by rw [habs]; exact nd_of2 hn0 (by rw [← hv]; exact hzz) hb2 hm, by rw [if_pos hneg], by omega, rfl, _, fun e he => by unfold tch; rw [habs]; by_cases h9 : e = n <;> simp only [fup] <;> (first | (rw [if_pos (by omega), if_neg (by omega)]) | (rw [if_neg (by omega), if_pos (by omega)]; exact ht e (by omega))), hS.r hI⟩)
    · skip
      exact absurd (hv.trans (div_zero_of hb2 hli (by omega))) hzz
  | succ q ih =>
    intro n g t2 Hc hn hg hv hm ht hS locs ls hLc hl
    have hbi := hI.b (show i < 64 by omega)
    have hzi := hI.z (show i < 64 by omega)
    have hli := hI.lt (show i < 64 by omega)
    have hvi : valM dg bw i = sg (bw i) (dl (shf dg (160 * i)) 160) := rfl
    have habs : (valM dg bw i).natAbs = dl (shf dg (160 * i)) 160 := sg_abs _ _
    refine lv_iload_n hx hb dM0_write_37 rfl (lv_at hl 3 rfl) ?_
    refine m_if_eq (tgt := 51) hx hb (by omega) dM0_write_38 (by decide) (fun c38 => ?_) (fun c38 => ?_)
    · skip
      refine lv_aload_n hx hb dM0_write_51 rfl (lv_at hl 0 rfl) ?_
      refine va_get (D := G.1) (ci := 1) (v := .ref (ad 3)) (C := RM0) (T := TM0) (N := 17) hx hb hts hwsM0_write hown hK hS.w.ob 0 rfl rfl 4 (by decide) (hts (.fieldLink RM0 20 "ExactNumbersModel" "left" "[I") (by decide +kernel)) (fun _ h9 => h9) rfl dM0_write_52 ?_
      refine lv_iload_n hx hb dM0_write_55 rfl (lv_at hl 2 rfl) ?_
      refine mc_i0 (va_runS (As := [.ref (ad 3), .int (nI b)]) (rest := []) ⟨hx, hb, hml, hown, hts⟩ (c_M0_shrink l G b0 Hc (hS.w.get 3 (by decide)) hg (hS.w.b 3 (by decide)) (by omega) hb36) (va_cwS 2 hts gM0_write_M0_shrink rfl rfl rfl (by decide +kernel) ⟨Nat.le_of_ble_eq_true rfl, Nat.le_of_ble_eq_true rfl⟩) (mp_S hK) rfl rfl hl.1 rfl (lv_room (Nat.le_of_ble_eq_true rfl)) dM0_write_56 ⟨Nat.le_of_ble_eq_true rfl, Nat.le_of_ble_eq_true rfl⟩) hLc (fun r H1 locs hP hLc => ?_)
      obtain ⟨g3, z, rfl, hz2, hg3, hv3, rfl⟩ := hP
      have hS := hS.p_lf g3
      generalize hput Hc (ad 3) (aN G 330 g3) = Hc at hS ⊢
      rw [hv] at hv3
      obtain ⟨hv4, hz3⟩ := dvb hb2 hv3 hz2
      refine lv_istore (lv' := [(4, .int (nI z)), (0, .ref o), (1, .int (nI i)), (2, .int (nI b)), (3, .int (nI n))]) hx hb dM0_write_59 hl (by decide) rfl (fun ls hl => ?_)
      refine lv_aload_n hx hb dM0_write_61 rfl (lv_at hl 1 rfl) ?_
      refine va_get (D := G.1) (ci := 1) (v := .ref (ad 10)) (C := RM0) (T := TM0) (N := 17) hx hb hts hwsM0_write hown hK hS.w.ob 0 rfl rfl 16 (by decide) (hts (.fieldLink RM0 41 "ExactNumbersModel" "text" "[I") (by decide +kernel)) (fun _ h9 => h9) rfl dM0_write_62 ?_
      refine lv_iload_n hx hb dM0_write_65 rfl (lv_at hl 4 rfl) ?_
      refine lv_iload hx hb dM0_write_66 (lv_at hl 0 rfl) ?_
      refine lv_bipush (v := nI 10) hx hb dM0_write_68 (by decide) ?_
      refine m_icmp_ge (tgt := 81) hx hb (by omega) (by omega) dM0_write_70 (by decide) (fun c70 => ?_) (fun c70 => ?_)
      · skip
        refine lv_bipush (v := nI 97) hx hb dM0_write_81 (by decide) ?_
        refine lv_iload hx hb dM0_write_83 (lv_at hl 0 rfl) ?_
        refine m_iadd (a := 97) (b := z) hx hb dM0_write_85 ?_
        refine lv_bipush (v := nI 10) hx hb dM0_write_86 (by decide) ?_
        refine m_isub (a := 97 + z) (b := 10) hx hb (by omega) dM0_write_88 ?_
        refine m_nast (n := 520) (f := t2) (b0 := b0) hx hb hK (hS.w.get 10 (by decide)) (by omega) (by decide) (hS.w.b 10 (by decide)) hLc dM0_write_89 (fun locs hLc => ?_)
        have hS := hS.p_tx (fup t2 n ((97 + z) - 10))
        generalize hput Hc (ad 10) (aN G 520 (fup t2 n ((97 + z) - 10))) = Hc at hS ⊢
        refine lv_iinc (v := nI (n + 1)) (lv' := [(3, .int (nI (n + 1))), (4, .int (nI z)), (0, .ref o), (1, .int (nI i)), (2, .int (nI b))]) hx hb dM0_write_90 hl (k := 4) rfl (nI_add n 1) (by decide) rfl (fun ls hl => ?_)
        refine lv_goto (tgt := 37) hx hb dM0_write_93 (by decide) ?_
        exact ih (n + 1) g3 _ _ (by omega) hg3 hv4 (Or.inl (by omega)) (fup_eq ht (by rw [← hz3]; unfold chd; split <;> omega)) hS _ _ hLc (lv_sub hl [2, 3, 4, 0] rfl)
      · skip
        refine lv_bipush (v := nI 48) hx hb dM0_write_73 (by decide) ?_
        refine lv_iload hx hb dM0_write_75 (lv_at hl 0 rfl) ?_
        refine m_iadd (a := 48) (b := z) hx hb dM0_write_77 ?_
        refine lv_goto (tgt := 89) hx hb dM0_write_78 (by decide) ?_
        refine m_nast (n := 520) (f := t2) (b0 := b0) hx hb hK (hS.w.get 10 (by decide)) (by omega) (by decide) (hS.w.b 10 (by decide)) hLc dM0_write_89 (fun locs hLc => ?_)
        have hS := hS.p_tx (fup t2 n (48 + z))
        generalize hput Hc (ad 10) (aN G 520 (fup t2 n (48 + z))) = Hc at hS ⊢
        refine lv_iinc (v := nI (n + 1)) (lv' := [(3, .int (nI (n + 1))), (4, .int (nI z)), (0, .ref o), (1, .int (nI i)), (2, .int (nI b))]) hx hb dM0_write_90 hl (k := 4) rfl (nI_add n 1) (by decide) rfl (fun ls hl => ?_)
        refine lv_goto (tgt := 37) hx hb dM0_write_93 (by decide) ?_
        exact ih (n + 1) g3 _ _ (by omega) hg3 hv4 (Or.inl (by omega)) (fup_eq ht (by rw [← hz3]; unfold chd; split <;> omega)) hS _ _ hLc (lv_sub hl [2, 3, 4, 0] rfl)
    · skip
      have hn0 : n ≠ 0 := c38
      refine lv_aload_n hx hb dM0_write_41 rfl (lv_at hl 0 rfl) ?_
      refine va_get (D := G.1) (ci := 1) (v := .ref (ad 3)) (C := RM0) (T := TM0) (N := 17) hx hb hts hwsM0_write hown hK hS.w.ob 0 rfl rfl 4 (by decide) (hts (.fieldLink RM0 20 "ExactNumbersModel" "left" "[I") (by decide +kernel)) (fun _ h9 => h9) rfl dM0_write_42 ?_
      refine mc_i0 (va_runS (As := [.ref (ad 3)]) (rest := []) ⟨hx, hb, hml, hown, hts⟩ (c_M0_isZero l G b0 Hc (hS.w.get 3 (by decide)) hg) (va_cwS 1 hts gM0_write_M0_isZero rfl rfl rfl (by decide +kernel) ⟨Nat.le_of_ble_eq_true rfl, Nat.le_of_ble_eq_true rfl⟩) (mp_S hK) rfl rfl hl.1 rfl (lv_room (Nat.le_of_ble_eq_true rfl)) dM0_write_45 ⟨Nat.le_of_ble_eq_true rfl, Nat.le_of_ble_eq_true rfl⟩) hLc (fun r H1 locs hP hLc => ?_)
      obtain ⟨hP, rfl⟩ := hP
      rcases hP with ⟨rfl, hzz⟩ | ⟨rfl, hzz⟩
      · skip
        refine m_if_ne (tgt := 96) hx hb (by decide) dM0_write_48 (by decide) (fun _ => ?_) (fun h => absurd h (by decide))
        refine lv_aload_n hx hb dM0_write_96 rfl (lv_at hl 0 rfl) ?_
        refine va_get (D := G.1) (ci := 1) (v := .ref (ad 1)) (C := RM0) (T := TM0) (N := 17) hx hb hts hwsM0_write hown hK hS.w.ob 0 rfl rfl 2 (by decide) (hts (.fieldLink RM0 13 "ExactNumbersModel" "below" "[Z") (by decide +kernel)) (fun _ h9 => h9) rfl dM0_write_97 ?_
        refine lv_iload_n hx hb dM0_write_100 rfl (lv_at hl 1 rfl) ?_
        refine m_zald (n := 64) (f := bw) hx hb hK (hS.w.get 1 (by decide)) (by omega) (by decide) dM0_write_101 ?_
        refine m_if_eq (tgt := 116) hx hb (by omega) dM0_write_102 (by decide) (fun c102 => ?_) (fun c102 => ?_)
        · skip
          have hpos : ¬ valM dg bw i < 0 := by rw [hvi, c102, sg_0]; omega
          refine lv_aload_n hx hb dM0_write_116 rfl (lv_at hl 0 rfl) ?_
          refine lv_iload_n hx hb dM0_write_117 rfl (lv_at hl 3 rfl) ?_
          refine m_put (C := RM0) (T := TM0) (N := 17) (ci := 1) (ty := .int) (b0 := b0) hx hb hts hwsM0_write tyM0 tyM0_ok nmM0 hown hK hS.w.ob rfl 15 (by decide) (hts (.fieldLink RM0 139 "ExactNumbersModel" "written" "I") (by decide +kernel)) rfl (by decide +kernel) (rfl) (rfl) (Nat.le_of_ble_eq_true rfl) hS.w.bo hLc dM0_write_118 (fun Hc2 locs hO hsz hq hLc => ?_)
          have hS := hS.f_wn hO hsz hq
          clear hO hsz hq
          obtain ⟨Hc, rfl⟩ : ∃ Hz, Hz = Hc2 := ⟨_, rfl⟩
          refine lv_iload_n hx hb dM0_write_121 rfl (lv_at hl 3 rfl) ?_
          exact m_iret hx hb hr hlocks hLc dM0_write_122 (Or.inl ⟨i, b, n, n, hi, hb2, hb36, hxi, hyb, by rw [habs]; exact nd_of2 hn0 (by rw [← hv]; exact hzz) hb2 hm, by rw [if_neg hpos, Nat.add_zero], by omega, rfl, _, fun e he => by unfold tch; rw [habs, if_pos he]; exact ht e he, hS.r hI⟩)
        · skip
          have hneg : valM dg bw i < 0 := by have := hzi (by omega); rw [hvi, show bw i = 1 by omega, sg_1]; omega
          refine lv_aload_n hx hb dM0_write_105 rfl (lv_at hl 0 rfl) ?_
          refine va_get (D := G.1) (ci := 1) (v := .ref (ad 10)) (C := RM0) (T := TM0) (N := 17) hx hb hts hwsM0_write hown hK hS.w.ob 0 rfl rfl 16 (by decide) (hts (.fieldLink RM0 41 "ExactNumbersModel" "text" "[I") (by decide +kernel)) (fun _ h9 => h9) rfl dM0_write_106 ?_
          refine lv_iload_n hx hb dM0_write_109 rfl (lv_at hl 3 rfl) ?_
          refine lv_bipush (v := nI 45) hx hb dM0_write_110 (by decide) ?_
          refine m_nast (n := 520) (f := t2) (b0 := b0) hx hb hK (hS.w.get 10 (by decide)) (by omega) (by decide) (hS.w.b 10 (by decide)) hLc dM0_write_112 (fun locs hLc => ?_)
          have hS := hS.p_tx (fup t2 n 45)
          generalize hput Hc (ad 10) (aN G 520 (fup t2 n 45)) = Hc at hS ⊢
          refine lv_iinc (v := nI (n + 1)) (lv' := [(3, .int (nI (n + 1))), (0, .ref o), (1, .int (nI i)), (2, .int (nI b))]) hx hb dM0_write_113 hl (k := 3) rfl (nI_add n 1) (by decide) rfl (fun ls hl => ?_)
          refine lv_aload_n hx hb dM0_write_116 rfl (lv_at hl 1 rfl) ?_
          refine lv_iload_n hx hb dM0_write_117 rfl (lv_at hl 0 rfl) ?_
          refine m_put (C := RM0) (T := TM0) (N := 17) (ci := 1) (ty := .int) (b0 := b0) hx hb hts hwsM0_write tyM0 tyM0_ok nmM0 hown hK hS.w.ob rfl 15 (by decide) (hts (.fieldLink RM0 139 "ExactNumbersModel" "written" "I") (by decide +kernel)) rfl (by decide +kernel) (rfl) (rfl) (Nat.le_of_ble_eq_true rfl) hS.w.bo hLc dM0_write_118 (fun Hc2 locs hO hsz hq hLc => ?_)
          have hS := hS.f_wn hO hsz hq
          clear hO hsz hq
          obtain ⟨Hc, rfl⟩ : ∃ Hz, Hz = Hc2 := ⟨_, rfl⟩
          refine lv_iload_n hx hb dM0_write_121 rfl (lv_at hl 0 rfl) ?_
          exact m_iret hx hb hr hlocks hLc dM0_write_122 (Or.inl ⟨i, b, n, n + 1, hi, hb2, hb36, hxi, hyb, by rw [habs]; exact nd_of2 hn0 (by rw [← hv]; exact hzz) hb2 hm, by rw [if_pos hneg], by omega, rfl, _, fun e he => by unfold tch; rw [habs]; by_cases h9 : e = n <;> simp only [fup] <;> (first | (rw [if_pos (by omega), if_neg (by omega)]) | (rw [if_neg (by omega), if_pos (by omega)]; exact ht e (by omega))), hS.r hI⟩)
      · skip
        refine m_if_ne (tgt := 96) hx hb (by decide) dM0_write_48 (by decide) (fun h => absurd h (by decide)) (fun _ => ?_)
        refine lv_aload_n hx hb dM0_write_51 rfl (lv_at hl 0 rfl) ?_
        refine va_get (D := G.1) (ci := 1) (v := .ref (ad 3)) (C := RM0) (T := TM0) (N := 17) hx hb hts hwsM0_write hown hK hS.w.ob 0 rfl rfl 4 (by decide) (hts (.fieldLink RM0 20 "ExactNumbersModel" "left" "[I") (by decide +kernel)) (fun _ h9 => h9) rfl dM0_write_52 ?_
        refine lv_iload_n hx hb dM0_write_55 rfl (lv_at hl 2 rfl) ?_
        refine mc_i0 (va_runS (As := [.ref (ad 3), .int (nI b)]) (rest := []) ⟨hx, hb, hml, hown, hts⟩ (c_M0_shrink l G b0 Hc (hS.w.get 3 (by decide)) hg (hS.w.b 3 (by decide)) (by omega) hb36) (va_cwS 2 hts gM0_write_M0_shrink rfl rfl rfl (by decide +kernel) ⟨Nat.le_of_ble_eq_true rfl, Nat.le_of_ble_eq_true rfl⟩) (mp_S hK) rfl rfl hl.1 rfl (lv_room (Nat.le_of_ble_eq_true rfl)) dM0_write_56 ⟨Nat.le_of_ble_eq_true rfl, Nat.le_of_ble_eq_true rfl⟩) hLc (fun r H1 locs hP hLc => ?_)
        obtain ⟨g3, z, rfl, hz2, hg3, hv3, rfl⟩ := hP
        have hS := hS.p_lf g3
        generalize hput Hc (ad 3) (aN G 330 g3) = Hc at hS ⊢
        rw [hv] at hv3
        obtain ⟨hv4, hz3⟩ := dvb hb2 hv3 hz2
        refine lv_istore (lv' := [(4, .int (nI z)), (0, .ref o), (1, .int (nI i)), (2, .int (nI b)), (3, .int (nI n))]) hx hb dM0_write_59 hl (by decide) rfl (fun ls hl => ?_)
        refine lv_aload_n hx hb dM0_write_61 rfl (lv_at hl 1 rfl) ?_
        refine va_get (D := G.1) (ci := 1) (v := .ref (ad 10)) (C := RM0) (T := TM0) (N := 17) hx hb hts hwsM0_write hown hK hS.w.ob 0 rfl rfl 16 (by decide) (hts (.fieldLink RM0 41 "ExactNumbersModel" "text" "[I") (by decide +kernel)) (fun _ h9 => h9) rfl dM0_write_62 ?_
        refine lv_iload_n hx hb dM0_write_65 rfl (lv_at hl 4 rfl) ?_
        refine lv_iload hx hb dM0_write_66 (lv_at hl 0 rfl) ?_
        refine lv_bipush (v := nI 10) hx hb dM0_write_68 (by decide) ?_
        refine m_icmp_ge (tgt := 81) hx hb (by omega) (by omega) dM0_write_70 (by decide) (fun c70 => ?_) (fun c70 => ?_)
        · skip
          refine lv_bipush (v := nI 97) hx hb dM0_write_81 (by decide) ?_
          refine lv_iload hx hb dM0_write_83 (lv_at hl 0 rfl) ?_
          refine m_iadd (a := 97) (b := z) hx hb dM0_write_85 ?_
          refine lv_bipush (v := nI 10) hx hb dM0_write_86 (by decide) ?_
          refine m_isub (a := 97 + z) (b := 10) hx hb (by omega) dM0_write_88 ?_
          refine m_nast (n := 520) (f := t2) (b0 := b0) hx hb hK (hS.w.get 10 (by decide)) (by omega) (by decide) (hS.w.b 10 (by decide)) hLc dM0_write_89 (fun locs hLc => ?_)
          have hS := hS.p_tx (fup t2 n ((97 + z) - 10))
          generalize hput Hc (ad 10) (aN G 520 (fup t2 n ((97 + z) - 10))) = Hc at hS ⊢
          refine lv_iinc (v := nI (n + 1)) (lv' := [(3, .int (nI (n + 1))), (4, .int (nI z)), (0, .ref o), (1, .int (nI i)), (2, .int (nI b))]) hx hb dM0_write_90 hl (k := 4) rfl (nI_add n 1) (by decide) rfl (fun ls hl => ?_)
          refine lv_goto (tgt := 37) hx hb dM0_write_93 (by decide) ?_
          exact ih (n + 1) g3 _ _ (by omega) hg3 hv4 (Or.inr (by rw [Nat.add_sub_cancel]; exact le_of_dv (by rw [← hv]; exact hzz))) (fup_eq ht (by rw [← hz3]; unfold chd; split <;> omega)) hS _ _ hLc (lv_sub hl [2, 3, 4, 0] rfl)
        · skip
          refine lv_bipush (v := nI 48) hx hb dM0_write_73 (by decide) ?_
          refine lv_iload hx hb dM0_write_75 (lv_at hl 0 rfl) ?_
          refine m_iadd (a := 48) (b := z) hx hb dM0_write_77 ?_
          refine lv_goto (tgt := 89) hx hb dM0_write_78 (by decide) ?_
          refine m_nast (n := 520) (f := t2) (b0 := b0) hx hb hK (hS.w.get 10 (by decide)) (by omega) (by decide) (hS.w.b 10 (by decide)) hLc dM0_write_89 (fun locs hLc => ?_)
          have hS := hS.p_tx (fup t2 n (48 + z))
          generalize hput Hc (ad 10) (aN G 520 (fup t2 n (48 + z))) = Hc at hS ⊢
          refine lv_iinc (v := nI (n + 1)) (lv' := [(3, .int (nI (n + 1))), (4, .int (nI z)), (0, .ref o), (1, .int (nI i)), (2, .int (nI b))]) hx hb dM0_write_90 hl (k := 4) rfl (nI_add n 1) (by decide) rfl (fun ls hl => ?_)
          refine lv_goto (tgt := 37) hx hb dM0_write_93 (by decide) ?_
          exact ih (n + 1) g3 _ _ (by omega) hg3 hv4 (Or.inr (by rw [Nat.add_sub_cancel]; exact le_of_dv (by rw [← hv]; exact hzz))) (fup_eq ht (by rw [← hz3]; unfold chd; split <;> omega)) hS _ _ hLc (lv_sub hl [2, 3, 4, 0] rfl)
set_option maxRecDepth 100000 in
set_option maxHeartbeats 4000000 in
theorem c_M0_write (l : Launch) (G : gG) (b0 : Nat) (H : Heap) {o : Nat} {ad : Nat → Nat} {th : Nat} {dg : Nat → Nat} {bw : Nat → Nat} {lm : Nat → Nat} {lf : Nat → Nat} {rt : Nat → Nat} {ou : Nat → Nat} {rs : Nat → Nat} {lb : Nat} {rb : Nat} {ob : Nat} {bL : Nat → Nat} {bR : Nat → Nat} {td : Nat} {tp : Nat → Nat} {wn : Nat} {tx : Nat → Nat} (hS : SM G b0 o ad H th dg bw lm lf rt ou rs lb rb ob bL bR td tp wn tx H) (hI : IM dg bw lm) (x y : Int32) : Met l yM0_write wsM0_write ({ frames := 2, cells := 0, slots := 0, locals := 44 } : Room) (PcH G H [.ref o, .int x, .int y]) (QcI (fun r H1 => (∃ i b n len, i ≤ 63 ∧ 2 ≤ b ∧ b ≤ 36 ∧ x = nI i ∧ y = nI b ∧ isND n b (valM dg bw i).natAbs ∧ len = n + (if valM dg bw i < 0 then 1 else 0) ∧ len ≤ 513 ∧ r = nI len ∧ ∃ tx2 : Nat → Nat, (∀ e, e < len → tx2 e = tch b (valM dg bw i) n e) ∧ RM G b0 o ad H (valM dg bw) tp td tx2 len H1) ∨ ((noslot x ∨ (∀ b, 2 ≤ b → b ≤ 36 → b < 2 ^ 31 → y ≠ nI b)) ∧ r = -3 ∧ RM G b0 o ad H (valM dg bw) tp td tx wn H1))) 0 0 (fre b0) := by
  refine m_enter (cc := cM0_write) (maxL := 5) (ret := (some .int)) (own := RM0) (by decide) rfl rfl (Nat.le_of_ble_eq_true rfl) ?_
  intro p e s m below meth c ls hF hnm hH hl
  have hl : lv_has ls 5 [(0, .ref o), (1, .int x), (2, .int y)] := hl
  have hLc : lcs b0 [] := lcs_nil b0
  obtain ⟨hx, hb, hr, hml, hown, hts, hlocks, hK⟩ := id hF
  refine lv_aload_n hx hb dM0_write_0 rfl (lv_at hl 0 rfl) ?_
  refine lv_iconst (v := nI 0) hx hb dM0_write_1 (by decide) ?_
  refine m_put (C := RM0) (T := TM0) (N := 17) (ci := 1) (ty := .int) (b0 := b0) hx hb hts hwsM0_write tyM0 tyM0_ok nmM0 hown hK hS.w.ob rfl 0 (by decide) (hts (.fieldLink RM0 48 "ExactNumbersModel" "thrown" "I") (by decide +kernel)) rfl (by decide +kernel) (rfl) (rfl) (Nat.le_of_ble_eq_true rfl) hS.w.bo hLc dM0_write_2 (fun Hc2 locs hO hsz hq hLc => ?_)
  have hS := hS.f_th hO hsz hq
  clear hO hsz hq
  obtain ⟨Hc, rfl⟩ : ∃ Hz, Hz = Hc2 := ⟨_, rfl⟩
  refine lv_iload_n hx hb dM0_write_5 rfl (lv_at hl 1 rfl) ?_
  refine mc_i0 (va_runS (As := [.int x]) (rest := []) ⟨hx, hb, hml, hown, hts⟩ (c_M0_isSlot l G b0 Hc (x)) (va_cwS 1 hts gM0_write_M0_isSlot rfl rfl rfl (by decide +kernel) ⟨Nat.le_of_ble_eq_true rfl, Nat.le_of_ble_eq_true rfl⟩) (mp_S hK) rfl rfl hl.1 rfl (lv_room (Nat.le_of_ble_eq_true rfl)) dM0_write_6 ⟨Nat.le_of_ble_eq_true rfl, Nat.le_of_ble_eq_true rfl⟩) hLc (fun r H1 locs hP hLc => ?_)
  obtain ⟨hP, rfl⟩ := hP
  rcases hP with ⟨i, _h0, hi, rfl, rfl⟩ | ⟨hno, rfl⟩
  · skip
    refine m_if_eq (tgt := 23) hx hb (by decide) dM0_write_9 (by decide) (fun h => absurd h (by decide)) (fun _ => ?_)
    refine lv_iload_n hx hb dM0_write_12 rfl (lv_at hl 2 rfl) ?_
    refine lv_iconst (v := nI 2) hx hb dM0_write_13 (by decide) ?_
    refine lv_icmp_lt (tgt := 23) hx hb dM0_write_14 (by decide) (fun c14 => ?_) (fun c14 => ?_)
    · skip
      have hnb : ∀ b, 2 ≤ b → b ≤ 36 → b < 2 ^ 31 → y ≠ nI b := lt_no (by decide) c14
      refine lv_bipush (v := -3) hx hb dM0_write_23 (by decide) ?_
      exact m_iret hx hb hr hlocks hLc dM0_write_25 (Or.inr ⟨by first | exact Or.inl hno | exact Or.inr hnb, rfl, hS.r hI⟩)
    · skip
      obtain ⟨b, hblo, hb31, rfl⟩ := ge_of (by decide) c14
      refine lv_iload_n hx hb dM0_write_17 rfl (lv_at hl 2 rfl) ?_
      refine lv_bipush (v := nI 36) hx hb dM0_write_18 (by decide) ?_
      refine m_icmp_le (tgt := 26) hx hb (by omega) (by decide) dM0_write_20 (by decide) (fun c20 => ?_) (fun c20 => ?_)
      · skip
        refine lv_aload_n hx hb dM0_write_26 rfl (lv_at hl 0 rfl) ?_
        refine lv_iload_n hx hb dM0_write_27 rfl (lv_at hl 1 rfl) ?_
        refine lv_aload_n hx hb dM0_write_28 rfl (lv_at hl 0 rfl) ?_
        refine va_get (D := G.1) (ci := 1) (v := .ref (ad 3)) (C := RM0) (T := TM0) (N := 17) hx hb hts hwsM0_write hown hK hS.w.ob 0 rfl rfl 4 (by decide) (hts (.fieldLink RM0 20 "ExactNumbersModel" "left" "[I") (by decide +kernel)) (fun _ h9 => h9) rfl dM0_write_29 ?_
        refine mc_v0 (va_runV (As := [.int (nI i), .ref (ad 3)]) (rest := []) ⟨hx, hb, hml, hown, hts⟩ (c_M0_load_lf l G b0 Hc hS.rf hI hi) (cwV 2 hts gM0_write_M0_load rfl rfl rfl (by decide +kernel) ⟨Nat.le_of_ble_eq_true rfl, Nat.le_of_ble_eq_true rfl⟩) (mp_V hK hS.w.ob rfl) rfl rfl hl.1 rfl (lv_room (Nat.le_of_ble_eq_true rfl)) dM0_write_32 ⟨Nat.le_of_ble_eq_true rfl, Nat.le_of_ble_eq_true rfl⟩) hLc (fun H1 locs hP hLc => ?_)
        obtain ⟨g, hg, hvg, hP⟩ := hP
        have hS : SM G b0 o ad H 0 dg bw lm g rt ou rs lb rb ob bL bR td tp wn tx H1 := WO.trans hS hP
        generalize H1 = Hc at hS ⊢
        refine lv_iconst (v := nI 0) hx hb dM0_write_35 (by decide) ?_
        refine lv_istore_n (lv' := [(3, .int (nI 0)), (0, .ref o), (1, .int (nI i)), (2, .int (nI b))]) hx hb dM0_write_36 rfl hl (by decide) rfl (fun ls hl => ?_)
        exact rwrite_37 (th := th) (lf := lf) hF hI hi hblo (by omega) rfl rfl 512 0 g tx _ (by omega) hg (by rw [hvg, Nat.pow_zero, Nat.div_one]) (Or.inl (by omega)) (fun e he => absurd he (by omega)) hS _ _ hLc (lv_sub hl [1, 2, 3, 0] rfl)
      · skip
        have hnb : ∀ b2, 2 ≤ b2 → b2 ≤ 36 → b2 < 2 ^ 31 → nI b ≠ nI b2 := gt_no hb31 (by omega)
        refine lv_bipush (v := -3) hx hb dM0_write_23 (by decide) ?_
        exact m_iret hx hb hr hlocks hLc dM0_write_25 (Or.inr ⟨by first | exact Or.inl hno | exact Or.inr hnb, rfl, hS.r hI⟩)
  · skip
    refine m_if_eq (tgt := 23) hx hb (by decide) dM0_write_9 (by decide) (fun _ => ?_) (fun h => absurd h (by decide))
    refine lv_bipush (v := -3) hx hb dM0_write_23 (by decide) ?_
    exact m_iret hx hb hr hlocks hLc dM0_write_25 (Or.inr ⟨by first | exact Or.inl hno | exact Or.inr hnb, rfl, hS.r hI⟩)

set_option maxRecDepth 100000 in
set_option maxHeartbeats 4000000 in
theorem c_M0_byteOf (l : Launch) (G : gG) (b0 : Nat) (H : Heap) {o : Nat} {ad : Nat → Nat} {th : Nat} {dg : Nat → Nat} {bw : Nat → Nat} {lm : Nat → Nat} {lf : Nat → Nat} {rt : Nat → Nat} {ou : Nat → Nat} {rs : Nat → Nat} {lb : Nat} {rb : Nat} {ob : Nat} {bL : Nat → Nat} {bR : Nat → Nat} {td : Nat} {tp : Nat → Nat} {wn : Nat} {tx : Nat → Nat} (hS : SM G b0 o ad H th dg bw lm lf rt ou rs lb rb ob bL bR td tp wn tx H) (hI : IM dg bw lm) (hwn : wn ≤ 513) (x : Int32) : Met l yM0_byteOf wsM0_byteOf ({ frames := 0, cells := 0, slots := 0, locals := 0 } : Room) (PcH G H [.ref o, .int x]) (QcI (fun r H1 => ((∃ j, j < wn ∧ x = nI j ∧ r = nI (tx (wn - 1 - j))) ∨ ((∀ j, j < wn → x ≠ nI j) ∧ r = -1)) ∧ RM G b0 o ad H (valM dg bw) tp td tx wn H1)) 0 0 (fre b0) := by
  refine m_enter (cc := cM0_byteOf) (maxL := 2) (ret := (some .int)) (own := RM0) (by decide) rfl rfl (Nat.le_of_ble_eq_true rfl) ?_
  intro p e s m below meth c ls hF hnm hH hl
  have hl : lv_has ls 2 [(0, .ref o), (1, .int x)] := hl
  have hLc : lcs b0 [] := lcs_nil b0
  obtain ⟨hx, hb, hr, hml, hown, hts, hlocks, hK⟩ := id hF
  refine lv_aload_n hx hb dM0_byteOf_0 rfl (lv_at hl 0 rfl) ?_
  refine lv_iconst (v := nI 0) hx hb dM0_byteOf_1 (by decide) ?_
  refine m_put (C := RM0) (T := TM0) (N := 17) (ci := 1) (ty := .int) (b0 := b0) hx hb hts hwsM0_byteOf tyM0 tyM0_ok nmM0 hown hK hS.w.ob rfl 0 (by decide) (hts (.fieldLink RM0 48 "ExactNumbersModel" "thrown" "I") (by decide +kernel)) rfl (by decide +kernel) (rfl) (rfl) (Nat.le_of_ble_eq_true rfl) hS.w.bo hLc dM0_byteOf_2 (fun Hc2 locs hO hsz hq hLc => ?_)
  have hS := hS.f_th hO hsz hq
  clear hO hsz hq
  obtain ⟨Hc, rfl⟩ : ∃ Hz, Hz = Hc2 := ⟨_, rfl⟩
  refine lv_iload_n hx hb dM0_byteOf_5 rfl (lv_at hl 1 rfl) ?_
  refine lv_if_lt (tgt := 33) hx hb dM0_byteOf_6 (by decide) (fun c6 => ?_) (fun c6 => ?_)
  · skip
    have hn : ∀ j, j < wn → x ≠ nI j := fun j hj e => nI_pos (by omega) (e ▸ c6)
    refine lv_iconst (v := -1) hx hb dM0_byteOf_33 (by decide) ?_
    exact m_iret hx hb hr hlocks hLc dM0_byteOf_34 (⟨Or.inr ⟨hn, rfl⟩, hS.r hI⟩)
  · skip
    obtain ⟨j, hj31, rfl⟩ := nI_of c6
    refine lv_iload_n hx hb dM0_byteOf_9 rfl (lv_at hl 1 rfl) ?_
    refine lv_aload_n hx hb dM0_byteOf_10 rfl (lv_at hl 0 rfl) ?_
    refine va_get (D := G.1) (ci := 1) (v := .int (nI wn)) (C := RM0) (T := TM0) (N := 17) hx hb hts hwsM0_byteOf hown hK hS.w.ob 0 rfl rfl 15 (by decide) (hts (.fieldLink RM0 139 "ExactNumbersModel" "written" "I") (by decide +kernel)) (fun _ h9 => h9) rfl dM0_byteOf_11 ?_
    refine m_icmp_ge (tgt := 33) hx hb (by omega) (by omega) dM0_byteOf_14 (by decide) (fun c14 => ?_) (fun c14 => ?_)
    · skip
      have hn : ∀ j2, j2 < wn → nI j ≠ nI j2 := fun j2 hj2 e => by have := (nI_eq hj31 (by omega)).mp e; omega
      refine lv_iconst (v := -1) hx hb dM0_byteOf_33 (by decide) ?_
      exact m_iret hx hb hr hlocks hLc dM0_byteOf_34 (⟨Or.inr ⟨hn, rfl⟩, hS.r hI⟩)
    · skip
      refine lv_aload_n hx hb dM0_byteOf_17 rfl (lv_at hl 0 rfl) ?_
      refine va_get (D := G.1) (ci := 1) (v := .ref (ad 10)) (C := RM0) (T := TM0) (N := 17) hx hb hts hwsM0_byteOf hown hK hS.w.ob 0 rfl rfl 16 (by decide) (hts (.fieldLink RM0 41 "ExactNumbersModel" "text" "[I") (by decide +kernel)) (fun _ h9 => h9) rfl dM0_byteOf_18 ?_
      refine lv_aload_n hx hb dM0_byteOf_21 rfl (lv_at hl 0 rfl) ?_
      refine va_get (D := G.1) (ci := 1) (v := .int (nI wn)) (C := RM0) (T := TM0) (N := 17) hx hb hts hwsM0_byteOf hown hK hS.w.ob 0 rfl rfl 15 (by decide) (hts (.fieldLink RM0 139 "ExactNumbersModel" "written" "I") (by decide +kernel)) (fun _ h9 => h9) rfl dM0_byteOf_22 ?_
      refine lv_iconst (v := nI 1) hx hb dM0_byteOf_25 (by decide) ?_
      refine m_isub (a := wn) (b := 1) hx hb (by omega) dM0_byteOf_26 ?_
      refine lv_iload_n hx hb dM0_byteOf_27 rfl (lv_at hl 1 rfl) ?_
      refine m_isub (a := wn - 1) (b := j) hx hb (by omega) dM0_byteOf_28 ?_
      refine m_nald (n := 520) (f := tx) hx hb hK (hS.w.get 10 (by decide)) (by omega) (by decide) dM0_byteOf_29 ?_
      refine lv_goto (tgt := 34) hx hb dM0_byteOf_30 (by decide) ?_
      exact m_iret hx hb hr hlocks hLc dM0_byteOf_34 (⟨Or.inl ⟨j, by omega, rfl, rfl⟩, hS.r hI⟩)

set_option maxRecDepth 100000 in
set_option maxHeartbeats 4000000 in
theorem digits_84 {p : Program} {l : Launch} {e : Env} {s : State} {m : MethodId} {args : Array Value} {below : List Frame} {meth : Method} {c : Code} {G : gG} {b0 : Nat} {H : Heap} {o : Nat} {ad : Nat → Nat} {th : Nat} {dg : Nat → Nat} {bw : Nat → Nat} {lm : Nat → Nat} {lf : Nat → Nat} {rt : Nat → Nat} {ou : Nat → Nat} {rs : Nat → Nat} {lb : Nat} {rb : Nat} {ob : Nat} {bL : Nat → Nat} {bR : Nat → Nat} {td : Nat} {tp : Nat → Nat} {wn : Nat} {tx : Nat → Nat} {u : Nat} (hF : FxM p s m args meth c G cM0_digits 6 (some .boolean) RM0 wsM0_digits) (hI : IM dg bw lm) (hu : u < 18446744073709551616) (htd : td ≤ 1000) (htp : ∀ j, j < 1000 → tp j ≤ 35) (hok : okb u 8) (hcnt : (dgs u 8 td tp).1 ≤ 1000) : ∀ (q : Nat) (n : Nat) (f : Nat → Nat) (Hc : Heap), q ≤ 8 → (∀ j, j < 1000 → f j ≤ 35) → (dgs u q n f).1 = (dgs u 8 td tp).1 → (∀ j, j < (dgs u q n f).1 → (dgs u q n f).2 j = (dgs u 8 td tp).2 j) → SM G b0 o ad H 0 dg bw lm lf rt ou rs lb rb ob bL bR n f wn tx Hc → ∀ (locs : List Loc) (ls : Array Slot), lcs b0 locs → lv_has ls 6 [(0, .ref o), (1, .long (lN u)), (4, .int (nI q - 1))] → W p l e ({ frames := 1, cells := 0, slots := 0, locals := 20 } : Room) s m args below meth c Hc locs 0 0 (MQ below (QcI (fun r H1 => (r = nI 1 ∧ okb u 8 ∧ (dgs u 8 td tp).1 ≤ 1000 ∧ ∃ tp2 : Nat → Nat, (∀ j, j < 1000 → tp2 j ≤ 35) ∧ (∀ j, j < (dgs u 8 td tp).1 → tp2 j = (dgs u 8 td tp).2 j) ∧ RM G b0 o ad H (valM dg bw) tp2 (dgs u 8 td tp).1 tx wn H1) ∨ (r = nI 0 ∧ ¬ (okb u 8 ∧ (dgs u 8 td tp).1 ≤ 1000) ∧ RM G b0 o ad H (valM dg bw) tp td tx wn H1))) args s 0 0 (fre b0)) (F0 m 84 ls []) := by
  obtain ⟨hx, hb, hr, hml, hown, hts, hlocks, hK⟩ := id hF
  intro q
  induction q with
  | zero =>
    intro n f Hc hq hf hd1 hd2 hS locs ls hLc hl
    refine lv_iload hx hb dM0_digits_84 (lv_at hl 2 rfl) ?_
    refine lv_if_lt (tgt := 141) hx hb dM0_digits_86 (by decide) (fun _ => ?_) (fun h => absurd (by decide) h)
    refine lv_iconst (v := nI 1) hx hb dM0_digits_141 (by decide) ?_
    exact m_zret hx hb hr hlocks hLc (by decide) dM0_digits_142 (Or.inl ⟨rfl, hok, hcnt, f, hf, fun j hj => by rw [← hd1] at hj; exact hd2 j hj, by rw [← hd1]; exact hS.r hI⟩)
  | succ q ih =>
    intro n f Hc hq hf hd1 hd2 hS locs ls hLc hl
    rw [nI_pred] at hl
    have hb6 : byt u q < 256 := Nat.mod_lt _ (by decide)
    have hlen := dgs_le u (q + 1) n f
    refine lv_iload hx hb dM0_digits_84 (lv_at hl 2 rfl) ?_
    refine lv_if_lt (tgt := 141) hx hb dM0_digits_86 (by decide) (fun h => absurd h (nI_pos (by omega))) (fun _ => ?_)
    refine lv_lload_n hx hb dM0_digits_89 rfl (lv_at hl 1 rfl) ?_
    refine lv_bipush (v := nI 8) hx hb dM0_digits_90 (by decide) ?_
    refine lv_iload hx hb dM0_digits_92 (lv_at hl 2 rfl) ?_
    refine m_imul (a := 8) (b := q) hx hb dM0_digits_94 ?_
    refine lv_lshr hx hb dM0_digits_95 (lshr_N (hu) (by omega)) ?_
    refine lv_ldc2 (v := lN 255) hx hb hown (hts (.constantLong RM0 90 (lN 255)) (by decide +kernel)) dM0_digits_96 ?_
    refine m_land hx hb (sar_lt hu) (by decide) dM0_digits_99 ?_
    rw [sar_byt hu (by omega)]
    refine m_l2i hx hb dM0_digits_100 ?_
    refine lv_istore (lv' := [(5, .int (nI (byt u q))), (0, .ref o), (1, .long (lN u)), (4, .int (nI q))]) hx hb dM0_digits_101 hl (by decide) rfl (fun ls hl => ?_)
    refine lv_iload hx hb dM0_digits_103 (lv_at hl 0 rfl) ?_
    refine m_if_ne (tgt := 111) hx hb (by omega) dM0_digits_105 (by decide) (fun c105 => ?_) (fun c105 => ?_)
    · skip
      have hw35 := hok q (by omega) c105
      have hlen2 := dgs_le u q (n + 1) (fup f n (worthN (byt u q)))
      rw [← dgs_1 c105, hd1] at hlen2
      refine lv_aload_n hx hb dM0_digits_111 rfl (lv_at hl 1 rfl) ?_
      refine va_get (D := G.1) (ci := 1) (v := .ref (ad 9)) (C := RM0) (T := TM0) (N := 17) hx hb hts hwsM0_digits hown hK hS.w.ob 0 rfl rfl 14 (by decide) (hts (.fieldLink RM0 38 "ExactNumbersModel" "type" "[I") (by decide +kernel)) (fun _ h9 => h9) rfl dM0_digits_112 ?_
      refine lv_aload_n hx hb dM0_digits_115 rfl (lv_at hl 1 rfl) ?_
      refine va_get (D := G.1) (ci := 1) (v := .int (nI n)) (C := RM0) (T := TM0) (N := 17) hx hb hts hwsM0_digits hown hK hS.w.ob 0 rfl rfl 13 (by decide) (hts (.fieldLink RM0 95 "ExactNumbersModel" "typed" "I") (by decide +kernel)) (fun _ h9 => h9) rfl dM0_digits_116 ?_
      refine lv_iload hx hb dM0_digits_119 (lv_at hl 0 rfl) ?_
      refine mc_i0 (va_runS (As := [.int (nI (byt u q))]) (rest := [.int (nI n), .ref (ad 9)]) ⟨hx, hb, hml, hown, hts⟩ (c_M0_worth l G b0 Hc hb6) (va_cwS 1 hts gM0_digits_M0_worth rfl rfl rfl (by decide +kernel) ⟨Nat.le_of_ble_eq_true rfl, Nat.le_of_ble_eq_true rfl⟩) (mp_S hK) rfl rfl hl.1 rfl (lv_room (Nat.le_of_ble_eq_true rfl)) dM0_digits_121 ⟨Nat.le_of_ble_eq_true rfl, Nat.le_of_ble_eq_true rfl⟩) hLc (fun r H1 locs hP hLc => ?_)
      obtain ⟨rfl, rfl⟩ := hP
      refine m_nast (n := 1000) (f := f) (b0 := b0) hx hb hK (hS.w.get 9 (by decide)) (by omega) (by decide) (hS.w.b 9 (by decide)) hLc dM0_digits_124 (fun locs hLc => ?_)
      have hS := hS.p_tp (fup f n (worthN (byt u q)))
      generalize hput Hc (ad 9) (aN G 1000 (fup f n (worthN (byt u q)))) = Hc at hS ⊢
      refine lv_aload_n hx hb dM0_digits_125 rfl (lv_at hl 1 rfl) ?_
      refine lv_dup hx hb dM0_digits_126 rfl ?_
      refine va_get (D := G.1) (ci := 1) (v := .int (nI n)) (C := RM0) (T := TM0) (N := 17) hx hb hts hwsM0_digits hown hK hS.w.ob 0 rfl rfl 13 (by decide) (hts (.fieldLink RM0 95 "ExactNumbersModel" "typed" "I") (by decide +kernel)) (fun _ h9 => h9) rfl dM0_digits_127 ?_
      refine lv_iconst (v := nI 1) hx hb dM0_digits_130 (by decide) ?_
      refine m_iadd (a := n) (b := 1) hx hb dM0_digits_131 ?_
      refine m_put (C := RM0) (T := TM0) (N := 17) (ci := 1) (ty := .int) (b0 := b0) hx hb hts hwsM0_digits tyM0 tyM0_ok nmM0 hown hK hS.w.ob rfl 13 (by decide) (hts (.fieldLink RM0 95 "ExactNumbersModel" "typed" "I") (by decide +kernel)) rfl (by decide +kernel) (rfl) (rfl) (Nat.le_of_ble_eq_true rfl) hS.w.bo hLc dM0_digits_132 (fun Hc2 locs hO hsz hq hLc => ?_)
      have hS := hS.f_td hO hsz hq
      clear hO hsz hq
      obtain ⟨Hc, rfl⟩ : ∃ Hz, Hz = Hc2 := ⟨_, rfl⟩
      refine lv_iinc (v := nI q - 1) (lv' := [(4, .int (nI q - 1)), (5, .int (nI (byt u q))), (0, .ref o), (1, .long (lN u))]) hx hb dM0_digits_135 hl (k := 3) rfl (nI_decI _) (by decide) rfl (fun ls hl => ?_)
      refine lv_goto (tgt := 84) hx hb dM0_digits_138 (by decide) ?_
      exact ih (n + 1) _ _ (by omega) (fun j hj => if e : j = n then (by rw [e, fup_s]; exact hw35) else (by rw [fup_n _ _ e]; exact hf j hj)) (by rw [← dgs_1 c105]; exact hd1) (fun j hj => by rw [← dgs_1 c105] at hj ⊢; exact hd2 j hj) hS _ _ hLc (lv_sub hl [2, 3, 0] rfl)
    · skip
      refine lv_goto (tgt := 135) hx hb dM0_digits_108 (by decide) ?_
      refine lv_iinc (v := nI q - 1) (lv' := [(4, .int (nI q - 1)), (5, .int (nI (byt u q))), (0, .ref o), (1, .long (lN u))]) hx hb dM0_digits_135 hl (k := 3) rfl (nI_decI _) (by decide) rfl (fun ls hl => ?_)
      refine lv_goto (tgt := 84) hx hb dM0_digits_138 (by decide) ?_
      exact ih n f _ (by omega) hf (by rw [← dgs_0 c105]; exact hd1) (fun j hj => by rw [← dgs_0 c105] at hj ⊢; exact hd2 j hj) hS _ _ hLc (lv_sub hl [2, 3, 0] rfl)
set_option maxRecDepth 100000 in
set_option maxHeartbeats 4000000 in
theorem rdigits_11 {p : Program} {l : Launch} {e : Env} {s : State} {m : MethodId} {args : Array Value} {below : List Frame} {meth : Method} {c : Code} {G : gG} {b0 : Nat} {H : Heap} {o : Nat} {ad : Nat → Nat} {th : Nat} {dg : Nat → Nat} {bw : Nat → Nat} {lm : Nat → Nat} {lf : Nat → Nat} {rt : Nat → Nat} {ou : Nat → Nat} {rs : Nat → Nat} {lb : Nat} {rb : Nat} {ob : Nat} {bL : Nat → Nat} {bR : Nat → Nat} {td : Nat} {tp : Nat → Nat} {wn : Nat} {tx : Nat → Nat} {u : Nat} {Hc : Heap} (hF : FxM p s m args meth c G cM0_digits 6 (some .boolean) RM0 wsM0_digits) (hI : IM dg bw lm) (hu : u < 18446744073709551616) (htd : td ≤ 1000) (htp : ∀ j, j < 1000 → tp j ≤ 35) (hS : SM G b0 o ad H 0 dg bw lm lf rt ou rs lb rb ob bL bR td tp wn tx Hc) : ∀ (q : Nat) (n : Nat), q ≤ 8 → n + q ≤ 8 → (okb u 8 ↔ okb u q) → (dgs u q (td + n) tp).1 = (dgs u 8 td tp).1 → ∀ (locs : List Loc) (ls : Array Slot), lcs b0 locs → lv_has ls 6 [(0, .ref o), (1, .long (lN u)), (3, .int (nI n)), (4, .int (nI q - 1))] → W p l e ({ frames := 1, cells := 0, slots := 0, locals := 20 } : Room) s m args below meth c Hc locs 0 0 (MQ below (QcI (fun r H1 => (r = nI 1 ∧ okb u 8 ∧ (dgs u 8 td tp).1 ≤ 1000 ∧ ∃ tp2 : Nat → Nat, (∀ j, j < 1000 → tp2 j ≤ 35) ∧ (∀ j, j < (dgs u 8 td tp).1 → tp2 j = (dgs u 8 td tp).2 j) ∧ RM G b0 o ad H (valM dg bw) tp2 (dgs u 8 td tp).1 tx wn H1) ∨ (r = nI 0 ∧ ¬ (okb u 8 ∧ (dgs u 8 td tp).1 ≤ 1000) ∧ RM G b0 o ad H (valM dg bw) tp td tx wn H1))) args s 0 0 (fre b0)) (F0 m 11 ls []) := by
  obtain ⟨hx, hb, hr, hml, hown, hts, hlocks, hK⟩ := id hF
  intro q
  induction q with
  | zero =>
    intro n hq hnq hok hd1 locs ls hLc hl
    refine lv_iload hx hb dM0_digits_11 (lv_at hl 3 rfl) ?_
    refine lv_if_lt (tgt := 66) hx hb dM0_digits_13 (by decide) (fun _ => ?_) (fun h => absurd (by decide) h)
    refine lv_aload_n hx hb dM0_digits_66 rfl (lv_at hl 0 rfl) ?_
    refine va_get (D := G.1) (ci := 1) (v := .int (nI td)) (C := RM0) (T := TM0) (N := 17) hx hb hts hwsM0_digits hown hK hS.w.ob 0 rfl rfl 13 (by decide) (hts (.fieldLink RM0 95 "ExactNumbersModel" "typed" "I") (by decide +kernel)) (fun _ h9 => h9) rfl dM0_digits_67 ?_
    refine lv_iload_n hx hb dM0_digits_70 rfl (lv_at hl 2 rfl) ?_
    refine m_iadd (a := td) (b := n) hx hb dM0_digits_71 ?_
    refine lv_sipush (v := nI 1000) hx hb dM0_digits_72 (by decide) ?_
    refine m_icmp_le (tgt := 80) hx hb (by omega) (by decide) dM0_digits_75 (by decide) (fun c75 => ?_) (fun c75 => ?_)
    · skip
      refine lv_bipush (v := 7) hx hb dM0_digits_80 (by decide) ?_
      refine lv_istore (lv' := [(4, .int 7), (0, .ref o), (1, .long (lN u)), (3, .int (nI n))]) hx hb dM0_digits_82 hl (by decide) rfl (fun ls hl => ?_)
      rw [show (7 : Int32) = nI 8 - 1 from by decide] at hl
      exact digits_84 (th := th) hF hI hu htd htp (hok.mpr (fun j hj => absurd hj (by omega))) (by rw [← hd1]; exact c75) 8 td tp _ (Nat.le_refl 8) htp rfl (fun j _ => rfl) hS _ _ hLc (lv_sub hl [1, 2, 0] rfl)
    · skip
      refine lv_iconst (v := nI 0) hx hb dM0_digits_78 (by decide) ?_
      exact m_zret hx hb hr hlocks hLc (by decide) dM0_digits_79 (Or.inr ⟨rfl, fun h => absurd h.2 (by rw [← hd1]; show ¬ td + n ≤ 1000; omega), hS.r hI⟩)
  | succ q ih =>
    intro n hq hnq hok hd1 locs ls hLc hl
    rw [nI_pred] at hl
    have hb6 : byt u q < 256 := Nat.mod_lt _ (by decide)
    have hw99 := worth_cases (byt u q)
    refine lv_iload hx hb dM0_digits_11 (lv_at hl 3 rfl) ?_
    refine lv_if_lt (tgt := 66) hx hb dM0_digits_13 (by decide) (fun h => absurd h (nI_pos (by omega))) (fun _ => ?_)
    refine lv_lload_n hx hb dM0_digits_16 rfl (lv_at hl 1 rfl) ?_
    refine lv_bipush (v := nI 8) hx hb dM0_digits_17 (by decide) ?_
    refine lv_iload hx hb dM0_digits_19 (lv_at hl 3 rfl) ?_
    refine m_imul (a := 8) (b := q) hx hb dM0_digits_21 ?_
    refine lv_lshr hx hb dM0_digits_22 (lshr_N (hu) (by omega)) ?_
    refine lv_ldc2 (v := lN 255) hx hb hown (hts (.constantLong RM0 90 (lN 255)) (by decide +kernel)) dM0_digits_23 ?_
    refine m_land hx hb (sar_lt hu) (by decide) dM0_digits_26 ?_
    rw [sar_byt hu (by omega)]
    refine m_l2i hx hb dM0_digits_27 ?_
    refine lv_istore (lv' := [(5, .int (nI (byt u q))), (0, .ref o), (1, .long (lN u)), (3, .int (nI n)), (4, .int (nI q))]) hx hb dM0_digits_28 hl (by decide) rfl (fun ls hl => ?_)
    refine lv_iload hx hb dM0_digits_30 (lv_at hl 0 rfl) ?_
    refine m_if_eq (tgt := 47) hx hb (by omega) dM0_digits_32 (by decide) (fun c32 => ?_) (fun c32 => ?_)
    · skip
      refine lv_iload_n hx hb dM0_digits_47 rfl (lv_at hl 3 rfl) ?_
      refine lv_iload hx hb dM0_digits_48 (lv_at hl 0 rfl) ?_
      refine m_if_ne (tgt := 57) hx hb (by omega) dM0_digits_50 (by decide) (fun c50 => ?_) (fun c50 => ?_)
      · skip
        exact absurd c32 c50
      · skip
        refine lv_iconst (v := nI 0) hx hb dM0_digits_53 (by decide) ?_
        refine lv_goto (tgt := 58) hx hb dM0_digits_54 (by decide) ?_
        refine m_iadd (a := n) (b := 0) hx hb dM0_digits_58 ?_
        refine lv_istore_n (lv' := [(3, .int (nI (n + 0))), (5, .int (nI (byt u q))), (0, .ref o), (1, .long (lN u)), (4, .int (nI q))]) hx hb dM0_digits_59 rfl hl (by decide) rfl (fun ls hl => ?_)
        refine lv_iinc (v := nI q - 1) (lv' := [(4, .int (nI q - 1)), (3, .int (nI (n + 0))), (5, .int (nI (byt u q))), (0, .ref o), (1, .long (lN u))]) hx hb dM0_digits_60 hl (k := 4) rfl (nI_decI _) (by decide) rfl (fun ls hl => ?_)
        refine lv_goto (tgt := 11) hx hb dM0_digits_63 (by decide) ?_
        exact ih n (by omega) (by omega) (hok.trans ⟨fun h j hj => h j (by omega), fun h j hj hb => if e : j = q then absurd c32 (e ▸ hb) else h j (by omega) hb⟩) (by rw [← dgs_0 c32]; exact hd1) _ _ hLc (lv_sub hl [3, 4, 1, 0] rfl)
    · skip
      refine lv_iload hx hb dM0_digits_35 (lv_at hl 0 rfl) ?_
      refine mc_i0 (va_runS (As := [.int (nI (byt u q))]) (rest := []) ⟨hx, hb, hml, hown, hts⟩ (c_M0_worth l G b0 Hc hb6) (va_cwS 1 hts gM0_digits_M0_worth rfl rfl rfl (by decide +kernel) ⟨Nat.le_of_ble_eq_true rfl, Nat.le_of_ble_eq_true rfl⟩) (mp_S hK) rfl rfl hl.1 rfl (lv_room (Nat.le_of_ble_eq_true rfl)) dM0_digits_37 ⟨Nat.le_of_ble_eq_true rfl, Nat.le_of_ble_eq_true rfl⟩) hLc (fun r H1 locs hP hLc => ?_)
      obtain ⟨rfl, rfl⟩ := hP
      refine lv_bipush (v := nI 35) hx hb dM0_digits_40 (by decide) ?_
      refine m_icmp_le (tgt := 47) hx hb (by omega) (by decide) dM0_digits_42 (by decide) (fun c42 => ?_) (fun c42 => ?_)
      · skip
        refine lv_iload_n hx hb dM0_digits_47 rfl (lv_at hl 3 rfl) ?_
        refine lv_iload hx hb dM0_digits_48 (lv_at hl 0 rfl) ?_
        refine m_if_ne (tgt := 57) hx hb (by omega) dM0_digits_50 (by decide) (fun c50 => ?_) (fun c50 => ?_)
        · skip
          refine lv_iconst (v := nI 1) hx hb dM0_digits_57 (by decide) ?_
          refine m_iadd (a := n) (b := 1) hx hb dM0_digits_58 ?_
          refine lv_istore_n (lv' := [(3, .int (nI (n + 1))), (5, .int (nI (byt u q))), (0, .ref o), (1, .long (lN u)), (4, .int (nI q))]) hx hb dM0_digits_59 rfl hl (by decide) rfl (fun ls hl => ?_)
          refine lv_iinc (v := nI q - 1) (lv' := [(4, .int (nI q - 1)), (3, .int (nI (n + 1))), (5, .int (nI (byt u q))), (0, .ref o), (1, .long (lN u))]) hx hb dM0_digits_60 hl (k := 4) rfl (nI_decI _) (by decide) rfl (fun ls hl => ?_)
          refine lv_goto (tgt := 11) hx hb dM0_digits_63 (by decide) ?_
          exact ih (n + 1) (by omega) (by omega) (hok.trans ⟨fun h j hj => h j (by omega), fun h j hj hb => if e : j = q then (by rw [e]; exact c42) else h j (by omega) hb⟩) (by rw [show td + (n + 1) = td + n + 1 from rfl, dgs_n u q (td + n + 1) tp (fup tp (td + n) (worthN (byt u q))), ← dgs_1 c32]; exact hd1) _ _ hLc (lv_sub hl [3, 4, 1, 0] rfl)
        · skip
          exact absurd c50 c32
      · skip
        refine lv_iconst (v := nI 0) hx hb dM0_digits_45 (by decide) ?_
        exact m_zret hx hb hr hlocks hLc (by decide) dM0_digits_46 (Or.inr ⟨rfl, fun h => absurd (hok.mp h.1 q (by omega) c32) (by omega), hS.r hI⟩)
set_option maxRecDepth 100000 in
set_option maxHeartbeats 4000000 in
theorem c_M0_digits (l : Launch) (G : gG) (b0 : Nat) (H : Heap) {o : Nat} {ad : Nat → Nat} {th : Nat} {dg : Nat → Nat} {bw : Nat → Nat} {lm : Nat → Nat} {lf : Nat → Nat} {rt : Nat → Nat} {ou : Nat → Nat} {rs : Nat → Nat} {lb : Nat} {rb : Nat} {ob : Nat} {bL : Nat → Nat} {bR : Nat → Nat} {td : Nat} {tp : Nat → Nat} {wn : Nat} {tx : Nat → Nat} (hS : SM G b0 o ad H th dg bw lm lf rt ou rs lb rb ob bL bR td tp wn tx H) (hI : IM dg bw lm) {u : Nat} (hu : u < 18446744073709551616) (htd : td ≤ 1000) (htp : ∀ j, j < 1000 → tp j ≤ 35) : Met l yM0_digits wsM0_digits ({ frames := 1, cells := 0, slots := 0, locals := 20 } : Room) (PcH G H [.ref o, .long (lN u)]) (QcI (fun r H1 => (r = nI 1 ∧ okb u 8 ∧ (dgs u 8 td tp).1 ≤ 1000 ∧ ∃ tp2 : Nat → Nat, (∀ j, j < 1000 → tp2 j ≤ 35) ∧ (∀ j, j < (dgs u 8 td tp).1 → tp2 j = (dgs u 8 td tp).2 j) ∧ RM G b0 o ad H (valM dg bw) tp2 (dgs u 8 td tp).1 tx wn H1) ∨ (r = nI 0 ∧ ¬ (okb u 8 ∧ (dgs u 8 td tp).1 ≤ 1000) ∧ RM G b0 o ad H (valM dg bw) tp td tx wn H1))) 0 0 (fre b0) := by
  refine m_enter (cc := cM0_digits) (maxL := 6) (ret := (some .boolean)) (own := RM0) (by decide) rfl rfl (Nat.le_of_ble_eq_true rfl) ?_
  intro p e s m below meth c ls hF hnm hH hl
  have hl : lv_has ls 6 [(0, .ref o), (1, .long (lN u))] := hl
  have hLc : lcs b0 [] := lcs_nil b0
  obtain ⟨hx, hb, hr, hml, hown, hts, hlocks, hK⟩ := id hF
  refine lv_aload_n hx hb dM0_digits_0 rfl (lv_at hl 0 rfl) ?_
  refine lv_iconst (v := nI 0) hx hb dM0_digits_1 (by decide) ?_
  refine m_put (C := RM0) (T := TM0) (N := 17) (ci := 1) (ty := .int) (b0 := b0) hx hb hts hwsM0_digits tyM0 tyM0_ok nmM0 hown hK hS.w.ob rfl 0 (by decide) (hts (.fieldLink RM0 48 "ExactNumbersModel" "thrown" "I") (by decide +kernel)) rfl (by decide +kernel) (rfl) (rfl) (Nat.le_of_ble_eq_true rfl) hS.w.bo hLc dM0_digits_2 (fun Hc2 locs hO hsz hq hLc => ?_)
  have hS := hS.f_th hO hsz hq
  clear hO hsz hq
  obtain ⟨Hc, rfl⟩ : ∃ Hz, Hz = Hc2 := ⟨_, rfl⟩
  refine lv_iconst (v := nI 0) hx hb dM0_digits_5 (by decide) ?_
  refine lv_istore_n (lv' := [(3, .int (nI 0)), (0, .ref o), (1, .long (lN u))]) hx hb dM0_digits_6 rfl hl (by decide) rfl (fun ls hl => ?_)
  refine lv_bipush (v := 7) hx hb dM0_digits_7 (by decide) ?_
  refine lv_istore (lv' := [(4, .int 7), (3, .int (nI 0)), (0, .ref o), (1, .long (lN u))]) hx hb dM0_digits_9 hl (by decide) rfl (fun ls hl => ?_)
  rw [show (7 : Int32) = nI 8 - 1 from by decide] at hl
  exact rdigits_11 (th := th) hF hI hu htd htp hS 8 0 (Nat.le_refl 8) (Nat.le_refl 8) Iff.rfl rfl _ _ hLc (lv_sub hl [2, 3, 1, 0] rfl)

set_option maxRecDepth 100000 in
set_option maxHeartbeats 4000000 in
theorem rread_52 {p : Program} {l : Launch} {e : Env} {s : State} {m : MethodId} {args : Array Value} {below : List Frame} {meth : Method} {c : Code} {G : gG} {b0 : Nat} {H : Heap} {o : Nat} {ad : Nat → Nat} {th : Nat} {dg : Nat → Nat} {bw : Nat → Nat} {lm : Nat → Nat} {lf : Nat → Nat} {rt : Nat → Nat} {ou : Nat → Nat} {rs : Nat → Nat} {lb : Nat} {rb : Nat} {ob : Nat} {bL : Nat → Nat} {bR : Nat → Nat} {td : Nat} {tp : Nat → Nat} {wn : Nat} {tx : Nat → Nat} {k b : Nat} {x y : Int32} (hF : FxM p s m args meth c G cM0_read 6 (some .int) RM0 wsM0_read) (hI : IM dg bw lm) (htd : td ≤ 1000) (htp : ∀ j, j < 1000 → tp j ≤ 35) (hk : k ≤ 63) (hb2 : 2 ≤ b) (hb36 : b ≤ 36) (htd0 : td ≠ 0) (hxk : x = nI k) (hyb : y = nI b) : ∀ (q : Nat) (i gt : Nat) (g : Nat → Nat) (Hc : Heap), i + q = td → (∀ j, j < i → tp j < b) → dlm g 330 → ((gt = 0 ∧ dl g 330 = rdv b tp i ∧ rdv b tp i < 2 ^ 512) ∨ (gt = 1 ∧ 2 ^ 512 ≤ rdv b tp i)) → SM G b0 o ad H 0 dg bw lm lf rt g rs lb rb ob bL bR 0 tp wn tx Hc → ∀ (locs : List Loc) (ls : Array Slot), lcs b0 locs → lv_has ls 6 [(0, .ref o), (1, .int (nI k)), (2, .int (nI b)), (3, .int (nI td)), (4, .int (nI gt)), (5, .int (nI i))] → W p l e ({ frames := 2, cells := 0, slots := 0, locals := 44 } : Room) s m args below meth c Hc locs 0 0 (MQ below (QcI (fun r H1 => (∃ k b, k ≤ 63 ∧ 2 ≤ b ∧ b ≤ 36 ∧ x = nI k ∧ y = nI b ∧ td ≠ 0 ∧ (∀ j, j < td → tp j < b) ∧ KM G b0 o ad H (valM dg bw) tp 0 tx wn k (rdv b tp td) r H1) ∨ ((noslot x ∨ (∀ b, 2 ≤ b → b ≤ 36 → b < 2 ^ 31 → y ≠ nI b) ∨ td = 0 ∨ (∃ k b, x = nI k ∧ 2 ≤ b ∧ b ≤ 36 ∧ y = nI b ∧ ∃ j, j < td ∧ b ≤ tp j)) ∧ r = nI 3 ∧ RM G b0 o ad H (valM dg bw) tp 0 tx wn H1))) args s 0 0 (fre b0)) (F0 m 52 ls []) := by
  obtain ⟨hx, hb, hr, hml, hown, hts, hlocks, hK⟩ := id hF
  intro q
  induction q with
  | zero =>
    intro i gt g Hc hi hd hg hgt hS locs ls hLc hl
    obtain hii : i = td := by omega
    subst hii
    rcases hgt with ⟨rfl, hv, hlt⟩ | ⟨rfl, hv⟩
    · skip
      refine lv_iload hx hb dM0_read_52 (lv_at hl 5 rfl) ?_
      refine lv_iload_n hx hb dM0_read_54 rfl (lv_at hl 3 rfl) ?_
      refine lv_icmp_ge (tgt := 123) hx hb dM0_read_55 (by decide) (fun _ => ?_) (fun h => absurd (nI_le (Nat.le_refl i) (by omega)) h)
      refine lv_aload_n hx hb dM0_read_123 rfl (lv_at hl 0 rfl) ?_
      refine lv_iconst (v := nI 0) hx hb dM0_read_124 (by decide) ?_
      refine m_put (C := RM0) (T := TM0) (N := 17) (ci := 1) (ty := .boolean) (b0 := b0) hx hb hts hwsM0_read tyM0 tyM0_ok nmM0 hown hK hS.w.ob rfl 10 (by decide) (hts (.fieldLink RM0 75 "ExactNumbersModel" "outBelow" "Z") (by decide +kernel)) rfl (by decide +kernel) (nar_z (by decide)) (fit_z (by decide)) (Nat.le_of_ble_eq_true rfl) hS.w.bo hLc dM0_read_125 (fun Hc2 locs hO hsz hq hLc => ?_)
      have hS := hS.f_ob hO hsz hq
      clear hO hsz hq
      obtain ⟨Hc, rfl⟩ : ∃ Hz, Hz = Hc2 := ⟨_, rfl⟩
      refine lv_iload hx hb dM0_read_128 (lv_at hl 4 rfl) ?_
      refine m_if_eq (tgt := 137) hx hb (by decide) dM0_read_130 (by decide) (fun _ => ?_) (fun h => absurd h (by decide))
      refine lv_aload_n hx hb dM0_read_137 rfl (lv_at hl 0 rfl) ?_
      refine lv_iload_n hx hb dM0_read_138 rfl (lv_at hl 1 rfl) ?_
      refine mc_i0 (va_runV (As := [.int (nI k)]) (rest := []) ⟨hx, hb, hml, hown, hts⟩ (c_M0_keep l G b0 Hc hS.rf hI hg (by decide) hk) (cwV 1 hts gM0_read_M0_keep rfl rfl rfl (by decide +kernel) ⟨Nat.le_of_ble_eq_true rfl, Nat.le_of_ble_eq_true rfl⟩) (mp_V hK hS.w.ob rfl) rfl rfl hl.1 rfl (lv_room (Nat.le_of_ble_eq_true rfl)) dM0_read_139 ⟨Nat.le_of_ble_eq_true rfl, Nat.le_of_ble_eq_true rfl⟩) hLc (fun r H1 locs hP hLc => ?_)
      exact m_iret hx hb hr hlocks hLc dM0_read_142 (Or.inl ⟨k, b, hk, hb2, hb36, hxk, hyb, htd0, hd, (KM.trans hS hP).val (by rw [sg_0, hv])⟩)
    · skip
      refine lv_iload hx hb dM0_read_52 (lv_at hl 5 rfl) ?_
      refine lv_iload_n hx hb dM0_read_54 rfl (lv_at hl 3 rfl) ?_
      refine lv_icmp_ge (tgt := 123) hx hb dM0_read_55 (by decide) (fun _ => ?_) (fun h => absurd (nI_le (Nat.le_refl i) (by omega)) h)
      refine lv_aload_n hx hb dM0_read_123 rfl (lv_at hl 0 rfl) ?_
      refine lv_iconst (v := nI 0) hx hb dM0_read_124 (by decide) ?_
      refine m_put (C := RM0) (T := TM0) (N := 17) (ci := 1) (ty := .boolean) (b0 := b0) hx hb hts hwsM0_read tyM0 tyM0_ok nmM0 hown hK hS.w.ob rfl 10 (by decide) (hts (.fieldLink RM0 75 "ExactNumbersModel" "outBelow" "Z") (by decide +kernel)) rfl (by decide +kernel) (nar_z (by decide)) (fit_z (by decide)) (Nat.le_of_ble_eq_true rfl) hS.w.bo hLc dM0_read_125 (fun Hc2 locs hO hsz hq hLc => ?_)
      have hS := hS.f_ob hO hsz hq
      clear hO hsz hq
      obtain ⟨Hc, rfl⟩ : ∃ Hz, Hz = Hc2 := ⟨_, rfl⟩
      refine lv_iload hx hb dM0_read_128 (lv_at hl 4 rfl) ?_
      refine m_if_eq (tgt := 137) hx hb (by decide) dM0_read_130 (by decide) (fun h => absurd h (by decide)) (fun _ => ?_)
      refine lv_iconst (v := nI 1) hx hb dM0_read_133 (by decide) ?_
      refine lv_goto (tgt := 142) hx hb dM0_read_134 (by decide) ?_
      exact m_iret hx hb hr hlocks hLc dM0_read_142 (Or.inl ⟨k, b, hk, hb2, hb36, hxk, hyb, htd0, hd, Or.inr ⟨hv, rfl, hS.r hI⟩⟩)
  | succ q ih =>
    intro i gt g Hc hi hd hg hgt hS locs ls hLc hl
    have hti := htp i (by omega)
    rcases hgt with ⟨rfl, hv, hlt⟩ | ⟨rfl, hv⟩
    · skip
      refine lv_iload hx hb dM0_read_52 (lv_at hl 5 rfl) ?_
      refine lv_iload_n hx hb dM0_read_54 rfl (lv_at hl 3 rfl) ?_
      refine lv_icmp_ge (tgt := 123) hx hb dM0_read_55 (by decide) (fun h => absurd h (nI_ge (by omega) (by omega))) (fun _ => ?_)
      refine lv_aload_n hx hb dM0_read_58 rfl (lv_at hl 0 rfl) ?_
      refine va_get (D := G.1) (ci := 1) (v := .ref (ad 9)) (C := RM0) (T := TM0) (N := 17) hx hb hts hwsM0_read hown hK hS.w.ob 0 rfl rfl 14 (by decide) (hts (.fieldLink RM0 38 "ExactNumbersModel" "type" "[I") (by decide +kernel)) (fun _ h9 => h9) rfl dM0_read_59 ?_
      refine lv_iload hx hb dM0_read_62 (lv_at hl 5 rfl) ?_
      refine m_nald (n := 1000) (f := tp) hx hb hK (hS.w.get 9 (by decide)) (by omega) (by decide) dM0_read_64 ?_
      refine lv_iload_n hx hb dM0_read_65 rfl (lv_at hl 2 rfl) ?_
      refine m_icmp_lt (tgt := 71) hx hb (by omega) (by omega) dM0_read_66 (by decide) (fun c66 => ?_) (fun c66 => ?_)
      · skip
        have hd2 : ∀ j, j < i + 1 → tp j < b := fun j hj => if e : j = i then (by rw [e]; exact c66) else hd j (by omega)
        refine lv_iload hx hb dM0_read_71 (lv_at hl 4 rfl) ?_
        refine m_if_ne (tgt := 91) hx hb (by decide) dM0_read_73 (by decide) (fun h => absurd h (by decide)) (fun _ => ?_)
        refine lv_aload_n hx hb dM0_read_76 rfl (lv_at hl 0 rfl) ?_
        refine va_get (D := G.1) (ci := 1) (v := .ref (ad 5)) (C := RM0) (T := TM0) (N := 17) hx hb hts hwsM0_read hown hK hS.w.ob 0 rfl rfl 6 (by decide) (hts (.fieldLink RM0 26 "ExactNumbersModel" "out" "[I") (by decide +kernel)) (fun _ h9 => h9) rfl dM0_read_77 ?_
        refine lv_iload_n hx hb dM0_read_80 rfl (lv_at hl 2 rfl) ?_
        refine lv_aload_n hx hb dM0_read_81 rfl (lv_at hl 0 rfl) ?_
        refine va_get (D := G.1) (ci := 1) (v := .ref (ad 9)) (C := RM0) (T := TM0) (N := 17) hx hb hts hwsM0_read hown hK hS.w.ob 0 rfl rfl 14 (by decide) (hts (.fieldLink RM0 38 "ExactNumbersModel" "type" "[I") (by decide +kernel)) (fun _ h9 => h9) rfl dM0_read_82 ?_
        refine lv_iload hx hb dM0_read_85 (lv_at hl 5 rfl) ?_
        refine m_nald (n := 1000) (f := tp) hx hb hK (hS.w.get 9 (by decide)) (by omega) (by decide) dM0_read_87 ?_
        refine mc_v0 (va_runS (As := [.ref (ad 5), .int (nI b), .int (nI (tp i))]) (rest := []) ⟨hx, hb, hml, hown, hts⟩ (c_M0_grow l G b0 Hc (hS.w.get 5 (by decide)) hg (hS.w.b 5 (by decide)) hb36 (by omega)) (va_cwS 3 hts gM0_read_M0_grow rfl rfl rfl (by decide +kernel) ⟨Nat.le_of_ble_eq_true rfl, Nat.le_of_ble_eq_true rfl⟩) (mp_S hK) rfl rfl hl.1 rfl (lv_room (Nat.le_of_ble_eq_true rfl)) dM0_read_88 ⟨Nat.le_of_ble_eq_true rfl, Nat.le_of_ble_eq_true rfl⟩) hLc (fun H1 locs hP hLc => ?_)
        obtain ⟨g3, c2, hg3, hvg3, rfl⟩ := hP
        have hS := hS.p_ou g3
        generalize hput Hc (ad 5) (aN G 330 g3) = Hc at hS ⊢
        have hv3 : dl g3 330 = rdv b tp (i + 1) := by rw [hv] at hvg3; rw [rdv_s]; exact rd_b hlt hb36 hti hvg3
        refine lv_iload hx hb dM0_read_91 (lv_at hl 4 rfl) ?_
        refine m_if_ne (tgt := 110) hx hb (by decide) dM0_read_93 (by decide) (fun h => absurd h (by decide)) (fun _ => ?_)
        refine lv_aload_n hx hb dM0_read_96 rfl (lv_at hl 0 rfl) ?_
        refine va_get (D := G.1) (ci := 1) (v := .ref (ad 5)) (C := RM0) (T := TM0) (N := 17) hx hb hts hwsM0_read hown hK hS.w.ob 0 rfl rfl 6 (by decide) (hts (.fieldLink RM0 26 "ExactNumbersModel" "out" "[I") (by decide +kernel)) (fun _ h9 => h9) rfl dM0_read_97 ?_
        refine lv_aload_n hx hb dM0_read_100 rfl (lv_at hl 0 rfl) ?_
        refine va_get (D := G.1) (ci := 1) (v := .ref (ad 2)) (C := RM0) (T := TM0) (N := 17) hx hb hts hwsM0_read hown hK hS.w.ob 0 rfl rfl 3 (by decide) (hts (.fieldLink RM0 17 "ExactNumbersModel" "limit" "[I") (by decide +kernel)) (fun _ h9 => h9) rfl dM0_read_101 ?_
        refine mc_i0 (va_runS (As := [.ref (ad 5), .ref (ad 2)]) (rest := []) ⟨hx, hb, hml, hown, hts⟩ (c_M0_order l G b0 Hc (hS.w.get 5 (by decide)) (hS.w.get 2 (by decide)) hg3 hI.l) (va_cwS 2 hts gM0_read_M0_order rfl rfl rfl (by decide +kernel) ⟨Nat.le_of_ble_eq_true rfl, Nat.le_of_ble_eq_true rfl⟩) (mp_S hK) rfl rfl hl.1 rfl (lv_room (Nat.le_of_ble_eq_true rfl)) dM0_read_104 ⟨Nat.le_of_ble_eq_true rfl, Nat.le_of_ble_eq_true rfl⟩) hLc (fun r H1 locs hP hLc => ?_)
        obtain ⟨hP, rfl⟩ := hP
        rcases hP with ⟨hor, rfl⟩ | ⟨hor, rfl⟩ | ⟨hor, rfl⟩
        · skip
          refine lv_if_lt (tgt := 114) hx hb dM0_read_107 (by decide) (fun _ => ?_) (fun h => absurd (by decide) h)
          refine lv_iconst (v := nI 0) hx hb dM0_read_114 (by decide) ?_
          refine lv_istore (lv' := [(4, .int (nI 0)), (0, .ref o), (1, .int (nI k)), (2, .int (nI b)), (3, .int (nI td)), (5, .int (nI i))]) hx hb dM0_read_115 hl (by decide) rfl (fun ls hl => ?_)
          refine lv_iinc (v := nI (i + 1)) (lv' := [(5, .int (nI (i + 1))), (4, .int (nI 0)), (0, .ref o), (1, .int (nI k)), (2, .int (nI b)), (3, .int (nI td))]) hx hb dM0_read_117 hl (k := 5) rfl (nI_add i 1) (by decide) rfl (fun ls hl => ?_)
          refine lv_goto (tgt := 52) hx hb dM0_read_120 (by decide) ?_
          exact ih (i + 1) 0 g3 _ (by omega) hd2 hg3 (Or.inl ⟨rfl, hv3, by have := hI.lv; omega⟩) hS _ _ hLc (lv_sub hl [2, 3, 4, 5, 1, 0] rfl)
        · skip
          refine lv_if_lt (tgt := 114) hx hb dM0_read_107 (by decide) (fun h => absurd h (by decide)) (fun _ => ?_)
          refine lv_iconst (v := nI 1) hx hb dM0_read_110 (by decide) ?_
          refine lv_goto (tgt := 115) hx hb dM0_read_111 (by decide) ?_
          refine lv_istore (lv' := [(4, .int (nI 1)), (0, .ref o), (1, .int (nI k)), (2, .int (nI b)), (3, .int (nI td)), (5, .int (nI i))]) hx hb dM0_read_115 hl (by decide) rfl (fun ls hl => ?_)
          refine lv_iinc (v := nI (i + 1)) (lv' := [(5, .int (nI (i + 1))), (4, .int (nI 1)), (0, .ref o), (1, .int (nI k)), (2, .int (nI b)), (3, .int (nI td))]) hx hb dM0_read_117 hl (k := 5) rfl (nI_add i 1) (by decide) rfl (fun ls hl => ?_)
          refine lv_goto (tgt := 52) hx hb dM0_read_120 (by decide) ?_
          exact ih (i + 1) 1 g3 _ (by omega) hd2 hg3 (Or.inr ⟨rfl, by have := hI.lv; omega⟩) hS _ _ hLc (lv_sub hl [2, 3, 4, 5, 1, 0] rfl)
        · skip
          refine lv_if_lt (tgt := 114) hx hb dM0_read_107 (by decide) (fun h => absurd h (by decide)) (fun _ => ?_)
          refine lv_iconst (v := nI 1) hx hb dM0_read_110 (by decide) ?_
          refine lv_goto (tgt := 115) hx hb dM0_read_111 (by decide) ?_
          refine lv_istore (lv' := [(4, .int (nI 1)), (0, .ref o), (1, .int (nI k)), (2, .int (nI b)), (3, .int (nI td)), (5, .int (nI i))]) hx hb dM0_read_115 hl (by decide) rfl (fun ls hl => ?_)
          refine lv_iinc (v := nI (i + 1)) (lv' := [(5, .int (nI (i + 1))), (4, .int (nI 1)), (0, .ref o), (1, .int (nI k)), (2, .int (nI b)), (3, .int (nI td))]) hx hb dM0_read_117 hl (k := 5) rfl (nI_add i 1) (by decide) rfl (fun ls hl => ?_)
          refine lv_goto (tgt := 52) hx hb dM0_read_120 (by decide) ?_
          exact ih (i + 1) 1 g3 _ (by omega) hd2 hg3 (Or.inr ⟨rfl, by have := hI.lv; omega⟩) hS _ _ hLc (lv_sub hl [2, 3, 4, 5, 1, 0] rfl)
      · skip
        refine lv_iconst (v := nI 3) hx hb dM0_read_69 (by decide) ?_
        exact m_iret hx hb hr hlocks hLc dM0_read_70 (Or.inr ⟨Or.inr (Or.inr (Or.inr ⟨k, b, hxk, hb2, hb36, hyb, i, by omega, by omega⟩)), rfl, hS.r hI⟩)
    · skip
      refine lv_iload hx hb dM0_read_52 (lv_at hl 5 rfl) ?_
      refine lv_iload_n hx hb dM0_read_54 rfl (lv_at hl 3 rfl) ?_
      refine lv_icmp_ge (tgt := 123) hx hb dM0_read_55 (by decide) (fun h => absurd h (nI_ge (by omega) (by omega))) (fun _ => ?_)
      refine lv_aload_n hx hb dM0_read_58 rfl (lv_at hl 0 rfl) ?_
      refine va_get (D := G.1) (ci := 1) (v := .ref (ad 9)) (C := RM0) (T := TM0) (N := 17) hx hb hts hwsM0_read hown hK hS.w.ob 0 rfl rfl 14 (by decide) (hts (.fieldLink RM0 38 "ExactNumbersModel" "type" "[I") (by decide +kernel)) (fun _ h9 => h9) rfl dM0_read_59 ?_
      refine lv_iload hx hb dM0_read_62 (lv_at hl 5 rfl) ?_
      refine m_nald (n := 1000) (f := tp) hx hb hK (hS.w.get 9 (by decide)) (by omega) (by decide) dM0_read_64 ?_
      refine lv_iload_n hx hb dM0_read_65 rfl (lv_at hl 2 rfl) ?_
      refine m_icmp_lt (tgt := 71) hx hb (by omega) (by omega) dM0_read_66 (by decide) (fun c66 => ?_) (fun c66 => ?_)
      · skip
        have hd2 : ∀ j, j < i + 1 → tp j < b := fun j hj => if e : j = i then (by rw [e]; exact c66) else hd j (by omega)
        refine lv_iload hx hb dM0_read_71 (lv_at hl 4 rfl) ?_
        refine m_if_ne (tgt := 91) hx hb (by decide) dM0_read_73 (by decide) (fun _ => ?_) (fun h => absurd h (by decide))
        refine lv_iload hx hb dM0_read_91 (lv_at hl 4 rfl) ?_
        refine m_if_ne (tgt := 110) hx hb (by decide) dM0_read_93 (by decide) (fun _ => ?_) (fun h => absurd h (by decide))
        refine lv_iconst (v := nI 1) hx hb dM0_read_110 (by decide) ?_
        refine lv_goto (tgt := 115) hx hb dM0_read_111 (by decide) ?_
        refine lv_istore (lv' := [(4, .int (nI 1)), (0, .ref o), (1, .int (nI k)), (2, .int (nI b)), (3, .int (nI td)), (5, .int (nI i))]) hx hb dM0_read_115 hl (by decide) rfl (fun ls hl => ?_)
        refine lv_iinc (v := nI (i + 1)) (lv' := [(5, .int (nI (i + 1))), (4, .int (nI 1)), (0, .ref o), (1, .int (nI k)), (2, .int (nI b)), (3, .int (nI td))]) hx hb dM0_read_117 hl (k := 5) rfl (nI_add i 1) (by decide) rfl (fun ls hl => ?_)
        refine lv_goto (tgt := 52) hx hb dM0_read_120 (by decide) ?_
        exact ih (i + 1) 1 g _ (by omega) hd2 hg (Or.inr ⟨rfl, Nat.le_trans hv (rdv_mono tp (by omega) (Nat.le_succ i))⟩) hS _ _ hLc (lv_sub hl [2, 3, 4, 5, 1, 0] rfl)
      · skip
        refine lv_iconst (v := nI 3) hx hb dM0_read_69 (by decide) ?_
        exact m_iret hx hb hr hlocks hLc dM0_read_70 (Or.inr ⟨Or.inr (Or.inr (Or.inr ⟨k, b, hxk, hb2, hb36, hyb, i, by omega, by omega⟩)), rfl, hS.r hI⟩)
set_option maxRecDepth 100000 in
set_option maxHeartbeats 4000000 in
theorem c_M0_read (l : Launch) (G : gG) (b0 : Nat) (H : Heap) {o : Nat} {ad : Nat → Nat} {th : Nat} {dg : Nat → Nat} {bw : Nat → Nat} {lm : Nat → Nat} {lf : Nat → Nat} {rt : Nat → Nat} {ou : Nat → Nat} {rs : Nat → Nat} {lb : Nat} {rb : Nat} {ob : Nat} {bL : Nat → Nat} {bR : Nat → Nat} {td : Nat} {tp : Nat → Nat} {wn : Nat} {tx : Nat → Nat} (hS : SM G b0 o ad H th dg bw lm lf rt ou rs lb rb ob bL bR td tp wn tx H) (hI : IM dg bw lm) (htd : td ≤ 1000) (htp : ∀ j, j < 1000 → tp j ≤ 35) (x y : Int32) : Met l yM0_read wsM0_read ({ frames := 2, cells := 0, slots := 0, locals := 44 } : Room) (PcH G H [.ref o, .int x, .int y]) (QcI (fun r H1 => (∃ k b, k ≤ 63 ∧ 2 ≤ b ∧ b ≤ 36 ∧ x = nI k ∧ y = nI b ∧ td ≠ 0 ∧ (∀ j, j < td → tp j < b) ∧ KM G b0 o ad H (valM dg bw) tp 0 tx wn k (rdv b tp td) r H1) ∨ ((noslot x ∨ (∀ b, 2 ≤ b → b ≤ 36 → b < 2 ^ 31 → y ≠ nI b) ∨ td = 0 ∨ (∃ k b, x = nI k ∧ 2 ≤ b ∧ b ≤ 36 ∧ y = nI b ∧ ∃ j, j < td ∧ b ≤ tp j)) ∧ r = nI 3 ∧ RM G b0 o ad H (valM dg bw) tp 0 tx wn H1))) 0 0 (fre b0) := by
  refine m_enter (cc := cM0_read) (maxL := 6) (ret := (some .int)) (own := RM0) (by decide) rfl rfl (Nat.le_of_ble_eq_true rfl) ?_
  intro p e s m below meth c ls hF hnm hH hl
  have hl : lv_has ls 6 [(0, .ref o), (1, .int x), (2, .int y)] := hl
  have hLc : lcs b0 [] := lcs_nil b0
  obtain ⟨hx, hb, hr, hml, hown, hts, hlocks, hK⟩ := id hF
  refine lv_aload_n hx hb dM0_read_0 rfl (lv_at hl 0 rfl) ?_
  refine lv_iconst (v := nI 0) hx hb dM0_read_1 (by decide) ?_
  refine m_put (C := RM0) (T := TM0) (N := 17) (ci := 1) (ty := .int) (b0 := b0) hx hb hts hwsM0_read tyM0 tyM0_ok nmM0 hown hK hS.w.ob rfl 0 (by decide) (hts (.fieldLink RM0 48 "ExactNumbersModel" "thrown" "I") (by decide +kernel)) rfl (by decide +kernel) (rfl) (rfl) (Nat.le_of_ble_eq_true rfl) hS.w.bo hLc dM0_read_2 (fun Hc2 locs hO hsz hq hLc => ?_)
  have hS := hS.f_th hO hsz hq
  clear hO hsz hq
  obtain ⟨Hc, rfl⟩ : ∃ Hz, Hz = Hc2 := ⟨_, rfl⟩
  refine lv_aload_n hx hb dM0_read_5 rfl (lv_at hl 0 rfl) ?_
  refine va_get (D := G.1) (ci := 1) (v := .int (nI td)) (C := RM0) (T := TM0) (N := 17) hx hb hts hwsM0_read hown hK hS.w.ob 0 rfl rfl 13 (by decide) (hts (.fieldLink RM0 95 "ExactNumbersModel" "typed" "I") (by decide +kernel)) (fun _ h9 => h9) rfl dM0_read_6 ?_
  refine lv_istore_n (lv' := [(3, .int (nI td)), (0, .ref o), (1, .int x), (2, .int y)]) hx hb dM0_read_9 rfl hl (by decide) rfl (fun ls hl => ?_)
  refine lv_aload_n hx hb dM0_read_10 rfl (lv_at hl 1 rfl) ?_
  refine lv_iconst (v := nI 0) hx hb dM0_read_11 (by decide) ?_
  refine m_put (C := RM0) (T := TM0) (N := 17) (ci := 1) (ty := .int) (b0 := b0) hx hb hts hwsM0_read tyM0 tyM0_ok nmM0 hown hK hS.w.ob rfl 13 (by decide) (hts (.fieldLink RM0 95 "ExactNumbersModel" "typed" "I") (by decide +kernel)) rfl (by decide +kernel) (rfl) (rfl) (Nat.le_of_ble_eq_true rfl) hS.w.bo hLc dM0_read_12 (fun Hc2 locs hO hsz hq hLc => ?_)
  have hS := hS.f_td hO hsz hq
  clear hO hsz hq
  obtain ⟨Hc, rfl⟩ : ∃ Hz, Hz = Hc2 := ⟨_, rfl⟩
  refine lv_iload_n hx hb dM0_read_15 rfl (lv_at hl 2 rfl) ?_
  refine mc_i0 (va_runS (As := [.int x]) (rest := []) ⟨hx, hb, hml, hown, hts⟩ (c_M0_isSlot l G b0 Hc (x)) (va_cwS 1 hts gM0_read_M0_isSlot rfl rfl rfl (by decide +kernel) ⟨Nat.le_of_ble_eq_true rfl, Nat.le_of_ble_eq_true rfl⟩) (mp_S hK) rfl rfl hl.1 rfl (lv_room (Nat.le_of_ble_eq_true rfl)) dM0_read_16 ⟨Nat.le_of_ble_eq_true rfl, Nat.le_of_ble_eq_true rfl⟩) hLc (fun r H1 locs hP hLc => ?_)
  obtain ⟨hP, rfl⟩ := hP
  rcases hP with ⟨k, _h0, hk, rfl, rfl⟩ | ⟨hno, rfl⟩
  · skip
    refine m_if_eq (tgt := 37) hx hb (by decide) dM0_read_19 (by decide) (fun h => absurd h (by decide)) (fun _ => ?_)
    refine lv_iload_n hx hb dM0_read_22 rfl (lv_at hl 3 rfl) ?_
    refine lv_iconst (v := nI 2) hx hb dM0_read_23 (by decide) ?_
    refine lv_icmp_lt (tgt := 37) hx hb dM0_read_24 (by decide) (fun c24 => ?_) (fun c24 => ?_)
    · skip
      have hnb : ∀ b, 2 ≤ b → b ≤ 36 → b < 2 ^ 31 → y ≠ nI b := lt_no (by decide) c24
      refine lv_iconst (v := nI 3) hx hb dM0_read_37 (by decide) ?_
      exact m_iret hx hb hr hlocks hLc dM0_read_38 (Or.inr ⟨by first | exact Or.inl hno | exact Or.inr (Or.inl hnb) | exact Or.inr (Or.inr (Or.inl c34)), rfl, hS.r hI⟩)
    · skip
      obtain ⟨b, hblo, hb31, rfl⟩ := ge_of (by decide) c24
      refine lv_iload_n hx hb dM0_read_27 rfl (lv_at hl 3 rfl) ?_
      refine lv_bipush (v := nI 36) hx hb dM0_read_28 (by decide) ?_
      refine m_icmp_gt (tgt := 37) hx hb (by omega) (by decide) dM0_read_30 (by decide) (fun c30 => ?_) (fun c30 => ?_)
      · skip
        have hnb : ∀ b2, 2 ≤ b2 → b2 ≤ 36 → b2 < 2 ^ 31 → nI b ≠ nI b2 := gt_no hb31 (by omega)
        refine lv_iconst (v := nI 3) hx hb dM0_read_37 (by decide) ?_
        exact m_iret hx hb hr hlocks hLc dM0_read_38 (Or.inr ⟨by first | exact Or.inl hno | exact Or.inr (Or.inl hnb) | exact Or.inr (Or.inr (Or.inl c34)), rfl, hS.r hI⟩)
      · skip
        refine lv_iload_n hx hb dM0_read_33 rfl (lv_at hl 0 rfl) ?_
        refine m_if_ne (tgt := 39) hx hb (by omega) dM0_read_34 (by decide) (fun c34 => ?_) (fun c34 => ?_)
        · skip
          refine lv_iconst (v := nI 0) hx hb dM0_read_39 (by decide) ?_
          refine lv_istore (lv' := [(4, .int (nI 0)), (3, .int (nI td)), (0, .ref o), (1, .int (nI k)), (2, .int (nI b))]) hx hb dM0_read_40 hl (by decide) rfl (fun ls hl => ?_)
          refine lv_aload_n hx hb dM0_read_42 rfl (lv_at hl 2 rfl) ?_
          refine va_get (D := G.1) (ci := 1) (v := .ref (ad 5)) (C := RM0) (T := TM0) (N := 17) hx hb hts hwsM0_read hown hK hS.w.ob 0 rfl rfl 6 (by decide) (hts (.fieldLink RM0 26 "ExactNumbersModel" "out" "[I") (by decide +kernel)) (fun _ h9 => h9) rfl dM0_read_43 ?_
          refine mc_v0 (va_runS (As := [.ref (ad 5)]) (rest := []) ⟨hx, hb, hml, hown, hts⟩ (c_M0_clear l G b0 Hc (hS.w.get 5 (by decide)) (hS.w.b 5 (by decide))) (va_cwS 1 hts gM0_read_M0_clear rfl rfl rfl (by decide +kernel) ⟨Nat.le_of_ble_eq_true rfl, Nat.le_of_ble_eq_true rfl⟩) (mp_S hK) rfl rfl hl.1 rfl (lv_room (Nat.le_of_ble_eq_true rfl)) dM0_read_46 ⟨Nat.le_of_ble_eq_true rfl, Nat.le_of_ble_eq_true rfl⟩) hLc (fun H1 locs hP hLc => ?_)
          subst hP
          have hS := hS.p_ou (fun _ => 0)
          generalize hput Hc (ad 5) (aN G 330 (fun _ => 0)) = Hc at hS ⊢
          refine lv_iconst (v := nI 0) hx hb dM0_read_49 (by decide) ?_
          refine lv_istore (lv' := [(5, .int (nI 0)), (4, .int (nI 0)), (3, .int (nI td)), (0, .ref o), (1, .int (nI k)), (2, .int (nI b))]) hx hb dM0_read_50 hl (by decide) rfl (fun ls hl => ?_)
          exact rread_52 (th := th) (ou := ou) hF hI htd htp hk hblo (by omega) c34 rfl rfl td 0 0 _ _ (by omega) (fun j hj => absurd hj (by omega)) (fun j _ => by decide) (Or.inl ⟨rfl, by rw [dl0]; rfl, Nat.pow_pos (by decide)⟩) hS _ _ hLc (lv_sub hl [3, 4, 5, 2, 1, 0] rfl)
        · skip
          refine lv_iconst (v := nI 3) hx hb dM0_read_37 (by decide) ?_
          exact m_iret hx hb hr hlocks hLc dM0_read_38 (Or.inr ⟨by first | exact Or.inl hno | exact Or.inr (Or.inl hnb) | exact Or.inr (Or.inr (Or.inl c34)), rfl, hS.r hI⟩)
  · skip
    refine m_if_eq (tgt := 37) hx hb (by decide) dM0_read_19 (by decide) (fun _ => ?_) (fun h => absurd h (by decide))
    refine lv_iconst (v := nI 3) hx hb dM0_read_37 (by decide) ?_
    exact m_iret hx hb hr hlocks hLc dM0_read_38 (Or.inr ⟨by first | exact Or.inl hno | exact Or.inr (Or.inl hnb) | exact Or.inr (Or.inr (Or.inl c34)), rfl, hS.r hI⟩)
