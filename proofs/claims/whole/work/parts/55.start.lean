set_option maxHeartbeats 4000000 in
set_option maxRecDepth 100000 in
/-- the law, from its entry -/
theorem whole_start {p : Program} {e : Env} {s : State} {m : MethodId} {below : List Frame} {meth : Method} {c : Code} (l : Launch) {b L : Nat} {xs : Nat → Int32} (hL : L ≤ 2560) (C0 : lw_At p s m meth c b L xs) : W p l e room_1 s m #[Value.ref b] below meth c s.heap [] 0 0 (lw_Z below #[Value.ref b] s) (entryFrame m ([Value.ref b] : List Value).toArray 4) := by
  obtain ⟨hx, hb, hr, hml, hown, hts, hX, hbl, hlocks, hgv⟩ := id C0
  obtain ⟨c0, iS0, hKn0⟩ := u_known (C := RX1) (T := TX1) (N := 9) (n := 9) hts inX1 (hts (.instantiable RX1 9) (by decide +kernel))
  obtain ⟨c1, iS1, hKn1⟩ := u_known (C := RM0) (T := TM0) (N := 17) (n := 17) hts inM0 (hts (.instantiable RM0 17) (by decide +kernel))
  obtain ⟨D, hKc⟩ : ∃ D : va_G, ∀ (k : Nat) (q : vw_C), vwCl[k]? = some q → u_Kn s q.1 q.2.1 q.2.2 (D.1 k) (D.2 k) := by
    refine ⟨(fun k => if k = 0 then c0 else c1, fun k => if k = 0 then iS0 else iS1), ?_⟩
    intro k q hq
    match k, hq with
    | 0, hq => cases hq; exact hKn0
    | 1, hq => cases hq; exact hKn1
    | k + 2, hq => simp [vwCl] at hq
  have hov := hts (.arrayOver (.array .long)) (by decide +kernel)
  obtain ⟨G, hK⟩ := KK_of hKc (hts (.arrayClass .long) (by decide +kernel)) (hts (.arrayClass .boolean) (by decide +kernel)) (hts (.arrayClass .byte) (by decide +kernel)) (hts (.arrayClass .int) (by decide +kernel)) hov
  have hl := lv_entry ([.ref b]) (n := 4) (Nat.le_of_ble_eq_true rfl)
  rw [lg_entry_eq]
  generalize (lg_sl ([.ref b]) ++ List.replicate (4 - (lg_sl ([.ref b])).length) Slot.unset).toArray = ls at hl ⊢
  have hl : lv_has ls 4 [(0, .ref b)] := hl
  obtain ⟨h, hh⟩ : ∃ h, s.heap.size = h := ⟨_, rfl⟩
  have hLc : lcs h [] := lcs_nil h
  rw [hh] at hbl
  refine m_new (ci := 0) (fs := [.null, .null, .null, .int (nI 0), .null, .int (nI 0), .null, .null, .null]) (C := RX1) (T := TX1) (N := 9) (h := h) hx hb hts inX1 tyX1 tyX1_ok hown (hts (.classLink R_law 7 RX1) (by decide +kernel)) (hts (.instantiable RX1 9) (by decide +kernel)) (hts (.initialized RX1) (by decide +kernel)) hK rfl (fun j hj => by rcases (show j = 0 ∨ j = 1 ∨ j = 2 ∨ j = 3 ∨ j = 4 ∨ j = 5 ∨ j = 6 ∨ j = 7 ∨ j = 8 by omega) with rfl | rfl | rfl | rfl | rfl | rfl | rfl | rfl | rfl <;> rfl) hh (Nat.le_of_ble_eq_true rfl) (Nat.le_of_ble_eq_true rfl) dL_law_0 (fun H0 hO z0 o0 => ?_)
  refine lv_dup hx hb dL_law_3 rfl ?_
  refine mc_v (va_runI (As := []) (rest := [.ref h]) ⟨hx, hb, hml, hown, hts⟩ (c_X1_init l G h H0 hO (Nat.le_refl h)) (cwI 0 hts gL_law_X1_init rfl rfl rfl (hts (.initialized RX1) (by decide +kernel)) (hts (.methodLink R_law 9 yX1_init) (by decide +kernel)) (hts (.instanceMethod yX1_init) (by decide +kernel)) rfl (by decide +kernel) ⟨Nat.le_of_ble_eq_true rfl, Nat.le_of_ble_eq_true rfl⟩) (mp_A hK hov) rfl rfl hl.1 rfl (lv_room (Nat.le_of_ble_eq_true rfl)) dL_law_4 ⟨Nat.le_of_ble_eq_true rfl, Nat.le_of_ble_eq_true rfl⟩) hLc (fun H1 locs hP hLc => ?_)
  obtain ⟨hSX, z1, o1⟩ := hP
  rw [z0] at hSX z1 o1
  refine lv_astore_n (lv' := [(1, .ref h), (0, .ref b)]) hx hb dL_law_7 rfl hl (by decide) rfl (fun ls hl => ?_)
  refine m_new (ci := 1) (fs := [.int (nI 0), .null, .null, .null, .null, .null, .null, .null, .int (nI 0), .int (nI 0), .int (nI 0), .null, .null, .int (nI 0), .null, .int (nI 0), .null]) (C := RM0) (T := TM0) (N := 17) (h := h + 72) hx hb hts inM0 tyM0 tyM0_ok hown (hts (.classLink R_law 10 RM0) (by decide +kernel)) (hts (.instantiable RM0 17) (by decide +kernel)) (hts (.initialized RM0) (by decide +kernel)) hK rfl (fun j hj => by rcases (show j = 0 ∨ j = 1 ∨ j = 2 ∨ j = 3 ∨ j = 4 ∨ j = 5 ∨ j = 6 ∨ j = 7 ∨ j = 8 ∨ j = 9 ∨ j = 10 ∨ j = 11 ∨ j = 12 ∨ j = 13 ∨ j = 14 ∨ j = 15 ∨ j = 16 by omega) with rfl | rfl | rfl | rfl | rfl | rfl | rfl | rfl | rfl | rfl | rfl | rfl | rfl | rfl | rfl | rfl | rfl <;> rfl) z1 (Nat.le_of_ble_eq_true rfl) (Nat.le_of_ble_eq_true rfl) dL_law_8 (fun H2 hO2 z2 o2 => ?_)
  refine lv_dup hx hb dL_law_11 rfl ?_
  refine mc_v (va_runI (As := []) (rest := [.ref (h + 72)]) ⟨hx, hb, hml, hown, hts⟩ (c_M0_init l G h H2 hO2 (by omega)) (cwI 0 hts gL_law_M0_init rfl rfl rfl (hts (.initialized RM0) (by decide +kernel)) (hts (.methodLink R_law 12 yM0_init) (by decide +kernel)) (hts (.instanceMethod yM0_init) (by decide +kernel)) rfl (by decide +kernel) ⟨Nat.le_of_ble_eq_true rfl, Nat.le_of_ble_eq_true rfl⟩) (mp_S hK) rfl rfl hl.1 rfl (lv_room (Nat.le_of_ble_eq_true rfl)) dL_law_12 ⟨Nat.le_of_ble_eq_true rfl, Nat.le_of_ble_eq_true rfl⟩) hLc (fun H3 locs hP hLc => ?_)
  obtain ⟨⟨lm, hlm, hlv, hSM⟩, z3, o3⟩ := hP
  rw [z2] at hSM z3 o3
  refine lv_astore_n (lv' := [(2, .ref (h + 72)), (1, .ref h), (0, .ref b)]) hx hb dL_law_15 rfl hl (by decide) rfl (fun ls hl => ?_)
  refine lv_iconst (v := nI 0) hx hb dL_law_16 (by decide) ?_
  refine lv_istore_n (lv' := [(3, .int (nI 0)), (2, .ref (h + 72)), (1, .ref h), (0, .ref b)]) hx hb dL_law_17 rfl hl (by decide) rfl (fun ls hl => ?_)
  refine W.widen (k := 600000) (n := 7302250) (Nat.le_of_ble_eq_true rfl) (Nat.le_of_ble_eq_true rfl) ?_
  have hk13 : ∀ q, q < h + 72 → H3[q]? = H1[q]? := fun q hq => (o3 q (by omega) (by omega)).trans (o2 q hq)
  have hRX : RX G h h (adX (h + 1)) H3 (fun _ => 0) (fun _ => 0) 0 (fun _ => 0) 513 H3 := RX.later ⟨_, _, _, _, _, hSX, IV0, fun i _ => vX0 i⟩ (hk13 h (by omega)) (fun i hi => hk13 _ (by have := adX_lt (h := h + 1) hi; omega))
  have hRM : RM G h (h + 72) (fun i => h + 72 + 1 + i) H3 (fun _ => 0) (fun _ => 0) 0 (fun _ => 0) 0 H3 := ⟨_, _, _, lm, _, _, _, _, _, _, _, _, _, hSM, IM0 hlm hlv, fun i _ => vM0 i⟩
  have hX3 : va_X b L xs s H3 := hX.kept ((hk13 b (by omega)).trans ((o1 b (by omega) (by omega)).trans (o0 b hbl)))
  have hD : DJ b h h (adX (h + 1)) (h + 72) (fun i => h + 72 + 1 + i) := ⟨hbl, by omega, fun i hi => by have := adX_lt (h := h + 1) hi; omega, fun i hi => by show h + 72 + 1 + i ≠ h; omega, fun i j hi hj => by show adX (h + 1) i ≠ h + 72 + 1 + j; have := adX_lt (h := h + 1) hi; omega⟩
  exact law_loop hL C0 hK hD (Nat.le_of_eq hh) L 0 _ _ _ _ _ _ _ _ _ _ (by omega) (by omega) ⟨hRX, hRM, TR0, hX3⟩ _ _ hLc (lv_sub hl [3, 2, 1, 0] rfl)
