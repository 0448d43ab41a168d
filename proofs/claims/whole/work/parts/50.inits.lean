set_option maxRecDepth 100000 in
set_option maxHeartbeats 4000000 in
theorem c_X1_init (l : Launch) (G : gG) (b0 : Nat) (H : Heap) {o : Nat} (hO : OB G 0 o [.null, .null, .null, .int (nI 0), .null, .int (nI 0), .null, .null, .null] H) (hbo : b0 ≤ o) : Met l yX1_init wsX1_init ({ frames := 1, cells := 71, slots := 2739, locals := 12 } : Room) (PcA G H [.ref o]) (QcV (fun H1 => SX G b0 o (adX H.size) H1 (fun _ _ => 0) (fun _ => 0) (fun _ => 0) 0 (fun _ => 0) 513 (fun _ => 0) (fun _ => 0) (fun _ => 0) H1 ∧ H1.size = H.size + 71 ∧ ∀ q, q < H.size → q ≠ o → H1[q]? = H[q]?)) 71 2739 (fre b0) := by
  refine m_enterA (cc := cX1_init) (maxL := 1) (ret := none) (own := RX1) (by decide) rfl rfl (Nat.le_of_ble_eq_true rfl) ?_
  intro p e s m below meth c ls hF hnm hH hl hov
  have hl : lv_has ls 1 [(0, .ref o)] := hl
  have hLc : lcs b0 [] := lcs_nil b0
  obtain ⟨hx, hb, hr, hml, hown, hts, hlocks, hK⟩ := id hF
  have hoh := hO.lt
  obtain ⟨h, hh⟩ : ∃ h, H.size = h := ⟨_, rfl⟩
  rw [hh] at hoh
  have hold : ∀ q, q < h → q ≠ o → H[q]? = H[q]? := fun _ _ _ => rfl
  have hsz : H.size = h := hh
  refine lv_aload_n hx hb dX1_init_0 rfl (lv_at hl 0 rfl) ?_
  refine W.objInit hx hb hown (hts (.methodLink RX1 3 objectInit) (by decide +kernel)) (hts (.instanceMethod objectInit) (by decide +kernel)) (hts (.code objectInit ⟨#[0xb1]⟩ 1 none) (by decide +kernel)) rfl (by rw [hml]; exact hl.1) rfl dX1_init_1 (Nat.le_of_ble_eq_true rfl) (Nat.le_of_ble_eq_true rfl) ?_
  refine lv_aload_n hx hb dX1_init_4 rfl (lv_at hl 0 rfl) ?_
  refine lv_bipush (v := nI 64) hx hb dX1_init_5 (by decide) ?_
  refine lv_bipush (v := nI 16) hx hb dX1_init_7 (by decide) ?_
  refine m_mna (n := 64) (k := 16) (h := h) hx hb hK hown (hts (.classLink RX1 9 "[[J") (by decide +kernel)) hov (hts (.arrayClass .long) (by decide +kernel)) (by decide) (by decide) hsz (Nat.le_of_ble_eq_true rfl) (Nat.le_of_ble_eq_true rfl) dX1_init_9 (fun H2 e1 e2 z1 o1 => ?_)
  replace hO := hO.kept (o1 o hoh)
  replace hold : ∀ q, q < h → q ≠ o → H2[q]? = H[q]? := fun q a b => (o1 q a).trans (hold q a b)
  have F0 := e1
  have FR := e2
  replace hsz : H2.size = h + 65 := z1
  clear e1 e2 z1 o1
  obtain ⟨Hc, rfl⟩ : ∃ Hz, Hz = H2 := ⟨_, rfl⟩
  refine m_putF (C := RX1) (T := TX1) (N := 9) (ci := 0) (ty := .array (.array .long)) (v := .ref (adX h 0)) (b0 := b0) hx hb hts hwsX1_init tyX1 tyX1_ok nmX1 hown hK hO rfl 0 (by decide) (hts (.fieldLink RX1 11 "ExactNumbers" "sizes" "[[J") (by decide +kernel)) rfl hnm rfl (by decide +kernel) rfl rfl (Nat.le_of_ble_eq_true rfl) hbo hLc dX1_init_13 (fun H2 locs hO9 z1 o1 hLc => ?_)
  replace hO : OB G 0 o [.ref (adX h 0), .null, .null, .int (nI 0), .null, .int (nI 0), .null, .null, .null] H2 := hO9
  replace hold : ∀ q, q < h → q ≠ o → H2[q]? = H[q]? := fun q a b => (o1 q b).trans (hold q a b)
  replace F0 := (o1 _ (ne_ho 0 hoh)).trans F0
  replace FR : ∀ j, j < 64 → H2[h + 1 + j]? = some (aJ G 16 (fun _ => 0)) := fun j hj => (o1 _ (by omega)).trans (FR j hj)
  replace hsz := z1.trans hsz
  clear hO9 z1 o1
  obtain ⟨Hc, rfl⟩ : ∃ Hz, Hz = H2 := ⟨_, rfl⟩
  refine lv_aload_n hx hb dX1_init_16 rfl (lv_at hl 0 rfl) ?_
  refine lv_bipush (v := nI 64) hx hb dX1_init_17 (by decide) ?_
  refine m_newZ (n := 64) (h := (adX h 1)) hx hb hK (hts (.arrayClass .boolean) (by decide +kernel)) (by decide) hsz (Nat.le_of_ble_eq_true rfl) (Nat.le_of_ble_eq_true rfl) dX1_init_19 (fun H2 e1 z1 o1 => ?_)
  replace hO := hO.kept (o1 o (Nat.lt_of_lt_of_le hoh (adX_ge h _)))
  replace hold : ∀ q, q < h → q ≠ o → H2[q]? = H[q]? := fun q a b => (o1 q (by exact Nat.lt_of_lt_of_le a (adX_ge h _))).trans (hold q a b)
  replace F0 := (o1 _ (lt_hh h (a := 0) (b := 65) (by decide))).trans F0
  replace FR : ∀ j, j < 64 → H2[h + 1 + j]? = some (aJ G 16 (fun _ => 0)) := fun j hj => (o1 _ (by show h + 1 + j < _; show h + 1 + j < h + 65; omega)).trans (FR j hj)
  have F1 := e1
  replace hsz : H2.size = h + 66 := z1
  clear e1 z1 o1
  obtain ⟨Hc, rfl⟩ : ∃ Hz, Hz = H2 := ⟨_, rfl⟩
  refine m_putF (C := RX1) (T := TX1) (N := 9) (ci := 0) (ty := .array .boolean) (v := .ref (adX h 1)) (b0 := b0) hx hb hts hwsX1_init tyX1 tyX1_ok nmX1 hown hK hO rfl 1 (by decide) (hts (.fieldLink RX1 14 "ExactNumbers" "below" "[Z") (by decide +kernel)) rfl hnm rfl (by decide +kernel) rfl rfl (Nat.le_of_ble_eq_true rfl) hbo hLc dX1_init_21 (fun H2 locs hO9 z1 o1 hLc => ?_)
  replace hO : OB G 0 o [.ref (adX h 0), .ref (adX h 1), .null, .int (nI 0), .null, .int (nI 0), .null, .null, .null] H2 := hO9
  replace hold : ∀ q, q < h → q ≠ o → H2[q]? = H[q]? := fun q a b => (o1 q b).trans (hold q a b)
  replace F0 := (o1 _ (ne_ho 0 hoh)).trans F0
  replace FR : ∀ j, j < 64 → H2[h + 1 + j]? = some (aJ G 16 (fun _ => 0)) := fun j hj => (o1 _ (by omega)).trans (FR j hj)
  replace F1 := (o1 _ (ne_ho 65 hoh)).trans F1
  replace hsz := z1.trans hsz
  clear hO9 z1 o1
  obtain ⟨Hc, rfl⟩ : ∃ Hz, Hz = H2 := ⟨_, rfl⟩
  refine lv_aload_n hx hb dX1_init_24 rfl (lv_at hl 0 rfl) ?_
  refine lv_sipush (v := nI 1008) hx hb dX1_init_25 (by decide) ?_
  refine m_newB (n := 1008) (h := (adX h 2)) hx hb hK (hts (.arrayClass .byte) (by decide +kernel)) (by decide) hsz (Nat.le_of_ble_eq_true rfl) (Nat.le_of_ble_eq_true rfl) dX1_init_28 (fun H2 e1 z1 o1 => ?_)
  replace hO := hO.kept (o1 o (Nat.lt_of_lt_of_le hoh (adX_ge h _)))
  replace hold : ∀ q, q < h → q ≠ o → H2[q]? = H[q]? := fun q a b => (o1 q (by exact Nat.lt_of_lt_of_le a (adX_ge h _))).trans (hold q a b)
  replace F0 := (o1 _ (lt_hh h (a := 0) (b := 66) (by decide))).trans F0
  replace FR : ∀ j, j < 64 → H2[h + 1 + j]? = some (aJ G 16 (fun _ => 0)) := fun j hj => (o1 _ (by show h + 1 + j < _; show h + 1 + j < h + 66; omega)).trans (FR j hj)
  replace F1 := (o1 _ (lt_hh h (a := 65) (b := 66) (by decide))).trans F1
  have F2 := e1
  replace hsz : H2.size = h + 67 := z1
  clear e1 z1 o1
  obtain ⟨Hc, rfl⟩ : ∃ Hz, Hz = H2 := ⟨_, rfl⟩
  refine m_putF (C := RX1) (T := TX1) (N := 9) (ci := 0) (ty := .array .byte) (v := .ref (adX h 2)) (b0 := b0) hx hb hts hwsX1_init tyX1 tyX1_ok nmX1 hown hK hO rfl 2 (by decide) (hts (.fieldLink RX1 18 "ExactNumbers" "digitValues" "[B") (by decide +kernel)) rfl hnm rfl (by decide +kernel) rfl rfl (Nat.le_of_ble_eq_true rfl) hbo hLc dX1_init_30 (fun H2 locs hO9 z1 o1 hLc => ?_)
  replace hO : OB G 0 o [.ref (adX h 0), .ref (adX h 1), .ref (adX h 2), .int (nI 0), .null, .int (nI 0), .null, .null, .null] H2 := hO9
  replace hold : ∀ q, q < h → q ≠ o → H2[q]? = H[q]? := fun q a b => (o1 q b).trans (hold q a b)
  replace F0 := (o1 _ (ne_ho 0 hoh)).trans F0
  replace FR : ∀ j, j < 64 → H2[h + 1 + j]? = some (aJ G 16 (fun _ => 0)) := fun j hj => (o1 _ (by omega)).trans (FR j hj)
  replace F1 := (o1 _ (ne_ho 65 hoh)).trans F1
  replace F2 := (o1 _ (ne_ho 66 hoh)).trans F2
  replace hsz := z1.trans hsz
  clear hO9 z1 o1
  obtain ⟨Hc, rfl⟩ : ∃ Hz, Hz = H2 := ⟨_, rfl⟩
  refine lv_aload_n hx hb dX1_init_33 rfl (lv_at hl 0 rfl) ?_
  refine lv_iconst (v := nI 0) hx hb dX1_init_34 (by decide) ?_
  refine m_put (C := RX1) (T := TX1) (N := 9) (ci := 0) (ty := .int) (v := .int (nI 0)) (b0 := b0) hx hb hts hwsX1_init tyX1 tyX1_ok nmX1 hown hK hO rfl 3 (by decide) (hts (.fieldLink RX1 22 "ExactNumbers" "digitCount" "I") (by decide +kernel)) rfl (by decide +kernel) rfl rfl (Nat.le_of_ble_eq_true rfl) hbo hLc dX1_init_35 (fun H2 locs hO9 z1 o1 hLc => ?_)
  replace hO : OB G 0 o [.ref (adX h 0), .ref (adX h 1), .ref (adX h 2), .int (nI 0), .null, .int (nI 0), .null, .null, .null] H2 := hO9
  replace hold : ∀ q, q < h → q ≠ o → H2[q]? = H[q]? := fun q a b => (o1 q b).trans (hold q a b)
  replace F0 := (o1 _ (ne_ho 0 hoh)).trans F0
  replace FR : ∀ j, j < 64 → H2[h + 1 + j]? = some (aJ G 16 (fun _ => 0)) := fun j hj => (o1 _ (by omega)).trans (FR j hj)
  replace F1 := (o1 _ (ne_ho 65 hoh)).trans F1
  replace F2 := (o1 _ (ne_ho 66 hoh)).trans F2
  replace hsz := z1.trans hsz
  clear hO9 z1 o1
  obtain ⟨Hc, rfl⟩ : ∃ Hz, Hz = H2 := ⟨_, rfl⟩
  refine lv_aload_n hx hb dX1_init_38 rfl (lv_at hl 0 rfl) ?_
  refine lv_sipush (v := nI 513) hx hb dX1_init_39 (by decide) ?_
  refine m_newB (n := 513) (h := (adX h 3)) hx hb hK (hts (.arrayClass .byte) (by decide +kernel)) (by decide) hsz (Nat.le_of_ble_eq_true rfl) (Nat.le_of_ble_eq_true rfl) dX1_init_42 (fun H2 e1 z1 o1 => ?_)
  replace hO := hO.kept (o1 o (Nat.lt_of_lt_of_le hoh (adX_ge h _)))
  replace hold : ∀ q, q < h → q ≠ o → H2[q]? = H[q]? := fun q a b => (o1 q (by exact Nat.lt_of_lt_of_le a (adX_ge h _))).trans (hold q a b)
  replace F0 := (o1 _ (lt_hh h (a := 0) (b := 67) (by decide))).trans F0
  replace FR : ∀ j, j < 64 → H2[h + 1 + j]? = some (aJ G 16 (fun _ => 0)) := fun j hj => (o1 _ (by show h + 1 + j < _; show h + 1 + j < h + 67; omega)).trans (FR j hj)
  replace F1 := (o1 _ (lt_hh h (a := 65) (b := 67) (by decide))).trans F1
  replace F2 := (o1 _ (lt_hh h (a := 66) (b := 67) (by decide))).trans F2
  have F3 := e1
  replace hsz : H2.size = h + 68 := z1
  clear e1 z1 o1
  obtain ⟨Hc, rfl⟩ : ∃ Hz, Hz = H2 := ⟨_, rfl⟩
  refine m_putF (C := RX1) (T := TX1) (N := 9) (ci := 0) (ty := .array .byte) (v := .ref (adX h 3)) (b0 := b0) hx hb hts hwsX1_init tyX1 tyX1_ok nmX1 hown hK hO rfl 4 (by decide) (hts (.fieldLink RX1 26 "ExactNumbers" "written" "[B") (by decide +kernel)) rfl hnm rfl (by decide +kernel) rfl rfl (Nat.le_of_ble_eq_true rfl) hbo hLc dX1_init_44 (fun H2 locs hO9 z1 o1 hLc => ?_)
  replace hO : OB G 0 o [.ref (adX h 0), .ref (adX h 1), .ref (adX h 2), .int (nI 0), .ref (adX h 3), .int (nI 0), .null, .null, .null] H2 := hO9
  replace hold : ∀ q, q < h → q ≠ o → H2[q]? = H[q]? := fun q a b => (o1 q b).trans (hold q a b)
  replace F0 := (o1 _ (ne_ho 0 hoh)).trans F0
  replace FR : ∀ j, j < 64 → H2[h + 1 + j]? = some (aJ G 16 (fun _ => 0)) := fun j hj => (o1 _ (by omega)).trans (FR j hj)
  replace F1 := (o1 _ (ne_ho 65 hoh)).trans F1
  replace F2 := (o1 _ (ne_ho 66 hoh)).trans F2
  replace F3 := (o1 _ (ne_ho 67 hoh)).trans F3
  replace hsz := z1.trans hsz
  clear hO9 z1 o1
  obtain ⟨Hc, rfl⟩ : ∃ Hz, Hz = H2 := ⟨_, rfl⟩
  refine lv_aload_n hx hb dX1_init_47 rfl (lv_at hl 0 rfl) ?_
  refine lv_aload_n hx hb dX1_init_48 rfl (lv_at hl 0 rfl) ?_
  refine va_get (D := G.1) (ci := 0) (v := .ref (adX h 3)) (C := RX1) (T := TX1) (N := 9) hx hb hts hwsX1_init hown hK hO 0 rfl rfl 4 (by decide) (hts (.fieldLink RX1 26 "ExactNumbers" "written" "[B") (by decide +kernel)) (fun _ h9 => h9) rfl dX1_init_49 ?_
  refine m_alenB (n := 513) (f := (fun _ => 0)) hx hb hK (F3) dX1_init_52 ?_
  refine m_put (C := RX1) (T := TX1) (N := 9) (ci := 0) (ty := .int) (v := .int (nI 513)) (b0 := b0) hx hb hts hwsX1_init tyX1 tyX1_ok nmX1 hown hK hO rfl 5 (by decide) (hts (.fieldLink RX1 29 "ExactNumbers" "writtenFrom" "I") (by decide +kernel)) rfl (by decide +kernel) rfl rfl (Nat.le_of_ble_eq_true rfl) hbo hLc dX1_init_53 (fun H2 locs hO9 z1 o1 hLc => ?_)
  replace hO : OB G 0 o [.ref (adX h 0), .ref (adX h 1), .ref (adX h 2), .int (nI 0), .ref (adX h 3), .int (nI 513), .null, .null, .null] H2 := hO9
  replace hold : ∀ q, q < h → q ≠ o → H2[q]? = H[q]? := fun q a b => (o1 q b).trans (hold q a b)
  replace F0 := (o1 _ (ne_ho 0 hoh)).trans F0
  replace FR : ∀ j, j < 64 → H2[h + 1 + j]? = some (aJ G 16 (fun _ => 0)) := fun j hj => (o1 _ (by omega)).trans (FR j hj)
  replace F1 := (o1 _ (ne_ho 65 hoh)).trans F1
  replace F2 := (o1 _ (ne_ho 66 hoh)).trans F2
  replace F3 := (o1 _ (ne_ho 67 hoh)).trans F3
  replace hsz := z1.trans hsz
  clear hO9 z1 o1
  obtain ⟨Hc, rfl⟩ : ∃ Hz, Hz = H2 := ⟨_, rfl⟩
  refine lv_aload_n hx hb dX1_init_56 rfl (lv_at hl 0 rfl) ?_
  refine lv_bipush (v := nI 17) hx hb dX1_init_57 (by decide) ?_
  refine m_newJ (n := 17) (h := (adX h 4)) hx hb hK (hts (.arrayClass .long) (by decide +kernel)) (by decide) hsz (Nat.le_of_ble_eq_true rfl) (Nat.le_of_ble_eq_true rfl) dX1_init_59 (fun H2 e1 z1 o1 => ?_)
  replace hO := hO.kept (o1 o (Nat.lt_of_lt_of_le hoh (adX_ge h _)))
  replace hold : ∀ q, q < h → q ≠ o → H2[q]? = H[q]? := fun q a b => (o1 q (by exact Nat.lt_of_lt_of_le a (adX_ge h _))).trans (hold q a b)
  replace F0 := (o1 _ (lt_hh h (a := 0) (b := 68) (by decide))).trans F0
  replace FR : ∀ j, j < 64 → H2[h + 1 + j]? = some (aJ G 16 (fun _ => 0)) := fun j hj => (o1 _ (by show h + 1 + j < _; show h + 1 + j < h + 68; omega)).trans (FR j hj)
  replace F1 := (o1 _ (lt_hh h (a := 65) (b := 68) (by decide))).trans F1
  replace F2 := (o1 _ (lt_hh h (a := 66) (b := 68) (by decide))).trans F2
  replace F3 := (o1 _ (lt_hh h (a := 67) (b := 68) (by decide))).trans F3
  have F4 := e1
  replace hsz : H2.size = h + 69 := z1
  clear e1 z1 o1
  obtain ⟨Hc, rfl⟩ : ∃ Hz, Hz = H2 := ⟨_, rfl⟩
  refine m_putF (C := RX1) (T := TX1) (N := 9) (ci := 0) (ty := .array .long) (v := .ref (adX h 4)) (b0 := b0) hx hb hts hwsX1_init tyX1 tyX1_ok nmX1 hown hK hO rfl 6 (by decide) (hts (.fieldLink RX1 32 "ExactNumbers" "first" "[J") (by decide +kernel)) rfl hnm rfl (by decide +kernel) rfl rfl (Nat.le_of_ble_eq_true rfl) hbo hLc dX1_init_61 (fun H2 locs hO9 z1 o1 hLc => ?_)
  replace hO : OB G 0 o [.ref (adX h 0), .ref (adX h 1), .ref (adX h 2), .int (nI 0), .ref (adX h 3), .int (nI 513), .ref (adX h 4), .null, .null] H2 := hO9
  replace hold : ∀ q, q < h → q ≠ o → H2[q]? = H[q]? := fun q a b => (o1 q b).trans (hold q a b)
  replace F0 := (o1 _ (ne_ho 0 hoh)).trans F0
  replace FR : ∀ j, j < 64 → H2[h + 1 + j]? = some (aJ G 16 (fun _ => 0)) := fun j hj => (o1 _ (by omega)).trans (FR j hj)
  replace F1 := (o1 _ (ne_ho 65 hoh)).trans F1
  replace F2 := (o1 _ (ne_ho 66 hoh)).trans F2
  replace F3 := (o1 _ (ne_ho 67 hoh)).trans F3
  replace F4 := (o1 _ (ne_ho 68 hoh)).trans F4
  replace hsz := z1.trans hsz
  clear hO9 z1 o1
  obtain ⟨Hc, rfl⟩ : ∃ Hz, Hz = H2 := ⟨_, rfl⟩
  refine lv_aload_n hx hb dX1_init_64 rfl (lv_at hl 0 rfl) ?_
  refine lv_bipush (v := nI 17) hx hb dX1_init_65 (by decide) ?_
  refine m_newJ (n := 17) (h := (adX h 5)) hx hb hK (hts (.arrayClass .long) (by decide +kernel)) (by decide) hsz (Nat.le_of_ble_eq_true rfl) (Nat.le_of_ble_eq_true rfl) dX1_init_67 (fun H2 e1 z1 o1 => ?_)
  replace hO := hO.kept (o1 o (Nat.lt_of_lt_of_le hoh (adX_ge h _)))
  replace hold : ∀ q, q < h → q ≠ o → H2[q]? = H[q]? := fun q a b => (o1 q (by exact Nat.lt_of_lt_of_le a (adX_ge h _))).trans (hold q a b)
  replace F0 := (o1 _ (lt_hh h (a := 0) (b := 69) (by decide))).trans F0
  replace FR : ∀ j, j < 64 → H2[h + 1 + j]? = some (aJ G 16 (fun _ => 0)) := fun j hj => (o1 _ (by show h + 1 + j < _; show h + 1 + j < h + 69; omega)).trans (FR j hj)
  replace F1 := (o1 _ (lt_hh h (a := 65) (b := 69) (by decide))).trans F1
  replace F2 := (o1 _ (lt_hh h (a := 66) (b := 69) (by decide))).trans F2
  replace F3 := (o1 _ (lt_hh h (a := 67) (b := 69) (by decide))).trans F3
  replace F4 := (o1 _ (lt_hh h (a := 68) (b := 69) (by decide))).trans F4
  have F5 := e1
  replace hsz : H2.size = h + 70 := z1
  clear e1 z1 o1
  obtain ⟨Hc, rfl⟩ : ∃ Hz, Hz = H2 := ⟨_, rfl⟩
  refine m_putF (C := RX1) (T := TX1) (N := 9) (ci := 0) (ty := .array .long) (v := .ref (adX h 5)) (b0 := b0) hx hb hts hwsX1_init tyX1 tyX1_ok nmX1 hown hK hO rfl 7 (by decide) (hts (.fieldLink RX1 36 "ExactNumbers" "second" "[J") (by decide +kernel)) rfl hnm rfl (by decide +kernel) rfl rfl (Nat.le_of_ble_eq_true rfl) hbo hLc dX1_init_69 (fun H2 locs hO9 z1 o1 hLc => ?_)
  replace hO : OB G 0 o [.ref (adX h 0), .ref (adX h 1), .ref (adX h 2), .int (nI 0), .ref (adX h 3), .int (nI 513), .ref (adX h 4), .ref (adX h 5), .null] H2 := hO9
  replace hold : ∀ q, q < h → q ≠ o → H2[q]? = H[q]? := fun q a b => (o1 q b).trans (hold q a b)
  replace F0 := (o1 _ (ne_ho 0 hoh)).trans F0
  replace FR : ∀ j, j < 64 → H2[h + 1 + j]? = some (aJ G 16 (fun _ => 0)) := fun j hj => (o1 _ (by omega)).trans (FR j hj)
  replace F1 := (o1 _ (ne_ho 65 hoh)).trans F1
  replace F2 := (o1 _ (ne_ho 66 hoh)).trans F2
  replace F3 := (o1 _ (ne_ho 67 hoh)).trans F3
  replace F4 := (o1 _ (ne_ho 68 hoh)).trans F4
  replace F5 := (o1 _ (ne_ho 69 hoh)).trans F5
  replace hsz := z1.trans hsz
  clear hO9 z1 o1
  obtain ⟨Hc, rfl⟩ : ∃ Hz, Hz = H2 := ⟨_, rfl⟩
  refine lv_aload_n hx hb dX1_init_72 rfl (lv_at hl 0 rfl) ?_
  refine lv_bipush (v := nI 32) hx hb dX1_init_73 (by decide) ?_
  refine m_newJ (n := 32) (h := (adX h 6)) hx hb hK (hts (.arrayClass .long) (by decide +kernel)) (by decide) hsz (Nat.le_of_ble_eq_true rfl) (Nat.le_of_ble_eq_true rfl) dX1_init_75 (fun H2 e1 z1 o1 => ?_)
  replace hO := hO.kept (o1 o (Nat.lt_of_lt_of_le hoh (adX_ge h _)))
  replace hold : ∀ q, q < h → q ≠ o → H2[q]? = H[q]? := fun q a b => (o1 q (by exact Nat.lt_of_lt_of_le a (adX_ge h _))).trans (hold q a b)
  replace F0 := (o1 _ (lt_hh h (a := 0) (b := 70) (by decide))).trans F0
  replace FR : ∀ j, j < 64 → H2[h + 1 + j]? = some (aJ G 16 (fun _ => 0)) := fun j hj => (o1 _ (by show h + 1 + j < _; show h + 1 + j < h + 70; omega)).trans (FR j hj)
  replace F1 := (o1 _ (lt_hh h (a := 65) (b := 70) (by decide))).trans F1
  replace F2 := (o1 _ (lt_hh h (a := 66) (b := 70) (by decide))).trans F2
  replace F3 := (o1 _ (lt_hh h (a := 67) (b := 70) (by decide))).trans F3
  replace F4 := (o1 _ (lt_hh h (a := 68) (b := 70) (by decide))).trans F4
  replace F5 := (o1 _ (lt_hh h (a := 69) (b := 70) (by decide))).trans F5
  have F6 := e1
  replace hsz : H2.size = h + 71 := z1
  clear e1 z1 o1
  obtain ⟨Hc, rfl⟩ : ∃ Hz, Hz = H2 := ⟨_, rfl⟩
  refine m_putF (C := RX1) (T := TX1) (N := 9) (ci := 0) (ty := .array .long) (v := .ref (adX h 6)) (b0 := b0) hx hb hts hwsX1_init tyX1 tyX1_ok nmX1 hown hK hO rfl 8 (by decide) (hts (.fieldLink RX1 39 "ExactNumbers" "wide" "[J") (by decide +kernel)) rfl hnm rfl (by decide +kernel) rfl rfl (Nat.le_of_ble_eq_true rfl) hbo hLc dX1_init_77 (fun H2 locs hO9 z1 o1 hLc => ?_)
  replace hO : OB G 0 o [.ref (adX h 0), .ref (adX h 1), .ref (adX h 2), .int (nI 0), .ref (adX h 3), .int (nI 513), .ref (adX h 4), .ref (adX h 5), .ref (adX h 6)] H2 := hO9
  replace hold : ∀ q, q < h → q ≠ o → H2[q]? = H[q]? := fun q a b => (o1 q b).trans (hold q a b)
  replace F0 := (o1 _ (ne_ho 0 hoh)).trans F0
  replace FR : ∀ j, j < 64 → H2[h + 1 + j]? = some (aJ G 16 (fun _ => 0)) := fun j hj => (o1 _ (by omega)).trans (FR j hj)
  replace F1 := (o1 _ (ne_ho 65 hoh)).trans F1
  replace F2 := (o1 _ (ne_ho 66 hoh)).trans F2
  replace F3 := (o1 _ (ne_ho 67 hoh)).trans F3
  replace F4 := (o1 _ (ne_ho 68 hoh)).trans F4
  replace F5 := (o1 _ (ne_ho 69 hoh)).trans F5
  replace F6 := (o1 _ (ne_ho 70 hoh)).trans F6
  replace hsz := z1.trans hsz
  clear hO9 z1 o1
  obtain ⟨Hc, rfl⟩ : ∃ Hz, Hz = H2 := ⟨_, rfl⟩
  refine W.widen (k := 71) (n := 2739) (by decide) (by decide) ?_
  subst hh
  have hW : SX G b0 o (adX H.size) Hc (fun _ _ => 0) (fun _ => 0) (fun _ => 0) 0 (fun _ => 0) 513 (fun _ => 0) (fun _ => 0) (fun _ => 0) Hc := ⟨hO, fun i hi => by
    match i with
    | 0 => exact F0
    | 1 => exact F1
    | 2 => exact F2
    | 3 => exact F3
    | 4 => exact F4
    | 5 => exact F5
    | 6 => exact F6
    | j + 7 => exact FR j (by omega), fun i j hi hj e => adX_inj hi hj e, fun i hi => ⟨by have := adX_ge H.size i; omega, by have := adX_ge H.size i; omega⟩, hbo, rfl, fun _ _ _ => rfl⟩
  exact m_vret hx hb hr hlocks hLc dX1_init_80 (⟨hW, hsz, hold⟩)

set_option maxRecDepth 100000 in
set_option maxHeartbeats 4000000 in
theorem c_M0_init (l : Launch) (G : gG) (b0 : Nat) (H : Heap) {o : Nat} (hO : OB G 1 o [.int (nI 0), .null, .null, .null, .null, .null, .null, .null, .int (nI 0), .int (nI 0), .int (nI 0), .null, .null, .int (nI 0), .null, .int (nI 0), .null] H) (hbo : b0 ≤ o) : Met l yM0_init wsM0_init ({ frames := 2, cells := 11, slots := 14502, locals := 59 } : Room) (PcH G H [.ref o]) (QcV (fun H1 => (∃ lm : Nat → Nat, dlm lm 330 ∧ dl lm 330 = 2 ^ 512 ∧ SM G b0 o (fun i => H.size + i) H1 0 (fun _ => 0) (fun _ => 0) lm (fun _ => 0) (fun _ => 0) (fun _ => 0) (fun _ => 0) 0 0 0 (fun _ => 0) (fun _ => 0) 0 (fun _ => 0) 0 (fun _ => 0) H1) ∧ H1.size = H.size + 11 ∧ ∀ q, q < H.size → q ≠ o → H1[q]? = H[q]?)) 11 14502 (fre b0) := by
  refine m_enter (cc := cM0_init) (maxL := 1) (ret := none) (own := RM0) (by decide) rfl rfl (Nat.le_of_ble_eq_true rfl) ?_
  intro p e s m below meth c ls hF hnm hH hl
  have hl : lv_has ls 1 [(0, .ref o)] := hl
  have hLc : lcs b0 [] := lcs_nil b0
  obtain ⟨hx, hb, hr, hml, hown, hts, hlocks, hK⟩ := id hF
  have hoh := hO.lt
  obtain ⟨h, hh⟩ : ∃ h, H.size = h := ⟨_, rfl⟩
  rw [hh] at hoh
  have hold : ∀ q, q < h → q ≠ o → H[q]? = H[q]? := fun _ _ _ => rfl
  have hsz : H.size = h := hh
  refine lv_aload_n hx hb dM0_init_0 rfl (lv_at hl 0 rfl) ?_
  refine W.objInit hx hb hown (hts (.methodLink RM0 1 objectInit) (by decide +kernel)) (hts (.instanceMethod objectInit) (by decide +kernel)) (hts (.code objectInit ⟨#[0xb1]⟩ 1 none) (by decide +kernel)) rfl (by rw [hml]; exact hl.1) rfl dM0_init_1 (Nat.le_of_ble_eq_true rfl) (Nat.le_of_ble_eq_true rfl) ?_
  refine lv_aload_n hx hb dM0_init_4 rfl (lv_at hl 0 rfl) ?_
  refine lv_sipush (v := nI 10240) hx hb dM0_init_5 (by decide) ?_
  refine m_newN (n := 10240) (h := h) hx hb hK (hts (.arrayClass .int) (by decide +kernel)) (by decide) hsz (Nat.le_of_ble_eq_true rfl) (Nat.le_of_ble_eq_true rfl) dM0_init_8 (fun H2 e1 z1 o1 => ?_)
  replace hO := hO.kept (o1 o (by omega))
  replace hold : ∀ q, q < h → q ≠ o → H2[q]? = H[q]? := fun q a b => (o1 q (by omega)).trans (hold q a b)
  have F0 := e1
  replace hsz : H2.size = h + 1 := z1
  clear e1 z1 o1
  obtain ⟨Hc, rfl⟩ : ∃ Hz, Hz = H2 := ⟨_, rfl⟩
  refine m_putF (C := RM0) (T := TM0) (N := 17) (ci := 1) (ty := .array .int) (v := .ref h) (b0 := b0) hx hb hts hwsM0_init tyM0 tyM0_ok nmM0 hown hK hO rfl 1 (by decide) (hts (.fieldLink RM0 7 "ExactNumbersModel" "digit" "[I") (by decide +kernel)) rfl hnm rfl (by decide +kernel) rfl rfl (Nat.le_of_ble_eq_true rfl) hbo hLc dM0_init_10 (fun H2 locs hO9 z1 o1 hLc => ?_)
  replace hO : OB G 1 o [.int (nI 0), .ref h, .null, .null, .null, .null, .null, .null, .int (nI 0), .int (nI 0), .int (nI 0), .null, .null, .int (nI 0), .null, .int (nI 0), .null] H2 := hO9
  replace hold : ∀ q, q < h → q ≠ o → H2[q]? = H[q]? := fun q a b => (o1 q b).trans (hold q a b)
  replace F0 := (o1 _ (ne_ho 0 hoh)).trans F0
  replace hsz := z1.trans hsz
  clear hO9 z1 o1
  obtain ⟨Hc, rfl⟩ : ∃ Hz, Hz = H2 := ⟨_, rfl⟩
  refine lv_aload_n hx hb dM0_init_13 rfl (lv_at hl 0 rfl) ?_
  refine lv_bipush (v := nI 64) hx hb dM0_init_14 (by decide) ?_
  refine m_newZ (n := 64) (h := (h + 1)) hx hb hK (hts (.arrayClass .boolean) (by decide +kernel)) (by decide) hsz (Nat.le_of_ble_eq_true rfl) (Nat.le_of_ble_eq_true rfl) dM0_init_16 (fun H2 e1 z1 o1 => ?_)
  replace hO := hO.kept (o1 o (by omega))
  replace hold : ∀ q, q < h → q ≠ o → H2[q]? = H[q]? := fun q a b => (o1 q (by omega)).trans (hold q a b)
  replace F0 := (o1 _ (lt_hh h (a := 0) (b := 1) (by decide))).trans F0
  have F1 := e1
  replace hsz : H2.size = h + 2 := z1
  clear e1 z1 o1
  obtain ⟨Hc, rfl⟩ : ∃ Hz, Hz = H2 := ⟨_, rfl⟩
  refine m_putF (C := RM0) (T := TM0) (N := 17) (ci := 1) (ty := .array .boolean) (v := .ref (h + 1)) (b0 := b0) hx hb hts hwsM0_init tyM0 tyM0_ok nmM0 hown hK hO rfl 2 (by decide) (hts (.fieldLink RM0 13 "ExactNumbersModel" "below" "[Z") (by decide +kernel)) rfl hnm rfl (by decide +kernel) rfl rfl (Nat.le_of_ble_eq_true rfl) hbo hLc dM0_init_18 (fun H2 locs hO9 z1 o1 hLc => ?_)
  replace hO : OB G 1 o [.int (nI 0), .ref h, .ref (h + 1), .null, .null, .null, .null, .null, .int (nI 0), .int (nI 0), .int (nI 0), .null, .null, .int (nI 0), .null, .int (nI 0), .null] H2 := hO9
  replace hold : ∀ q, q < h → q ≠ o → H2[q]? = H[q]? := fun q a b => (o1 q b).trans (hold q a b)
  replace F0 := (o1 _ (ne_ho 0 hoh)).trans F0
  replace F1 := (o1 _ (ne_ho 1 hoh)).trans F1
  replace hsz := z1.trans hsz
  clear hO9 z1 o1
  obtain ⟨Hc, rfl⟩ : ∃ Hz, Hz = H2 := ⟨_, rfl⟩
  refine lv_aload_n hx hb dM0_init_21 rfl (lv_at hl 0 rfl) ?_
  refine lv_sipush (v := nI 330) hx hb dM0_init_22 (by decide) ?_
  refine m_newN (n := 330) (h := (h + 2)) hx hb hK (hts (.arrayClass .int) (by decide +kernel)) (by decide) hsz (Nat.le_of_ble_eq_true rfl) (Nat.le_of_ble_eq_true rfl) dM0_init_25 (fun H2 e1 z1 o1 => ?_)
  replace hO := hO.kept (o1 o (by omega))
  replace hold : ∀ q, q < h → q ≠ o → H2[q]? = H[q]? := fun q a b => (o1 q (by omega)).trans (hold q a b)
  replace F0 := (o1 _ (lt_hh h (a := 0) (b := 2) (by decide))).trans F0
  replace F1 := (o1 _ (lt_hh h (a := 1) (b := 2) (by decide))).trans F1
  have F2 := e1
  replace hsz : H2.size = h + 3 := z1
  clear e1 z1 o1
  obtain ⟨Hc, rfl⟩ : ∃ Hz, Hz = H2 := ⟨_, rfl⟩
  refine m_putF (C := RM0) (T := TM0) (N := 17) (ci := 1) (ty := .array .int) (v := .ref (h + 2)) (b0 := b0) hx hb hts hwsM0_init tyM0 tyM0_ok nmM0 hown hK hO rfl 3 (by decide) (hts (.fieldLink RM0 17 "ExactNumbersModel" "limit" "[I") (by decide +kernel)) rfl hnm rfl (by decide +kernel) rfl rfl (Nat.le_of_ble_eq_true rfl) hbo hLc dM0_init_27 (fun H2 locs hO9 z1 o1 hLc => ?_)
  replace hO : OB G 1 o [.int (nI 0), .ref h, .ref (h + 1), .ref (h + 2), .null, .null, .null, .null, .int (nI 0), .int (nI 0), .int (nI 0), .null, .null, .int (nI 0), .null, .int (nI 0), .null] H2 := hO9
  replace hold : ∀ q, q < h → q ≠ o → H2[q]? = H[q]? := fun q a b => (o1 q b).trans (hold q a b)
  replace F0 := (o1 _ (ne_ho 0 hoh)).trans F0
  replace F1 := (o1 _ (ne_ho 1 hoh)).trans F1
  replace F2 := (o1 _ (ne_ho 2 hoh)).trans F2
  replace hsz := z1.trans hsz
  clear hO9 z1 o1
  obtain ⟨Hc, rfl⟩ : ∃ Hz, Hz = H2 := ⟨_, rfl⟩
  refine lv_aload_n hx hb dM0_init_30 rfl (lv_at hl 0 rfl) ?_
  refine lv_sipush (v := nI 330) hx hb dM0_init_31 (by decide) ?_
  refine m_newN (n := 330) (h := (h + 3)) hx hb hK (hts (.arrayClass .int) (by decide +kernel)) (by decide) hsz (Nat.le_of_ble_eq_true rfl) (Nat.le_of_ble_eq_true rfl) dM0_init_34 (fun H2 e1 z1 o1 => ?_)
  replace hO := hO.kept (o1 o (by omega))
  replace hold : ∀ q, q < h → q ≠ o → H2[q]? = H[q]? := fun q a b => (o1 q (by omega)).trans (hold q a b)
  replace F0 := (o1 _ (lt_hh h (a := 0) (b := 3) (by decide))).trans F0
  replace F1 := (o1 _ (lt_hh h (a := 1) (b := 3) (by decide))).trans F1
  replace F2 := (o1 _ (lt_hh h (a := 2) (b := 3) (by decide))).trans F2
  have F3 := e1
  replace hsz : H2.size = h + 4 := z1
  clear e1 z1 o1
  obtain ⟨Hc, rfl⟩ : ∃ Hz, Hz = H2 := ⟨_, rfl⟩
  refine m_putF (C := RM0) (T := TM0) (N := 17) (ci := 1) (ty := .array .int) (v := .ref (h + 3)) (b0 := b0) hx hb hts hwsM0_init tyM0 tyM0_ok nmM0 hown hK hO rfl 4 (by decide) (hts (.fieldLink RM0 20 "ExactNumbersModel" "left" "[I") (by decide +kernel)) rfl hnm rfl (by decide +kernel) rfl rfl (Nat.le_of_ble_eq_true rfl) hbo hLc dM0_init_36 (fun H2 locs hO9 z1 o1 hLc => ?_)
  replace hO : OB G 1 o [.int (nI 0), .ref h, .ref (h + 1), .ref (h + 2), .ref (h + 3), .null, .null, .null, .int (nI 0), .int (nI 0), .int (nI 0), .null, .null, .int (nI 0), .null, .int (nI 0), .null] H2 := hO9
  replace hold : ∀ q, q < h → q ≠ o → H2[q]? = H[q]? := fun q a b => (o1 q b).trans (hold q a b)
  replace F0 := (o1 _ (ne_ho 0 hoh)).trans F0
  replace F1 := (o1 _ (ne_ho 1 hoh)).trans F1
  replace F2 := (o1 _ (ne_ho 2 hoh)).trans F2
  replace F3 := (o1 _ (ne_ho 3 hoh)).trans F3
  replace hsz := z1.trans hsz
  clear hO9 z1 o1
  obtain ⟨Hc, rfl⟩ : ∃ Hz, Hz = H2 := ⟨_, rfl⟩
  refine lv_aload_n hx hb dM0_init_39 rfl (lv_at hl 0 rfl) ?_
  refine lv_sipush (v := nI 330) hx hb dM0_init_40 (by decide) ?_
  refine m_newN (n := 330) (h := (h + 4)) hx hb hK (hts (.arrayClass .int) (by decide +kernel)) (by decide) hsz (Nat.le_of_ble_eq_true rfl) (Nat.le_of_ble_eq_true rfl) dM0_init_43 (fun H2 e1 z1 o1 => ?_)
  replace hO := hO.kept (o1 o (by omega))
  replace hold : ∀ q, q < h → q ≠ o → H2[q]? = H[q]? := fun q a b => (o1 q (by omega)).trans (hold q a b)
  replace F0 := (o1 _ (lt_hh h (a := 0) (b := 4) (by decide))).trans F0
  replace F1 := (o1 _ (lt_hh h (a := 1) (b := 4) (by decide))).trans F1
  replace F2 := (o1 _ (lt_hh h (a := 2) (b := 4) (by decide))).trans F2
  replace F3 := (o1 _ (lt_hh h (a := 3) (b := 4) (by decide))).trans F3
  have F4 := e1
  replace hsz : H2.size = h + 5 := z1
  clear e1 z1 o1
  obtain ⟨Hc, rfl⟩ : ∃ Hz, Hz = H2 := ⟨_, rfl⟩
  refine m_putF (C := RM0) (T := TM0) (N := 17) (ci := 1) (ty := .array .int) (v := .ref (h + 4)) (b0 := b0) hx hb hts hwsM0_init tyM0 tyM0_ok nmM0 hown hK hO rfl 5 (by decide) (hts (.fieldLink RM0 23 "ExactNumbersModel" "right" "[I") (by decide +kernel)) rfl hnm rfl (by decide +kernel) rfl rfl (Nat.le_of_ble_eq_true rfl) hbo hLc dM0_init_45 (fun H2 locs hO9 z1 o1 hLc => ?_)
  replace hO : OB G 1 o [.int (nI 0), .ref h, .ref (h + 1), .ref (h + 2), .ref (h + 3), .ref (h + 4), .null, .null, .int (nI 0), .int (nI 0), .int (nI 0), .null, .null, .int (nI 0), .null, .int (nI 0), .null] H2 := hO9
  replace hold : ∀ q, q < h → q ≠ o → H2[q]? = H[q]? := fun q a b => (o1 q b).trans (hold q a b)
  replace F0 := (o1 _ (ne_ho 0 hoh)).trans F0
  replace F1 := (o1 _ (ne_ho 1 hoh)).trans F1
  replace F2 := (o1 _ (ne_ho 2 hoh)).trans F2
  replace F3 := (o1 _ (ne_ho 3 hoh)).trans F3
  replace F4 := (o1 _ (ne_ho 4 hoh)).trans F4
  replace hsz := z1.trans hsz
  clear hO9 z1 o1
  obtain ⟨Hc, rfl⟩ : ∃ Hz, Hz = H2 := ⟨_, rfl⟩
  refine lv_aload_n hx hb dM0_init_48 rfl (lv_at hl 0 rfl) ?_
  refine lv_sipush (v := nI 330) hx hb dM0_init_49 (by decide) ?_
  refine m_newN (n := 330) (h := (h + 5)) hx hb hK (hts (.arrayClass .int) (by decide +kernel)) (by decide) hsz (Nat.le_of_ble_eq_true rfl) (Nat.le_of_ble_eq_true rfl) dM0_init_52 (fun H2 e1 z1 o1 => ?_)
  replace hO := hO.kept (o1 o (by omega))
  replace hold : ∀ q, q < h → q ≠ o → H2[q]? = H[q]? := fun q a b => (o1 q (by omega)).trans (hold q a b)
  replace F0 := (o1 _ (lt_hh h (a := 0) (b := 5) (by decide))).trans F0
  replace F1 := (o1 _ (lt_hh h (a := 1) (b := 5) (by decide))).trans F1
  replace F2 := (o1 _ (lt_hh h (a := 2) (b := 5) (by decide))).trans F2
  replace F3 := (o1 _ (lt_hh h (a := 3) (b := 5) (by decide))).trans F3
  replace F4 := (o1 _ (lt_hh h (a := 4) (b := 5) (by decide))).trans F4
  have F5 := e1
  replace hsz : H2.size = h + 6 := z1
  clear e1 z1 o1
  obtain ⟨Hc, rfl⟩ : ∃ Hz, Hz = H2 := ⟨_, rfl⟩
  refine m_putF (C := RM0) (T := TM0) (N := 17) (ci := 1) (ty := .array .int) (v := .ref (h + 5)) (b0 := b0) hx hb hts hwsM0_init tyM0 tyM0_ok nmM0 hown hK hO rfl 6 (by decide) (hts (.fieldLink RM0 26 "ExactNumbersModel" "out" "[I") (by decide +kernel)) rfl hnm rfl (by decide +kernel) rfl rfl (Nat.le_of_ble_eq_true rfl) hbo hLc dM0_init_54 (fun H2 locs hO9 z1 o1 hLc => ?_)
  replace hO : OB G 1 o [.int (nI 0), .ref h, .ref (h + 1), .ref (h + 2), .ref (h + 3), .ref (h + 4), .ref (h + 5), .null, .int (nI 0), .int (nI 0), .int (nI 0), .null, .null, .int (nI 0), .null, .int (nI 0), .null] H2 := hO9
  replace hold : ∀ q, q < h → q ≠ o → H2[q]? = H[q]? := fun q a b => (o1 q b).trans (hold q a b)
  replace F0 := (o1 _ (ne_ho 0 hoh)).trans F0
  replace F1 := (o1 _ (ne_ho 1 hoh)).trans F1
  replace F2 := (o1 _ (ne_ho 2 hoh)).trans F2
  replace F3 := (o1 _ (ne_ho 3 hoh)).trans F3
  replace F4 := (o1 _ (ne_ho 4 hoh)).trans F4
  replace F5 := (o1 _ (ne_ho 5 hoh)).trans F5
  replace hsz := z1.trans hsz
  clear hO9 z1 o1
  obtain ⟨Hc, rfl⟩ : ∃ Hz, Hz = H2 := ⟨_, rfl⟩
  refine lv_aload_n hx hb dM0_init_57 rfl (lv_at hl 0 rfl) ?_
  refine lv_sipush (v := nI 330) hx hb dM0_init_58 (by decide) ?_
  refine m_newN (n := 330) (h := (h + 6)) hx hb hK (hts (.arrayClass .int) (by decide +kernel)) (by decide) hsz (Nat.le_of_ble_eq_true rfl) (Nat.le_of_ble_eq_true rfl) dM0_init_61 (fun H2 e1 z1 o1 => ?_)
  replace hO := hO.kept (o1 o (by omega))
  replace hold : ∀ q, q < h → q ≠ o → H2[q]? = H[q]? := fun q a b => (o1 q (by omega)).trans (hold q a b)
  replace F0 := (o1 _ (lt_hh h (a := 0) (b := 6) (by decide))).trans F0
  replace F1 := (o1 _ (lt_hh h (a := 1) (b := 6) (by decide))).trans F1
  replace F2 := (o1 _ (lt_hh h (a := 2) (b := 6) (by decide))).trans F2
  replace F3 := (o1 _ (lt_hh h (a := 3) (b := 6) (by decide))).trans F3
  replace F4 := (o1 _ (lt_hh h (a := 4) (b := 6) (by decide))).trans F4
  replace F5 := (o1 _ (lt_hh h (a := 5) (b := 6) (by decide))).trans F5
  have F6 := e1
  replace hsz : H2.size = h + 7 := z1
  clear e1 z1 o1
  obtain ⟨Hc, rfl⟩ : ∃ Hz, Hz = H2 := ⟨_, rfl⟩
  refine m_putF (C := RM0) (T := TM0) (N := 17) (ci := 1) (ty := .array .int) (v := .ref (h + 6)) (b0 := b0) hx hb hts hwsM0_init tyM0 tyM0_ok nmM0 hown hK hO rfl 7 (by decide) (hts (.fieldLink RM0 29 "ExactNumbersModel" "rest" "[I") (by decide +kernel)) rfl hnm rfl (by decide +kernel) rfl rfl (Nat.le_of_ble_eq_true rfl) hbo hLc dM0_init_63 (fun H2 locs hO9 z1 o1 hLc => ?_)
  replace hO : OB G 1 o [.int (nI 0), .ref h, .ref (h + 1), .ref (h + 2), .ref (h + 3), .ref (h + 4), .ref (h + 5), .ref (h + 6), .int (nI 0), .int (nI 0), .int (nI 0), .null, .null, .int (nI 0), .null, .int (nI 0), .null] H2 := hO9
  replace hold : ∀ q, q < h → q ≠ o → H2[q]? = H[q]? := fun q a b => (o1 q b).trans (hold q a b)
  replace F0 := (o1 _ (ne_ho 0 hoh)).trans F0
  replace F1 := (o1 _ (ne_ho 1 hoh)).trans F1
  replace F2 := (o1 _ (ne_ho 2 hoh)).trans F2
  replace F3 := (o1 _ (ne_ho 3 hoh)).trans F3
  replace F4 := (o1 _ (ne_ho 4 hoh)).trans F4
  replace F5 := (o1 _ (ne_ho 5 hoh)).trans F5
  replace F6 := (o1 _ (ne_ho 6 hoh)).trans F6
  replace hsz := z1.trans hsz
  clear hO9 z1 o1
  obtain ⟨Hc, rfl⟩ : ∃ Hz, Hz = H2 := ⟨_, rfl⟩
  refine lv_aload_n hx hb dM0_init_66 rfl (lv_at hl 0 rfl) ?_
  refine lv_sipush (v := nI 514) hx hb dM0_init_67 (by decide) ?_
  refine m_newN (n := 514) (h := (h + 7)) hx hb hK (hts (.arrayClass .int) (by decide +kernel)) (by decide) hsz (Nat.le_of_ble_eq_true rfl) (Nat.le_of_ble_eq_true rfl) dM0_init_70 (fun H2 e1 z1 o1 => ?_)
  replace hO := hO.kept (o1 o (by omega))
  replace hold : ∀ q, q < h → q ≠ o → H2[q]? = H[q]? := fun q a b => (o1 q (by omega)).trans (hold q a b)
  replace F0 := (o1 _ (lt_hh h (a := 0) (b := 7) (by decide))).trans F0
  replace F1 := (o1 _ (lt_hh h (a := 1) (b := 7) (by decide))).trans F1
  replace F2 := (o1 _ (lt_hh h (a := 2) (b := 7) (by decide))).trans F2
  replace F3 := (o1 _ (lt_hh h (a := 3) (b := 7) (by decide))).trans F3
  replace F4 := (o1 _ (lt_hh h (a := 4) (b := 7) (by decide))).trans F4
  replace F5 := (o1 _ (lt_hh h (a := 5) (b := 7) (by decide))).trans F5
  replace F6 := (o1 _ (lt_hh h (a := 6) (b := 7) (by decide))).trans F6
  have F7 := e1
  replace hsz : H2.size = h + 8 := z1
  clear e1 z1 o1
  obtain ⟨Hc, rfl⟩ : ∃ Hz, Hz = H2 := ⟨_, rfl⟩
  refine m_putF (C := RM0) (T := TM0) (N := 17) (ci := 1) (ty := .array .int) (v := .ref (h + 7)) (b0 := b0) hx hb hts hwsM0_init tyM0 tyM0_ok nmM0 hown hK hO rfl 11 (by decide) (hts (.fieldLink RM0 32 "ExactNumbersModel" "bitsLeft" "[I") (by decide +kernel)) rfl hnm rfl (by decide +kernel) rfl rfl (Nat.le_of_ble_eq_true rfl) hbo hLc dM0_init_72 (fun H2 locs hO9 z1 o1 hLc => ?_)
  replace hO : OB G 1 o [.int (nI 0), .ref h, .ref (h + 1), .ref (h + 2), .ref (h + 3), .ref (h + 4), .ref (h + 5), .ref (h + 6), .int (nI 0), .int (nI 0), .int (nI 0), .ref (h + 7), .null, .int (nI 0), .null, .int (nI 0), .null] H2 := hO9
  replace hold : ∀ q, q < h → q ≠ o → H2[q]? = H[q]? := fun q a b => (o1 q b).trans (hold q a b)
  replace F0 := (o1 _ (ne_ho 0 hoh)).trans F0
  replace F1 := (o1 _ (ne_ho 1 hoh)).trans F1
  replace F2 := (o1 _ (ne_ho 2 hoh)).trans F2
  replace F3 := (o1 _ (ne_ho 3 hoh)).trans F3
  replace F4 := (o1 _ (ne_ho 4 hoh)).trans F4
  replace F5 := (o1 _ (ne_ho 5 hoh)).trans F5
  replace F6 := (o1 _ (ne_ho 6 hoh)).trans F6
  replace F7 := (o1 _ (ne_ho 7 hoh)).trans F7
  replace hsz := z1.trans hsz
  clear hO9 z1 o1
  obtain ⟨Hc, rfl⟩ : ∃ Hz, Hz = H2 := ⟨_, rfl⟩
  refine lv_aload_n hx hb dM0_init_75 rfl (lv_at hl 0 rfl) ?_
  refine lv_sipush (v := nI 514) hx hb dM0_init_76 (by decide) ?_
  refine m_newN (n := 514) (h := (h + 8)) hx hb hK (hts (.arrayClass .int) (by decide +kernel)) (by decide) hsz (Nat.le_of_ble_eq_true rfl) (Nat.le_of_ble_eq_true rfl) dM0_init_79 (fun H2 e1 z1 o1 => ?_)
  replace hO := hO.kept (o1 o (by omega))
  replace hold : ∀ q, q < h → q ≠ o → H2[q]? = H[q]? := fun q a b => (o1 q (by omega)).trans (hold q a b)
  replace F0 := (o1 _ (lt_hh h (a := 0) (b := 8) (by decide))).trans F0
  replace F1 := (o1 _ (lt_hh h (a := 1) (b := 8) (by decide))).trans F1
  replace F2 := (o1 _ (lt_hh h (a := 2) (b := 8) (by decide))).trans F2
  replace F3 := (o1 _ (lt_hh h (a := 3) (b := 8) (by decide))).trans F3
  replace F4 := (o1 _ (lt_hh h (a := 4) (b := 8) (by decide))).trans F4
  replace F5 := (o1 _ (lt_hh h (a := 5) (b := 8) (by decide))).trans F5
  replace F6 := (o1 _ (lt_hh h (a := 6) (b := 8) (by decide))).trans F6
  replace F7 := (o1 _ (lt_hh h (a := 7) (b := 8) (by decide))).trans F7
  have F8 := e1
  replace hsz : H2.size = h + 9 := z1
  clear e1 z1 o1
  obtain ⟨Hc, rfl⟩ : ∃ Hz, Hz = H2 := ⟨_, rfl⟩
  refine m_putF (C := RM0) (T := TM0) (N := 17) (ci := 1) (ty := .array .int) (v := .ref (h + 8)) (b0 := b0) hx hb hts hwsM0_init tyM0 tyM0_ok nmM0 hown hK hO rfl 12 (by decide) (hts (.fieldLink RM0 35 "ExactNumbersModel" "bitsRight" "[I") (by decide +kernel)) rfl hnm rfl (by decide +kernel) rfl rfl (Nat.le_of_ble_eq_true rfl) hbo hLc dM0_init_81 (fun H2 locs hO9 z1 o1 hLc => ?_)
  replace hO : OB G 1 o [.int (nI 0), .ref h, .ref (h + 1), .ref (h + 2), .ref (h + 3), .ref (h + 4), .ref (h + 5), .ref (h + 6), .int (nI 0), .int (nI 0), .int (nI 0), .ref (h + 7), .ref (h + 8), .int (nI 0), .null, .int (nI 0), .null] H2 := hO9
  replace hold : ∀ q, q < h → q ≠ o → H2[q]? = H[q]? := fun q a b => (o1 q b).trans (hold q a b)
  replace F0 := (o1 _ (ne_ho 0 hoh)).trans F0
  replace F1 := (o1 _ (ne_ho 1 hoh)).trans F1
  replace F2 := (o1 _ (ne_ho 2 hoh)).trans F2
  replace F3 := (o1 _ (ne_ho 3 hoh)).trans F3
  replace F4 := (o1 _ (ne_ho 4 hoh)).trans F4
  replace F5 := (o1 _ (ne_ho 5 hoh)).trans F5
  replace F6 := (o1 _ (ne_ho 6 hoh)).trans F6
  replace F7 := (o1 _ (ne_ho 7 hoh)).trans F7
  replace F8 := (o1 _ (ne_ho 8 hoh)).trans F8
  replace hsz := z1.trans hsz
  clear hO9 z1 o1
  obtain ⟨Hc, rfl⟩ : ∃ Hz, Hz = H2 := ⟨_, rfl⟩
  refine lv_aload_n hx hb dM0_init_84 rfl (lv_at hl 0 rfl) ?_
  refine lv_sipush (v := nI 1000) hx hb dM0_init_85 (by decide) ?_
  refine m_newN (n := 1000) (h := (h + 9)) hx hb hK (hts (.arrayClass .int) (by decide +kernel)) (by decide) hsz (Nat.le_of_ble_eq_true rfl) (Nat.le_of_ble_eq_true rfl) dM0_init_88 (fun H2 e1 z1 o1 => ?_)
  replace hO := hO.kept (o1 o (by omega))
  replace hold : ∀ q, q < h → q ≠ o → H2[q]? = H[q]? := fun q a b => (o1 q (by omega)).trans (hold q a b)
  replace F0 := (o1 _ (lt_hh h (a := 0) (b := 9) (by decide))).trans F0
  replace F1 := (o1 _ (lt_hh h (a := 1) (b := 9) (by decide))).trans F1
  replace F2 := (o1 _ (lt_hh h (a := 2) (b := 9) (by decide))).trans F2
  replace F3 := (o1 _ (lt_hh h (a := 3) (b := 9) (by decide))).trans F3
  replace F4 := (o1 _ (lt_hh h (a := 4) (b := 9) (by decide))).trans F4
  replace F5 := (o1 _ (lt_hh h (a := 5) (b := 9) (by decide))).trans F5
  replace F6 := (o1 _ (lt_hh h (a := 6) (b := 9) (by decide))).trans F6
  replace F7 := (o1 _ (lt_hh h (a := 7) (b := 9) (by decide))).trans F7
  replace F8 := (o1 _ (lt_hh h (a := 8) (b := 9) (by decide))).trans F8
  have F9 := e1
  replace hsz : H2.size = h + 10 := z1
  clear e1 z1 o1
  obtain ⟨Hc, rfl⟩ : ∃ Hz, Hz = H2 := ⟨_, rfl⟩
  refine m_putF (C := RM0) (T := TM0) (N := 17) (ci := 1) (ty := .array .int) (v := .ref (h + 9)) (b0 := b0) hx hb hts hwsM0_init tyM0 tyM0_ok nmM0 hown hK hO rfl 14 (by decide) (hts (.fieldLink RM0 38 "ExactNumbersModel" "type" "[I") (by decide +kernel)) rfl hnm rfl (by decide +kernel) rfl rfl (Nat.le_of_ble_eq_true rfl) hbo hLc dM0_init_90 (fun H2 locs hO9 z1 o1 hLc => ?_)
  replace hO : OB G 1 o [.int (nI 0), .ref h, .ref (h + 1), .ref (h + 2), .ref (h + 3), .ref (h + 4), .ref (h + 5), .ref (h + 6), .int (nI 0), .int (nI 0), .int (nI 0), .ref (h + 7), .ref (h + 8), .int (nI 0), .ref (h + 9), .int (nI 0), .null] H2 := hO9
  replace hold : ∀ q, q < h → q ≠ o → H2[q]? = H[q]? := fun q a b => (o1 q b).trans (hold q a b)
  replace F0 := (o1 _ (ne_ho 0 hoh)).trans F0
  replace F1 := (o1 _ (ne_ho 1 hoh)).trans F1
  replace F2 := (o1 _ (ne_ho 2 hoh)).trans F2
  replace F3 := (o1 _ (ne_ho 3 hoh)).trans F3
  replace F4 := (o1 _ (ne_ho 4 hoh)).trans F4
  replace F5 := (o1 _ (ne_ho 5 hoh)).trans F5
  replace F6 := (o1 _ (ne_ho 6 hoh)).trans F6
  replace F7 := (o1 _ (ne_ho 7 hoh)).trans F7
  replace F8 := (o1 _ (ne_ho 8 hoh)).trans F8
  replace F9 := (o1 _ (ne_ho 9 hoh)).trans F9
  replace hsz := z1.trans hsz
  clear hO9 z1 o1
  obtain ⟨Hc, rfl⟩ : ∃ Hz, Hz = H2 := ⟨_, rfl⟩
  refine lv_aload_n hx hb dM0_init_93 rfl (lv_at hl 0 rfl) ?_
  refine lv_sipush (v := nI 520) hx hb dM0_init_94 (by decide) ?_
  refine m_newN (n := 520) (h := (h + 10)) hx hb hK (hts (.arrayClass .int) (by decide +kernel)) (by decide) hsz (Nat.le_of_ble_eq_true rfl) (Nat.le_of_ble_eq_true rfl) dM0_init_97 (fun H2 e1 z1 o1 => ?_)
  replace hO := hO.kept (o1 o (by omega))
  replace hold : ∀ q, q < h → q ≠ o → H2[q]? = H[q]? := fun q a b => (o1 q (by omega)).trans (hold q a b)
  replace F0 := (o1 _ (lt_hh h (a := 0) (b := 10) (by decide))).trans F0
  replace F1 := (o1 _ (lt_hh h (a := 1) (b := 10) (by decide))).trans F1
  replace F2 := (o1 _ (lt_hh h (a := 2) (b := 10) (by decide))).trans F2
  replace F3 := (o1 _ (lt_hh h (a := 3) (b := 10) (by decide))).trans F3
  replace F4 := (o1 _ (lt_hh h (a := 4) (b := 10) (by decide))).trans F4
  replace F5 := (o1 _ (lt_hh h (a := 5) (b := 10) (by decide))).trans F5
  replace F6 := (o1 _ (lt_hh h (a := 6) (b := 10) (by decide))).trans F6
  replace F7 := (o1 _ (lt_hh h (a := 7) (b := 10) (by decide))).trans F7
  replace F8 := (o1 _ (lt_hh h (a := 8) (b := 10) (by decide))).trans F8
  replace F9 := (o1 _ (lt_hh h (a := 9) (b := 10) (by decide))).trans F9
  have F10 := e1
  replace hsz : H2.size = h + 11 := z1
  clear e1 z1 o1
  obtain ⟨Hc, rfl⟩ : ∃ Hz, Hz = H2 := ⟨_, rfl⟩
  refine m_putF (C := RM0) (T := TM0) (N := 17) (ci := 1) (ty := .array .int) (v := .ref (h + 10)) (b0 := b0) hx hb hts hwsM0_init tyM0 tyM0_ok nmM0 hown hK hO rfl 16 (by decide) (hts (.fieldLink RM0 41 "ExactNumbersModel" "text" "[I") (by decide +kernel)) rfl hnm rfl (by decide +kernel) rfl rfl (Nat.le_of_ble_eq_true rfl) hbo hLc dM0_init_99 (fun H2 locs hO9 z1 o1 hLc => ?_)
  replace hO : OB G 1 o [.int (nI 0), .ref h, .ref (h + 1), .ref (h + 2), .ref (h + 3), .ref (h + 4), .ref (h + 5), .ref (h + 6), .int (nI 0), .int (nI 0), .int (nI 0), .ref (h + 7), .ref (h + 8), .int (nI 0), .ref (h + 9), .int (nI 0), .ref (h + 10)] H2 := hO9
  replace hold : ∀ q, q < h → q ≠ o → H2[q]? = H[q]? := fun q a b => (o1 q b).trans (hold q a b)
  replace F0 := (o1 _ (ne_ho 0 hoh)).trans F0
  replace F1 := (o1 _ (ne_ho 1 hoh)).trans F1
  replace F2 := (o1 _ (ne_ho 2 hoh)).trans F2
  replace F3 := (o1 _ (ne_ho 3 hoh)).trans F3
  replace F4 := (o1 _ (ne_ho 4 hoh)).trans F4
  replace F5 := (o1 _ (ne_ho 5 hoh)).trans F5
  replace F6 := (o1 _ (ne_ho 6 hoh)).trans F6
  replace F7 := (o1 _ (ne_ho 7 hoh)).trans F7
  replace F8 := (o1 _ (ne_ho 8 hoh)).trans F8
  replace F9 := (o1 _ (ne_ho 9 hoh)).trans F9
  replace F10 := (o1 _ (ne_ho 10 hoh)).trans F10
  replace hsz := z1.trans hsz
  clear hO9 z1 o1
  obtain ⟨Hc, rfl⟩ : ∃ Hz, Hz = H2 := ⟨_, rfl⟩
  refine lv_aload_n hx hb dM0_init_102 rfl (lv_at hl 0 rfl) ?_
  refine va_get (D := G.1) (ci := 1) (v := .ref (h + 2)) (C := RM0) (T := TM0) (N := 17) hx hb hts hwsM0_init hown hK hO 0 rfl rfl 3 (by decide) (hts (.fieldLink RM0 17 "ExactNumbersModel" "limit" "[I") (by decide +kernel)) (fun _ h9 => h9) rfl dM0_init_103 ?_
  refine lv_sipush (v := nI 512) hx hb dM0_init_106 (by decide) ?_
  refine mc_v0 (va_runS (As := [.ref (h + 2), .int (nI 512)]) (rest := []) ⟨hx, hb, hml, hown, hts⟩ (c_M0_power l G b0 Hc F2 (by omega) (by decide)) (va_cwS 2 hts gM0_init_M0_power rfl rfl rfl (by decide +kernel) ⟨Nat.le_of_ble_eq_true rfl, Nat.le_of_ble_eq_true rfl⟩) (mp_S hK) rfl rfl hl.1 rfl (lv_room (Nat.le_of_ble_eq_true rfl)) dM0_init_109 ⟨Nat.le_of_ble_eq_true rfl, Nat.le_of_ble_eq_true rfl⟩) hLc (fun H1 locs hP hLc => ?_)
  obtain ⟨lm, hlm, hlv, rfl⟩ := hP
  replace hO := hO.kept (hput_ne (H := Hc) (aN G 330 lm) (show o ≠ h + 2 by omega))
  replace hold : ∀ q, q < h → q ≠ o → (hput Hc (h + 2) (aN G 330 lm))[q]? = H[q]? := fun q a b => (hput_ne _ (by omega)).trans (hold q a b)
  replace F0 := (hput_ne (H := Hc) (aN G 330 lm) (ne_hh h (a := 0) (b := 2) (by decide))).trans F0
  replace F1 := (hput_ne (H := Hc) (aN G 330 lm) (ne_hh h (a := 1) (b := 2) (by decide))).trans F1
  replace F2 := hput_self (H := Hc) (a := h + 2) (aN G 330 lm) (by omega)
  replace F3 := (hput_ne (H := Hc) (aN G 330 lm) (ne_hh h (a := 3) (b := 2) (by decide))).trans F3
  replace F4 := (hput_ne (H := Hc) (aN G 330 lm) (ne_hh h (a := 4) (b := 2) (by decide))).trans F4
  replace F5 := (hput_ne (H := Hc) (aN G 330 lm) (ne_hh h (a := 5) (b := 2) (by decide))).trans F5
  replace F6 := (hput_ne (H := Hc) (aN G 330 lm) (ne_hh h (a := 6) (b := 2) (by decide))).trans F6
  replace F7 := (hput_ne (H := Hc) (aN G 330 lm) (ne_hh h (a := 7) (b := 2) (by decide))).trans F7
  replace F8 := (hput_ne (H := Hc) (aN G 330 lm) (ne_hh h (a := 8) (b := 2) (by decide))).trans F8
  replace F9 := (hput_ne (H := Hc) (aN G 330 lm) (ne_hh h (a := 9) (b := 2) (by decide))).trans F9
  replace F10 := (hput_ne (H := Hc) (aN G 330 lm) (ne_hh h (a := 10) (b := 2) (by decide))).trans F10
  replace hsz := (hput_size Hc (h + 2) (aN G 330 lm)).trans hsz
  generalize hput Hc (h + 2) (aN G 330 lm) = Hc at *
  refine W.widen (k := 11) (n := 14502) (by decide) (by decide) ?_
  subst hh
  have hW : SM G b0 o (fun i => H.size + i) Hc 0 (fun _ => 0) (fun _ => 0) lm (fun _ => 0) (fun _ => 0) (fun _ => 0) (fun _ => 0) 0 0 0 (fun _ => 0) (fun _ => 0) 0 (fun _ => 0) 0 (fun _ => 0) Hc := ⟨hO, fun i hi => by
    match i, hi with
    | 0, _ => exact F0
    | 1, _ => exact F1
    | 2, _ => exact F2
    | 3, _ => exact F3
    | 4, _ => exact F4
    | 5, _ => exact F5
    | 6, _ => exact F6
    | 7, _ => exact F7
    | 8, _ => exact F8
    | 9, _ => exact F9
    | 10, _ => exact F10
    | j + 11, hi => exact absurd hi (by omega), fun i j hi hj e => Nat.add_left_cancel e, fun i hi => ⟨by show H.size + i ≠ o; omega, by show b0 ≤ H.size + i; omega⟩, hbo, rfl, fun _ _ _ => rfl⟩
  exact m_vret hx hb hr hlocks hLc dM0_init_112 (⟨⟨lm, hlm, hlv, hW⟩, hsz, hold⟩)
