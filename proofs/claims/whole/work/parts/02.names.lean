/-! ===== BEGIN words of one list among another's, by their places ===== -/
theorem goodIn_r {big : List Cond} (ws : List Cond) (ps : List Nat) (hp : ws = ps.filterMap (fun i => big[i]?)) (h : ws.all goodWord = true) : GoodIn big ws := by
  intro w hw
  have h1 := List.all_eq_true.mp h w hw
  rw [hp] at hw
  obtain ⟨i, -, hi⟩ := List.mem_filterMap.mp hw
  have hm : w ∈ big := by first | exact List.mem_of_getElem? hi | exact List.getElem?_mem hi
  exact ⟨hm, good_of_word h1⟩
theorem goodIn_app {big a b : List Cond} (ha : GoodIn big a) (hb : GoodIn big b) : GoodIn big (a ++ b) := fun w h => (List.mem_append.mp h).elim (ha w) (hb w)
theorem goodIn_ca {big a b : List Cond} {c : Cond} (ha : GoodIn big (c :: a)) (hb : GoodIn big b) : GoodIn big (c :: (a ++ b)) := fun w h => (List.mem_cons.mp h).elim (fun e => ha w (List.mem_cons.mpr (Or.inl e))) (fun h => (List.mem_append.mp h).elim (fun h => ha w (List.mem_cons.mpr (Or.inr h))) (hb w))
theorem goodIn_sub {big ws : List Cond} (hm : ∀ w ∈ ws, w ∈ big) (h : ws.all goodWord = true) : GoodIn big ws := fun w hw => ⟨hm w hw, good_of_word (List.all_eq_true.mp h w hw)⟩
/-! ===== END ===== -/

/-! ===== BEGIN new T[n][m]: the outer array a place, the inner ones among the pooled ===== -/
/-- f, but v at every address of l -/
def vr_up {α : Type} (f : Nat → α) (l : List Nat) (v : α) : Nat → α := fun a => if a ∈ l then v else f a
theorem vr_up_in {α : Type} {f : Nat → α} {l : List Nat} {v : α} {a : Nat} (h : a ∈ l) : vr_up f l v a = v := if_pos h
theorem vr_up_ne {α : Type} {f : Nat → α} {l : List Nat} {v : α} {a : Nat} (h : a ∉ l) : vr_up f l v a = f a := if_neg h
theorem vr_rows {L l : List Nat} {f : Nat → va_E} {e : va_E} (h : ∀ a, a ∈ l → a ∉ L) : va_pl L f ++ l.map (fun a => (a, e)) = va_pl (L ++ l) (vr_up f l e) := by
  unfold va_pl
  rw [List.map_append]
  congr 1
  · apply List.map_congr_left
    intro a ha
    rw [vr_up_ne (fun q => h a q ha)]
  · apply List.map_congr_left
    intro a ha
    rw [vr_up_in ha]
theorem vr_lay {X rows : va_W} {x : Nat × va_E} {pl : va_W} {D : va_G} {cl : List vw_C} {H : Heap} (hP : va_P D cl (((X ++ pl) ++ [x]) ++ rows) H) : va_P D cl ((X ++ [x]) ++ (pl ++ rows)) H := by
  rw [List.append_assoc (X ++ pl)] at hP
  have h := va_P.swap hP
  rw [← List.append_assoc X] at h
  have h2 := va_P.swap h
  rw [List.append_assoc (X ++ [x])] at h2
  exact h2
theorem vr_layD {X rows : va_W} {x : Nat × va_E} {pl : va_W} {A : Nat → Prop} (hD : va_D A (((X ++ pl) ++ [x]) ++ rows)) : va_D A ((X ++ [x]) ++ (pl ++ rows)) := by
  rw [List.append_assoc (X ++ pl)] at hD
  have h := va_D.swap hD
  rw [← List.append_assoc X] at h
  have h2 := va_D.swap h
  rw [List.append_assoc (X ++ [x])] at h2
  exact h2
theorem vr_outer (c : ClassId) (N h0 : Nat) : ∀ i : Nat, Jvm.Free.Multi.outerC c N h0 i = arrV c N (fun j => va_rf (if j < i then some (h0 + 1 + j) else none))
  | 0 => by
    show ({ cls := c, slots := Array.replicate N .null, vm := .none } : Cell) = _
    rw [arrV_new]
    refine congrArg (arrV c N) (funext fun j => ?_)
    simp [va_rf]
  | i + 1 => by
    show (Jvm.Free.Multi.outerC c N h0 i).setSlot i (.ref (h0 + 1 + i)) = _
    rw [vr_outer c N h0 i, arrV_store]
    refine congrArg (arrV c N) (funext fun j => ?_)
    by_cases e : j = i
    · subst e
      simp [updV, va_rf]
    · by_cases h : j < i
      · simp [updV, e, h, Nat.lt_succ_of_lt h]
      · simp [updV, e, h, show ¬ j < i + 1 by omega]
section VGM
variable {p : Program} {l : Launch} {e : Env} {R : Room} {s : State} {m : MethodId} {args : Array Value} {below : List Frame} {meth : Method} {c : Code} {H : Heap} {locs : List Loc} {cells slots : Nat} {Q : State → Prop}
variable {cc : ByteArray} {pc : Nat} {ls : Array Slot} {rest : List Value} {D : va_G} {cl : List vw_C} {A : Nat → Prop} {a : Nat} {tys : List (ClassId × FieldType)} {ws : va_W} {H0 : Heap}
theorem va_mna {X : va_W} {L : List Nat} {f : Nat → va_E} {cc : ByteArray} (hexec : p.tables.exec = Jvm.exec) (hb : c.code = cc) {own : String} {index : Nat} {ty : FieldType} {cy : ClassId} (hown : s.vm.findClass own = some m.cls) (hclink : (Cond.classLink own index ("[" ++ (FieldType.array ty).toString)).before args s = true) (hover : (Cond.arrayOver (.array ty)).before args s = true) (harr : (Cond.arrayClass ty).before args s = true) (hcy : s.vm.findClass (FieldType.array ty).toString = some cy)
    (hK : va_K D cl tys s) (hP : va_P D cl (X ++ va_pl L f) H) (hD : va_D A (X ++ va_pl L f)) (hS : va_S A H0 H locs) (hA : ∀ q, H0.size ≤ q → A q) {n k : Int32} {N' K' : Nat} {z : vp_A} (hn : ¬ n < 0) (hk : ¬ k < 0) (hN : n.toNatClampNeg = N') (hM : k.toNatClampNeg = K')
    (hb1 : N' * 4 ≤ 536870912) (hb2 : K' * componentBytes ty ≤ 536870912) (hb3 : K' ≤ 536870912) (hdf : fits ty (defaultValue ty) = true) (hdd : (defaultValue ty).isDefault = true) (hcells : cells + (1 + N') ≤ R.cells) (hslots : slots + (N' + N' * K') ≤ R.slots) (hz : ∀ c : ClassId, Jvm.Free.Multi.innerC c K' (defaultValue ty) = vp_cell c z) (hdg : decode cc pc = .ok (.multianewarray index 2, 4))
    (kk : ∀ (q : Nat) (r : Nat → Nat) (cA : ClassId) (H1 : Heap), (∀ i j : Nat, i < N' → j < N' → r i = r j → i = j) → (∀ i : Nat, i < N' → r i ∉ L) → va_K D cl (tys ++ [(cA, .array ty)]) s →
      va_P D cl ((X ++ [(q, .inl (cA, N', .inr (.inr (.inr (.inr (fun i => if i < N' then some (r i) else none))))))]) ++ va_pl (L ++ (List.range N').map r) (vr_up f ((List.range N').map r) (.inl (cy, z)))) H1 → va_D A ((X ++ [(q, .inl (cA, N', .inr (.inr (.inr (.inr (fun i => if i < N' then some (r i) else none))))))]) ++ va_pl (L ++ (List.range N').map r) (vr_up f ((List.range N').map r) (.inl (cy, z)))) → va_S A H0 H1 locs →
      W p l e R s m args below meth c H1 locs (cells + 1 + N') (slots + N' + N' * K') Q (F0 m (pc + 4) ls (.ref q :: rest))) : W p l e R s m args below meth c H locs cells slots Q (F0 m pc ls (.int k :: .int n :: rest)) := by
  subst hN
  subst hM
  intro T hT Xs
  obtain ⟨vm₁, cA, comp, -, fA, fC, hO, -, X', step⟩ := Xs.multianewarray2F hexec hown hclink hover harr (g := F0 m pc ls (.int k :: .int n :: rest)) rfl (by rw [hb]; exact hdg) rfl hn hk hb1 hb2 hb3 hdf hdd hcells hslots
  have ec : some cy = some comp := hcy.symm.trans fC
  cases ec
  generalize hF : Jvm.Free.Multi.fill (T.setVm vm₁) cA cy n.toNatClampNeg k.toNatClampNeg (defaultValue ty) n.toNatClampNeg = F at X' step
  have hTh : (T.setVm vm₁).heap = H := hT
  obtain ⟨f1, f2, -, -⟩ := Jvm.Free.Multi.fill_facts (T.setVm vm₁) cA cy n.toNatClampNeg k.toNatClampNeg (defaultValue ty) n.toNatClampNeg
  rw [hF, hTh] at f1 f2
  have hold : ∀ x : Nat, x < H.size → F.heap[x]? = H[x]? := fun x hx => by
    have := Jvm.Free.Multi.fill_old (T.setVm vm₁) cA cy n.toNatClampNeg k.toNatClampNeg (defaultValue ty) (a := x) (by rw [hTh]; exact hx) n.toNatClampNeg
    rw [hF, hTh] at this
    exact this
  have hrow : ∀ j : Nat, j < n.toNatClampNeg → F.heap[H.size + 1 + j]? = some (vp_cell cy z) := fun j hj => by
    have := Jvm.Free.Multi.fill_inner (T.setVm vm₁) cA cy n.toNatClampNeg k.toNatClampNeg (defaultValue ty) n.toNatClampNeg j hj
    rw [hF, hTh, hz] at this
    exact this
  have hout : Jvm.Free.Multi.outerC cA n.toNatClampNeg H.size n.toNatClampNeg = vp_cell cA (n.toNatClampNeg, .inr (.inr (.inr (.inr (fun i => if i < n.toNatClampNeg then some (H.size + 1 + i) else none))))) := by
    rw [vp_cell_q]
    exact vr_outer cA n.toNatClampNeg H.size n.toNatClampNeg
  rw [hout] at f2
  have hlt : ∀ a, a ∈ L → a < H.size := fun a ha => by
    obtain ⟨k9, hk9⟩ := va_pl_get (X := X) (f := f) ha
    exact (hP k9 _ hk9).lt
  have hnl : ∀ i : Nat, i < n.toNatClampNeg → H.size + 1 + i ∉ L := fun i _ h => by
    have := hlt _ h
    omega
  have hnm : ∀ a, a ∈ (List.range n.toNatClampNeg).map (fun i => H.size + 1 + i) → a ∉ L := fun a ha h => by
    obtain ⟨i, -, rfl⟩ := List.mem_map.mp ha
    have := hlt _ h
    omega
  have hP0 : va_P D cl (X ++ va_pl L f) F.heap := hP.kept (fun k9 x hx => hold x.1 ((hP k9 x hx).lt))
  have hP1 : va_P D cl ((X ++ va_pl L f) ++ [(H.size, .inl (cA, n.toNatClampNeg, .inr (.inr (.inr (.inr (fun i => if i < n.toNatClampNeg then some (H.size + 1 + i) else none))))))]) F.heap := hP0.app (fun k9 x hx => by
    have h0 : k9 < 1 := (List.getElem?_eq_some_iff.mp hx).1
    rw [show k9 = 0 by omega] at hx
    cases hx
    exact f2)
  have hP2 : va_P D cl (((X ++ va_pl L f) ++ [(H.size, .inl (cA, n.toNatClampNeg, .inr (.inr (.inr (.inr (fun i => if i < n.toNatClampNeg then some (H.size + 1 + i) else none))))))]) ++ ((List.range n.toNatClampNeg).map (fun i => H.size + 1 + i)).map (fun a => (a, .inl (cy, z)))) F.heap := hP1.app (fun k9 x hx => by
    obtain ⟨a, ha, rfl⟩ := List.mem_map.mp (List.mem_of_getElem? hx)
    obtain ⟨i, hi, rfl⟩ := List.mem_map.mp ha
    exact hrow i (List.mem_range.mp hi))
  have hD2 : va_D A (((X ++ va_pl L f) ++ [(H.size, .inl (cA, n.toNatClampNeg, .inr (.inr (.inr (.inr (fun i => if i < n.toNatClampNeg then some (H.size + 1 + i) else none))))))]) ++ ((List.range n.toNatClampNeg).map (fun i => H.size + 1 + i)).map (fun a => (a, .inl (cy, z)))) := by
    have hD1 := hD.push (e := .inl (cA, n.toNatClampNeg, .inr (.inr (.inr (.inr (fun i => if i < n.toNatClampNeg then some (H.size + 1 + i) else none)))))) hP rfl (hA _ hS.1)
    generalize hW1 : (X ++ va_pl L f) ++ [(H.size, .inl (cA, n.toNatClampNeg, .inr (.inr (.inr (.inr (fun i => if i < n.toNatClampNeg then some (H.size + 1 + i) else none))))))] = W1 at hD1 hP1 ⊢
    have hle : ∀ (k9 : Nat) (x : Nat × va_E), W1[k9]? = some x → x.1 ≤ H.size := fun k9 x hx => by
      rw [← hW1] at hx
      by_cases hl : k9 < (X ++ va_pl L f).length
      · rw [List.getElem?_append_left hl] at hx
        exact Nat.le_of_lt ((hP k9 x hx).lt)
      · rw [List.getElem?_append_right (by omega)] at hx
        have h0 : k9 - (X ++ va_pl L f).length < 1 := (List.getElem?_eq_some_iff.mp hx).1
        rw [show k9 - (X ++ va_pl L f).length = 0 by omega] at hx
        cases hx
        exact Nat.le_refl _
    have hr : ∀ (k9 : Nat) (x : Nat × va_E), (((List.range n.toNatClampNeg).map (fun i => H.size + 1 + i)).map (fun a => ((a, .inl (cy, z)) : Nat × va_E)))[k9]? = some x → x.1 = H.size + 1 + k9 := fun k9 x hx => by
      rw [List.getElem?_map, List.getElem?_map] at hx
      by_cases h9 : k9 < n.toNatClampNeg
      · rw [List.getElem?_range h9] at hx
        cases hx
        rfl
      · have hn0 : (List.range n.toNatClampNeg)[k9]? = none := List.getElem?_eq_none (by rw [List.length_range]; omega)
        rw [hn0] at hx
        cases hx
    refine ⟨fun i j x y hi hj hxy => ?_, fun k9 x hx => ?_⟩
    · by_cases h1 : i < W1.length <;> by_cases h2 : j < W1.length
      · rw [List.getElem?_append_left h1] at hi
        rw [List.getElem?_append_left h2] at hj
        exact hD1.1 i j x y hi hj hxy
      · rw [List.getElem?_append_left h1] at hi
        rw [List.getElem?_append_right (by omega)] at hj
        have := hle _ _ hi
        have := hr _ _ hj
        omega
      · rw [List.getElem?_append_right (by omega)] at hi
        rw [List.getElem?_append_left h2] at hj
        have := hle _ _ hj
        have := hr _ _ hi
        omega
      · rw [List.getElem?_append_right (by omega)] at hi hj
        have := hr _ _ hi
        have := hr _ _ hj
        omega
    · by_cases h1 : k9 < W1.length
      · rw [List.getElem?_append_left h1] at hx
        exact hD1.2 k9 x hx
      · rw [List.getElem?_append_right (by omega)] at hx
        have := hr _ _ hx
        exact hA _ (by have := hS.1; omega)
  have hAr : ArrOfT s cA (.array ty) := fun N9 z9 => by
    obtain ⟨-, k9, hk9, cm9, hkk9⟩ := (hO 0 0 0).1
    exact ⟨(fun q hq => by cases hq), k9, hk9, cm9, hkk9⟩
  have hK2 : va_K D cl (tys ++ [(cA, .array ty)]) s := ⟨hK.1, fun k9 x hx => by
    by_cases hl : k9 < tys.length
    · rw [List.getElem?_append_left hl] at hx
      exact hK.2 k9 x hx
    · rw [List.getElem?_append_right (by omega)] at hx
      have h0 : k9 - tys.length < 1 := (List.getElem?_eq_some_iff.mp hx).1
      rw [show k9 - tys.length = 0 by omega] at hx
      cases hx
      exact ⟨hAr, fA⟩⟩
  obtain ⟨t, a1, b1⟩ := kk H.size (fun i => H.size + 1 + i) cA F.heap (fun i j _ _ h => by have h9 : H.size + 1 + i = H.size + 1 + j := h; omega) hnl hK2 (by rw [← vr_rows hnm]; exact vr_lay hP2) (by rw [← vr_rows hnm]; exact vr_layD hD2) ⟨by rw [f1]; have := hS.1; omega, fun x h1 h2 => (hold x (Nat.lt_of_lt_of_le h1 hS.1)).trans (hS.2.1 x h1 h2), hS.2.2⟩ F rfl X'
  refine ⟨t, step t ?_, b1⟩
  have e : T.heap.size = H.size := by rw [hT]
  rw [e]
  exact a1
end VGM
/-! ===== END ===== -/

/-! ===== BEGIN printed: names, fields, word lists, decode rows ===== -/
def RX0 : String := "ExactNumbers$Limbs"
def TX0 : u_T := fun k => match k with
  | _ => ("", "", "", false)
def tyX0 : Nat → FieldType := fun k => match k with
  | _ => .int
abbrev wsX00 : List Cond := u_ws RX0 TX0 0
theorem nmX0 : ∀ a, a < 0 → ∀ b, b < 0 → a ≠ b → (TX0 a).2.1 ≠ (TX0 b).2.1 := by decide +kernel
theorem tyX0_ok : ∀ k, k < 0 → parseFieldDescriptor (TX0 k).2.2.1 = some (tyX0 k) := by decide +kernel
abbrev cX0_limbAt : ByteArray := prog_2_method_2_code
def yX0_limbAt : MethodName := ⟨RX0, "limbAt", "([JI)J"⟩
abbrev cX0_used : ByteArray := prog_2_method_3_code
def yX0_used : MethodName := ⟨RX0, "used", "([J)I"⟩
abbrev cX0_bitLength : ByteArray := prog_2_method_4_code
def yX0_bitLength : MethodName := ⟨RX0, "bitLength", "([J)I"⟩
abbrev cX0_lowZeros : ByteArray := prog_2_method_5_code
def yX0_lowZeros : MethodName := ⟨RX0, "lowZeros", "([J)I"⟩
abbrev cX0_order : ByteArray := prog_2_method_6_code
def yX0_order : MethodName := ⟨RX0, "order", "([J[J)I"⟩
abbrev cX0_copy : ByteArray := prog_2_method_7_code
def yX0_copy : MethodName := ⟨RX0, "copy", "([J[J)V"⟩
abbrev cX0_increase : ByteArray := prog_2_method_8_code
def yX0_increase : MethodName := ⟨RX0, "increase", "([J)V"⟩
abbrev cX0_decrease : ByteArray := prog_2_method_9_code
def yX0_decrease : MethodName := ⟨RX0, "decrease", "([J)V"⟩
abbrev cX0_negate : ByteArray := prog_2_method_10_code
def yX0_negate : MethodName := ⟨RX0, "negate", "([J)V"⟩
abbrev cX0_add : ByteArray := prog_2_method_11_code
def yX0_add : MethodName := ⟨RX0, "add", "([J[J[J)V"⟩
abbrev cX0_subtract : ByteArray := prog_2_method_12_code
def yX0_subtract : MethodName := ⟨RX0, "subtract", "([J[J[J)V"⟩
abbrev cX0_multiply : ByteArray := prog_2_method_13_code
def yX0_multiply : MethodName := ⟨RX0, "multiply", "([J[J[J)V"⟩
abbrev cX0_multiplyAndAdd : ByteArray := prog_2_method_14_code
def yX0_multiplyAndAdd : MethodName := ⟨RX0, "multiplyAndAdd", "([JJJ)V"⟩
abbrev cX0_divideBySmall : ByteArray := prog_2_method_15_code
def yX0_divideBySmall : MethodName := ⟨RX0, "divideBySmall", "([JIJ)J"⟩
abbrev cX0_moveUp : ByteArray := prog_2_method_16_code
def yX0_moveUp : MethodName := ⟨RX0, "moveUp", "([JI[J)V"⟩
abbrev cX0_moveDown : ByteArray := prog_2_method_17_code
def yX0_moveDown : MethodName := ⟨RX0, "moveDown", "([JI[J)V"⟩
abbrev cX0_takeOut : ByteArray := prog_2_method_18_code
def yX0_takeOut : MethodName := ⟨RX0, "takeOut", "([J[JII)J"⟩
abbrev cX0_guess : ByteArray := prog_2_method_19_code
def yX0_guess : MethodName := ⟨RX0, "guess", "(JJJ)J"⟩
abbrev cX0_subtractProduct : ByteArray := prog_2_method_20_code
def yX0_subtractProduct : MethodName := ⟨RX0, "subtractProduct", "([J[JIIJ)Z"⟩
abbrev cX0_addBack : ByteArray := prog_2_method_21_code
def yX0_addBack : MethodName := ⟨RX0, "addBack", "([J[JII)Z"⟩
def RX1 : String := "ExactNumbers"
def TX1 : u_T := fun k => match k with
  | 0 => ("ExactNumbers", "sizes", "[[J", true)
  | 1 => ("ExactNumbers", "below", "[Z", true)
  | 2 => ("ExactNumbers", "digitValues", "[B", true)
  | 3 => ("ExactNumbers", "digitCount", "I", false)
  | 4 => ("ExactNumbers", "written", "[B", true)
  | 5 => ("ExactNumbers", "writtenFrom", "I", false)
  | 6 => ("ExactNumbers", "first", "[J", true)
  | 7 => ("ExactNumbers", "second", "[J", true)
  | _ => ("ExactNumbers", "wide", "[J", true)
def tyX1 : Nat → FieldType := fun k => match k with
  | 0 => .array (.array .long)
  | 1 => .array .boolean
  | 2 => .array .byte
  | 3 => .int
  | 4 => .array .byte
  | 5 => .int
  | 6 => .array .long
  | 7 => .array .long
  | _ => .array .long
abbrev wsX10 : List Cond := u_ws RX1 TX1 9
theorem nmX1 : ∀ a, a < 9 → ∀ b, b < 9 → a ≠ b → (TX1 a).2.1 ≠ (TX1 b).2.1 := by decide +kernel
theorem tyX1_ok : ∀ k, k < 9 → parseFieldDescriptor (TX1 k).2.2.1 = some (tyX1 k) := by decide +kernel
abbrev cX1_init : ByteArray := prog_1_method_1_code
def yX1_init : MethodName := ⟨RX1, "<init>", "()V"⟩
abbrev cX1_set : ByteArray := prog_1_method_2_code
def yX1_set : MethodName := ⟨RX1, "set", "(IJZ)I"⟩
abbrev cX1_digits : ByteArray := prog_1_method_3_code
def yX1_digits : MethodName := ⟨RX1, "digits", "(J)Z"⟩
abbrev cX1_read : ByteArray := prog_1_method_4_code
def yX1_read : MethodName := ⟨RX1, "read", "(II)I"⟩
abbrev cX1_work : ByteArray := prog_1_method_5_code
def yX1_work : MethodName := ⟨RX1, "work", "(IIII)I"⟩
abbrev cX1_shift : ByteArray := prog_1_method_6_code
def yX1_shift : MethodName := ⟨RX1, "shift", "(IIIZ)I"⟩
abbrev cX1_turn : ByteArray := prog_1_method_7_code
def yX1_turn : MethodName := ⟨RX1, "turn", "(IIZ)I"⟩
abbrev cX1_compare : ByteArray := prog_1_method_8_code
def yX1_compare : MethodName := ⟨RX1, "compare", "(II)I"⟩
abbrev cX1_bits : ByteArray := prog_1_method_9_code
def yX1_bits : MethodName := ⟨RX1, "bits", "(I)I"⟩
abbrev cX1_fits : ByteArray := prog_1_method_10_code
def yX1_fits : MethodName := ⟨RX1, "fits", "(IIZ)Z"⟩
abbrev cX1_cut : ByteArray := prog_1_method_11_code
def yX1_cut : MethodName := ⟨RX1, "cut", "(IIZ)J"⟩
abbrev cX1_write : ByteArray := prog_1_method_12_code
def yX1_write : MethodName := ⟨RX1, "write", "(II)I"⟩
abbrev cX1_byteOf : ByteArray := prog_1_method_13_code
def yX1_byteOf : MethodName := ⟨RX1, "byteOf", "(I)I"⟩
abbrev cX1_isSlot : ByteArray := prog_1_method_14_code
def yX1_isSlot : MethodName := ⟨RX1, "isSlot", "(I)Z"⟩
abbrev cX1_isBase : ByteArray := prog_1_method_15_code
def yX1_isBase : MethodName := ⟨RX1, "isBase", "(I)Z"⟩
abbrev cX1_isWordLength : ByteArray := prog_1_method_16_code
def yX1_isWordLength : MethodName := ⟨RX1, "isWordLength", "(I)Z"⟩
abbrev cX1_digitValue : ByteArray := prog_1_method_17_code
def yX1_digitValue : MethodName := ⟨RX1, "digitValue", "(I)I"⟩
abbrev cX1_areDigitsOf : ByteArray := prog_1_method_18_code
def yX1_areDigitsOf : MethodName := ⟨RX1, "areDigitsOf", "(II)Z"⟩
abbrev cX1_store : ByteArray := prog_1_method_19_code
def yX1_store : MethodName := ⟨RX1, "store", "(I[JZ)I"⟩
abbrev cX1_sum : ByteArray := prog_1_method_20_code
def yX1_sum : MethodName := ⟨RX1, "sum", "(IIIZ)I"⟩
abbrev cX1_quotientOrRest : ByteArray := prog_1_method_21_code
def yX1_quotientOrRest : MethodName := ⟨RX1, "quotientOrRest", "(IIIZ)I"⟩
abbrev cX1_bitByBit : ByteArray := prog_1_method_22_code
def yX1_bitByBit : MethodName := ⟨RX1, "bitByBit", "(IIII)I"⟩
abbrev cX1_signedCopy : ByteArray := prog_1_method_23_code
def yX1_signedCopy : MethodName := ⟨RX1, "signedCopy", "(I[J)V"⟩
abbrev cX1_joined : ByteArray := prog_1_method_24_code
def yX1_joined : MethodName := ⟨RX1, "joined", "(IJJ)J"⟩
abbrev cX1_groupLength : ByteArray := prog_1_method_25_code
def yX1_groupLength : MethodName := ⟨RX1, "groupLength", "(I)I"⟩
abbrev cX1_powerOf : ByteArray := prog_1_method_26_code
def yX1_powerOf : MethodName := ⟨RX1, "powerOf", "(II)J"⟩
abbrev cX1_putGroup : ByteArray := prog_1_method_27_code
def yX1_putGroup : MethodName := ⟨RX1, "putGroup", "(JII)V"⟩
abbrev cX1_put : ByteArray := prog_1_method_28_code
def yX1_put : MethodName := ⟨RX1, "put", "(I)V"⟩
def RJ6 : String := "java/lang/Integer"
def TJ6 : u_T := fun k => match k with
  | _ => ("", "", "", false)
def tyJ6 : Nat → FieldType := fun k => match k with
  | _ => .int
abbrev wsJ60 : List Cond := u_ws RJ6 TJ6 0
theorem nmJ6 : ∀ a, a < 0 → ∀ b, b < 0 → a ≠ b → (TJ6 a).2.1 ≠ (TJ6 b).2.1 := by decide +kernel
theorem tyJ6_ok : ∀ k, k < 0 → parseFieldDescriptor (TJ6 k).2.2.1 = some (tyJ6 k) := by decide +kernel
abbrev cJ6_numberOfLeadingZeros_0f7a4 : ByteArray := prog_5_method_47_code
def yJ6_numberOfLeadingZeros_0f7a4 : MethodName := ⟨RJ6, "numberOfLeadingZeros", "(I)I"⟩
abbrev cJ6_numberOfTrailingZeros_0f7a4 : ByteArray := prog_5_method_48_code
def yJ6_numberOfTrailingZeros_0f7a4 : MethodName := ⟨RJ6, "numberOfTrailingZeros", "(I)I"⟩
def RJ13 : String := "java/lang/Long"
def TJ13 : u_T := fun k => match k with
  | _ => ("", "", "", false)
def tyJ13 : Nat → FieldType := fun k => match k with
  | _ => .int
abbrev wsJ130 : List Cond := u_ws RJ13 TJ13 0
theorem nmJ13 : ∀ a, a < 0 → ∀ b, b < 0 → a ≠ b → (TJ13 a).2.1 ≠ (TJ13 b).2.1 := by decide +kernel
theorem tyJ13_ok : ∀ k, k < 0 → parseFieldDescriptor (TJ13 k).2.2.1 = some (tyJ13 k) := by decide +kernel
abbrev cJ13_numberOfLeadingZeros_95d88 : ByteArray := prog_6_method_48_code
def yJ13_numberOfLeadingZeros_95d88 : MethodName := ⟨RJ13, "numberOfLeadingZeros", "(J)I"⟩
abbrev cJ13_numberOfTrailingZeros_95d88 : ByteArray := prog_6_method_49_code
def yJ13_numberOfTrailingZeros_95d88 : MethodName := ⟨RJ13, "numberOfTrailingZeros", "(J)I"⟩
def RJ10 : String := "java/lang/System"
def TJ10 : u_T := fun k => match k with
  | _ => ("", "", "", false)
def tyJ10 : Nat → FieldType := fun k => match k with
  | _ => .int
abbrev wsJ100 : List Cond := u_ws RJ10 TJ10 0
theorem nmJ10 : ∀ a, a < 0 → ∀ b, b < 0 → a ≠ b → (TJ10 a).2.1 ≠ (TJ10 b).2.1 := by decide +kernel
theorem tyJ10_ok : ∀ k, k < 0 → parseFieldDescriptor (TJ10 k).2.2.1 = some (tyJ10 k) := by decide +kernel
def RJ7 : String := "java/util/Arrays"
def TJ7 : u_T := fun k => match k with
  | _ => ("", "", "", false)
def tyJ7 : Nat → FieldType := fun k => match k with
  | _ => .int
abbrev wsJ70 : List Cond := u_ws RJ7 TJ7 0
theorem nmJ7 : ∀ a, a < 0 → ∀ b, b < 0 → a ≠ b → (TJ7 a).2.1 ≠ (TJ7 b).2.1 := by decide +kernel
theorem tyJ7_ok : ∀ k, k < 0 → parseFieldDescriptor (TJ7 k).2.2.1 = some (tyJ7 k) := by decide +kernel
abbrev cJ7_fill_d0a16 : ByteArray := prog_8_method_101_code
def yJ7_fill_d0a16 : MethodName := ⟨RJ7, "fill", "([JJ)V"⟩
def RL : String := "ExactNumbersLaw"
abbrev cL_law : ByteArray := code
def yL_law : MethodName := ⟨RL, "law", "([I)Z"⟩
def wsX0_limbAt : List Cond := .code yX0_limbAt cX0_limbAt 2 (some .long) :: ([])
def wsX0_used : List Cond := .code yX0_used cX0_used 2 (some .int) :: ([])
def wsJ6_numberOfLeadingZeros_0f7a4 : List Cond := .code yJ6_numberOfLeadingZeros_0f7a4 cJ6_numberOfLeadingZeros_0f7a4 2 (some .int) :: ([.constant RJ6 264 (65536)])
def wsJ13_numberOfLeadingZeros_95d88 : List Cond := .code yJ13_numberOfLeadingZeros_95d88 cJ13_numberOfLeadingZeros_95d88 3 (some .int) :: ([.methodLink RJ13 308 yJ6_numberOfLeadingZeros_0f7a4, .static yJ6_numberOfLeadingZeros_0f7a4, .initialized RJ6, .code yJ6_numberOfLeadingZeros_0f7a4 cJ6_numberOfLeadingZeros_0f7a4 2 (some .int), .constant RJ6 264 (65536)])
def wsX0_bitLength : List Cond := .code yX0_bitLength cX0_bitLength 2 (some .int) :: ([.methodLink RX0 9 yX0_used, .static yX0_used, .initialized RX0, .code yX0_used cX0_used 2 (some .int), .methodLink RX0 15 yJ13_numberOfLeadingZeros_95d88, .static yJ13_numberOfLeadingZeros_95d88, .initialized RJ13, .code yJ13_numberOfLeadingZeros_95d88 cJ13_numberOfLeadingZeros_95d88 3 (some .int), .methodLink RJ13 308 yJ6_numberOfLeadingZeros_0f7a4, .static yJ6_numberOfLeadingZeros_0f7a4, .initialized RJ6, .code yJ6_numberOfLeadingZeros_0f7a4 cJ6_numberOfLeadingZeros_0f7a4 2 (some .int), .constant RJ6 264 (65536)])
def wsJ6_numberOfTrailingZeros_0f7a4 : List Cond := .code yJ6_numberOfTrailingZeros_0f7a4 cJ6_numberOfTrailingZeros_0f7a4 2 (some .int) :: ([.constant RJ6 264 (65536)])
def wsJ13_numberOfTrailingZeros_95d88 : List Cond := .code yJ13_numberOfTrailingZeros_95d88 cJ13_numberOfTrailingZeros_95d88 3 (some .int) :: ([.methodLink RJ13 311 yJ6_numberOfTrailingZeros_0f7a4, .static yJ6_numberOfTrailingZeros_0f7a4, .initialized RJ6, .code yJ6_numberOfTrailingZeros_0f7a4 cJ6_numberOfTrailingZeros_0f7a4 2 (some .int), .constant RJ6 264 (65536)])
def wsX0_lowZeros : List Cond := .code yX0_lowZeros cX0_lowZeros 2 (some .int) :: ([.methodLink RX0 21 yJ13_numberOfTrailingZeros_95d88, .static yJ13_numberOfTrailingZeros_95d88, .initialized RJ13, .code yJ13_numberOfTrailingZeros_95d88 cJ13_numberOfTrailingZeros_95d88 3 (some .int), .methodLink RJ13 311 yJ6_numberOfTrailingZeros_0f7a4, .static yJ6_numberOfTrailingZeros_0f7a4, .initialized RJ6, .code yJ6_numberOfTrailingZeros_0f7a4 cJ6_numberOfTrailingZeros_0f7a4 2 (some .int), .constant RJ6 264 (65536)])
def wsX0_order : List Cond := .code yX0_order cX0_order 3 (some .int) :: ([.methodLink RX0 24 yX0_limbAt, .static yX0_limbAt, .initialized RX0, .code yX0_limbAt cX0_limbAt 2 (some .long)])
def wsX0_copy : List Cond := .code yX0_copy cX0_copy 3 none :: ([.methodLink RX0 24 yX0_limbAt, .static yX0_limbAt, .initialized RX0, .code yX0_limbAt cX0_limbAt 2 (some .long)])
def wsX0_increase : List Cond := .code yX0_increase cX0_increase 2 none :: ([.constantLong RX0 28 (4294967295)])
def wsX0_decrease : List Cond := .code yX0_decrease cX0_decrease 2 none :: ([.constantLong RX0 28 (4294967295)])
def wsX0_negate : List Cond := .code yX0_negate cX0_negate 2 none :: ([.constantLong RX0 30 (-1), .constantLong RX0 28 (4294967295), .methodLink RX0 32 yX0_increase, .static yX0_increase, .initialized RX0, .code yX0_increase cX0_increase 2 none])
def wsX0_add : List Cond := .code yX0_add cX0_add 8 none :: ([.constantLong RX0 28 (4294967295), .methodLink RX0 24 yX0_limbAt, .static yX0_limbAt, .initialized RX0, .code yX0_limbAt cX0_limbAt 2 (some .long)])
def wsX0_subtract : List Cond := .code yX0_subtract cX0_subtract 8 none :: ([.constantLong RX0 28 (4294967295), .methodLink RX0 24 yX0_limbAt, .static yX0_limbAt, .initialized RX0, .code yX0_limbAt cX0_limbAt 2 (some .long)])
def wsJ7_fill_d0a16 : List Cond := .code yJ7_fill_d0a16 cJ7_fill_d0a16 5 none :: ([])
def wsX0_multiply : List Cond := .code yX0_multiply cX0_multiply 11 none :: ([.constantLong RX0 28 (4294967295), .methodLink RX0 36 yJ7_fill_d0a16, .static yJ7_fill_d0a16, .initialized RJ7, .code yJ7_fill_d0a16 cJ7_fill_d0a16 5 none, .methodLink RX0 9 yX0_used, .static yX0_used, .initialized RX0, .code yX0_used cX0_used 2 (some .int)])
def wsX0_multiplyAndAdd : List Cond := .code yX0_multiplyAndAdd cX0_multiplyAndAdd 10 none :: ([.constantLong RX0 28 (4294967295)])
def wsX0_divideBySmall : List Cond := .code yX0_divideBySmall cX0_divideBySmall 9 (some .long) :: ([.constantLong RX0 42 (2147483648)])
def wsX0_moveUp : List Cond := .code yX0_moveUp cX0_moveUp 10 none :: ([.constantLong RX0 28 (4294967295), .methodLink RX0 24 yX0_limbAt, .static yX0_limbAt, .initialized RX0, .code yX0_limbAt cX0_limbAt 2 (some .long)])
def wsX0_moveDown : List Cond := .code yX0_moveDown cX0_moveDown 10 none :: ([.constantLong RX0 28 (4294967295), .methodLink RX0 24 yX0_limbAt, .static yX0_limbAt, .initialized RX0, .code yX0_limbAt cX0_limbAt 2 (some .long)])
def wsX0_guess : List Cond := .code yX0_guess cX0_guess 10 (some .long) :: ([.constantLong RX0 28 (4294967295)])
def wsX0_subtractProduct : List Cond := .code yX0_subtractProduct cX0_subtractProduct 13 (some .boolean) :: ([.constantLong RX0 28 (4294967295)])
def wsX0_addBack : List Cond := .code yX0_addBack cX0_addBack 9 (some .boolean) :: ([.constantLong RX0 28 (4294967295)])
def wsX0_takeOut : List Cond := .code yX0_takeOut cX0_takeOut 9 (some .long) :: ([.methodLink RX0 44 yX0_guess, .static yX0_guess, .initialized RX0, .code yX0_guess cX0_guess 10 (some .long), .constantLong RX0 28 (4294967295), .methodLink RX0 48 yX0_subtractProduct, .static yX0_subtractProduct, .code yX0_subtractProduct cX0_subtractProduct 13 (some .boolean), .methodLink RX0 52 yX0_addBack, .static yX0_addBack, .code yX0_addBack cX0_addBack 9 (some .boolean)])
def wsX1_init : List Cond := .code yX1_init cX1_init 1 none :: ([.methodLink RX1 3 objectInit, .instanceMethod objectInit, .code objectInit ⟨#[0xb1]⟩ 1 none, .classLink RX1 9 "[[J", .arrayClass .long, .fieldLink RX1 11 "ExactNumbers" "sizes" "[[J", .arrayClass .boolean, .fieldLink RX1 14 "ExactNumbers" "below" "[Z", .arrayClass .byte, .fieldLink RX1 18 "ExactNumbers" "digitValues" "[B", .fieldLink RX1 22 "ExactNumbers" "digitCount" "I", .fieldLink RX1 26 "ExactNumbers" "written" "[B", .fieldLink RX1 29 "ExactNumbers" "writtenFrom" "I", .fieldLink RX1 32 "ExactNumbers" "first" "[J", .fieldLink RX1 36 "ExactNumbers" "second" "[J", .fieldLink RX1 39 "ExactNumbers" "wide" "[J"] ++ wsX10)
def wsX1_isSlot : List Cond := .code yX1_isSlot cX1_isSlot 1 (some .boolean) :: ([])
def wsX1_store : List Cond := .code yX1_store cX1_store 5 (some .int) :: ([.fieldLink RX1 11 "ExactNumbers" "sizes" "[[J", .methodLink RX1 146 arraycopyName, .native arraycopyName, .static arraycopyName, .initialized "java/lang/System", .fieldLink RX1 14 "ExactNumbers" "below" "[Z", .methodLink RX1 131 yX0_used, .static yX0_used, .initialized RX0, .code yX0_used cX0_used 2 (some .int)] ++ wsX10)
def wsX1_set : List Cond := .code yX1_set cX1_set 8 (some .int) :: ([.fieldLink RX1 32 "ExactNumbers" "first" "[J", .constantLong RX1 52 (4294967295), .methodLink RX1 42 yX1_isSlot, .static yX1_isSlot, .initialized RX1, .code yX1_isSlot cX1_isSlot 1 (some .boolean), .methodLink RX1 46 yJ7_fill_d0a16, .static yJ7_fill_d0a16, .initialized RJ7, .code yJ7_fill_d0a16 cJ7_fill_d0a16 5 none, .methodLink RX1 54 yX1_store, .instanceMethod yX1_store, .selects RX1 yX1_store yX1_store, .code yX1_store cX1_store 5 (some .int), .fieldLink RX1 11 "ExactNumbers" "sizes" "[[J", .methodLink RX1 146 arraycopyName, .native arraycopyName, .static arraycopyName, .initialized "java/lang/System", .fieldLink RX1 14 "ExactNumbers" "below" "[Z", .methodLink RX1 131 yX0_used, .static yX0_used, .initialized RX0, .code yX0_used cX0_used 2 (some .int)] ++ wsX10)
def wsX1_digitValue : List Cond := .code yX1_digitValue cX1_digitValue 1 (some .int) :: ([])
def wsX1_digits : List Cond := .code yX1_digits cX1_digits 7 (some .boolean) :: ([.fieldLink RX1 22 "ExactNumbers" "digitCount" "I", .fieldLink RX1 18 "ExactNumbers" "digitValues" "[B", .methodLink RX1 58 yX1_digitValue, .static yX1_digitValue, .initialized RX1, .code yX1_digitValue cX1_digitValue 1 (some .int)] ++ wsX10)
def wsX1_isBase : List Cond := .code yX1_isBase cX1_isBase 1 (some .boolean) :: ([])
def wsX1_areDigitsOf : List Cond := .code yX1_areDigitsOf cX1_areDigitsOf 4 (some .boolean) :: ([.fieldLink RX1 18 "ExactNumbers" "digitValues" "[B"] ++ wsX10)
def wsX1_read_r1 : List Cond := [Cond.fieldLink RX1 22 "ExactNumbers" "digitCount" "I", Cond.fieldLink RX1 32 "ExactNumbers" "first" "[J", Cond.fieldLink RX1 18 "ExactNumbers" "digitValues" "[B", Cond.constantLong RX1 69 (2147483648), Cond.methodLink RX1 42 yX1_isSlot, Cond.static yX1_isSlot, Cond.initialized RX1, Cond.code yX1_isSlot cX1_isSlot 1 (some .boolean), Cond.methodLink RX1 62 yX1_isBase, Cond.static yX1_isBase, Cond.code yX1_isBase cX1_isBase 1 (some .boolean), Cond.methodLink RX1 65 yX1_areDigitsOf, Cond.instanceMethod yX1_areDigitsOf, Cond.selects RX1 yX1_areDigitsOf yX1_areDigitsOf, Cond.code yX1_areDigitsOf cX1_areDigitsOf 4 (some .boolean), Cond.methodLink RX1 46 yJ7_fill_d0a16, Cond.static yJ7_fill_d0a16, Cond.initialized RJ7, Cond.code yJ7_fill_d0a16 cJ7_fill_d0a16 5 none, Cond.methodLink RX1 71 yX0_multiplyAndAdd, Cond.static yX0_multiplyAndAdd, Cond.initialized RX0, Cond.code yX0_multiplyAndAdd cX0_multiplyAndAdd 10 none, Cond.constantLong RX0 28 (4294967295)]
def wsX1_read_r2 : List Cond := [Cond.methodLink RX1 54 yX1_store, Cond.instanceMethod yX1_store, Cond.selects RX1 yX1_store yX1_store, Cond.code yX1_store cX1_store 5 (some .int), Cond.fieldLink RX1 11 "ExactNumbers" "sizes" "[[J", Cond.methodLink RX1 146 arraycopyName, Cond.native arraycopyName, Cond.static arraycopyName, Cond.initialized "java/lang/System", Cond.fieldLink RX1 14 "ExactNumbers" "below" "[Z", Cond.methodLink RX1 131 yX0_used, Cond.static yX0_used, Cond.code yX0_used cX0_used 2 (some .int)]
def wsX1_read : List Cond := .code yX1_read cX1_read 9 (some .int) :: ((wsX1_read_r1 ++ wsX1_read_r2) ++ wsX10)
def wsX1_sum_r1 : List Cond := [Cond.fieldLink RX1 14 "ExactNumbers" "below" "[Z", Cond.fieldLink RX1 11 "ExactNumbers" "sizes" "[[J", Cond.fieldLink RX1 32 "ExactNumbers" "first" "[J", Cond.methodLink RX1 152 yX0_add, Cond.static yX0_add, Cond.initialized RX0, Cond.code yX0_add cX0_add 8 none, Cond.constantLong RX0 28 (4294967295), Cond.methodLink RX0 24 yX0_limbAt, Cond.static yX0_limbAt, Cond.code yX0_limbAt cX0_limbAt 2 (some .long), Cond.methodLink RX1 54 yX1_store, Cond.instanceMethod yX1_store, Cond.selects RX1 yX1_store yX1_store, Cond.initialized RX1, Cond.code yX1_store cX1_store 5 (some .int), Cond.methodLink RX1 146 arraycopyName, Cond.native arraycopyName, Cond.static arraycopyName, Cond.initialized "java/lang/System", Cond.methodLink RX1 131 yX0_used, Cond.static yX0_used, Cond.code yX0_used cX0_used 2 (some .int), Cond.methodLink RX1 117 yX0_order]
def wsX1_sum_r2 : List Cond := [Cond.static yX0_order, Cond.code yX0_order cX0_order 3 (some .int), Cond.methodLink RX1 155 yX0_subtract, Cond.static yX0_subtract, Cond.code yX0_subtract cX0_subtract 8 none]
def wsX1_sum : List Cond := .code yX1_sum cX1_sum 5 (some .int) :: ((wsX1_sum_r1 ++ wsX1_sum_r2) ++ wsX10)
def wsX1_quotientOrRest_r1 : List Cond := [Cond.fieldLink RX1 11 "ExactNumbers" "sizes" "[[J", Cond.fieldLink RX1 32 "ExactNumbers" "first" "[J", Cond.fieldLink RX1 36 "ExactNumbers" "second" "[J", Cond.fieldLink RX1 39 "ExactNumbers" "wide" "[J", Cond.fieldLink RX1 14 "ExactNumbers" "below" "[Z", Cond.methodLink RX1 131 yX0_used, Cond.static yX0_used, Cond.initialized RX0, Cond.code yX0_used cX0_used 2 (some .int), Cond.methodLink RX1 92 yX0_bitLength, Cond.static yX0_bitLength, Cond.code yX0_bitLength cX0_bitLength 2 (some .int), Cond.methodLink RX0 9 yX0_used, Cond.methodLink RX0 15 yJ13_numberOfLeadingZeros_95d88, Cond.static yJ13_numberOfLeadingZeros_95d88, Cond.initialized RJ13, Cond.code yJ13_numberOfLeadingZeros_95d88 cJ13_numberOfLeadingZeros_95d88 3 (some .int), Cond.methodLink RJ13 308 yJ6_numberOfLeadingZeros_0f7a4, Cond.static yJ6_numberOfLeadingZeros_0f7a4, Cond.initialized RJ6, Cond.code yJ6_numberOfLeadingZeros_0f7a4 cJ6_numberOfLeadingZeros_0f7a4 2 (some .int), Cond.constant RJ6 264 (65536), Cond.methodLink RX1 96 yX0_moveUp, Cond.static yX0_moveUp]
def wsX1_quotientOrRest_r2 : List Cond := [Cond.code yX0_moveUp cX0_moveUp 10 none, Cond.constantLong RX0 28 (4294967295), Cond.methodLink RX0 24 yX0_limbAt, Cond.static yX0_limbAt, Cond.code yX0_limbAt cX0_limbAt 2 (some .long), Cond.methodLink RX1 46 yJ7_fill_d0a16, Cond.static yJ7_fill_d0a16, Cond.initialized RJ7, Cond.code yJ7_fill_d0a16 cJ7_fill_d0a16 5 none, Cond.methodLink RX1 158 yX0_takeOut, Cond.static yX0_takeOut, Cond.code yX0_takeOut cX0_takeOut 9 (some .long), Cond.methodLink RX0 44 yX0_guess, Cond.static yX0_guess, Cond.code yX0_guess cX0_guess 10 (some .long), Cond.methodLink RX0 48 yX0_subtractProduct, Cond.static yX0_subtractProduct, Cond.code yX0_subtractProduct cX0_subtractProduct 13 (some .boolean), Cond.methodLink RX0 52 yX0_addBack, Cond.static yX0_addBack, Cond.code yX0_addBack cX0_addBack 9 (some .boolean), Cond.methodLink RX1 100 yX0_moveDown, Cond.static yX0_moveDown, Cond.code yX0_moveDown cX0_moveDown 10 none]
def wsX1_quotientOrRest_r3 : List Cond := [Cond.methodLink RX1 54 yX1_store, Cond.instanceMethod yX1_store, Cond.selects RX1 yX1_store yX1_store, Cond.initialized RX1, Cond.code yX1_store cX1_store 5 (some .int), Cond.methodLink RX1 146 arraycopyName, Cond.native arraycopyName, Cond.static arraycopyName, Cond.initialized "java/lang/System"]
def wsX1_quotientOrRest : List Cond := .code yX1_quotientOrRest cX1_quotientOrRest 8 (some .int) :: ((wsX1_quotientOrRest_r1 ++ (wsX1_quotientOrRest_r2 ++ wsX1_quotientOrRest_r3)) ++ wsX10)
def wsX1_signedCopy : List Cond := .code yX1_signedCopy cX1_signedCopy 3 none :: ([.fieldLink RX1 11 "ExactNumbers" "sizes" "[[J", .fieldLink RX1 14 "ExactNumbers" "below" "[Z", .methodLink RX1 110 yX0_copy, .static yX0_copy, .initialized RX0, .code yX0_copy cX0_copy 3 none, .methodLink RX0 24 yX0_limbAt, .static yX0_limbAt, .code yX0_limbAt cX0_limbAt 2 (some .long), .methodLink RX1 170 yX0_negate, .static yX0_negate, .code yX0_negate cX0_negate 2 none, .constantLong RX0 30 (-1), .constantLong RX0 28 (4294967295), .methodLink RX0 32 yX0_increase, .static yX0_increase, .code yX0_increase cX0_increase 2 none] ++ wsX10)
def wsX1_joined : List Cond := .code yX1_joined cX1_joined 5 (some .long) :: ([.constantLong RX1 173 (-1)])
def wsX1_bitByBit_r1 : List Cond := [Cond.fieldLink RX1 32 "ExactNumbers" "first" "[J", Cond.fieldLink RX1 36 "ExactNumbers" "second" "[J", Cond.methodLink RX1 162 yX1_signedCopy, Cond.instanceMethod yX1_signedCopy, Cond.selects RX1 yX1_signedCopy yX1_signedCopy, Cond.initialized RX1, Cond.code yX1_signedCopy cX1_signedCopy 3 none, Cond.fieldLink RX1 11 "ExactNumbers" "sizes" "[[J", Cond.fieldLink RX1 14 "ExactNumbers" "below" "[Z", Cond.methodLink RX1 110 yX0_copy, Cond.static yX0_copy, Cond.initialized RX0, Cond.code yX0_copy cX0_copy 3 none, Cond.methodLink RX0 24 yX0_limbAt, Cond.static yX0_limbAt, Cond.code yX0_limbAt cX0_limbAt 2 (some .long), Cond.methodLink RX1 170 yX0_negate, Cond.static yX0_negate, Cond.code yX0_negate cX0_negate 2 none, Cond.constantLong RX0 30 (-1), Cond.constantLong RX0 28 (4294967295), Cond.methodLink RX0 32 yX0_increase, Cond.static yX0_increase, Cond.code yX0_increase cX0_increase 2 none]
def wsX1_bitByBit_r2 : List Cond := [Cond.methodLink RX1 166 yX1_joined, Cond.static yX1_joined, Cond.code yX1_joined cX1_joined 5 (some .long), Cond.constantLong RX1 173 (-1), Cond.methodLink RX1 54 yX1_store, Cond.instanceMethod yX1_store, Cond.selects RX1 yX1_store yX1_store, Cond.code yX1_store cX1_store 5 (some .int), Cond.methodLink RX1 146 arraycopyName, Cond.native arraycopyName, Cond.static arraycopyName, Cond.initialized "java/lang/System", Cond.methodLink RX1 131 yX0_used, Cond.static yX0_used, Cond.code yX0_used cX0_used 2 (some .int)]
def wsX1_bitByBit : List Cond := .code yX1_bitByBit cX1_bitByBit 6 (some .int) :: ((wsX1_bitByBit_r1 ++ wsX1_bitByBit_r2) ++ wsX10)
def wsX1_work_r1 : List Cond := [Cond.fieldLink RX1 14 "ExactNumbers" "below" "[Z", Cond.fieldLink RX1 11 "ExactNumbers" "sizes" "[[J", Cond.fieldLink RX1 39 "ExactNumbers" "wide" "[J", Cond.methodLink RX1 42 yX1_isSlot, Cond.static yX1_isSlot, Cond.initialized RX1, Cond.code yX1_isSlot cX1_isSlot 1 (some .boolean), Cond.methodLink RX1 77 yX1_sum, Cond.instanceMethod yX1_sum, Cond.selects RX1 yX1_sum yX1_sum, Cond.code yX1_sum cX1_sum 5 (some .int), Cond.fieldLink RX1 32 "ExactNumbers" "first" "[J", Cond.methodLink RX1 152 yX0_add, Cond.static yX0_add, Cond.initialized RX0, Cond.code yX0_add cX0_add 8 none, Cond.constantLong RX0 28 (4294967295), Cond.methodLink RX0 24 yX0_limbAt, Cond.static yX0_limbAt, Cond.code yX0_limbAt cX0_limbAt 2 (some .long), Cond.methodLink RX1 54 yX1_store, Cond.instanceMethod yX1_store, Cond.selects RX1 yX1_store yX1_store, Cond.code yX1_store cX1_store 5 (some .int)]
def wsX1_work_r2 : List Cond := [Cond.methodLink RX1 146 arraycopyName, Cond.native arraycopyName, Cond.static arraycopyName, Cond.initialized "java/lang/System", Cond.methodLink RX1 131 yX0_used, Cond.static yX0_used, Cond.code yX0_used cX0_used 2 (some .int), Cond.methodLink RX1 117 yX0_order, Cond.static yX0_order, Cond.code yX0_order cX0_order 3 (some .int), Cond.methodLink RX1 155 yX0_subtract, Cond.static yX0_subtract, Cond.code yX0_subtract cX0_subtract 8 none, Cond.methodLink RX1 81 yX0_multiply, Cond.static yX0_multiply, Cond.code yX0_multiply cX0_multiply 11 none, Cond.methodLink RX0 36 yJ7_fill_d0a16, Cond.static yJ7_fill_d0a16, Cond.initialized RJ7, Cond.code yJ7_fill_d0a16 cJ7_fill_d0a16 5 none, Cond.methodLink RX0 9 yX0_used, Cond.methodLink RX1 85 yX1_quotientOrRest, Cond.instanceMethod yX1_quotientOrRest, Cond.selects RX1 yX1_quotientOrRest yX1_quotientOrRest]
def wsX1_work_r3 : List Cond := [Cond.code yX1_quotientOrRest cX1_quotientOrRest 8 (some .int), Cond.fieldLink RX1 36 "ExactNumbers" "second" "[J", Cond.methodLink RX1 92 yX0_bitLength, Cond.static yX0_bitLength, Cond.code yX0_bitLength cX0_bitLength 2 (some .int), Cond.methodLink RX0 15 yJ13_numberOfLeadingZeros_95d88, Cond.static yJ13_numberOfLeadingZeros_95d88, Cond.initialized RJ13, Cond.code yJ13_numberOfLeadingZeros_95d88 cJ13_numberOfLeadingZeros_95d88 3 (some .int), Cond.methodLink RJ13 308 yJ6_numberOfLeadingZeros_0f7a4, Cond.static yJ6_numberOfLeadingZeros_0f7a4, Cond.initialized RJ6, Cond.code yJ6_numberOfLeadingZeros_0f7a4 cJ6_numberOfLeadingZeros_0f7a4 2 (some .int), Cond.constant RJ6 264 (65536), Cond.methodLink RX1 96 yX0_moveUp, Cond.static yX0_moveUp, Cond.code yX0_moveUp cX0_moveUp 10 none, Cond.methodLink RX1 46 yJ7_fill_d0a16, Cond.methodLink RX1 158 yX0_takeOut, Cond.static yX0_takeOut, Cond.code yX0_takeOut cX0_takeOut 9 (some .long), Cond.methodLink RX0 44 yX0_guess, Cond.static yX0_guess, Cond.code yX0_guess cX0_guess 10 (some .long)]
def wsX1_work_r4 : List Cond := [Cond.methodLink RX0 48 yX0_subtractProduct, Cond.static yX0_subtractProduct, Cond.code yX0_subtractProduct cX0_subtractProduct 13 (some .boolean), Cond.methodLink RX0 52 yX0_addBack, Cond.static yX0_addBack, Cond.code yX0_addBack cX0_addBack 9 (some .boolean), Cond.methodLink RX1 100 yX0_moveDown, Cond.static yX0_moveDown, Cond.code yX0_moveDown cX0_moveDown 10 none, Cond.methodLink RX1 88 yX1_bitByBit, Cond.instanceMethod yX1_bitByBit, Cond.selects RX1 yX1_bitByBit yX1_bitByBit, Cond.code yX1_bitByBit cX1_bitByBit 6 (some .int), Cond.methodLink RX1 162 yX1_signedCopy, Cond.instanceMethod yX1_signedCopy, Cond.selects RX1 yX1_signedCopy yX1_signedCopy, Cond.code yX1_signedCopy cX1_signedCopy 3 none, Cond.methodLink RX1 110 yX0_copy, Cond.static yX0_copy, Cond.code yX0_copy cX0_copy 3 none, Cond.methodLink RX1 170 yX0_negate, Cond.static yX0_negate, Cond.code yX0_negate cX0_negate 2 none, Cond.constantLong RX0 30 (-1)]
def wsX1_work_r5 : List Cond := [Cond.methodLink RX0 32 yX0_increase, Cond.static yX0_increase, Cond.code yX0_increase cX0_increase 2 none, Cond.methodLink RX1 166 yX1_joined, Cond.static yX1_joined, Cond.code yX1_joined cX1_joined 5 (some .long), Cond.constantLong RX1 173 (-1)]
def wsX1_work : List Cond := .code yX1_work cX1_work 5 (some .int) :: ((wsX1_work_r1 ++ (wsX1_work_r2 ++ (wsX1_work_r3 ++ (wsX1_work_r4 ++ wsX1_work_r5)))) ++ wsX10)
def wsX1_shift_r1 : List Cond := [Cond.fieldLink RX1 11 "ExactNumbers" "sizes" "[[J", Cond.fieldLink RX1 32 "ExactNumbers" "first" "[J", Cond.fieldLink RX1 14 "ExactNumbers" "below" "[Z", Cond.methodLink RX1 42 yX1_isSlot, Cond.static yX1_isSlot, Cond.initialized RX1, Cond.code yX1_isSlot cX1_isSlot 1 (some .boolean), Cond.methodLink RX1 92 yX0_bitLength, Cond.static yX0_bitLength, Cond.initialized RX0, Cond.code yX0_bitLength cX0_bitLength 2 (some .int), Cond.methodLink RX0 9 yX0_used, Cond.static yX0_used, Cond.code yX0_used cX0_used 2 (some .int), Cond.methodLink RX0 15 yJ13_numberOfLeadingZeros_95d88, Cond.static yJ13_numberOfLeadingZeros_95d88, Cond.initialized RJ13, Cond.code yJ13_numberOfLeadingZeros_95d88 cJ13_numberOfLeadingZeros_95d88 3 (some .int), Cond.methodLink RJ13 308 yJ6_numberOfLeadingZeros_0f7a4, Cond.static yJ6_numberOfLeadingZeros_0f7a4, Cond.initialized RJ6, Cond.code yJ6_numberOfLeadingZeros_0f7a4 cJ6_numberOfLeadingZeros_0f7a4 2 (some .int), Cond.constant RJ6 264 (65536), Cond.methodLink RX1 96 yX0_moveUp]
def wsX1_shift_r2 : List Cond := [Cond.static yX0_moveUp, Cond.code yX0_moveUp cX0_moveUp 10 none, Cond.constantLong RX0 28 (4294967295), Cond.methodLink RX0 24 yX0_limbAt, Cond.static yX0_limbAt, Cond.code yX0_limbAt cX0_limbAt 2 (some .long), Cond.methodLink RX1 100 yX0_moveDown, Cond.static yX0_moveDown, Cond.code yX0_moveDown cX0_moveDown 10 none, Cond.methodLink RX1 103 yX0_lowZeros, Cond.static yX0_lowZeros, Cond.code yX0_lowZeros cX0_lowZeros 2 (some .int), Cond.methodLink RX0 21 yJ13_numberOfTrailingZeros_95d88, Cond.static yJ13_numberOfTrailingZeros_95d88, Cond.code yJ13_numberOfTrailingZeros_95d88 cJ13_numberOfTrailingZeros_95d88 3 (some .int), Cond.methodLink RJ13 311 yJ6_numberOfTrailingZeros_0f7a4, Cond.static yJ6_numberOfTrailingZeros_0f7a4, Cond.code yJ6_numberOfTrailingZeros_0f7a4 cJ6_numberOfTrailingZeros_0f7a4 2 (some .int), Cond.methodLink RX1 106 yX0_increase, Cond.static yX0_increase, Cond.code yX0_increase cX0_increase 2 none, Cond.methodLink RX1 54 yX1_store, Cond.instanceMethod yX1_store, Cond.selects RX1 yX1_store yX1_store]
def wsX1_shift_r3 : List Cond := [Cond.code yX1_store cX1_store 5 (some .int), Cond.methodLink RX1 146 arraycopyName, Cond.native arraycopyName, Cond.static arraycopyName, Cond.initialized "java/lang/System", Cond.methodLink RX1 131 yX0_used]
def wsX1_shift : List Cond := .code yX1_shift cX1_shift 7 (some .int) :: ((wsX1_shift_r1 ++ (wsX1_shift_r2 ++ wsX1_shift_r3)) ++ wsX10)
def wsX1_turn_r1 : List Cond := [Cond.fieldLink RX1 11 "ExactNumbers" "sizes" "[[J", Cond.fieldLink RX1 32 "ExactNumbers" "first" "[J", Cond.fieldLink RX1 14 "ExactNumbers" "below" "[Z", Cond.methodLink RX1 42 yX1_isSlot, Cond.static yX1_isSlot, Cond.initialized RX1, Cond.code yX1_isSlot cX1_isSlot 1 (some .boolean), Cond.methodLink RX1 110 yX0_copy, Cond.static yX0_copy, Cond.initialized RX0, Cond.code yX0_copy cX0_copy 3 none, Cond.methodLink RX0 24 yX0_limbAt, Cond.static yX0_limbAt, Cond.code yX0_limbAt cX0_limbAt 2 (some .long), Cond.methodLink RX1 114 yX0_decrease, Cond.static yX0_decrease, Cond.code yX0_decrease cX0_decrease 2 none, Cond.constantLong RX0 28 (4294967295), Cond.methodLink RX1 106 yX0_increase, Cond.static yX0_increase, Cond.code yX0_increase cX0_increase 2 none, Cond.methodLink RX1 54 yX1_store, Cond.instanceMethod yX1_store, Cond.selects RX1 yX1_store yX1_store]
def wsX1_turn_r2 : List Cond := [Cond.code yX1_store cX1_store 5 (some .int), Cond.methodLink RX1 146 arraycopyName, Cond.native arraycopyName, Cond.static arraycopyName, Cond.initialized "java/lang/System", Cond.methodLink RX1 131 yX0_used, Cond.static yX0_used, Cond.code yX0_used cX0_used 2 (some .int)]
def wsX1_turn : List Cond := .code yX1_turn cX1_turn 4 (some .int) :: ((wsX1_turn_r1 ++ wsX1_turn_r2) ++ wsX10)
def wsX1_compare : List Cond := .code yX1_compare cX1_compare 4 (some .int) :: ([.fieldLink RX1 14 "ExactNumbers" "below" "[Z", .fieldLink RX1 11 "ExactNumbers" "sizes" "[[J", .methodLink RX1 42 yX1_isSlot, .static yX1_isSlot, .initialized RX1, .code yX1_isSlot cX1_isSlot 1 (some .boolean), .methodLink RX1 117 yX0_order, .static yX0_order, .initialized RX0, .code yX0_order cX0_order 3 (some .int), .methodLink RX0 24 yX0_limbAt, .static yX0_limbAt, .code yX0_limbAt cX0_limbAt 2 (some .long)] ++ wsX10)
def wsX1_bits : List Cond := .code yX1_bits cX1_bits 2 (some .int) :: ([.fieldLink RX1 11 "ExactNumbers" "sizes" "[[J", .methodLink RX1 42 yX1_isSlot, .static yX1_isSlot, .initialized RX1, .code yX1_isSlot cX1_isSlot 1 (some .boolean), .methodLink RX1 92 yX0_bitLength, .static yX0_bitLength, .initialized RX0, .code yX0_bitLength cX0_bitLength 2 (some .int), .methodLink RX0 9 yX0_used, .static yX0_used, .code yX0_used cX0_used 2 (some .int), .methodLink RX0 15 yJ13_numberOfLeadingZeros_95d88, .static yJ13_numberOfLeadingZeros_95d88, .initialized RJ13, .code yJ13_numberOfLeadingZeros_95d88 cJ13_numberOfLeadingZeros_95d88 3 (some .int), .methodLink RJ13 308 yJ6_numberOfLeadingZeros_0f7a4, .static yJ6_numberOfLeadingZeros_0f7a4, .initialized RJ6, .code yJ6_numberOfLeadingZeros_0f7a4 cJ6_numberOfLeadingZeros_0f7a4 2 (some .int), .constant RJ6 264 (65536)] ++ wsX10)
def wsX1_isWordLength : List Cond := .code yX1_isWordLength cX1_isWordLength 1 (some .boolean) :: ([])
def wsX1_fits_r1 : List Cond := [Cond.fieldLink RX1 11 "ExactNumbers" "sizes" "[[J", Cond.fieldLink RX1 14 "ExactNumbers" "below" "[Z", Cond.methodLink RX1 42 yX1_isSlot, Cond.static yX1_isSlot, Cond.initialized RX1, Cond.code yX1_isSlot cX1_isSlot 1 (some .boolean), Cond.methodLink RX1 121 yX1_isWordLength, Cond.static yX1_isWordLength, Cond.code yX1_isWordLength cX1_isWordLength 1 (some .boolean), Cond.methodLink RX1 92 yX0_bitLength, Cond.static yX0_bitLength, Cond.initialized RX0, Cond.code yX0_bitLength cX0_bitLength 2 (some .int), Cond.methodLink RX0 9 yX0_used, Cond.static yX0_used, Cond.code yX0_used cX0_used 2 (some .int), Cond.methodLink RX0 15 yJ13_numberOfLeadingZeros_95d88, Cond.static yJ13_numberOfLeadingZeros_95d88, Cond.initialized RJ13, Cond.code yJ13_numberOfLeadingZeros_95d88 cJ13_numberOfLeadingZeros_95d88 3 (some .int), Cond.methodLink RJ13 308 yJ6_numberOfLeadingZeros_0f7a4, Cond.static yJ6_numberOfLeadingZeros_0f7a4, Cond.initialized RJ6, Cond.code yJ6_numberOfLeadingZeros_0f7a4 cJ6_numberOfLeadingZeros_0f7a4 2 (some .int)]
def wsX1_fits_r2 : List Cond := [Cond.constant RJ6 264 (65536), Cond.methodLink RX1 103 yX0_lowZeros, Cond.static yX0_lowZeros, Cond.code yX0_lowZeros cX0_lowZeros 2 (some .int), Cond.methodLink RX0 21 yJ13_numberOfTrailingZeros_95d88, Cond.static yJ13_numberOfTrailingZeros_95d88, Cond.code yJ13_numberOfTrailingZeros_95d88 cJ13_numberOfTrailingZeros_95d88 3 (some .int), Cond.methodLink RJ13 311 yJ6_numberOfTrailingZeros_0f7a4, Cond.static yJ6_numberOfTrailingZeros_0f7a4, Cond.code yJ6_numberOfTrailingZeros_0f7a4 cJ6_numberOfTrailingZeros_0f7a4 2 (some .int)]
def wsX1_fits : List Cond := .code yX1_fits cX1_fits 6 (some .boolean) :: ((wsX1_fits_r1 ++ wsX1_fits_r2) ++ wsX10)
def wsX1_cut : List Cond := .code yX1_cut cX1_cut 7 (some .long) :: ([.fieldLink RX1 11 "ExactNumbers" "sizes" "[[J", .fieldLink RX1 14 "ExactNumbers" "below" "[Z", .methodLink RX1 42 yX1_isSlot, .static yX1_isSlot, .initialized RX1, .code yX1_isSlot cX1_isSlot 1 (some .boolean), .methodLink RX1 121 yX1_isWordLength, .static yX1_isWordLength, .code yX1_isWordLength cX1_isWordLength 1 (some .boolean)] ++ wsX10)
def wsX1_groupLength : List Cond := .code yX1_groupLength cX1_groupLength 4 (some .int) :: ([.constantLong RX1 69 (2147483648)])
def wsX1_powerOf : List Cond := .code yX1_powerOf cX1_powerOf 5 (some .long) :: ([])
def wsX1_put : List Cond := .code yX1_put cX1_put 2 none :: ([.fieldLink RX1 29 "ExactNumbers" "writtenFrom" "I", .fieldLink RX1 26 "ExactNumbers" "written" "[B"] ++ wsX10)
def wsX1_putGroup : List Cond := .code yX1_putGroup cX1_putGroup 9 none :: ([.methodLink RX1 142 yX1_put, .instanceMethod yX1_put, .selects RX1 yX1_put yX1_put, .initialized RX1, .code yX1_put cX1_put 2 none, .fieldLink RX1 29 "ExactNumbers" "writtenFrom" "I", .fieldLink RX1 26 "ExactNumbers" "written" "[B"] ++ wsX10)
def wsX1_write_r1 : List Cond := [Cond.fieldLink RX1 11 "ExactNumbers" "sizes" "[[J", Cond.fieldLink RX1 32 "ExactNumbers" "first" "[J", Cond.fieldLink RX1 26 "ExactNumbers" "written" "[B", Cond.fieldLink RX1 29 "ExactNumbers" "writtenFrom" "I", Cond.fieldLink RX1 14 "ExactNumbers" "below" "[Z", Cond.methodLink RX1 42 yX1_isSlot, Cond.static yX1_isSlot, Cond.initialized RX1, Cond.code yX1_isSlot cX1_isSlot 1 (some .boolean), Cond.methodLink RX1 62 yX1_isBase, Cond.static yX1_isBase, Cond.code yX1_isBase cX1_isBase 1 (some .boolean), Cond.methodLink RX1 124 yX1_groupLength, Cond.static yX1_groupLength, Cond.code yX1_groupLength cX1_groupLength 4 (some .int), Cond.constantLong RX1 69 (2147483648), Cond.methodLink RX1 127 yX1_powerOf, Cond.static yX1_powerOf, Cond.code yX1_powerOf cX1_powerOf 5 (some .long), Cond.methodLink RX1 110 yX0_copy, Cond.static yX0_copy, Cond.initialized RX0, Cond.code yX0_copy cX0_copy 3 none, Cond.methodLink RX0 24 yX0_limbAt]
def wsX1_write_r2 : List Cond := [Cond.static yX0_limbAt, Cond.code yX0_limbAt cX0_limbAt 2 (some .long), Cond.methodLink RX1 131 yX0_used, Cond.static yX0_used, Cond.code yX0_used cX0_used 2 (some .int), Cond.methodLink RX1 134 yX0_divideBySmall, Cond.static yX0_divideBySmall, Cond.code yX0_divideBySmall cX0_divideBySmall 9 (some .long), Cond.constantLong RX0 42 (2147483648), Cond.methodLink RX1 138 yX1_putGroup, Cond.instanceMethod yX1_putGroup, Cond.selects RX1 yX1_putGroup yX1_putGroup, Cond.code yX1_putGroup cX1_putGroup 9 none, Cond.methodLink RX1 142 yX1_put, Cond.instanceMethod yX1_put, Cond.selects RX1 yX1_put yX1_put, Cond.code yX1_put cX1_put 2 none]
def wsX1_write : List Cond := .code yX1_write cX1_write 10 (some .int) :: ((wsX1_write_r1 ++ wsX1_write_r2) ++ wsX10)
def wsX1_byteOf : List Cond := .code yX1_byteOf cX1_byteOf 2 (some .int) :: ([.fieldLink RX1 26 "ExactNumbers" "written" "[B", .fieldLink RX1 29 "ExactNumbers" "writtenFrom" "I"] ++ wsX10)
set_option maxRecDepth 20000 in
theorem ggX0_bitLength_X0_used : GoodIn wsX0_bitLength wsX0_used := goodIn_r _ [4] (by decide +kernel) (by decide +kernel)
set_option maxRecDepth 20000 in
theorem gX0_bitLength_X0_used : GoodIn wsX0_bitLength (va_wsS RX0 9 yX0_used wsX0_used) := goodIn_app (goodIn_of _ (by decide +kernel)) ggX0_bitLength_X0_used
set_option maxRecDepth 20000 in
theorem ggX0_bitLength_J13_numberOfLeadingZeros_95d88 : GoodIn wsX0_bitLength wsJ13_numberOfLeadingZeros_95d88 := goodIn_r _ [8, 9, 10, 11, 12, 13] (by decide +kernel) (by decide +kernel)
set_option maxRecDepth 20000 in
theorem gX0_bitLength_J13_numberOfLeadingZeros_95d88 : GoodIn wsX0_bitLength (va_wsS RX0 15 yJ13_numberOfLeadingZeros_95d88 wsJ13_numberOfLeadingZeros_95d88) := goodIn_app (goodIn_of _ (by decide +kernel)) ggX0_bitLength_J13_numberOfLeadingZeros_95d88
set_option maxRecDepth 20000 in
theorem ggX0_lowZeros_J13_numberOfTrailingZeros_95d88 : GoodIn wsX0_lowZeros wsJ13_numberOfTrailingZeros_95d88 := goodIn_r _ [4, 5, 6, 7, 8, 9] (by decide +kernel) (by decide +kernel)
set_option maxRecDepth 20000 in
theorem gX0_lowZeros_J13_numberOfTrailingZeros_95d88 : GoodIn wsX0_lowZeros (va_wsS RX0 21 yJ13_numberOfTrailingZeros_95d88 wsJ13_numberOfTrailingZeros_95d88) := goodIn_app (goodIn_of _ (by decide +kernel)) ggX0_lowZeros_J13_numberOfTrailingZeros_95d88
set_option maxRecDepth 20000 in
theorem ggX0_order_X0_limbAt : GoodIn wsX0_order wsX0_limbAt := goodIn_r _ [4] (by decide +kernel) (by decide +kernel)
set_option maxRecDepth 20000 in
theorem gX0_order_X0_limbAt : GoodIn wsX0_order (va_wsS RX0 24 yX0_limbAt wsX0_limbAt) := goodIn_app (goodIn_of _ (by decide +kernel)) ggX0_order_X0_limbAt
set_option maxRecDepth 20000 in
theorem ggX0_copy_X0_limbAt : GoodIn wsX0_copy wsX0_limbAt := goodIn_r _ [4] (by decide +kernel) (by decide +kernel)
set_option maxRecDepth 20000 in
theorem gX0_copy_X0_limbAt : GoodIn wsX0_copy (va_wsS RX0 24 yX0_limbAt wsX0_limbAt) := goodIn_app (goodIn_of _ (by decide +kernel)) ggX0_copy_X0_limbAt
set_option maxRecDepth 20000 in
theorem ggX0_negate_X0_increase : GoodIn wsX0_negate wsX0_increase := goodIn_r _ [6, 2] (by decide +kernel) (by decide +kernel)
set_option maxRecDepth 20000 in
theorem gX0_negate_X0_increase : GoodIn wsX0_negate (va_wsS RX0 32 yX0_increase wsX0_increase) := goodIn_app (goodIn_of _ (by decide +kernel)) ggX0_negate_X0_increase
set_option maxRecDepth 20000 in
theorem ggX0_add_X0_limbAt : GoodIn wsX0_add wsX0_limbAt := goodIn_r _ [5] (by decide +kernel) (by decide +kernel)
set_option maxRecDepth 20000 in
theorem gX0_add_X0_limbAt : GoodIn wsX0_add (va_wsS RX0 24 yX0_limbAt wsX0_limbAt) := goodIn_app (goodIn_of _ (by decide +kernel)) ggX0_add_X0_limbAt
set_option maxRecDepth 20000 in
theorem ggX0_subtract_X0_limbAt : GoodIn wsX0_subtract wsX0_limbAt := goodIn_r _ [5] (by decide +kernel) (by decide +kernel)
set_option maxRecDepth 20000 in
theorem gX0_subtract_X0_limbAt : GoodIn wsX0_subtract (va_wsS RX0 24 yX0_limbAt wsX0_limbAt) := goodIn_app (goodIn_of _ (by decide +kernel)) ggX0_subtract_X0_limbAt
set_option maxRecDepth 20000 in
theorem ggX0_multiply_J7_fill_d0a16 : GoodIn wsX0_multiply wsJ7_fill_d0a16 := goodIn_r _ [5] (by decide +kernel) (by decide +kernel)
set_option maxRecDepth 20000 in
theorem gX0_multiply_J7_fill_d0a16 : GoodIn wsX0_multiply (va_wsS RX0 36 yJ7_fill_d0a16 wsJ7_fill_d0a16) := goodIn_app (goodIn_of _ (by decide +kernel)) ggX0_multiply_J7_fill_d0a16
set_option maxRecDepth 20000 in
theorem ggX0_multiply_X0_used : GoodIn wsX0_multiply wsX0_used := goodIn_r _ [9] (by decide +kernel) (by decide +kernel)
set_option maxRecDepth 20000 in
theorem gX0_multiply_X0_used : GoodIn wsX0_multiply (va_wsS RX0 9 yX0_used wsX0_used) := goodIn_app (goodIn_of _ (by decide +kernel)) ggX0_multiply_X0_used
set_option maxRecDepth 20000 in
theorem ggX0_moveUp_X0_limbAt : GoodIn wsX0_moveUp wsX0_limbAt := goodIn_r _ [5] (by decide +kernel) (by decide +kernel)
set_option maxRecDepth 20000 in
theorem gX0_moveUp_X0_limbAt : GoodIn wsX0_moveUp (va_wsS RX0 24 yX0_limbAt wsX0_limbAt) := goodIn_app (goodIn_of _ (by decide +kernel)) ggX0_moveUp_X0_limbAt
set_option maxRecDepth 20000 in
theorem ggX0_moveDown_X0_limbAt : GoodIn wsX0_moveDown wsX0_limbAt := goodIn_r _ [5] (by decide +kernel) (by decide +kernel)
set_option maxRecDepth 20000 in
theorem gX0_moveDown_X0_limbAt : GoodIn wsX0_moveDown (va_wsS RX0 24 yX0_limbAt wsX0_limbAt) := goodIn_app (goodIn_of _ (by decide +kernel)) ggX0_moveDown_X0_limbAt
set_option maxRecDepth 20000 in
theorem ggX0_takeOut_X0_guess : GoodIn wsX0_takeOut wsX0_guess := goodIn_r _ [4, 5] (by decide +kernel) (by decide +kernel)
set_option maxRecDepth 20000 in
theorem gX0_takeOut_X0_guess : GoodIn wsX0_takeOut (va_wsS RX0 44 yX0_guess wsX0_guess) := goodIn_app (goodIn_of _ (by decide +kernel)) ggX0_takeOut_X0_guess
set_option maxRecDepth 20000 in
theorem ggX0_takeOut_X0_subtractProduct : GoodIn wsX0_takeOut wsX0_subtractProduct := goodIn_r _ [8, 5] (by decide +kernel) (by decide +kernel)
set_option maxRecDepth 20000 in
theorem gX0_takeOut_X0_subtractProduct : GoodIn wsX0_takeOut (va_wsS RX0 48 yX0_subtractProduct wsX0_subtractProduct) := goodIn_app (goodIn_of _ (by decide +kernel)) ggX0_takeOut_X0_subtractProduct
set_option maxRecDepth 20000 in
theorem ggX0_takeOut_X0_addBack : GoodIn wsX0_takeOut wsX0_addBack := goodIn_r _ [11, 5] (by decide +kernel) (by decide +kernel)
set_option maxRecDepth 20000 in
theorem gX0_takeOut_X0_addBack : GoodIn wsX0_takeOut (va_wsS RX0 52 yX0_addBack wsX0_addBack) := goodIn_app (goodIn_of _ (by decide +kernel)) ggX0_takeOut_X0_addBack
set_option maxRecDepth 20000 in
theorem ggX1_set_X1_isSlot : GoodIn wsX1_set wsX1_isSlot := goodIn_r _ [6] (by decide +kernel) (by decide +kernel)
set_option maxRecDepth 20000 in
theorem gX1_set_X1_isSlot : GoodIn wsX1_set (va_wsS RX1 42 yX1_isSlot wsX1_isSlot) := goodIn_app (goodIn_of _ (by decide +kernel)) ggX1_set_X1_isSlot
set_option maxRecDepth 20000 in
theorem ggX1_set_J7_fill_d0a16 : GoodIn wsX1_set wsJ7_fill_d0a16 := goodIn_r _ [10] (by decide +kernel) (by decide +kernel)
set_option maxRecDepth 20000 in
theorem gX1_set_J7_fill_d0a16 : GoodIn wsX1_set (va_wsS RX1 46 yJ7_fill_d0a16 wsJ7_fill_d0a16) := goodIn_app (goodIn_of _ (by decide +kernel)) ggX1_set_J7_fill_d0a16
set_option maxRecDepth 20000 in
theorem ggX1_set_X1_store : GoodIn wsX1_set wsX1_store := goodIn_r _ [14, 15, 16, 17, 18, 19, 20, 21, 22, 23, 24, 25, 26, 27, 28, 29, 30, 31, 32, 33] (by decide +kernel) (by decide +kernel)
set_option maxRecDepth 20000 in
theorem gX1_set_X1_store : GoodIn wsX1_set (wsV RX1 54 RX1 yX1_store wsX1_store) := goodIn_app (goodIn_of _ (by decide +kernel)) ggX1_set_X1_store
set_option maxRecDepth 20000 in
theorem ggX1_digits_X1_digitValue : GoodIn wsX1_digits wsX1_digitValue := goodIn_r _ [6] (by decide +kernel) (by decide +kernel)
set_option maxRecDepth 20000 in
theorem gX1_digits_X1_digitValue : GoodIn wsX1_digits (va_wsS RX1 58 yX1_digitValue wsX1_digitValue) := goodIn_app (goodIn_of _ (by decide +kernel)) ggX1_digits_X1_digitValue
set_option maxRecDepth 20000 in
theorem ggX1_read_X1_isSlot : GoodIn wsX1_read wsX1_isSlot := goodIn_r _ [8] (by decide +kernel) (by decide +kernel)
set_option maxRecDepth 20000 in
theorem gX1_read_X1_isSlot : GoodIn wsX1_read (va_wsS RX1 42 yX1_isSlot wsX1_isSlot) := goodIn_app (goodIn_of _ (by decide +kernel)) ggX1_read_X1_isSlot
set_option maxRecDepth 20000 in
theorem ggX1_read_X1_isBase : GoodIn wsX1_read wsX1_isBase := goodIn_r _ [11] (by decide +kernel) (by decide +kernel)
set_option maxRecDepth 20000 in
theorem gX1_read_X1_isBase : GoodIn wsX1_read (va_wsS RX1 62 yX1_isBase wsX1_isBase) := goodIn_app (goodIn_of _ (by decide +kernel)) ggX1_read_X1_isBase
set_option maxRecDepth 20000 in
theorem ggX1_read_X1_areDigitsOf : GoodIn wsX1_read wsX1_areDigitsOf := goodIn_r _ [15, 3, 38, 39, 40, 41, 42, 43, 44, 45, 46] (by decide +kernel) (by decide +kernel)
set_option maxRecDepth 20000 in
theorem gX1_read_X1_areDigitsOf : GoodIn wsX1_read (wsV RX1 65 RX1 yX1_areDigitsOf wsX1_areDigitsOf) := goodIn_app (goodIn_of _ (by decide +kernel)) ggX1_read_X1_areDigitsOf
set_option maxRecDepth 20000 in
theorem ggX1_read_J7_fill_d0a16 : GoodIn wsX1_read wsJ7_fill_d0a16 := goodIn_r _ [19] (by decide +kernel) (by decide +kernel)
set_option maxRecDepth 20000 in
theorem gX1_read_J7_fill_d0a16 : GoodIn wsX1_read (va_wsS RX1 46 yJ7_fill_d0a16 wsJ7_fill_d0a16) := goodIn_app (goodIn_of _ (by decide +kernel)) ggX1_read_J7_fill_d0a16
set_option maxRecDepth 20000 in
theorem ggX1_read_X0_multiplyAndAdd : GoodIn wsX1_read wsX0_multiplyAndAdd := goodIn_r _ [23, 24] (by decide +kernel) (by decide +kernel)
set_option maxRecDepth 20000 in
theorem gX1_read_X0_multiplyAndAdd : GoodIn wsX1_read (va_wsS RX1 71 yX0_multiplyAndAdd wsX0_multiplyAndAdd) := goodIn_app (goodIn_of _ (by decide +kernel)) ggX1_read_X0_multiplyAndAdd
set_option maxRecDepth 20000 in
theorem ggX1_read_X1_store : GoodIn wsX1_read wsX1_store := goodIn_r _ [28, 29, 30, 31, 32, 33, 34, 35, 36, 22, 37, 38, 39, 40, 41, 42, 43, 44, 45, 46] (by decide +kernel) (by decide +kernel)
set_option maxRecDepth 20000 in
theorem gX1_read_X1_store : GoodIn wsX1_read (wsV RX1 54 RX1 yX1_store wsX1_store) := goodIn_app (goodIn_of _ (by decide +kernel)) ggX1_read_X1_store
set_option maxRecDepth 20000 in
theorem ggX1_work_X1_isSlot : GoodIn wsX1_work wsX1_isSlot := goodIn_r _ [7] (by decide +kernel) (by decide +kernel)
set_option maxRecDepth 20000 in
theorem gX1_work_X1_isSlot : GoodIn wsX1_work (va_wsS RX1 42 yX1_isSlot wsX1_isSlot) := goodIn_app (goodIn_of _ (by decide +kernel)) ggX1_work_X1_isSlot
set_option maxRecDepth 20000 in
theorem ggX1_work_X1_sum : GoodIn wsX1_work wsX1_sum := goodIn_r _ [11, 1, 2, 12, 13, 14, 15, 16, 17, 18, 19, 20, 21, 22, 23, 6, 24, 25, 26, 27, 28, 29, 30, 31, 32, 33, 34, 35, 36, 37, 104, 105, 106, 107, 108, 109, 110, 111, 112] (by decide +kernel) (by decide +kernel)
set_option maxRecDepth 20000 in
theorem gX1_work_X1_sum : GoodIn wsX1_work (wsV RX1 77 RX1 yX1_sum wsX1_sum) := goodIn_app (goodIn_of _ (by decide +kernel)) ggX1_work_X1_sum
set_option maxRecDepth 20000 in
theorem ggX1_work_X0_multiply : GoodIn wsX1_work wsX0_multiply := goodIn_r _ [40, 17, 41, 42, 43, 44, 45, 30, 15, 31] (by decide +kernel) (by decide +kernel)
set_option maxRecDepth 20000 in
theorem gX1_work_X0_multiply : GoodIn wsX1_work (va_wsS RX1 81 yX0_multiply wsX0_multiply) := goodIn_app (goodIn_of _ (by decide +kernel)) ggX1_work_X0_multiply
set_option maxRecDepth 20000 in
theorem ggX1_work_X1_store : GoodIn wsX1_work wsX1_store := goodIn_r _ [24, 2, 25, 26, 27, 28, 1, 29, 30, 15, 31, 104, 105, 106, 107, 108, 109, 110, 111, 112] (by decide +kernel) (by decide +kernel)
set_option maxRecDepth 20000 in
theorem gX1_work_X1_store : GoodIn wsX1_work (wsV RX1 54 RX1 yX1_store wsX1_store) := goodIn_app (goodIn_of _ (by decide +kernel)) ggX1_work_X1_store
set_option maxRecDepth 20000 in
theorem ggX1_work_X1_quotientOrRest : GoodIn wsX1_work wsX1_quotientOrRest := goodIn_r _ [49, 2, 12, 50, 3, 1, 29, 30, 15, 31, 51, 52, 53, 45, 54, 55, 56, 57, 58, 59, 60, 61, 62, 63, 64, 65, 17, 18, 19, 20, 66, 42, 43, 44, 67, 68, 69, 70, 71, 72, 73, 74, 75, 76, 77, 78, 79, 80, 81, 21, 22, 23, 6, 24, 25, 26, 27, 28, 104, 105, 106, 107, 108, 109, 110, 111, 112] (by decide +kernel) (by decide +kernel)
set_option maxRecDepth 20000 in
theorem gX1_work_X1_quotientOrRest : GoodIn wsX1_work (wsV RX1 85 RX1 yX1_quotientOrRest wsX1_quotientOrRest) := goodIn_app (goodIn_of _ (by decide +kernel)) ggX1_work_X1_quotientOrRest
set_option maxRecDepth 20000 in
theorem ggX1_work_X1_bitByBit : GoodIn wsX1_work wsX1_bitByBit := goodIn_r _ [85, 12, 50, 86, 87, 88, 6, 89, 2, 1, 90, 91, 15, 92, 18, 19, 20, 93, 94, 95, 96, 17, 97, 98, 99, 100, 101, 102, 103, 21, 22, 23, 24, 25, 26, 27, 28, 29, 30, 31, 104, 105, 106, 107, 108, 109, 110, 111, 112] (by decide +kernel) (by decide +kernel)
set_option maxRecDepth 20000 in
theorem gX1_work_X1_bitByBit : GoodIn wsX1_work (wsV RX1 88 RX1 yX1_bitByBit wsX1_bitByBit) := goodIn_app (goodIn_of _ (by decide +kernel)) ggX1_work_X1_bitByBit
set_option maxRecDepth 20000 in
theorem ggX1_shift_X1_isSlot : GoodIn wsX1_shift wsX1_isSlot := goodIn_r _ [7] (by decide +kernel) (by decide +kernel)
set_option maxRecDepth 20000 in
theorem gX1_shift_X1_isSlot : GoodIn wsX1_shift (va_wsS RX1 42 yX1_isSlot wsX1_isSlot) := goodIn_app (goodIn_of _ (by decide +kernel)) ggX1_shift_X1_isSlot
set_option maxRecDepth 20000 in
theorem ggX1_shift_X0_bitLength : GoodIn wsX1_shift wsX0_bitLength := goodIn_r _ [11, 12, 13, 10, 14, 15, 16, 17, 18, 19, 20, 21, 22, 23] (by decide +kernel) (by decide +kernel)
set_option maxRecDepth 20000 in
theorem gX1_shift_X0_bitLength : GoodIn wsX1_shift (va_wsS RX1 92 yX0_bitLength wsX0_bitLength) := goodIn_app (goodIn_of _ (by decide +kernel)) ggX1_shift_X0_bitLength
set_option maxRecDepth 20000 in
theorem ggX1_shift_X0_moveUp : GoodIn wsX1_shift wsX0_moveUp := goodIn_r _ [26, 27, 28, 29, 10, 30] (by decide +kernel) (by decide +kernel)
set_option maxRecDepth 20000 in
theorem gX1_shift_X0_moveUp : GoodIn wsX1_shift (va_wsS RX1 96 yX0_moveUp wsX0_moveUp) := goodIn_app (goodIn_of _ (by decide +kernel)) ggX1_shift_X0_moveUp
set_option maxRecDepth 20000 in
theorem ggX1_shift_X0_moveDown : GoodIn wsX1_shift wsX0_moveDown := goodIn_r _ [33, 27, 28, 29, 10, 30] (by decide +kernel) (by decide +kernel)
set_option maxRecDepth 20000 in
theorem gX1_shift_X0_moveDown : GoodIn wsX1_shift (va_wsS RX1 100 yX0_moveDown wsX0_moveDown) := goodIn_app (goodIn_of _ (by decide +kernel)) ggX1_shift_X0_moveDown
set_option maxRecDepth 20000 in
theorem ggX1_shift_X0_lowZeros : GoodIn wsX1_shift wsX0_lowZeros := goodIn_r _ [36, 37, 38, 17, 39, 40, 41, 21, 42, 23] (by decide +kernel) (by decide +kernel)
set_option maxRecDepth 20000 in
theorem gX1_shift_X0_lowZeros : GoodIn wsX1_shift (va_wsS RX1 103 yX0_lowZeros wsX0_lowZeros) := goodIn_app (goodIn_of _ (by decide +kernel)) ggX1_shift_X0_lowZeros
set_option maxRecDepth 20000 in
theorem ggX1_shift_X0_increase : GoodIn wsX1_shift wsX0_increase := goodIn_r _ [45, 27] (by decide +kernel) (by decide +kernel)
set_option maxRecDepth 20000 in
theorem gX1_shift_X0_increase : GoodIn wsX1_shift (va_wsS RX1 106 yX0_increase wsX0_increase) := goodIn_app (goodIn_of _ (by decide +kernel)) ggX1_shift_X0_increase
set_option maxRecDepth 20000 in
theorem ggX1_shift_X1_store : GoodIn wsX1_shift wsX1_store := goodIn_r _ [49, 1, 50, 51, 52, 53, 3, 54, 13, 10, 14, 55, 56, 57, 58, 59, 60, 61, 62, 63] (by decide +kernel) (by decide +kernel)
set_option maxRecDepth 20000 in
theorem gX1_shift_X1_store : GoodIn wsX1_shift (wsV RX1 54 RX1 yX1_store wsX1_store) := goodIn_app (goodIn_of _ (by decide +kernel)) ggX1_shift_X1_store
set_option maxRecDepth 20000 in
theorem ggX1_turn_X1_isSlot : GoodIn wsX1_turn wsX1_isSlot := goodIn_r _ [7] (by decide +kernel) (by decide +kernel)
set_option maxRecDepth 20000 in
theorem gX1_turn_X1_isSlot : GoodIn wsX1_turn (va_wsS RX1 42 yX1_isSlot wsX1_isSlot) := goodIn_app (goodIn_of _ (by decide +kernel)) ggX1_turn_X1_isSlot
set_option maxRecDepth 20000 in
theorem ggX1_turn_X0_copy : GoodIn wsX1_turn wsX0_copy := goodIn_r _ [11, 12, 13, 10, 14] (by decide +kernel) (by decide +kernel)
set_option maxRecDepth 20000 in
theorem gX1_turn_X0_copy : GoodIn wsX1_turn (va_wsS RX1 110 yX0_copy wsX0_copy) := goodIn_app (goodIn_of _ (by decide +kernel)) ggX1_turn_X0_copy
set_option maxRecDepth 20000 in
theorem ggX1_turn_X0_decrease : GoodIn wsX1_turn wsX0_decrease := goodIn_r _ [17, 18] (by decide +kernel) (by decide +kernel)
set_option maxRecDepth 20000 in
theorem gX1_turn_X0_decrease : GoodIn wsX1_turn (va_wsS RX1 114 yX0_decrease wsX0_decrease) := goodIn_app (goodIn_of _ (by decide +kernel)) ggX1_turn_X0_decrease
set_option maxRecDepth 20000 in
theorem ggX1_turn_X0_increase : GoodIn wsX1_turn wsX0_increase := goodIn_r _ [21, 18] (by decide +kernel) (by decide +kernel)
set_option maxRecDepth 20000 in
theorem gX1_turn_X0_increase : GoodIn wsX1_turn (va_wsS RX1 106 yX0_increase wsX0_increase) := goodIn_app (goodIn_of _ (by decide +kernel)) ggX1_turn_X0_increase
set_option maxRecDepth 20000 in
theorem ggX1_turn_X1_store : GoodIn wsX1_turn wsX1_store := goodIn_r _ [25, 1, 26, 27, 28, 29, 3, 30, 31, 10, 32, 33, 34, 35, 36, 37, 38, 39, 40, 41] (by decide +kernel) (by decide +kernel)
set_option maxRecDepth 20000 in
theorem gX1_turn_X1_store : GoodIn wsX1_turn (wsV RX1 54 RX1 yX1_store wsX1_store) := goodIn_app (goodIn_of _ (by decide +kernel)) ggX1_turn_X1_store
set_option maxRecDepth 20000 in
theorem ggX1_compare_X1_isSlot : GoodIn wsX1_compare wsX1_isSlot := goodIn_r _ [6] (by decide +kernel) (by decide +kernel)
set_option maxRecDepth 20000 in
theorem gX1_compare_X1_isSlot : GoodIn wsX1_compare (va_wsS RX1 42 yX1_isSlot wsX1_isSlot) := goodIn_app (goodIn_of _ (by decide +kernel)) ggX1_compare_X1_isSlot
set_option maxRecDepth 20000 in
theorem ggX1_compare_X0_order : GoodIn wsX1_compare wsX0_order := goodIn_r _ [10, 11, 12, 9, 13] (by decide +kernel) (by decide +kernel)
set_option maxRecDepth 20000 in
theorem gX1_compare_X0_order : GoodIn wsX1_compare (va_wsS RX1 117 yX0_order wsX0_order) := goodIn_app (goodIn_of _ (by decide +kernel)) ggX1_compare_X0_order
set_option maxRecDepth 20000 in
theorem ggX1_bits_X1_isSlot : GoodIn wsX1_bits wsX1_isSlot := goodIn_r _ [5] (by decide +kernel) (by decide +kernel)
set_option maxRecDepth 20000 in
theorem gX1_bits_X1_isSlot : GoodIn wsX1_bits (va_wsS RX1 42 yX1_isSlot wsX1_isSlot) := goodIn_app (goodIn_of _ (by decide +kernel)) ggX1_bits_X1_isSlot
set_option maxRecDepth 20000 in
theorem ggX1_bits_X0_bitLength : GoodIn wsX1_bits wsX0_bitLength := goodIn_r _ [9, 10, 11, 8, 12, 13, 14, 15, 16, 17, 18, 19, 20, 21] (by decide +kernel) (by decide +kernel)
set_option maxRecDepth 20000 in
theorem gX1_bits_X0_bitLength : GoodIn wsX1_bits (va_wsS RX1 92 yX0_bitLength wsX0_bitLength) := goodIn_app (goodIn_of _ (by decide +kernel)) ggX1_bits_X0_bitLength
set_option maxRecDepth 20000 in
theorem ggX1_fits_X1_isSlot : GoodIn wsX1_fits wsX1_isSlot := goodIn_r _ [6] (by decide +kernel) (by decide +kernel)
set_option maxRecDepth 20000 in
theorem gX1_fits_X1_isSlot : GoodIn wsX1_fits (va_wsS RX1 42 yX1_isSlot wsX1_isSlot) := goodIn_app (goodIn_of _ (by decide +kernel)) ggX1_fits_X1_isSlot
set_option maxRecDepth 20000 in
theorem ggX1_fits_X1_isWordLength : GoodIn wsX1_fits wsX1_isWordLength := goodIn_r _ [9] (by decide +kernel) (by decide +kernel)
set_option maxRecDepth 20000 in
theorem gX1_fits_X1_isWordLength : GoodIn wsX1_fits (va_wsS RX1 121 yX1_isWordLength wsX1_isWordLength) := goodIn_app (goodIn_of _ (by decide +kernel)) ggX1_fits_X1_isWordLength
set_option maxRecDepth 20000 in
theorem ggX1_fits_X0_bitLength : GoodIn wsX1_fits wsX0_bitLength := goodIn_r _ [13, 14, 15, 12, 16, 17, 18, 19, 20, 21, 22, 23, 24, 25] (by decide +kernel) (by decide +kernel)
set_option maxRecDepth 20000 in
theorem gX1_fits_X0_bitLength : GoodIn wsX1_fits (va_wsS RX1 92 yX0_bitLength wsX0_bitLength) := goodIn_app (goodIn_of _ (by decide +kernel)) ggX1_fits_X0_bitLength
set_option maxRecDepth 20000 in
theorem ggX1_fits_X0_lowZeros : GoodIn wsX1_fits wsX0_lowZeros := goodIn_r _ [28, 29, 30, 19, 31, 32, 33, 23, 34, 25] (by decide +kernel) (by decide +kernel)
set_option maxRecDepth 20000 in
theorem gX1_fits_X0_lowZeros : GoodIn wsX1_fits (va_wsS RX1 103 yX0_lowZeros wsX0_lowZeros) := goodIn_app (goodIn_of _ (by decide +kernel)) ggX1_fits_X0_lowZeros
set_option maxRecDepth 20000 in
theorem ggX1_cut_X1_isSlot : GoodIn wsX1_cut wsX1_isSlot := goodIn_r _ [6] (by decide +kernel) (by decide +kernel)
set_option maxRecDepth 20000 in
theorem gX1_cut_X1_isSlot : GoodIn wsX1_cut (va_wsS RX1 42 yX1_isSlot wsX1_isSlot) := goodIn_app (goodIn_of _ (by decide +kernel)) ggX1_cut_X1_isSlot
set_option maxRecDepth 20000 in
theorem ggX1_cut_X1_isWordLength : GoodIn wsX1_cut wsX1_isWordLength := goodIn_r _ [9] (by decide +kernel) (by decide +kernel)
set_option maxRecDepth 20000 in
theorem gX1_cut_X1_isWordLength : GoodIn wsX1_cut (va_wsS RX1 121 yX1_isWordLength wsX1_isWordLength) := goodIn_app (goodIn_of _ (by decide +kernel)) ggX1_cut_X1_isWordLength
set_option maxRecDepth 20000 in
theorem ggX1_write_X1_isSlot : GoodIn wsX1_write wsX1_isSlot := goodIn_r _ [9] (by decide +kernel) (by decide +kernel)
set_option maxRecDepth 20000 in
theorem gX1_write_X1_isSlot : GoodIn wsX1_write (va_wsS RX1 42 yX1_isSlot wsX1_isSlot) := goodIn_app (goodIn_of _ (by decide +kernel)) ggX1_write_X1_isSlot
set_option maxRecDepth 20000 in
theorem ggX1_write_X1_isBase : GoodIn wsX1_write wsX1_isBase := goodIn_r _ [12] (by decide +kernel) (by decide +kernel)
set_option maxRecDepth 20000 in
theorem gX1_write_X1_isBase : GoodIn wsX1_write (va_wsS RX1 62 yX1_isBase wsX1_isBase) := goodIn_app (goodIn_of _ (by decide +kernel)) ggX1_write_X1_isBase
set_option maxRecDepth 20000 in
theorem ggX1_write_X1_groupLength : GoodIn wsX1_write wsX1_groupLength := goodIn_r _ [15, 16] (by decide +kernel) (by decide +kernel)
set_option maxRecDepth 20000 in
theorem gX1_write_X1_groupLength : GoodIn wsX1_write (va_wsS RX1 124 yX1_groupLength wsX1_groupLength) := goodIn_app (goodIn_of _ (by decide +kernel)) ggX1_write_X1_groupLength
set_option maxRecDepth 20000 in
theorem ggX1_write_X1_powerOf : GoodIn wsX1_write wsX1_powerOf := goodIn_r _ [19] (by decide +kernel) (by decide +kernel)
set_option maxRecDepth 20000 in
theorem gX1_write_X1_powerOf : GoodIn wsX1_write (va_wsS RX1 127 yX1_powerOf wsX1_powerOf) := goodIn_app (goodIn_of _ (by decide +kernel)) ggX1_write_X1_powerOf
set_option maxRecDepth 20000 in
theorem ggX1_write_X0_copy : GoodIn wsX1_write wsX0_copy := goodIn_r _ [23, 24, 25, 22, 26] (by decide +kernel) (by decide +kernel)
set_option maxRecDepth 20000 in
theorem gX1_write_X0_copy : GoodIn wsX1_write (va_wsS RX1 110 yX0_copy wsX0_copy) := goodIn_app (goodIn_of _ (by decide +kernel)) ggX1_write_X0_copy
set_option maxRecDepth 20000 in
theorem ggX1_write_X0_used : GoodIn wsX1_write wsX0_used := goodIn_r _ [29] (by decide +kernel) (by decide +kernel)
set_option maxRecDepth 20000 in
theorem gX1_write_X0_used : GoodIn wsX1_write (va_wsS RX1 131 yX0_used wsX0_used) := goodIn_app (goodIn_of _ (by decide +kernel)) ggX1_write_X0_used
set_option maxRecDepth 20000 in
theorem ggX1_write_X0_divideBySmall : GoodIn wsX1_write wsX0_divideBySmall := goodIn_r _ [32, 33] (by decide +kernel) (by decide +kernel)
set_option maxRecDepth 20000 in
theorem gX1_write_X0_divideBySmall : GoodIn wsX1_write (va_wsS RX1 134 yX0_divideBySmall wsX0_divideBySmall) := goodIn_app (goodIn_of _ (by decide +kernel)) ggX1_write_X0_divideBySmall
set_option maxRecDepth 20000 in
theorem ggX1_write_X1_putGroup : GoodIn wsX1_write wsX1_putGroup := goodIn_r _ [37, 38, 39, 40, 8, 41, 4, 3, 42, 43, 44, 45, 46, 47, 48, 49, 50] (by decide +kernel) (by decide +kernel)
set_option maxRecDepth 20000 in
theorem gX1_write_X1_putGroup : GoodIn wsX1_write (wsV RX1 138 RX1 yX1_putGroup wsX1_putGroup) := goodIn_app (goodIn_of _ (by decide +kernel)) ggX1_write_X1_putGroup
set_option maxRecDepth 20000 in
theorem ggX1_write_X1_put : GoodIn wsX1_write wsX1_put := goodIn_r _ [41, 4, 3, 42, 43, 44, 45, 46, 47, 48, 49, 50] (by decide +kernel) (by decide +kernel)
set_option maxRecDepth 20000 in
theorem gX1_write_X1_put : GoodIn wsX1_write (wsV RX1 142 RX1 yX1_put wsX1_put) := goodIn_app (goodIn_of _ (by decide +kernel)) ggX1_write_X1_put
set_option maxRecDepth 20000 in
theorem ggX1_store_X0_used : GoodIn wsX1_store wsX0_used := goodIn_r _ [10] (by decide +kernel) (by decide +kernel)
set_option maxRecDepth 20000 in
theorem gX1_store_X0_used : GoodIn wsX1_store (va_wsS RX1 131 yX0_used wsX0_used) := goodIn_app (goodIn_of _ (by decide +kernel)) ggX1_store_X0_used
set_option maxRecDepth 20000 in
theorem ggX1_sum_X0_add : GoodIn wsX1_sum wsX0_add := goodIn_r _ [7, 8, 9, 10, 6, 11] (by decide +kernel) (by decide +kernel)
set_option maxRecDepth 20000 in
theorem gX1_sum_X0_add : GoodIn wsX1_sum (va_wsS RX1 152 yX0_add wsX0_add) := goodIn_app (goodIn_of _ (by decide +kernel)) ggX1_sum_X0_add
set_option maxRecDepth 20000 in
theorem ggX1_sum_X1_store : GoodIn wsX1_sum wsX1_store := goodIn_r _ [16, 2, 17, 18, 19, 20, 1, 21, 22, 6, 23, 30, 31, 32, 33, 34, 35, 36, 37, 38] (by decide +kernel) (by decide +kernel)
set_option maxRecDepth 20000 in
theorem gX1_sum_X1_store : GoodIn wsX1_sum (wsV RX1 54 RX1 yX1_store wsX1_store) := goodIn_app (goodIn_of _ (by decide +kernel)) ggX1_sum_X1_store
set_option maxRecDepth 20000 in
theorem ggX1_sum_X0_order : GoodIn wsX1_sum wsX0_order := goodIn_r _ [26, 9, 10, 6, 11] (by decide +kernel) (by decide +kernel)
set_option maxRecDepth 20000 in
theorem gX1_sum_X0_order : GoodIn wsX1_sum (va_wsS RX1 117 yX0_order wsX0_order) := goodIn_app (goodIn_of _ (by decide +kernel)) ggX1_sum_X0_order
set_option maxRecDepth 20000 in
theorem ggX1_sum_X0_subtract : GoodIn wsX1_sum wsX0_subtract := goodIn_r _ [29, 8, 9, 10, 6, 11] (by decide +kernel) (by decide +kernel)
set_option maxRecDepth 20000 in
theorem gX1_sum_X0_subtract : GoodIn wsX1_sum (va_wsS RX1 155 yX0_subtract wsX0_subtract) := goodIn_app (goodIn_of _ (by decide +kernel)) ggX1_sum_X0_subtract
set_option maxRecDepth 20000 in
theorem ggX1_quotientOrRest_X0_used : GoodIn wsX1_quotientOrRest wsX0_used := goodIn_r _ [9] (by decide +kernel) (by decide +kernel)
set_option maxRecDepth 20000 in
theorem gX1_quotientOrRest_X0_used : GoodIn wsX1_quotientOrRest (va_wsS RX1 131 yX0_used wsX0_used) := goodIn_app (goodIn_of _ (by decide +kernel)) ggX1_quotientOrRest_X0_used
set_option maxRecDepth 20000 in
theorem ggX1_quotientOrRest_X0_bitLength : GoodIn wsX1_quotientOrRest wsX0_bitLength := goodIn_r _ [12, 13, 7, 8, 9, 14, 15, 16, 17, 18, 19, 20, 21, 22] (by decide +kernel) (by decide +kernel)
set_option maxRecDepth 20000 in
theorem gX1_quotientOrRest_X0_bitLength : GoodIn wsX1_quotientOrRest (va_wsS RX1 92 yX0_bitLength wsX0_bitLength) := goodIn_app (goodIn_of _ (by decide +kernel)) ggX1_quotientOrRest_X0_bitLength
set_option maxRecDepth 20000 in
theorem ggX1_quotientOrRest_X0_moveUp : GoodIn wsX1_quotientOrRest wsX0_moveUp := goodIn_r _ [25, 26, 27, 28, 8, 29] (by decide +kernel) (by decide +kernel)
set_option maxRecDepth 20000 in
theorem gX1_quotientOrRest_X0_moveUp : GoodIn wsX1_quotientOrRest (va_wsS RX1 96 yX0_moveUp wsX0_moveUp) := goodIn_app (goodIn_of _ (by decide +kernel)) ggX1_quotientOrRest_X0_moveUp
set_option maxRecDepth 20000 in
theorem ggX1_quotientOrRest_J7_fill_d0a16 : GoodIn wsX1_quotientOrRest wsJ7_fill_d0a16 := goodIn_r _ [33] (by decide +kernel) (by decide +kernel)
set_option maxRecDepth 20000 in
theorem gX1_quotientOrRest_J7_fill_d0a16 : GoodIn wsX1_quotientOrRest (va_wsS RX1 46 yJ7_fill_d0a16 wsJ7_fill_d0a16) := goodIn_app (goodIn_of _ (by decide +kernel)) ggX1_quotientOrRest_J7_fill_d0a16
set_option maxRecDepth 20000 in
theorem ggX1_quotientOrRest_X0_takeOut : GoodIn wsX1_quotientOrRest wsX0_takeOut := goodIn_r _ [36, 37, 38, 8, 39, 26, 40, 41, 42, 43, 44, 45] (by decide +kernel) (by decide +kernel)
set_option maxRecDepth 20000 in
theorem gX1_quotientOrRest_X0_takeOut : GoodIn wsX1_quotientOrRest (va_wsS RX1 158 yX0_takeOut wsX0_takeOut) := goodIn_app (goodIn_of _ (by decide +kernel)) ggX1_quotientOrRest_X0_takeOut
set_option maxRecDepth 20000 in
theorem ggX1_quotientOrRest_X0_moveDown : GoodIn wsX1_quotientOrRest wsX0_moveDown := goodIn_r _ [48, 26, 27, 28, 8, 29] (by decide +kernel) (by decide +kernel)
set_option maxRecDepth 20000 in
theorem gX1_quotientOrRest_X0_moveDown : GoodIn wsX1_quotientOrRest (va_wsS RX1 100 yX0_moveDown wsX0_moveDown) := goodIn_app (goodIn_of _ (by decide +kernel)) ggX1_quotientOrRest_X0_moveDown
set_option maxRecDepth 20000 in
theorem ggX1_quotientOrRest_X1_store : GoodIn wsX1_quotientOrRest wsX1_store := goodIn_r _ [53, 1, 54, 55, 56, 57, 5, 6, 7, 8, 9, 58, 59, 60, 61, 62, 63, 64, 65, 66] (by decide +kernel) (by decide +kernel)
set_option maxRecDepth 20000 in
theorem gX1_quotientOrRest_X1_store : GoodIn wsX1_quotientOrRest (wsV RX1 54 RX1 yX1_store wsX1_store) := goodIn_app (goodIn_of _ (by decide +kernel)) ggX1_quotientOrRest_X1_store
set_option maxRecDepth 20000 in
theorem ggX1_bitByBit_X1_signedCopy : GoodIn wsX1_bitByBit wsX1_signedCopy := goodIn_r _ [7, 8, 9, 10, 11, 12, 13, 14, 15, 16, 17, 18, 19, 20, 21, 22, 23, 24, 40, 41, 42, 43, 44, 45, 46, 47, 48] (by decide +kernel) (by decide +kernel)
set_option maxRecDepth 20000 in
theorem gX1_bitByBit_X1_signedCopy : GoodIn wsX1_bitByBit (wsV RX1 162 RX1 yX1_signedCopy wsX1_signedCopy) := goodIn_app (goodIn_of _ (by decide +kernel)) ggX1_bitByBit_X1_signedCopy
set_option maxRecDepth 20000 in
theorem ggX1_bitByBit_X1_joined : GoodIn wsX1_bitByBit wsX1_joined := goodIn_r _ [27, 28] (by decide +kernel) (by decide +kernel)
set_option maxRecDepth 20000 in
theorem gX1_bitByBit_X1_joined : GoodIn wsX1_bitByBit (va_wsS RX1 166 yX1_joined wsX1_joined) := goodIn_app (goodIn_of _ (by decide +kernel)) ggX1_bitByBit_X1_joined
set_option maxRecDepth 20000 in
theorem ggX1_bitByBit_X0_negate : GoodIn wsX1_bitByBit wsX0_negate := goodIn_r _ [19, 20, 21, 22, 23, 12, 24] (by decide +kernel) (by decide +kernel)
set_option maxRecDepth 20000 in
theorem gX1_bitByBit_X0_negate : GoodIn wsX1_bitByBit (va_wsS RX1 170 yX0_negate wsX0_negate) := goodIn_app (goodIn_of _ (by decide +kernel)) ggX1_bitByBit_X0_negate
set_option maxRecDepth 20000 in
theorem ggX1_bitByBit_X1_store : GoodIn wsX1_bitByBit wsX1_store := goodIn_r _ [32, 8, 33, 34, 35, 36, 9, 37, 38, 12, 39, 40, 41, 42, 43, 44, 45, 46, 47, 48] (by decide +kernel) (by decide +kernel)
set_option maxRecDepth 20000 in
theorem gX1_bitByBit_X1_store : GoodIn wsX1_bitByBit (wsV RX1 54 RX1 yX1_store wsX1_store) := goodIn_app (goodIn_of _ (by decide +kernel)) ggX1_bitByBit_X1_store
set_option maxRecDepth 20000 in
theorem ggX1_signedCopy_X0_copy : GoodIn wsX1_signedCopy wsX0_copy := goodIn_r _ [6, 7, 8, 5, 9] (by decide +kernel) (by decide +kernel)
set_option maxRecDepth 20000 in
theorem gX1_signedCopy_X0_copy : GoodIn wsX1_signedCopy (va_wsS RX1 110 yX0_copy wsX0_copy) := goodIn_app (goodIn_of _ (by decide +kernel)) ggX1_signedCopy_X0_copy
set_option maxRecDepth 20000 in
theorem ggX1_signedCopy_X0_negate : GoodIn wsX1_signedCopy wsX0_negate := goodIn_r _ [12, 13, 14, 15, 16, 5, 17] (by decide +kernel) (by decide +kernel)
set_option maxRecDepth 20000 in
theorem gX1_signedCopy_X0_negate : GoodIn wsX1_signedCopy (va_wsS RX1 170 yX0_negate wsX0_negate) := goodIn_app (goodIn_of _ (by decide +kernel)) ggX1_signedCopy_X0_negate
set_option maxRecDepth 20000 in
theorem ggX1_putGroup_X1_put : GoodIn wsX1_putGroup wsX1_put := goodIn_r _ [5, 6, 7, 8, 9, 10, 11, 12, 13, 14, 15, 16] (by decide +kernel) (by decide +kernel)
set_option maxRecDepth 20000 in
theorem gX1_putGroup_X1_put : GoodIn wsX1_putGroup (wsV RX1 142 RX1 yX1_put wsX1_put) := goodIn_app (goodIn_of _ (by decide +kernel)) ggX1_putGroup_X1_put
set_option maxRecDepth 20000 in
theorem ggJ13_numberOfLeadingZeros_95d88_J6_numberOfLeadingZeros_0f7a4 : GoodIn wsJ13_numberOfLeadingZeros_95d88 wsJ6_numberOfLeadingZeros_0f7a4 := goodIn_r _ [4, 5] (by decide +kernel) (by decide +kernel)
set_option maxRecDepth 20000 in
theorem gJ13_numberOfLeadingZeros_95d88_J6_numberOfLeadingZeros_0f7a4 : GoodIn wsJ13_numberOfLeadingZeros_95d88 (va_wsS RJ13 308 yJ6_numberOfLeadingZeros_0f7a4 wsJ6_numberOfLeadingZeros_0f7a4) := goodIn_app (goodIn_of _ (by decide +kernel)) ggJ13_numberOfLeadingZeros_95d88_J6_numberOfLeadingZeros_0f7a4
set_option maxRecDepth 20000 in
theorem ggJ13_numberOfTrailingZeros_95d88_J6_numberOfTrailingZeros_0f7a4 : GoodIn wsJ13_numberOfTrailingZeros_95d88 wsJ6_numberOfTrailingZeros_0f7a4 := goodIn_r _ [4, 5] (by decide +kernel) (by decide +kernel)
set_option maxRecDepth 20000 in
theorem gJ13_numberOfTrailingZeros_95d88_J6_numberOfTrailingZeros_0f7a4 : GoodIn wsJ13_numberOfTrailingZeros_95d88 (va_wsS RJ13 311 yJ6_numberOfTrailingZeros_0f7a4 wsJ6_numberOfTrailingZeros_0f7a4) := goodIn_app (goodIn_of _ (by decide +kernel)) ggJ13_numberOfTrailingZeros_95d88_J6_numberOfTrailingZeros_0f7a4

